theorem dX10_checkIndex_9 : decode cX10_checkIndex 9 = .ok (.new 202, 3) := by decide +kernel
theorem dX10_checkIndex_12 : decode cX10_checkIndex 12 = .ok (.dup, 1) := by decide +kernel
theorem dX10_checkIndex_13 : decode cX10_checkIndex 13 = .ok (.ldc 204, 2) := by decide +kernel
theorem dX10_checkIndex_15 : decode cX10_checkIndex 15 = .ok (.invokespecial 206, 3) := by decide +kernel
theorem dX10_checkIndex_18 : decode cX10_checkIndex 18 = .ok (.athrow, 1) := by decide +kernel
set_option maxHeartbeats 4000000 in
set_option maxRecDepth 100000 in
/-- ChoirStalls.checkIndex, throwing -/
theorem t_X10_checkIndex_T (l9 : Launch) (z : Nat → Nat) (D : va_G) (g : Nat → ClassId) (p0 : Int32) (m : Nat) (hN : fIn p0 m = false) (hfl : l9.stackTraces = false) (sz : Nat) : vx_Met l9 yX10_checkIndex (WS yX10_checkIndex cX10_checkIndex 2 none) ({ frames := 6, cells := 1, slots := 6, locals := 90 }) (va_Pc [.int p0, .int (nI m)] (kPreX z D g [] sz)) (va_Qv (fun (u9 : Unit) => False) (kB D g (va_A [] sz) (fun (u9 : Unit) => [])) (va_A [] sz)) (vx_X (fun (_ : Unit) => True) (fun (E9 : String) (u9 : Unit) (t9 : State) => E9 = "java/lang/IndexOutOfBoundsException" ∧ kB D g (va_A [] sz) (fun (_ : Unit) => []) u9 t9) (va_A [] sz)) 1 6 (va_A [] sz) := by
  refine vx_ofW (cc := cX10_checkIndex) (maxL := 2) (ret := none) (by decide) rfl ?_
  intro p9 e9 s9 m9 args9 below9 meth9 c9 s₁ B hml htab hv
  obtain ⟨rfl, hsz, hP, hK, hD0, hZ, hX⟩ := hv
  have hx := B.exec
  have hb := B.bytes
  have hr := B.returns
  have hts := ws_sub (atoms_spec (ws := WS yX10_checkIndex cX10_checkIndex 2 none) B.pre)
  have hown : s9.vm.findClass RX10 = some m9.cls := findClass_of_methodNamed B.named
  have hlocks := B.notSynchronized
  subst hsz
  have hD := hD0.self (sz := s9.heap.size)
  generalize hAe : va_A [] s9.heap.size = A at hD hZ hX ⊢
  have hA : ∀ q : Nat, s9.heap.size ≤ q → A q := fun q h => by rw [← hAe]; exact Or.inr h
  have hS : va_S A s9.heap s9.heap [] := va_S.rf
  have hP : va_P D CLS [] s9.heap := hP
  have hl := lv_entry ([.int p0, .int (nI m)]) (n := 2) (Nat.le_of_ble_eq_true rfl)
  rw [lg_entry_eq]
  generalize (lg_sl ([.int p0, .int (nI m)]) ++ List.replicate (2 - (lg_sl ([.int p0, .int (nI m)])).length) Slot.unset).toArray = ls at hl ⊢
  have hl : lv_has ls 2 [(0, .int p0), (1, .int (nI m))] := hl
  change W p9 l9 e9 ({ frames := 6, cells := 1, slots := 6, locals := 90 } : Room) s9 m9 _ below9 meth9 c9 _ _ _ _ _ _
  refine lv_iload_n hx hb dX10_checkIndex_0 rfl (lv_at hl 0 rfl) ?_
  refine lv_if_lt (tgt := 9) hx hb dX10_checkIndex_1 (by decide) (fun c_1 => ?_) (fun c_1 => ?_)
  · skip
    exact vx_throwS hx hb hfl (own := RX10) (cls := "java/lang/IndexOutOfBoundsException") (text := "there is no such number") (names := xNM) (ik := 202) (is := 204) (ic := 206) (sa := z 202) (A := A) hown (by decide +kernel) (by decide +kernel) (hts _ w_1033) (hts _ w_135) hX.2.2.1.2.2.1 (xat_IOE hts hZ.nst) (xgd_IOE) hX.1 hX.2.1 hS (hl.1.trans hml.symm) dX10_checkIndex_9 dX10_checkIndex_12 dX10_checkIndex_13 dX10_checkIndex_15 dX10_checkIndex_18 (fun x9 h9 => (htab x9 h9).elim) (by decide) (by decide) (Nat.le_of_ble_eq_true rfl) (Nat.le_of_ble_eq_true rfl) hlocks (xk_X hP hK hD hS [] rfl (by decide +kernel)) hS.2.2 (Nat.le_of_ble_eq_true rfl) (Nat.le_of_ble_eq_true rfl)
  · skip
    refine lv_iload_n hx hb dX10_checkIndex_4 rfl (lv_at hl 0 rfl) ?_
    refine lv_iload_n hx hb dX10_checkIndex_5 rfl (lv_at hl 1 rfl) ?_
    refine lv_icmp_lt (tgt := 19) hx hb dX10_checkIndex_6 (by decide) (fun c_6 => ?_) (fun c_6 => ?_)
    · skip
      exact absurd hN (by rw [show fIn p0 m = true from dt ⟨Int32.not_lt.mp c_1, c_6⟩]; decide)
    · skip
      exact vx_throwS hx hb hfl (own := RX10) (cls := "java/lang/IndexOutOfBoundsException") (text := "there is no such number") (names := xNM) (ik := 202) (is := 204) (ic := 206) (sa := z 202) (A := A) hown (by decide +kernel) (by decide +kernel) (hts _ w_1033) (hts _ w_135) hX.2.2.1.2.2.1 (xat_IOE hts hZ.nst) (xgd_IOE) hX.1 hX.2.1 hS (hl.1.trans hml.symm) dX10_checkIndex_9 dX10_checkIndex_12 dX10_checkIndex_13 dX10_checkIndex_15 dX10_checkIndex_18 (fun x9 h9 => (htab x9 h9).elim) (by decide) (by decide) (Nat.le_of_ble_eq_true rfl) (Nat.le_of_ble_eq_true rfl) hlocks (xk_X hP hK hD hS [] rfl (by decide +kernel)) hS.2.2 (Nat.le_of_ble_eq_true rfl) (Nat.le_of_ble_eq_true rfl)
theorem dX10_checkDays_10 : decode cX10_checkDays 10 = .ok (.new 74, 3) := by decide +kernel
theorem dX10_checkDays_13 : decode cX10_checkDays 13 = .ok (.dup, 1) := by decide +kernel
theorem dX10_checkDays_14 : decode cX10_checkDays 14 = .ok (.ldc 207, 2) := by decide +kernel
theorem dX10_checkDays_16 : decode cX10_checkDays 16 = .ok (.invokespecial 78, 3) := by decide +kernel
theorem dX10_checkDays_19 : decode cX10_checkDays 19 = .ok (.athrow, 1) := by decide +kernel
set_option maxHeartbeats 4000000 in
set_option maxRecDepth 100000 in
/-- ChoirStalls.checkDays, throwing -/
theorem t_X10_checkDays_T (l9 : Launch) (z : Nat → Nat) (D : va_G) (g : Nat → ClassId) (p0 : Int32) (m : Nat) (hN : fDys p0 m = false) (hfl : l9.stackTraces = false) (sz : Nat) : vx_Met l9 yX10_checkDays (WS yX10_checkDays cX10_checkDays 2 none) ({ frames := 6, cells := 1, slots := 6, locals := 90 }) (va_Pc [.int p0, .int (nI m)] (kPreX z D g [] sz)) (va_Qv (fun (u9 : Unit) => False) (kB D g (va_A [] sz) (fun (u9 : Unit) => [])) (va_A [] sz)) (vx_X (fun (_ : Unit) => True) (fun (E9 : String) (u9 : Unit) (t9 : State) => E9 = "java/lang/IllegalArgumentException" ∧ kB D g (va_A [] sz) (fun (_ : Unit) => []) u9 t9) (va_A [] sz)) 1 6 (va_A [] sz) := by
  refine vx_ofW (cc := cX10_checkDays) (maxL := 2) (ret := none) (by decide) rfl ?_
  intro p9 e9 s9 m9 args9 below9 meth9 c9 s₁ B hml htab hv
  obtain ⟨rfl, hsz, hP, hK, hD0, hZ, hX⟩ := hv
  have hx := B.exec
  have hb := B.bytes
  have hr := B.returns
  have hts := ws_sub (atoms_spec (ws := WS yX10_checkDays cX10_checkDays 2 none) B.pre)
  have hown : s9.vm.findClass RX10 = some m9.cls := findClass_of_methodNamed B.named
  have hlocks := B.notSynchronized
  subst hsz
  have hD := hD0.self (sz := s9.heap.size)
  generalize hAe : va_A [] s9.heap.size = A at hD hZ hX ⊢
  have hA : ∀ q : Nat, s9.heap.size ≤ q → A q := fun q h => by rw [← hAe]; exact Or.inr h
  have hS : va_S A s9.heap s9.heap [] := va_S.rf
  have hP : va_P D CLS [] s9.heap := hP
  have hl := lv_entry ([.int p0, .int (nI m)]) (n := 2) (Nat.le_of_ble_eq_true rfl)
  rw [lg_entry_eq]
  generalize (lg_sl ([.int p0, .int (nI m)]) ++ List.replicate (2 - (lg_sl ([.int p0, .int (nI m)])).length) Slot.unset).toArray = ls at hl ⊢
  have hl : lv_has ls 2 [(0, .int p0), (1, .int (nI m))] := hl
  change W p9 l9 e9 ({ frames := 6, cells := 1, slots := 6, locals := 90 } : Room) s9 m9 _ below9 meth9 c9 _ _ _ _ _ _
  refine lv_iload_n hx hb dX10_checkDays_0 rfl (lv_at hl 0 rfl) ?_
  refine lv_iconst (v := 1) hx hb dX10_checkDays_1 (by decide) ?_
  refine lv_icmp_lt (tgt := 10) hx hb dX10_checkDays_2 (by decide) (fun c_2 => ?_) (fun c_2 => ?_)
  · skip
    exact vx_throwS hx hb hfl (own := RX10) (cls := "java/lang/IllegalArgumentException") (text := "not so many days") (names := xNM) (ik := 74) (is := 207) (ic := 78) (sa := z 206) (A := A) hown (by decide +kernel) (by decide +kernel) (hts _ w_1006) (hts _ w_126) hX.2.2.1.2.2.2.2.2.2 (xat_IAE hts hZ.nst) (xgd_IAE) hX.1 hX.2.1 hS (hl.1.trans hml.symm) dX10_checkDays_10 dX10_checkDays_13 dX10_checkDays_14 dX10_checkDays_16 dX10_checkDays_19 (fun x9 h9 => (htab x9 h9).elim) (by decide) (by decide) (Nat.le_of_ble_eq_true rfl) (Nat.le_of_ble_eq_true rfl) hlocks (xk_X hP hK hD hS [] rfl (by decide +kernel)) hS.2.2 (Nat.le_of_ble_eq_true rfl) (Nat.le_of_ble_eq_true rfl)
  · skip
    refine lv_iload_n hx hb dX10_checkDays_5 rfl (lv_at hl 0 rfl) ?_
    refine lv_iload_n hx hb dX10_checkDays_6 rfl (lv_at hl 1 rfl) ?_
    refine lv_icmp_le (tgt := 20) hx hb dX10_checkDays_7 (by decide) (fun c_7 => ?_) (fun c_7 => ?_)
    · skip
      exact absurd hN (by rw [show fDys p0 m = true from dt ⟨Int32.not_lt.mp c_2, c_7⟩]; decide)
    · skip
      exact vx_throwS hx hb hfl (own := RX10) (cls := "java/lang/IllegalArgumentException") (text := "not so many days") (names := xNM) (ik := 74) (is := 207) (ic := 78) (sa := z 206) (A := A) hown (by decide +kernel) (by decide +kernel) (hts _ w_1006) (hts _ w_126) hX.2.2.1.2.2.2.2.2.2 (xat_IAE hts hZ.nst) (xgd_IAE) hX.1 hX.2.1 hS (hl.1.trans hml.symm) dX10_checkDays_10 dX10_checkDays_13 dX10_checkDays_14 dX10_checkDays_16 dX10_checkDays_19 (fun x9 h9 => (htab x9 h9).elim) (by decide) (by decide) (Nat.le_of_ble_eq_true rfl) (Nat.le_of_ble_eq_true rfl) hlocks (xk_X hP hK hD hS [] rfl (by decide +kernel)) hS.2.2 (Nat.le_of_ble_eq_true rfl) (Nat.le_of_ble_eq_true rfl)
theorem dX10_feed_13 : decode cX10_feed 13 = .ok (.new 64, 3) := by decide +kernel
theorem dX10_feed_16 : decode cX10_feed 16 = .ok (.dup, 1) := by decide +kernel
theorem dX10_feed_17 : decode cX10_feed 17 = .ok (.ldc 66, 2) := by decide +kernel
theorem dX10_feed_19 : decode cX10_feed 19 = .ok (.invokespecial 68, 3) := by decide +kernel
theorem dX10_feed_22 : decode cX10_feed 22 = .ok (.athrow, 1) := by decide +kernel
set_option maxHeartbeats 4000000 in
set_option maxRecDepth 100000 in
/-- ChoirStalls.feed, throwing -/
theorem t_X10_feed_T (l9 : Launch) (z : Nat → Nat) (D : va_G) (g : Nat → ClassId) (x : Nat) (tp : Nat) (t : Nat) (u : Nat) (rd : Nat) (ch : Nat) (ci : Nat) (n : Nat) (ep : Int32) (p0 : Int32) (p1 : Int32) (p2 : Int32) (p3 : Int32) (p4 : Int32) (hn : ¬ n + 20 ≤ 2000) (hn2 : n ≤ 2000) (hfl : l9.stackTraces = false) (sz : Nat) : vx_Met l9 yX10_feed (WS yX10_feed cX10_feed 6 (some .int)) ({ frames := 6, cells := 1, slots := 6, locals := 90 }) (va_Pc [.ref x, .int p0, .int p1, .int p2, .int p3, .int p4] (kPreX z D g [(x, .inr (8, [.ref tp, .ref t, .ref u, .ref rd, .ref ch, .ref ci, .int (nI n), .int ep]))] sz)) (va_Qi (fun (r9 : Int32) (u9 : Unit) => False) (kB D g (va_A [(x, .inr (8, [.ref tp, .ref t, .ref u, .ref rd, .ref ch, .ref ci, .int (nI n), .int ep]))] sz) (fun (u9 : Unit) => [(x, .inr (8, [.ref tp, .ref t, .ref u, .ref rd, .ref ch, .ref ci, .int (nI n), .int ep]))])) (va_A [(x, .inr (8, [.ref tp, .ref t, .ref u, .ref rd, .ref ch, .ref ci, .int (nI n), .int ep]))] sz)) (vx_X (fun (_ : Unit) => True) (fun (E9 : String) (u9 : Unit) (t9 : State) => E9 = "java/lang/IllegalStateException" ∧ kB D g (va_A [(x, .inr (8, [.ref tp, .ref t, .ref u, .ref rd, .ref ch, .ref ci, .int (nI n), .int ep]))] sz) (fun (_ : Unit) => [(x, .inr (8, [.ref tp, .ref t, .ref u, .ref rd, .ref ch, .ref ci, .int (nI n), .int ep]))]) u9 t9) (va_A [(x, .inr (8, [.ref tp, .ref t, .ref u, .ref rd, .ref ch, .ref ci, .int (nI n), .int ep]))] sz)) 1 6 (va_A [(x, .inr (8, [.ref tp, .ref t, .ref u, .ref rd, .ref ch, .ref ci, .int (nI n), .int ep]))] sz) := by
  refine vx_ofW (cc := cX10_feed) (maxL := 6) (ret := (some .int)) (by decide) rfl ?_
  intro p9 e9 s9 m9 args9 below9 meth9 c9 s₁ B hml htab hv
  obtain ⟨rfl, hsz, hP, hK, hD0, hZ, hX⟩ := hv
  have hx := B.exec
  have hb := B.bytes
  have hr := B.returns
  have hts := ws_sub (atoms_spec (ws := WS yX10_feed cX10_feed 6 (some .int)) B.pre)
  have hown : s9.vm.findClass RX10 = some m9.cls := findClass_of_methodNamed B.named
  have hlocks := B.notSynchronized
  subst hsz
  have hD := hD0.self (sz := s9.heap.size)
  generalize hAe : va_A [(x, .inr (8, [.ref tp, .ref t, .ref u, .ref rd, .ref ch, .ref ci, .int (nI n), .int ep]))] s9.heap.size = A at hD hZ hX ⊢
  have hA : ∀ q : Nat, s9.heap.size ≤ q → A q := fun q h => by rw [← hAe]; exact Or.inr h
  have hS : va_S A s9.heap s9.heap [] := va_S.rf
  have hP : va_P D CLS [(x, .inr (8, [.ref tp, .ref t, .ref u, .ref rd, .ref ch, .ref ci, .int (nI n), .int ep]))] s9.heap := hP
  have hl := lv_entry ([.ref x, .int p0, .int p1, .int p2, .int p3, .int p4]) (n := 6) (Nat.le_of_ble_eq_true rfl)
  rw [lg_entry_eq]
  generalize (lg_sl ([.ref x, .int p0, .int p1, .int p2, .int p3, .int p4]) ++ List.replicate (6 - (lg_sl ([.ref x, .int p0, .int p1, .int p2, .int p3, .int p4])).length) Slot.unset).toArray = ls at hl ⊢
  have hl : lv_has ls 6 [(0, .ref x), (1, .int p0), (2, .int p1), (3, .int p2), (4, .int p3), (5, .int p4)] := hl
  change W p9 l9 e9 ({ frames := 6, cells := 1, slots := 6, locals := 90 } : Room) s9 m9 _ below9 meth9 c9 _ _ _ _ _ _
  refine lv_aload_n hx hb dX10_feed_0 rfl (lv_at hl 0 rfl) ?_
  refine va_get (D := D) (ci := 8) (v := .int (nI n)) (C := RX10) (T := TX10) (N := 8) hx hb hts in_X10 hown hK hP 0 rfl rfl 6 (by decide) (hts _ w_472) (fun _ h9 => h9) rfl dX10_feed_1 ?_
  refine lv_bipush (v := 20) hx hb dX10_feed_4 (by decide) ?_
  refine lv_iadd hx hb dX10_feed_6 ?_
  refine k_topi (show ((nI n) + 20) = (nI (n + 20)) from (nI_add _ _)) ?_
  refine lv_sipush (v := 2000) hx hb dX10_feed_7 (by decide) ?_
  refine lv_icmp_le (tgt := 23) hx hb dX10_feed_10 (by decide) (fun c_10 => ?_) (fun c_10 => ?_)
  · skip
    have c_10 : (n + 20) ≤ 2000 := (nI_leI (a := (n + 20)) (b := 2000) (by omega) (by omega)).mp c_10
    exact absurd c_10 hn
  · skip
    have c_10 : ¬ (n + 20) ≤ 2000 := fun h => c_10 ((nI_leI (a := (n + 20)) (b := 2000) (by omega) (by omega)).mpr h)
    exact vx_throwS hx hb hfl (own := RX10) (cls := "java/lang/IllegalStateException") (text := "the tape would be too long") (names := xNM) (ik := 64) (is := 66) (ic := 68) (sa := z 200) (A := A) hown (by decide +kernel) (by decide +kernel) (hts _ w_925) (hts _ w_125) hX.2.2.1.1 (xat_ISE hts hZ.nst) (xgd_ISE) hX.1 hX.2.1 hS (hl.1.trans hml.symm) dX10_feed_13 dX10_feed_16 dX10_feed_17 dX10_feed_19 dX10_feed_22 (fun x9 h9 => (htab x9 h9).elim) (by decide) (by decide) (Nat.le_of_ble_eq_true rfl) (Nat.le_of_ble_eq_true rfl) hlocks (xk_X hP hK hD hS [0] rfl (by decide +kernel)) hS.2.2 (Nat.le_of_ble_eq_true rfl) (Nat.le_of_ble_eq_true rfl)
theorem dX10_trim_12 : decode cX10_trim 12 = .ok (.new 74, 3) := by decide +kernel
theorem dX10_trim_15 : decode cX10_trim 15 = .ok (.dup, 1) := by decide +kernel
theorem dX10_trim_16 : decode cX10_trim 16 = .ok (.ldc 76, 2) := by decide +kernel
theorem dX10_trim_18 : decode cX10_trim 18 = .ok (.invokespecial 78, 3) := by decide +kernel
theorem dX10_trim_21 : decode cX10_trim 21 = .ok (.athrow, 1) := by decide +kernel
set_option maxHeartbeats 4000000 in
set_option maxRecDepth 100000 in
/-- ChoirStalls.trim, throwing -/
theorem t_X10_trim_T (l9 : Launch) (z : Nat → Nat) (D : va_G) (g : Nat → ClassId) (x : Nat) (tp : Nat) (t : Nat) (u : Nat) (rd : Nat) (ch : Nat) (ci : Nat) (n : Nat) (ep : Int32) (p0 : Int32) (hN : ¬ (0 ≤ p0 ∧ p0 ≤ nI n)) (hfl : l9.stackTraces = false) (sz : Nat) : vx_Met l9 yX10_trim (WS yX10_trim cX10_trim 2 (some .int)) ({ frames := 6, cells := 1, slots := 6, locals := 90 }) (va_Pc [.ref x, .int p0] (kPreX z D g [(x, .inr (8, [.ref tp, .ref t, .ref u, .ref rd, .ref ch, .ref ci, .int (nI n), .int ep]))] sz)) (va_Qi (fun (r9 : Int32) (u9 : Unit) => False) (kB D g (va_A [(x, .inr (8, [.ref tp, .ref t, .ref u, .ref rd, .ref ch, .ref ci, .int (nI n), .int ep]))] sz) (fun (u9 : Unit) => [(x, .inr (8, [.ref tp, .ref t, .ref u, .ref rd, .ref ch, .ref ci, .int (nI n), .int ep]))])) (va_A [(x, .inr (8, [.ref tp, .ref t, .ref u, .ref rd, .ref ch, .ref ci, .int (nI n), .int ep]))] sz)) (vx_X (fun (_ : Unit) => True) (fun (E9 : String) (u9 : Unit) (t9 : State) => E9 = "java/lang/IllegalArgumentException" ∧ kB D g (va_A [(x, .inr (8, [.ref tp, .ref t, .ref u, .ref rd, .ref ch, .ref ci, .int (nI n), .int ep]))] sz) (fun (_ : Unit) => [(x, .inr (8, [.ref tp, .ref t, .ref u, .ref rd, .ref ch, .ref ci, .int (nI n), .int ep]))]) u9 t9) (va_A [(x, .inr (8, [.ref tp, .ref t, .ref u, .ref rd, .ref ch, .ref ci, .int (nI n), .int ep]))] sz)) 1 6 (va_A [(x, .inr (8, [.ref tp, .ref t, .ref u, .ref rd, .ref ch, .ref ci, .int (nI n), .int ep]))] sz) := by
  refine vx_ofW (cc := cX10_trim) (maxL := 2) (ret := (some .int)) (by decide) rfl ?_
  intro p9 e9 s9 m9 args9 below9 meth9 c9 s₁ B hml htab hv
  obtain ⟨rfl, hsz, hP, hK, hD0, hZ, hX⟩ := hv
  have hx := B.exec
  have hb := B.bytes
  have hr := B.returns
  have hts := ws_sub (atoms_spec (ws := WS yX10_trim cX10_trim 2 (some .int)) B.pre)
  have hown : s9.vm.findClass RX10 = some m9.cls := findClass_of_methodNamed B.named
  have hlocks := B.notSynchronized
  subst hsz
  have hD := hD0.self (sz := s9.heap.size)
  generalize hAe : va_A [(x, .inr (8, [.ref tp, .ref t, .ref u, .ref rd, .ref ch, .ref ci, .int (nI n), .int ep]))] s9.heap.size = A at hD hZ hX ⊢
  have hA : ∀ q : Nat, s9.heap.size ≤ q → A q := fun q h => by rw [← hAe]; exact Or.inr h
  have hS : va_S A s9.heap s9.heap [] := va_S.rf
  have hP : va_P D CLS [(x, .inr (8, [.ref tp, .ref t, .ref u, .ref rd, .ref ch, .ref ci, .int (nI n), .int ep]))] s9.heap := hP
  have hl := lv_entry ([.ref x, .int p0]) (n := 2) (Nat.le_of_ble_eq_true rfl)
  rw [lg_entry_eq]
  generalize (lg_sl ([.ref x, .int p0]) ++ List.replicate (2 - (lg_sl ([.ref x, .int p0])).length) Slot.unset).toArray = ls at hl ⊢
  have hl : lv_has ls 2 [(0, .ref x), (1, .int p0)] := hl
  change W p9 l9 e9 ({ frames := 6, cells := 1, slots := 6, locals := 90 } : Room) s9 m9 _ below9 meth9 c9 _ _ _ _ _ _
  refine lv_iload_n hx hb dX10_trim_0 rfl (lv_at hl 1 rfl) ?_
  refine lv_if_lt (tgt := 12) hx hb dX10_trim_1 (by decide) (fun c_1 => ?_) (fun c_1 => ?_)
  · skip
    exact vx_throwS hx hb hfl (own := RX10) (cls := "java/lang/IllegalArgumentException") (text := "the tape has no so many bytes") (names := xNM) (ik := 74) (is := 76) (ic := 78) (sa := z 201) (A := A) hown (by decide +kernel) (by decide +kernel) (hts _ w_1006) (hts _ w_126) hX.2.2.1.2.1 (xat_IAE hts hZ.nst) (xgd_IAE) hX.1 hX.2.1 hS (hl.1.trans hml.symm) dX10_trim_12 dX10_trim_15 dX10_trim_16 dX10_trim_18 dX10_trim_21 (fun x9 h9 => (htab x9 h9).elim) (by decide) (by decide) (Nat.le_of_ble_eq_true rfl) (Nat.le_of_ble_eq_true rfl) hlocks (xk_X hP hK hD hS [0] rfl (by decide +kernel)) hS.2.2 (Nat.le_of_ble_eq_true rfl) (Nat.le_of_ble_eq_true rfl)
  · skip
    refine lv_iload_n hx hb dX10_trim_4 rfl (lv_at hl 1 rfl) ?_
    refine lv_aload_n hx hb dX10_trim_5 rfl (lv_at hl 0 rfl) ?_
    refine va_get (D := D) (ci := 8) (v := .int (nI n)) (C := RX10) (T := TX10) (N := 8) hx hb hts in_X10 hown hK hP 0 rfl rfl 6 (by decide) (hts _ w_472) (fun _ h9 => h9) rfl dX10_trim_6 ?_
    refine lv_icmp_le (tgt := 22) hx hb dX10_trim_9 (by decide) (fun c_9 => ?_) (fun c_9 => ?_)
    · skip
      exact absurd ⟨Int32.not_lt.mp c_1, c_9⟩ hN
    · skip
      exact vx_throwS hx hb hfl (own := RX10) (cls := "java/lang/IllegalArgumentException") (text := "the tape has no so many bytes") (names := xNM) (ik := 74) (is := 76) (ic := 78) (sa := z 201) (A := A) hown (by decide +kernel) (by decide +kernel) (hts _ w_1006) (hts _ w_126) hX.2.2.1.2.1 (xat_IAE hts hZ.nst) (xgd_IAE) hX.1 hX.2.1 hS (hl.1.trans hml.symm) dX10_trim_12 dX10_trim_15 dX10_trim_16 dX10_trim_18 dX10_trim_21 (fun x9 h9 => (htab x9 h9).elim) (by decide) (by decide) (Nat.le_of_ble_eq_true rfl) (Nat.le_of_ble_eq_true rfl) hlocks (xk_X hP hK hD hS [0] rfl (by decide +kernel)) hS.2.2 (Nat.le_of_ble_eq_true rfl) (Nat.le_of_ble_eq_true rfl)
theorem dX10_setDamp_10 : decode cX10_setDamp 10 = .ok (.new 74, 3) := by decide +kernel
theorem dX10_setDamp_13 : decode cX10_setDamp 13 = .ok (.dup, 1) := by decide +kernel
theorem dX10_setDamp_14 : decode cX10_setDamp 14 = .ok (.ldc 139, 2) := by decide +kernel
theorem dX10_setDamp_16 : decode cX10_setDamp 16 = .ok (.invokespecial 78, 3) := by decide +kernel
theorem dX10_setDamp_19 : decode cX10_setDamp 19 = .ok (.athrow, 1) := by decide +kernel
set_option maxHeartbeats 4000000 in
set_option maxRecDepth 100000 in
/-- ChoirStalls.setDamp, throwing -/
theorem t_X10_setDamp_T (l9 : Launch) (z : Nat → Nat) (D : va_G) (g : Nat → ClassId) (x : Nat) (tp : Nat) (t : Nat) (u : Nat) (rd : Nat) (ch : Nat) (ci : Nat) (n : Nat) (ep : Int32) (p0 : Int32) (hN : fIn p0 10 = false) (hfl : l9.stackTraces = false) (sz : Nat) : vx_Met l9 yX10_setDamp (WS yX10_setDamp cX10_setDamp 3 (some .int)) ({ frames := 6, cells := 1, slots := 6, locals := 90 }) (va_Pc [.ref x, .int p0] (kPreX z D g [(x, .inr (8, [.ref tp, .ref t, .ref u, .ref rd, .ref ch, .ref ci, .int (nI n), .int ep]))] sz)) (va_Qi (fun (r9 : Int32) (u9 : Unit) => False) (kB D g (va_A [(x, .inr (8, [.ref tp, .ref t, .ref u, .ref rd, .ref ch, .ref ci, .int (nI n), .int ep]))] sz) (fun (u9 : Unit) => [(x, .inr (8, [.ref tp, .ref t, .ref u, .ref rd, .ref ch, .ref ci, .int (nI n), .int ep]))])) (va_A [(x, .inr (8, [.ref tp, .ref t, .ref u, .ref rd, .ref ch, .ref ci, .int (nI n), .int ep]))] sz)) (vx_X (fun (_ : Unit) => True) (fun (E9 : String) (u9 : Unit) (t9 : State) => E9 = "java/lang/IllegalArgumentException" ∧ kB D g (va_A [(x, .inr (8, [.ref tp, .ref t, .ref u, .ref rd, .ref ch, .ref ci, .int (nI n), .int ep]))] sz) (fun (_ : Unit) => [(x, .inr (8, [.ref tp, .ref t, .ref u, .ref rd, .ref ch, .ref ci, .int (nI n), .int ep]))]) u9 t9) (va_A [(x, .inr (8, [.ref tp, .ref t, .ref u, .ref rd, .ref ch, .ref ci, .int (nI n), .int ep]))] sz)) 1 6 (va_A [(x, .inr (8, [.ref tp, .ref t, .ref u, .ref rd, .ref ch, .ref ci, .int (nI n), .int ep]))] sz) := by
  refine vx_ofW (cc := cX10_setDamp) (maxL := 3) (ret := (some .int)) (by decide) rfl ?_
  intro p9 e9 s9 m9 args9 below9 meth9 c9 s₁ B hml htab hv
  obtain ⟨rfl, hsz, hP, hK, hD0, hZ, hX⟩ := hv
  have hx := B.exec
  have hb := B.bytes
  have hr := B.returns
  have hts := ws_sub (atoms_spec (ws := WS yX10_setDamp cX10_setDamp 3 (some .int)) B.pre)
  have hown : s9.vm.findClass RX10 = some m9.cls := findClass_of_methodNamed B.named
  have hlocks := B.notSynchronized
  subst hsz
  have hD := hD0.self (sz := s9.heap.size)
  generalize hAe : va_A [(x, .inr (8, [.ref tp, .ref t, .ref u, .ref rd, .ref ch, .ref ci, .int (nI n), .int ep]))] s9.heap.size = A at hD hZ hX ⊢
  have hA : ∀ q : Nat, s9.heap.size ≤ q → A q := fun q h => by rw [← hAe]; exact Or.inr h
  have hS : va_S A s9.heap s9.heap [] := va_S.rf
  have hP : va_P D CLS [(x, .inr (8, [.ref tp, .ref t, .ref u, .ref rd, .ref ch, .ref ci, .int (nI n), .int ep]))] s9.heap := hP
  have hl := lv_entry ([.ref x, .int p0]) (n := 3) (Nat.le_of_ble_eq_true rfl)
  rw [lg_entry_eq]
  generalize (lg_sl ([.ref x, .int p0]) ++ List.replicate (3 - (lg_sl ([.ref x, .int p0])).length) Slot.unset).toArray = ls at hl ⊢
  have hl : lv_has ls 3 [(0, .ref x), (1, .int p0)] := hl
  change W p9 l9 e9 ({ frames := 6, cells := 1, slots := 6, locals := 90 } : Room) s9 m9 _ below9 meth9 c9 _ _ _ _ _ _
  refine lv_iload_n hx hb dX10_setDamp_0 rfl (lv_at hl 1 rfl) ?_
  refine lv_if_lt (tgt := 10) hx hb dX10_setDamp_1 (by decide) (fun c_1 => ?_) (fun c_1 => ?_)
  · skip
    exact vx_throwS hx hb hfl (own := RX10) (cls := "java/lang/IllegalArgumentException") (text := "there is no such damp") (names := xNM) (ik := 74) (is := 139) (ic := 78) (sa := z 203) (A := A) hown (by decide +kernel) (by decide +kernel) (hts _ w_1006) (hts _ w_126) hX.2.2.1.2.2.2.1 (xat_IAE hts hZ.nst) (xgd_IAE) hX.1 hX.2.1 hS (hl.1.trans hml.symm) dX10_setDamp_10 dX10_setDamp_13 dX10_setDamp_14 dX10_setDamp_16 dX10_setDamp_19 (fun x9 h9 => (htab x9 h9).elim) (by decide) (by decide) (Nat.le_of_ble_eq_true rfl) (Nat.le_of_ble_eq_true rfl) hlocks (xk_X hP hK hD hS [0] rfl (by decide +kernel)) hS.2.2 (Nat.le_of_ble_eq_true rfl) (Nat.le_of_ble_eq_true rfl)
  · skip
    refine lv_iload_n hx hb dX10_setDamp_4 rfl (lv_at hl 1 rfl) ?_
    refine lv_bipush (v := 9) hx hb dX10_setDamp_5 (by decide) ?_
    refine lv_icmp_le (tgt := 20) hx hb dX10_setDamp_7 (by decide) (fun c_7 => ?_) (fun c_7 => ?_)
    · skip
      exact absurd hN (by rw [← fInS (m := 9) (by decide), dt (show 0 ≤ p0 ∧ p0 ≤ nI 9 from ⟨Int32.not_lt.mp c_1, c_7⟩)]; decide)
    · skip
      exact vx_throwS hx hb hfl (own := RX10) (cls := "java/lang/IllegalArgumentException") (text := "there is no such damp") (names := xNM) (ik := 74) (is := 139) (ic := 78) (sa := z 203) (A := A) hown (by decide +kernel) (by decide +kernel) (hts _ w_1006) (hts _ w_126) hX.2.2.1.2.2.2.1 (xat_IAE hts hZ.nst) (xgd_IAE) hX.1 hX.2.1 hS (hl.1.trans hml.symm) dX10_setDamp_10 dX10_setDamp_13 dX10_setDamp_14 dX10_setDamp_16 dX10_setDamp_19 (fun x9 h9 => (htab x9 h9).elim) (by decide) (by decide) (Nat.le_of_ble_eq_true rfl) (Nat.le_of_ble_eq_true rfl) hlocks (xk_X hP hK hD hS [0] rfl (by decide +kernel)) hS.2.2 (Nat.le_of_ble_eq_true rfl) (Nat.le_of_ble_eq_true rfl)
set_option maxHeartbeats 4000000 in
set_option maxRecDepth 100000 in
/-- ChoirStalls.count, throwing -/
theorem t_X10_count_T (l9 : Launch) (z : Nat → Nat) (D : va_G) (g : Nat → ClassId) (x : Nat) (tp : Nat) (t : Nat) (u : Nat) (rd : Nat) (ch : Nat) (ci : Nat) (n : Nat) (ep : Int32) (p0 : Int32) (hN : fIn p0 14 = false) (hfl : l9.stackTraces = false) (sz : Nat) : vx_Met l9 yX10_count (WS yX10_count cX10_count 2 (some .int)) ({ frames := 7, cells := 1, slots := 6, locals := 111 }) (va_Pc [.ref x, .int p0] (kPreX z D g [(x, .inr (8, [.ref tp, .ref t, .ref u, .ref rd, .ref ch, .ref ci, .int (nI n), .int ep]))] sz)) (va_Qi (fun (r9 : Int32) (u9 : Unit) => False) (kB D g (va_A [(x, .inr (8, [.ref tp, .ref t, .ref u, .ref rd, .ref ch, .ref ci, .int (nI n), .int ep]))] sz) (fun (u9 : Unit) => [(x, .inr (8, [.ref tp, .ref t, .ref u, .ref rd, .ref ch, .ref ci, .int (nI n), .int ep]))])) (va_A [(x, .inr (8, [.ref tp, .ref t, .ref u, .ref rd, .ref ch, .ref ci, .int (nI n), .int ep]))] sz)) (vx_X (fun (_ : Unit) => True) (fun (E9 : String) (u9 : Unit) (t9 : State) => E9 = "java/lang/IndexOutOfBoundsException" ∧ kB D g (va_A [(x, .inr (8, [.ref tp, .ref t, .ref u, .ref rd, .ref ch, .ref ci, .int (nI n), .int ep]))] sz) (fun (_ : Unit) => [(x, .inr (8, [.ref tp, .ref t, .ref u, .ref rd, .ref ch, .ref ci, .int (nI n), .int ep]))]) u9 t9) (va_A [(x, .inr (8, [.ref tp, .ref t, .ref u, .ref rd, .ref ch, .ref ci, .int (nI n), .int ep]))] sz)) 1 6 (va_A [(x, .inr (8, [.ref tp, .ref t, .ref u, .ref rd, .ref ch, .ref ci, .int (nI n), .int ep]))] sz) := by
  refine vx_ofW (cc := cX10_count) (maxL := 2) (ret := (some .int)) (by decide) rfl ?_
  intro p9 e9 s9 m9 args9 below9 meth9 c9 s₁ B hml htab hv
  obtain ⟨rfl, hsz, hP, hK, hD0, hZ, hX⟩ := hv
  have hx := B.exec
  have hb := B.bytes
  have hr := B.returns
  have hts := ws_sub (atoms_spec (ws := WS yX10_count cX10_count 2 (some .int)) B.pre)
  have hown : s9.vm.findClass RX10 = some m9.cls := findClass_of_methodNamed B.named
  have hlocks := B.notSynchronized
  subst hsz
  have hD := hD0.self (sz := s9.heap.size)
  generalize hAe : va_A [(x, .inr (8, [.ref tp, .ref t, .ref u, .ref rd, .ref ch, .ref ci, .int (nI n), .int ep]))] s9.heap.size = A at hD hZ hX ⊢
  have hA : ∀ q : Nat, s9.heap.size ≤ q → A q := fun q h => by rw [← hAe]; exact Or.inr h
  have hS : va_S A s9.heap s9.heap [] := va_S.rf
  have hP : va_P D CLS [(x, .inr (8, [.ref tp, .ref t, .ref u, .ref rd, .ref ch, .ref ci, .int (nI n), .int ep]))] s9.heap := hP
  have hl := lv_entry ([.ref x, .int p0]) (n := 2) (Nat.le_of_ble_eq_true rfl)
  rw [lg_entry_eq]
  generalize (lg_sl ([.ref x, .int p0]) ++ List.replicate (2 - (lg_sl ([.ref x, .int p0])).length) Slot.unset).toArray = ls at hl ⊢
  have hl : lv_has ls 2 [(0, .ref x), (1, .int p0)] := hl
  change W p9 l9 e9 ({ frames := 7, cells := 1, slots := 6, locals := 111 } : Room) s9 m9 _ below9 meth9 c9 _ _ _ _ _ _
  refine lv_iload_n hx hb dX10_count_0 rfl (lv_at hl 1 rfl) ?_
  refine lv_bipush (v := 14) hx hb dX10_count_1 (by decide) ?_
  refine kx_v hA hP hD hS [(x, .inr (8, [.ref tp, .ref t, .ref u, .ref rd, .ref ch, .ref ci, .int (nI n), .int ep]))] (vx_runS (As := [.int p0, .int 14]) (rest := []) ⟨hx, hb, hml, hown, hts⟩ (t_X10_checkIndex_T l9 z D g p0 14 (by first | assumption | decide | omega) (by first | assumption | decide | omega) (Array.size s9.heap)) (va_cwS 2 hts gs_X10_87 rfl rfl rfl (by decide +kernel) ⟨Nat.le_of_ble_eq_true rfl, Nat.le_of_ble_eq_true rfl⟩) ⟨kBlindX, kPreX.pc hX hK hZ hA hP hD hS [] rfl (by decide +kernel)⟩ rfl rfl hl.1 rfl (lv_room (Nat.le_of_ble_eq_true rfl)) dX10_count_3 ⟨Nat.le_of_ble_eq_true rfl, Nat.le_of_ble_eq_true rfl⟩) [] [0] rfl rfl rfl rfl (fun ce9 q9 H locs hP7 hD7 hS7 hc7 hv7 hcl7 => ?_)
  clear hP hD hS
  have hP := hP7
  have hD := hD7
  have hS := hS7
  clear hP7 hD7 hS7
  replace hP : va_P D CLS [(x, .inr (8, [.ref tp, .ref t, .ref u, .ref rd, .ref ch, .ref ci, .int (nI n), .int ep]))] H := hP
  replace hD : va_D A [(x, .inr (8, [.ref tp, .ref t, .ref u, .ref rd, .ref ch, .ref ci, .int (nI n), .int ep]))] := hD
  exact vx_out (fun x9 h9 => (htab x9 h9).elim) hlocks hc7 hv7 hcl7 (fun t9 ht9 ha9 => xk_X hP hK hD hS [0] rfl (by decide +kernel) t9 ha9 (by rw [ht9]; exact Nat.le_refl _) (fun q9 _ => by rw [ht9])) hS.2.2 (Nat.le_of_ble_eq_true rfl) (Nat.le_of_ble_eq_true rfl)
set_option maxHeartbeats 4000000 in
set_option maxRecDepth 100000 in
/-- ChoirStalls.pleasure, throwing -/
theorem t_X10_pleasure_T (l9 : Launch) (z : Nat → Nat) (D : va_G) (g : Nat → ClassId) (x : Nat) (tp : Nat) (t : Nat) (u : Nat) (rd : Nat) (ch : Nat) (ci : Nat) (n : Nat) (ep : Int32) (ta : Nat → Nat) (tn : Nat → Nat) (p0 : Int32) (hN : fIn p0 (tn 3) = false) (hfl : l9.stackTraces = false) (sz : Nat) : vx_Met l9 yX10_pleasure (WS yX10_pleasure cX10_pleasure 2 (some .int)) ({ frames := 7, cells := 1, slots := 6, locals := 111 }) (va_Pc [.ref x, .int p0] (kPreX z D g [(x, .inr (8, [.ref tp, .ref t, .ref u, .ref rd, .ref ch, .ref ci, .int (nI n), .int ep])), (t, .inr (7, [.ref (ta 1), .ref (ta 3), .ref (ta 5), .ref (ta 7), .int (nI (tn 4)), .ref (ta 9), .ref (ta 11), .ref (ta 13), .ref (ta 15), .ref (ta 17), .ref (ta 19), .ref (ta 21), .ref (ta 23), .ref (ta 25), .ref (ta 27), .ref (ta 29), .ref (ta 31), .ref (ta 33), .ref (ta 35)])), (ta 7, .inr (2, [.ref (ta 8), .int (nI (tn 3))]))] sz)) (va_Qi (fun (r9 : Int32) (u9 : Unit) => False) (kB D g (va_A [(x, .inr (8, [.ref tp, .ref t, .ref u, .ref rd, .ref ch, .ref ci, .int (nI n), .int ep])), (t, .inr (7, [.ref (ta 1), .ref (ta 3), .ref (ta 5), .ref (ta 7), .int (nI (tn 4)), .ref (ta 9), .ref (ta 11), .ref (ta 13), .ref (ta 15), .ref (ta 17), .ref (ta 19), .ref (ta 21), .ref (ta 23), .ref (ta 25), .ref (ta 27), .ref (ta 29), .ref (ta 31), .ref (ta 33), .ref (ta 35)])), (ta 7, .inr (2, [.ref (ta 8), .int (nI (tn 3))]))] sz) (fun (u9 : Unit) => [(x, .inr (8, [.ref tp, .ref t, .ref u, .ref rd, .ref ch, .ref ci, .int (nI n), .int ep])), (t, .inr (7, [.ref (ta 1), .ref (ta 3), .ref (ta 5), .ref (ta 7), .int (nI (tn 4)), .ref (ta 9), .ref (ta 11), .ref (ta 13), .ref (ta 15), .ref (ta 17), .ref (ta 19), .ref (ta 21), .ref (ta 23), .ref (ta 25), .ref (ta 27), .ref (ta 29), .ref (ta 31), .ref (ta 33), .ref (ta 35)])), (ta 7, .inr (2, [.ref (ta 8), .int (nI (tn 3))]))])) (va_A [(x, .inr (8, [.ref tp, .ref t, .ref u, .ref rd, .ref ch, .ref ci, .int (nI n), .int ep])), (t, .inr (7, [.ref (ta 1), .ref (ta 3), .ref (ta 5), .ref (ta 7), .int (nI (tn 4)), .ref (ta 9), .ref (ta 11), .ref (ta 13), .ref (ta 15), .ref (ta 17), .ref (ta 19), .ref (ta 21), .ref (ta 23), .ref (ta 25), .ref (ta 27), .ref (ta 29), .ref (ta 31), .ref (ta 33), .ref (ta 35)])), (ta 7, .inr (2, [.ref (ta 8), .int (nI (tn 3))]))] sz)) (vx_X (fun (_ : Unit) => True) (fun (E9 : String) (u9 : Unit) (t9 : State) => E9 = "java/lang/IndexOutOfBoundsException" ∧ kB D g (va_A [(x, .inr (8, [.ref tp, .ref t, .ref u, .ref rd, .ref ch, .ref ci, .int (nI n), .int ep])), (t, .inr (7, [.ref (ta 1), .ref (ta 3), .ref (ta 5), .ref (ta 7), .int (nI (tn 4)), .ref (ta 9), .ref (ta 11), .ref (ta 13), .ref (ta 15), .ref (ta 17), .ref (ta 19), .ref (ta 21), .ref (ta 23), .ref (ta 25), .ref (ta 27), .ref (ta 29), .ref (ta 31), .ref (ta 33), .ref (ta 35)])), (ta 7, .inr (2, [.ref (ta 8), .int (nI (tn 3))]))] sz) (fun (_ : Unit) => [(x, .inr (8, [.ref tp, .ref t, .ref u, .ref rd, .ref ch, .ref ci, .int (nI n), .int ep])), (t, .inr (7, [.ref (ta 1), .ref (ta 3), .ref (ta 5), .ref (ta 7), .int (nI (tn 4)), .ref (ta 9), .ref (ta 11), .ref (ta 13), .ref (ta 15), .ref (ta 17), .ref (ta 19), .ref (ta 21), .ref (ta 23), .ref (ta 25), .ref (ta 27), .ref (ta 29), .ref (ta 31), .ref (ta 33), .ref (ta 35)])), (ta 7, .inr (2, [.ref (ta 8), .int (nI (tn 3))]))]) u9 t9) (va_A [(x, .inr (8, [.ref tp, .ref t, .ref u, .ref rd, .ref ch, .ref ci, .int (nI n), .int ep])), (t, .inr (7, [.ref (ta 1), .ref (ta 3), .ref (ta 5), .ref (ta 7), .int (nI (tn 4)), .ref (ta 9), .ref (ta 11), .ref (ta 13), .ref (ta 15), .ref (ta 17), .ref (ta 19), .ref (ta 21), .ref (ta 23), .ref (ta 25), .ref (ta 27), .ref (ta 29), .ref (ta 31), .ref (ta 33), .ref (ta 35)])), (ta 7, .inr (2, [.ref (ta 8), .int (nI (tn 3))]))] sz)) 1 6 (va_A [(x, .inr (8, [.ref tp, .ref t, .ref u, .ref rd, .ref ch, .ref ci, .int (nI n), .int ep])), (t, .inr (7, [.ref (ta 1), .ref (ta 3), .ref (ta 5), .ref (ta 7), .int (nI (tn 4)), .ref (ta 9), .ref (ta 11), .ref (ta 13), .ref (ta 15), .ref (ta 17), .ref (ta 19), .ref (ta 21), .ref (ta 23), .ref (ta 25), .ref (ta 27), .ref (ta 29), .ref (ta 31), .ref (ta 33), .ref (ta 35)])), (ta 7, .inr (2, [.ref (ta 8), .int (nI (tn 3))]))] sz) := by
  refine vx_ofW (cc := cX10_pleasure) (maxL := 2) (ret := (some .int)) (by decide) rfl ?_
  intro p9 e9 s9 m9 args9 below9 meth9 c9 s₁ B hml htab hv
  obtain ⟨rfl, hsz, hP, hK, hD0, hZ, hX⟩ := hv
  have hx := B.exec
  have hb := B.bytes
  have hr := B.returns
  have hts := ws_sub (atoms_spec (ws := WS yX10_pleasure cX10_pleasure 2 (some .int)) B.pre)
  have hown : s9.vm.findClass RX10 = some m9.cls := findClass_of_methodNamed B.named
  have hlocks := B.notSynchronized
  subst hsz
  have hD := hD0.self (sz := s9.heap.size)
  generalize hAe : va_A [(x, .inr (8, [.ref tp, .ref t, .ref u, .ref rd, .ref ch, .ref ci, .int (nI n), .int ep])), (t, .inr (7, [.ref (ta 1), .ref (ta 3), .ref (ta 5), .ref (ta 7), .int (nI (tn 4)), .ref (ta 9), .ref (ta 11), .ref (ta 13), .ref (ta 15), .ref (ta 17), .ref (ta 19), .ref (ta 21), .ref (ta 23), .ref (ta 25), .ref (ta 27), .ref (ta 29), .ref (ta 31), .ref (ta 33), .ref (ta 35)])), (ta 7, .inr (2, [.ref (ta 8), .int (nI (tn 3))]))] s9.heap.size = A at hD hZ hX ⊢
  have hA : ∀ q : Nat, s9.heap.size ≤ q → A q := fun q h => by rw [← hAe]; exact Or.inr h
  have hS : va_S A s9.heap s9.heap [] := va_S.rf
  have hP : va_P D CLS [(x, .inr (8, [.ref tp, .ref t, .ref u, .ref rd, .ref ch, .ref ci, .int (nI n), .int ep])), (t, .inr (7, [.ref (ta 1), .ref (ta 3), .ref (ta 5), .ref (ta 7), .int (nI (tn 4)), .ref (ta 9), .ref (ta 11), .ref (ta 13), .ref (ta 15), .ref (ta 17), .ref (ta 19), .ref (ta 21), .ref (ta 23), .ref (ta 25), .ref (ta 27), .ref (ta 29), .ref (ta 31), .ref (ta 33), .ref (ta 35)])), (ta 7, .inr (2, [.ref (ta 8), .int (nI (tn 3))]))] s9.heap := hP
  have hl := lv_entry ([.ref x, .int p0]) (n := 2) (Nat.le_of_ble_eq_true rfl)
  rw [lg_entry_eq]
  generalize (lg_sl ([.ref x, .int p0]) ++ List.replicate (2 - (lg_sl ([.ref x, .int p0])).length) Slot.unset).toArray = ls at hl ⊢
  have hl : lv_has ls 2 [(0, .ref x), (1, .int p0)] := hl
  change W p9 l9 e9 ({ frames := 7, cells := 1, slots := 6, locals := 111 } : Room) s9 m9 _ below9 meth9 c9 _ _ _ _ _ _
  refine lv_iload_n hx hb dX10_pleasure_0 rfl (lv_at hl 1 rfl) ?_
  refine lv_aload_n hx hb dX10_pleasure_1 rfl (lv_at hl 0 rfl) ?_
  refine va_get (D := D) (ci := 8) (v := .ref t) (C := RX10) (T := TX10) (N := 8) hx hb hts in_X10 hown hK hP 0 rfl rfl 1 (by decide) (hts _ w_467) (fun _ h9 => h9) rfl dX10_pleasure_2 ?_
  refine va_getN (D := D) (ci := 7) (v := .ref (ta 7)) (C := RX9) (T := TX9) (N := 19) hx hb hts in_X9 hown hK hP 1 rfl rfl 3 (by decide) (hZ.nst.use nw_227) (fun _ h9 => h9) rfl dX10_pleasure_5 ?_
  refine va_getN (D := D) (ci := 2) (v := .int (nI (tn 3))) (C := RX3) (T := TX3) (N := 2) hx hb hts in_X3 hown hK hP 2 rfl rfl 1 (by decide) (hZ.nst.use nw_175) (fun _ h9 => h9) rfl dX10_pleasure_8 ?_
  refine kx_v hA hP hD hS [(x, .inr (8, [.ref tp, .ref t, .ref u, .ref rd, .ref ch, .ref ci, .int (nI n), .int ep])), (t, .inr (7, [.ref (ta 1), .ref (ta 3), .ref (ta 5), .ref (ta 7), .int (nI (tn 4)), .ref (ta 9), .ref (ta 11), .ref (ta 13), .ref (ta 15), .ref (ta 17), .ref (ta 19), .ref (ta 21), .ref (ta 23), .ref (ta 25), .ref (ta 27), .ref (ta 29), .ref (ta 31), .ref (ta 33), .ref (ta 35)])), (ta 7, .inr (2, [.ref (ta 8), .int (nI (tn 3))]))] (vx_runS (As := [.int p0, .int (nI (tn 3))]) (rest := []) ⟨hx, hb, hml, hown, hts⟩ (t_X10_checkIndex_T l9 z D g p0 (tn 3) (by first | assumption | decide | omega) (by first | assumption | decide | omega) (Array.size s9.heap)) (va_cwS 2 hts gs_X10_87 rfl rfl rfl (by decide +kernel) ⟨Nat.le_of_ble_eq_true rfl, Nat.le_of_ble_eq_true rfl⟩) ⟨kBlindX, kPreX.pc hX hK hZ hA hP hD hS [] rfl (by decide +kernel)⟩ rfl rfl hl.1 rfl (lv_room (Nat.le_of_ble_eq_true rfl)) dX10_pleasure_11 ⟨Nat.le_of_ble_eq_true rfl, Nat.le_of_ble_eq_true rfl⟩) [] [0, 1, 2] rfl rfl rfl rfl (fun ce9 q9 H locs hP7 hD7 hS7 hc7 hv7 hcl7 => ?_)
  clear hP hD hS
  have hP := hP7
  have hD := hD7
  have hS := hS7
  clear hP7 hD7 hS7
  replace hP : va_P D CLS [(x, .inr (8, [.ref tp, .ref t, .ref u, .ref rd, .ref ch, .ref ci, .int (nI n), .int ep])), (t, .inr (7, [.ref (ta 1), .ref (ta 3), .ref (ta 5), .ref (ta 7), .int (nI (tn 4)), .ref (ta 9), .ref (ta 11), .ref (ta 13), .ref (ta 15), .ref (ta 17), .ref (ta 19), .ref (ta 21), .ref (ta 23), .ref (ta 25), .ref (ta 27), .ref (ta 29), .ref (ta 31), .ref (ta 33), .ref (ta 35)])), (ta 7, .inr (2, [.ref (ta 8), .int (nI (tn 3))]))] H := hP
  replace hD : va_D A [(x, .inr (8, [.ref tp, .ref t, .ref u, .ref rd, .ref ch, .ref ci, .int (nI n), .int ep])), (t, .inr (7, [.ref (ta 1), .ref (ta 3), .ref (ta 5), .ref (ta 7), .int (nI (tn 4)), .ref (ta 9), .ref (ta 11), .ref (ta 13), .ref (ta 15), .ref (ta 17), .ref (ta 19), .ref (ta 21), .ref (ta 23), .ref (ta 25), .ref (ta 27), .ref (ta 29), .ref (ta 31), .ref (ta 33), .ref (ta 35)])), (ta 7, .inr (2, [.ref (ta 8), .int (nI (tn 3))]))] := hD
  exact vx_out (fun x9 h9 => (htab x9 h9).elim) hlocks hc7 hv7 hcl7 (fun t9 ht9 ha9 => xk_X hP hK hD hS [0, 1, 2] rfl (by decide +kernel) t9 ha9 (by rw [ht9]; exact Nat.le_refl _) (fun q9 _ => by rw [ht9])) hS.2.2 (Nat.le_of_ble_eq_true rfl) (Nat.le_of_ble_eq_true rfl)
set_option maxHeartbeats 4000000 in
set_option maxRecDepth 100000 in
/-- ChoirStalls.worst, throwing -/
theorem t_X10_worst_T (l9 : Launch) (z : Nat → Nat) (D : va_G) (g : Nat → ClassId) (x : Nat) (tp : Nat) (t : Nat) (u : Nat) (rd : Nat) (ch : Nat) (ci : Nat) (n : Nat) (ep : Int32) (ta : Nat → Nat) (tn : Nat → Nat) (p0 : Int32) (hN : fIn p0 (tn 3) = false) (hfl : l9.stackTraces = false) (sz : Nat) : vx_Met l9 yX10_worst (WS yX10_worst cX10_worst 2 (some .int)) ({ frames := 7, cells := 1, slots := 6, locals := 111 }) (va_Pc [.ref x, .int p0] (kPreX z D g [(x, .inr (8, [.ref tp, .ref t, .ref u, .ref rd, .ref ch, .ref ci, .int (nI n), .int ep])), (t, .inr (7, [.ref (ta 1), .ref (ta 3), .ref (ta 5), .ref (ta 7), .int (nI (tn 4)), .ref (ta 9), .ref (ta 11), .ref (ta 13), .ref (ta 15), .ref (ta 17), .ref (ta 19), .ref (ta 21), .ref (ta 23), .ref (ta 25), .ref (ta 27), .ref (ta 29), .ref (ta 31), .ref (ta 33), .ref (ta 35)])), (ta 7, .inr (2, [.ref (ta 8), .int (nI (tn 3))]))] sz)) (va_Qi (fun (r9 : Int32) (u9 : Unit) => False) (kB D g (va_A [(x, .inr (8, [.ref tp, .ref t, .ref u, .ref rd, .ref ch, .ref ci, .int (nI n), .int ep])), (t, .inr (7, [.ref (ta 1), .ref (ta 3), .ref (ta 5), .ref (ta 7), .int (nI (tn 4)), .ref (ta 9), .ref (ta 11), .ref (ta 13), .ref (ta 15), .ref (ta 17), .ref (ta 19), .ref (ta 21), .ref (ta 23), .ref (ta 25), .ref (ta 27), .ref (ta 29), .ref (ta 31), .ref (ta 33), .ref (ta 35)])), (ta 7, .inr (2, [.ref (ta 8), .int (nI (tn 3))]))] sz) (fun (u9 : Unit) => [(x, .inr (8, [.ref tp, .ref t, .ref u, .ref rd, .ref ch, .ref ci, .int (nI n), .int ep])), (t, .inr (7, [.ref (ta 1), .ref (ta 3), .ref (ta 5), .ref (ta 7), .int (nI (tn 4)), .ref (ta 9), .ref (ta 11), .ref (ta 13), .ref (ta 15), .ref (ta 17), .ref (ta 19), .ref (ta 21), .ref (ta 23), .ref (ta 25), .ref (ta 27), .ref (ta 29), .ref (ta 31), .ref (ta 33), .ref (ta 35)])), (ta 7, .inr (2, [.ref (ta 8), .int (nI (tn 3))]))])) (va_A [(x, .inr (8, [.ref tp, .ref t, .ref u, .ref rd, .ref ch, .ref ci, .int (nI n), .int ep])), (t, .inr (7, [.ref (ta 1), .ref (ta 3), .ref (ta 5), .ref (ta 7), .int (nI (tn 4)), .ref (ta 9), .ref (ta 11), .ref (ta 13), .ref (ta 15), .ref (ta 17), .ref (ta 19), .ref (ta 21), .ref (ta 23), .ref (ta 25), .ref (ta 27), .ref (ta 29), .ref (ta 31), .ref (ta 33), .ref (ta 35)])), (ta 7, .inr (2, [.ref (ta 8), .int (nI (tn 3))]))] sz)) (vx_X (fun (_ : Unit) => True) (fun (E9 : String) (u9 : Unit) (t9 : State) => E9 = "java/lang/IndexOutOfBoundsException" ∧ kB D g (va_A [(x, .inr (8, [.ref tp, .ref t, .ref u, .ref rd, .ref ch, .ref ci, .int (nI n), .int ep])), (t, .inr (7, [.ref (ta 1), .ref (ta 3), .ref (ta 5), .ref (ta 7), .int (nI (tn 4)), .ref (ta 9), .ref (ta 11), .ref (ta 13), .ref (ta 15), .ref (ta 17), .ref (ta 19), .ref (ta 21), .ref (ta 23), .ref (ta 25), .ref (ta 27), .ref (ta 29), .ref (ta 31), .ref (ta 33), .ref (ta 35)])), (ta 7, .inr (2, [.ref (ta 8), .int (nI (tn 3))]))] sz) (fun (_ : Unit) => [(x, .inr (8, [.ref tp, .ref t, .ref u, .ref rd, .ref ch, .ref ci, .int (nI n), .int ep])), (t, .inr (7, [.ref (ta 1), .ref (ta 3), .ref (ta 5), .ref (ta 7), .int (nI (tn 4)), .ref (ta 9), .ref (ta 11), .ref (ta 13), .ref (ta 15), .ref (ta 17), .ref (ta 19), .ref (ta 21), .ref (ta 23), .ref (ta 25), .ref (ta 27), .ref (ta 29), .ref (ta 31), .ref (ta 33), .ref (ta 35)])), (ta 7, .inr (2, [.ref (ta 8), .int (nI (tn 3))]))]) u9 t9) (va_A [(x, .inr (8, [.ref tp, .ref t, .ref u, .ref rd, .ref ch, .ref ci, .int (nI n), .int ep])), (t, .inr (7, [.ref (ta 1), .ref (ta 3), .ref (ta 5), .ref (ta 7), .int (nI (tn 4)), .ref (ta 9), .ref (ta 11), .ref (ta 13), .ref (ta 15), .ref (ta 17), .ref (ta 19), .ref (ta 21), .ref (ta 23), .ref (ta 25), .ref (ta 27), .ref (ta 29), .ref (ta 31), .ref (ta 33), .ref (ta 35)])), (ta 7, .inr (2, [.ref (ta 8), .int (nI (tn 3))]))] sz)) 1 6 (va_A [(x, .inr (8, [.ref tp, .ref t, .ref u, .ref rd, .ref ch, .ref ci, .int (nI n), .int ep])), (t, .inr (7, [.ref (ta 1), .ref (ta 3), .ref (ta 5), .ref (ta 7), .int (nI (tn 4)), .ref (ta 9), .ref (ta 11), .ref (ta 13), .ref (ta 15), .ref (ta 17), .ref (ta 19), .ref (ta 21), .ref (ta 23), .ref (ta 25), .ref (ta 27), .ref (ta 29), .ref (ta 31), .ref (ta 33), .ref (ta 35)])), (ta 7, .inr (2, [.ref (ta 8), .int (nI (tn 3))]))] sz) := by
  refine vx_ofW (cc := cX10_worst) (maxL := 2) (ret := (some .int)) (by decide) rfl ?_
  intro p9 e9 s9 m9 args9 below9 meth9 c9 s₁ B hml htab hv
  obtain ⟨rfl, hsz, hP, hK, hD0, hZ, hX⟩ := hv
  have hx := B.exec
  have hb := B.bytes
  have hr := B.returns
  have hts := ws_sub (atoms_spec (ws := WS yX10_worst cX10_worst 2 (some .int)) B.pre)
  have hown : s9.vm.findClass RX10 = some m9.cls := findClass_of_methodNamed B.named
  have hlocks := B.notSynchronized
  subst hsz
  have hD := hD0.self (sz := s9.heap.size)
  generalize hAe : va_A [(x, .inr (8, [.ref tp, .ref t, .ref u, .ref rd, .ref ch, .ref ci, .int (nI n), .int ep])), (t, .inr (7, [.ref (ta 1), .ref (ta 3), .ref (ta 5), .ref (ta 7), .int (nI (tn 4)), .ref (ta 9), .ref (ta 11), .ref (ta 13), .ref (ta 15), .ref (ta 17), .ref (ta 19), .ref (ta 21), .ref (ta 23), .ref (ta 25), .ref (ta 27), .ref (ta 29), .ref (ta 31), .ref (ta 33), .ref (ta 35)])), (ta 7, .inr (2, [.ref (ta 8), .int (nI (tn 3))]))] s9.heap.size = A at hD hZ hX ⊢
  have hA : ∀ q : Nat, s9.heap.size ≤ q → A q := fun q h => by rw [← hAe]; exact Or.inr h
  have hS : va_S A s9.heap s9.heap [] := va_S.rf
  have hP : va_P D CLS [(x, .inr (8, [.ref tp, .ref t, .ref u, .ref rd, .ref ch, .ref ci, .int (nI n), .int ep])), (t, .inr (7, [.ref (ta 1), .ref (ta 3), .ref (ta 5), .ref (ta 7), .int (nI (tn 4)), .ref (ta 9), .ref (ta 11), .ref (ta 13), .ref (ta 15), .ref (ta 17), .ref (ta 19), .ref (ta 21), .ref (ta 23), .ref (ta 25), .ref (ta 27), .ref (ta 29), .ref (ta 31), .ref (ta 33), .ref (ta 35)])), (ta 7, .inr (2, [.ref (ta 8), .int (nI (tn 3))]))] s9.heap := hP
  have hl := lv_entry ([.ref x, .int p0]) (n := 2) (Nat.le_of_ble_eq_true rfl)
  rw [lg_entry_eq]
  generalize (lg_sl ([.ref x, .int p0]) ++ List.replicate (2 - (lg_sl ([.ref x, .int p0])).length) Slot.unset).toArray = ls at hl ⊢
  have hl : lv_has ls 2 [(0, .ref x), (1, .int p0)] := hl
  change W p9 l9 e9 ({ frames := 7, cells := 1, slots := 6, locals := 111 } : Room) s9 m9 _ below9 meth9 c9 _ _ _ _ _ _
  refine lv_iload_n hx hb dX10_worst_0 rfl (lv_at hl 1 rfl) ?_
  refine lv_aload_n hx hb dX10_worst_1 rfl (lv_at hl 0 rfl) ?_
  refine va_get (D := D) (ci := 8) (v := .ref t) (C := RX10) (T := TX10) (N := 8) hx hb hts in_X10 hown hK hP 0 rfl rfl 1 (by decide) (hts _ w_467) (fun _ h9 => h9) rfl dX10_worst_2 ?_
  refine va_getN (D := D) (ci := 7) (v := .ref (ta 7)) (C := RX9) (T := TX9) (N := 19) hx hb hts in_X9 hown hK hP 1 rfl rfl 3 (by decide) (hZ.nst.use nw_227) (fun _ h9 => h9) rfl dX10_worst_5 ?_
  refine va_getN (D := D) (ci := 2) (v := .int (nI (tn 3))) (C := RX3) (T := TX3) (N := 2) hx hb hts in_X3 hown hK hP 2 rfl rfl 1 (by decide) (hZ.nst.use nw_175) (fun _ h9 => h9) rfl dX10_worst_8 ?_
  refine kx_v hA hP hD hS [(x, .inr (8, [.ref tp, .ref t, .ref u, .ref rd, .ref ch, .ref ci, .int (nI n), .int ep])), (t, .inr (7, [.ref (ta 1), .ref (ta 3), .ref (ta 5), .ref (ta 7), .int (nI (tn 4)), .ref (ta 9), .ref (ta 11), .ref (ta 13), .ref (ta 15), .ref (ta 17), .ref (ta 19), .ref (ta 21), .ref (ta 23), .ref (ta 25), .ref (ta 27), .ref (ta 29), .ref (ta 31), .ref (ta 33), .ref (ta 35)])), (ta 7, .inr (2, [.ref (ta 8), .int (nI (tn 3))]))] (vx_runS (As := [.int p0, .int (nI (tn 3))]) (rest := []) ⟨hx, hb, hml, hown, hts⟩ (t_X10_checkIndex_T l9 z D g p0 (tn 3) (by first | assumption | decide | omega) (by first | assumption | decide | omega) (Array.size s9.heap)) (va_cwS 2 hts gs_X10_87 rfl rfl rfl (by decide +kernel) ⟨Nat.le_of_ble_eq_true rfl, Nat.le_of_ble_eq_true rfl⟩) ⟨kBlindX, kPreX.pc hX hK hZ hA hP hD hS [] rfl (by decide +kernel)⟩ rfl rfl hl.1 rfl (lv_room (Nat.le_of_ble_eq_true rfl)) dX10_worst_11 ⟨Nat.le_of_ble_eq_true rfl, Nat.le_of_ble_eq_true rfl⟩) [] [0, 1, 2] rfl rfl rfl rfl (fun ce9 q9 H locs hP7 hD7 hS7 hc7 hv7 hcl7 => ?_)
  clear hP hD hS
  have hP := hP7
  have hD := hD7
  have hS := hS7
  clear hP7 hD7 hS7
  replace hP : va_P D CLS [(x, .inr (8, [.ref tp, .ref t, .ref u, .ref rd, .ref ch, .ref ci, .int (nI n), .int ep])), (t, .inr (7, [.ref (ta 1), .ref (ta 3), .ref (ta 5), .ref (ta 7), .int (nI (tn 4)), .ref (ta 9), .ref (ta 11), .ref (ta 13), .ref (ta 15), .ref (ta 17), .ref (ta 19), .ref (ta 21), .ref (ta 23), .ref (ta 25), .ref (ta 27), .ref (ta 29), .ref (ta 31), .ref (ta 33), .ref (ta 35)])), (ta 7, .inr (2, [.ref (ta 8), .int (nI (tn 3))]))] H := hP
  replace hD : va_D A [(x, .inr (8, [.ref tp, .ref t, .ref u, .ref rd, .ref ch, .ref ci, .int (nI n), .int ep])), (t, .inr (7, [.ref (ta 1), .ref (ta 3), .ref (ta 5), .ref (ta 7), .int (nI (tn 4)), .ref (ta 9), .ref (ta 11), .ref (ta 13), .ref (ta 15), .ref (ta 17), .ref (ta 19), .ref (ta 21), .ref (ta 23), .ref (ta 25), .ref (ta 27), .ref (ta 29), .ref (ta 31), .ref (ta 33), .ref (ta 35)])), (ta 7, .inr (2, [.ref (ta 8), .int (nI (tn 3))]))] := hD
  exact vx_out (fun x9 h9 => (htab x9 h9).elim) hlocks hc7 hv7 hcl7 (fun t9 ht9 ha9 => xk_X hP hK hD hS [0, 1, 2] rfl (by decide +kernel) t9 ha9 (by rw [ht9]; exact Nat.le_refl _) (fun q9 _ => by rw [ht9])) hS.2.2 (Nat.le_of_ble_eq_true rfl) (Nat.le_of_ble_eq_true rfl)
set_option maxHeartbeats 4000000 in
set_option maxRecDepth 100000 in
/-- ChoirStalls.oil, throwing -/
theorem t_X10_oil_T (l9 : Launch) (z : Nat → Nat) (D : va_G) (g : Nat → ClassId) (x : Nat) (tp : Nat) (t : Nat) (u : Nat) (rd : Nat) (ch : Nat) (ci : Nat) (n : Nat) (ep : Int32) (ta : Nat → Nat) (tn : Nat → Nat) (p0 : Int32) (hN : fIn p0 (tn 2) = false) (hfl : l9.stackTraces = false) (sz : Nat) : vx_Met l9 yX10_oil (WS yX10_oil cX10_oil 3 (some .int)) ({ frames := 7, cells := 1, slots := 6, locals := 111 }) (va_Pc [.ref x, .int p0] (kPreX z D g [(x, .inr (8, [.ref tp, .ref t, .ref u, .ref rd, .ref ch, .ref ci, .int (nI n), .int ep])), (t, .inr (7, [.ref (ta 1), .ref (ta 3), .ref (ta 5), .ref (ta 7), .int (nI (tn 4)), .ref (ta 9), .ref (ta 11), .ref (ta 13), .ref (ta 15), .ref (ta 17), .ref (ta 19), .ref (ta 21), .ref (ta 23), .ref (ta 25), .ref (ta 27), .ref (ta 29), .ref (ta 31), .ref (ta 33), .ref (ta 35)])), (ta 5, .inr (2, [.ref (ta 6), .int (nI (tn 2))]))] sz)) (va_Qi (fun (r9 : Int32) (u9 : Unit) => False) (kB D g (va_A [(x, .inr (8, [.ref tp, .ref t, .ref u, .ref rd, .ref ch, .ref ci, .int (nI n), .int ep])), (t, .inr (7, [.ref (ta 1), .ref (ta 3), .ref (ta 5), .ref (ta 7), .int (nI (tn 4)), .ref (ta 9), .ref (ta 11), .ref (ta 13), .ref (ta 15), .ref (ta 17), .ref (ta 19), .ref (ta 21), .ref (ta 23), .ref (ta 25), .ref (ta 27), .ref (ta 29), .ref (ta 31), .ref (ta 33), .ref (ta 35)])), (ta 5, .inr (2, [.ref (ta 6), .int (nI (tn 2))]))] sz) (fun (u9 : Unit) => [(x, .inr (8, [.ref tp, .ref t, .ref u, .ref rd, .ref ch, .ref ci, .int (nI n), .int ep])), (t, .inr (7, [.ref (ta 1), .ref (ta 3), .ref (ta 5), .ref (ta 7), .int (nI (tn 4)), .ref (ta 9), .ref (ta 11), .ref (ta 13), .ref (ta 15), .ref (ta 17), .ref (ta 19), .ref (ta 21), .ref (ta 23), .ref (ta 25), .ref (ta 27), .ref (ta 29), .ref (ta 31), .ref (ta 33), .ref (ta 35)])), (ta 5, .inr (2, [.ref (ta 6), .int (nI (tn 2))]))])) (va_A [(x, .inr (8, [.ref tp, .ref t, .ref u, .ref rd, .ref ch, .ref ci, .int (nI n), .int ep])), (t, .inr (7, [.ref (ta 1), .ref (ta 3), .ref (ta 5), .ref (ta 7), .int (nI (tn 4)), .ref (ta 9), .ref (ta 11), .ref (ta 13), .ref (ta 15), .ref (ta 17), .ref (ta 19), .ref (ta 21), .ref (ta 23), .ref (ta 25), .ref (ta 27), .ref (ta 29), .ref (ta 31), .ref (ta 33), .ref (ta 35)])), (ta 5, .inr (2, [.ref (ta 6), .int (nI (tn 2))]))] sz)) (vx_X (fun (_ : Unit) => True) (fun (E9 : String) (u9 : Unit) (t9 : State) => E9 = "java/lang/IndexOutOfBoundsException" ∧ kB D g (va_A [(x, .inr (8, [.ref tp, .ref t, .ref u, .ref rd, .ref ch, .ref ci, .int (nI n), .int ep])), (t, .inr (7, [.ref (ta 1), .ref (ta 3), .ref (ta 5), .ref (ta 7), .int (nI (tn 4)), .ref (ta 9), .ref (ta 11), .ref (ta 13), .ref (ta 15), .ref (ta 17), .ref (ta 19), .ref (ta 21), .ref (ta 23), .ref (ta 25), .ref (ta 27), .ref (ta 29), .ref (ta 31), .ref (ta 33), .ref (ta 35)])), (ta 5, .inr (2, [.ref (ta 6), .int (nI (tn 2))]))] sz) (fun (_ : Unit) => [(x, .inr (8, [.ref tp, .ref t, .ref u, .ref rd, .ref ch, .ref ci, .int (nI n), .int ep])), (t, .inr (7, [.ref (ta 1), .ref (ta 3), .ref (ta 5), .ref (ta 7), .int (nI (tn 4)), .ref (ta 9), .ref (ta 11), .ref (ta 13), .ref (ta 15), .ref (ta 17), .ref (ta 19), .ref (ta 21), .ref (ta 23), .ref (ta 25), .ref (ta 27), .ref (ta 29), .ref (ta 31), .ref (ta 33), .ref (ta 35)])), (ta 5, .inr (2, [.ref (ta 6), .int (nI (tn 2))]))]) u9 t9) (va_A [(x, .inr (8, [.ref tp, .ref t, .ref u, .ref rd, .ref ch, .ref ci, .int (nI n), .int ep])), (t, .inr (7, [.ref (ta 1), .ref (ta 3), .ref (ta 5), .ref (ta 7), .int (nI (tn 4)), .ref (ta 9), .ref (ta 11), .ref (ta 13), .ref (ta 15), .ref (ta 17), .ref (ta 19), .ref (ta 21), .ref (ta 23), .ref (ta 25), .ref (ta 27), .ref (ta 29), .ref (ta 31), .ref (ta 33), .ref (ta 35)])), (ta 5, .inr (2, [.ref (ta 6), .int (nI (tn 2))]))] sz)) 1 6 (va_A [(x, .inr (8, [.ref tp, .ref t, .ref u, .ref rd, .ref ch, .ref ci, .int (nI n), .int ep])), (t, .inr (7, [.ref (ta 1), .ref (ta 3), .ref (ta 5), .ref (ta 7), .int (nI (tn 4)), .ref (ta 9), .ref (ta 11), .ref (ta 13), .ref (ta 15), .ref (ta 17), .ref (ta 19), .ref (ta 21), .ref (ta 23), .ref (ta 25), .ref (ta 27), .ref (ta 29), .ref (ta 31), .ref (ta 33), .ref (ta 35)])), (ta 5, .inr (2, [.ref (ta 6), .int (nI (tn 2))]))] sz) := by
  refine vx_ofW (cc := cX10_oil) (maxL := 3) (ret := (some .int)) (by decide) rfl ?_
  intro p9 e9 s9 m9 args9 below9 meth9 c9 s₁ B hml htab hv
  obtain ⟨rfl, hsz, hP, hK, hD0, hZ, hX⟩ := hv
  have hx := B.exec
  have hb := B.bytes
  have hr := B.returns
  have hts := ws_sub (atoms_spec (ws := WS yX10_oil cX10_oil 3 (some .int)) B.pre)
  have hown : s9.vm.findClass RX10 = some m9.cls := findClass_of_methodNamed B.named
  have hlocks := B.notSynchronized
  subst hsz
  have hD := hD0.self (sz := s9.heap.size)
  generalize hAe : va_A [(x, .inr (8, [.ref tp, .ref t, .ref u, .ref rd, .ref ch, .ref ci, .int (nI n), .int ep])), (t, .inr (7, [.ref (ta 1), .ref (ta 3), .ref (ta 5), .ref (ta 7), .int (nI (tn 4)), .ref (ta 9), .ref (ta 11), .ref (ta 13), .ref (ta 15), .ref (ta 17), .ref (ta 19), .ref (ta 21), .ref (ta 23), .ref (ta 25), .ref (ta 27), .ref (ta 29), .ref (ta 31), .ref (ta 33), .ref (ta 35)])), (ta 5, .inr (2, [.ref (ta 6), .int (nI (tn 2))]))] s9.heap.size = A at hD hZ hX ⊢
  have hA : ∀ q : Nat, s9.heap.size ≤ q → A q := fun q h => by rw [← hAe]; exact Or.inr h
  have hS : va_S A s9.heap s9.heap [] := va_S.rf
  have hP : va_P D CLS [(x, .inr (8, [.ref tp, .ref t, .ref u, .ref rd, .ref ch, .ref ci, .int (nI n), .int ep])), (t, .inr (7, [.ref (ta 1), .ref (ta 3), .ref (ta 5), .ref (ta 7), .int (nI (tn 4)), .ref (ta 9), .ref (ta 11), .ref (ta 13), .ref (ta 15), .ref (ta 17), .ref (ta 19), .ref (ta 21), .ref (ta 23), .ref (ta 25), .ref (ta 27), .ref (ta 29), .ref (ta 31), .ref (ta 33), .ref (ta 35)])), (ta 5, .inr (2, [.ref (ta 6), .int (nI (tn 2))]))] s9.heap := hP
  have hl := lv_entry ([.ref x, .int p0]) (n := 3) (Nat.le_of_ble_eq_true rfl)
  rw [lg_entry_eq]
  generalize (lg_sl ([.ref x, .int p0]) ++ List.replicate (3 - (lg_sl ([.ref x, .int p0])).length) Slot.unset).toArray = ls at hl ⊢
  have hl : lv_has ls 3 [(0, .ref x), (1, .int p0)] := hl
  change W p9 l9 e9 ({ frames := 7, cells := 1, slots := 6, locals := 111 } : Room) s9 m9 _ below9 meth9 c9 _ _ _ _ _ _
  refine lv_iload_n hx hb dX10_oil_0 rfl (lv_at hl 1 rfl) ?_
  refine lv_aload_n hx hb dX10_oil_1 rfl (lv_at hl 0 rfl) ?_
  refine va_get (D := D) (ci := 8) (v := .ref t) (C := RX10) (T := TX10) (N := 8) hx hb hts in_X10 hown hK hP 0 rfl rfl 1 (by decide) (hts _ w_467) (fun _ h9 => h9) rfl dX10_oil_2 ?_
  refine va_getN (D := D) (ci := 7) (v := .ref (ta 5)) (C := RX9) (T := TX9) (N := 19) hx hb hts in_X9 hown hK hP 1 rfl rfl 2 (by decide) (hZ.nst.use nw_222) (fun _ h9 => h9) rfl dX10_oil_5 ?_
  refine va_getN (D := D) (ci := 2) (v := .int (nI (tn 2))) (C := RX3) (T := TX3) (N := 2) hx hb hts in_X3 hown hK hP 2 rfl rfl 1 (by decide) (hZ.nst.use nw_175) (fun _ h9 => h9) rfl dX10_oil_8 ?_
  refine kx_v hA hP hD hS [(x, .inr (8, [.ref tp, .ref t, .ref u, .ref rd, .ref ch, .ref ci, .int (nI n), .int ep])), (t, .inr (7, [.ref (ta 1), .ref (ta 3), .ref (ta 5), .ref (ta 7), .int (nI (tn 4)), .ref (ta 9), .ref (ta 11), .ref (ta 13), .ref (ta 15), .ref (ta 17), .ref (ta 19), .ref (ta 21), .ref (ta 23), .ref (ta 25), .ref (ta 27), .ref (ta 29), .ref (ta 31), .ref (ta 33), .ref (ta 35)])), (ta 5, .inr (2, [.ref (ta 6), .int (nI (tn 2))]))] (vx_runS (As := [.int p0, .int (nI (tn 2))]) (rest := []) ⟨hx, hb, hml, hown, hts⟩ (t_X10_checkIndex_T l9 z D g p0 (tn 2) (by first | assumption | decide | omega) (by first | assumption | decide | omega) (Array.size s9.heap)) (va_cwS 2 hts gs_X10_87 rfl rfl rfl (by decide +kernel) ⟨Nat.le_of_ble_eq_true rfl, Nat.le_of_ble_eq_true rfl⟩) ⟨kBlindX, kPreX.pc hX hK hZ hA hP hD hS [] rfl (by decide +kernel)⟩ rfl rfl hl.1 rfl (lv_room (Nat.le_of_ble_eq_true rfl)) dX10_oil_11 ⟨Nat.le_of_ble_eq_true rfl, Nat.le_of_ble_eq_true rfl⟩) [] [0, 1, 2] rfl rfl rfl rfl (fun ce9 q9 H locs hP7 hD7 hS7 hc7 hv7 hcl7 => ?_)
  clear hP hD hS
  have hP := hP7
  have hD := hD7
  have hS := hS7
  clear hP7 hD7 hS7
  replace hP : va_P D CLS [(x, .inr (8, [.ref tp, .ref t, .ref u, .ref rd, .ref ch, .ref ci, .int (nI n), .int ep])), (t, .inr (7, [.ref (ta 1), .ref (ta 3), .ref (ta 5), .ref (ta 7), .int (nI (tn 4)), .ref (ta 9), .ref (ta 11), .ref (ta 13), .ref (ta 15), .ref (ta 17), .ref (ta 19), .ref (ta 21), .ref (ta 23), .ref (ta 25), .ref (ta 27), .ref (ta 29), .ref (ta 31), .ref (ta 33), .ref (ta 35)])), (ta 5, .inr (2, [.ref (ta 6), .int (nI (tn 2))]))] H := hP
  replace hD : va_D A [(x, .inr (8, [.ref tp, .ref t, .ref u, .ref rd, .ref ch, .ref ci, .int (nI n), .int ep])), (t, .inr (7, [.ref (ta 1), .ref (ta 3), .ref (ta 5), .ref (ta 7), .int (nI (tn 4)), .ref (ta 9), .ref (ta 11), .ref (ta 13), .ref (ta 15), .ref (ta 17), .ref (ta 19), .ref (ta 21), .ref (ta 23), .ref (ta 25), .ref (ta 27), .ref (ta 29), .ref (ta 31), .ref (ta 33), .ref (ta 35)])), (ta 5, .inr (2, [.ref (ta 6), .int (nI (tn 2))]))] := hD
  exact vx_out (fun x9 h9 => (htab x9 h9).elim) hlocks hc7 hv7 hcl7 (fun t9 ht9 ha9 => xk_X hP hK hD hS [0, 1, 2] rfl (by decide +kernel) t9 ha9 (by rw [ht9]; exact Nat.le_refl _) (fun q9 _ => by rw [ht9])) hS.2.2 (Nat.le_of_ble_eq_true rfl) (Nat.le_of_ble_eq_true rfl)
set_option maxHeartbeats 4000000 in
set_option maxRecDepth 100000 in
/-- ChoirStalls.smoke, throwing -/
theorem t_X10_smoke_T (l9 : Launch) (z : Nat → Nat) (D : va_G) (g : Nat → ClassId) (x : Nat) (tp : Nat) (t : Nat) (u : Nat) (rd : Nat) (ch : Nat) (ci : Nat) (n : Nat) (ep : Int32) (ta : Nat → Nat) (tn : Nat → Nat) (p0 : Int32) (hN : fIn p0 (tn 2) = false) (hfl : l9.stackTraces = false) (sz : Nat) : vx_Met l9 yX10_smoke (WS yX10_smoke cX10_smoke 3 (some .int)) ({ frames := 7, cells := 1, slots := 6, locals := 111 }) (va_Pc [.ref x, .int p0] (kPreX z D g [(x, .inr (8, [.ref tp, .ref t, .ref u, .ref rd, .ref ch, .ref ci, .int (nI n), .int ep])), (t, .inr (7, [.ref (ta 1), .ref (ta 3), .ref (ta 5), .ref (ta 7), .int (nI (tn 4)), .ref (ta 9), .ref (ta 11), .ref (ta 13), .ref (ta 15), .ref (ta 17), .ref (ta 19), .ref (ta 21), .ref (ta 23), .ref (ta 25), .ref (ta 27), .ref (ta 29), .ref (ta 31), .ref (ta 33), .ref (ta 35)])), (ta 5, .inr (2, [.ref (ta 6), .int (nI (tn 2))]))] sz)) (va_Qi (fun (r9 : Int32) (u9 : Unit) => False) (kB D g (va_A [(x, .inr (8, [.ref tp, .ref t, .ref u, .ref rd, .ref ch, .ref ci, .int (nI n), .int ep])), (t, .inr (7, [.ref (ta 1), .ref (ta 3), .ref (ta 5), .ref (ta 7), .int (nI (tn 4)), .ref (ta 9), .ref (ta 11), .ref (ta 13), .ref (ta 15), .ref (ta 17), .ref (ta 19), .ref (ta 21), .ref (ta 23), .ref (ta 25), .ref (ta 27), .ref (ta 29), .ref (ta 31), .ref (ta 33), .ref (ta 35)])), (ta 5, .inr (2, [.ref (ta 6), .int (nI (tn 2))]))] sz) (fun (u9 : Unit) => [(x, .inr (8, [.ref tp, .ref t, .ref u, .ref rd, .ref ch, .ref ci, .int (nI n), .int ep])), (t, .inr (7, [.ref (ta 1), .ref (ta 3), .ref (ta 5), .ref (ta 7), .int (nI (tn 4)), .ref (ta 9), .ref (ta 11), .ref (ta 13), .ref (ta 15), .ref (ta 17), .ref (ta 19), .ref (ta 21), .ref (ta 23), .ref (ta 25), .ref (ta 27), .ref (ta 29), .ref (ta 31), .ref (ta 33), .ref (ta 35)])), (ta 5, .inr (2, [.ref (ta 6), .int (nI (tn 2))]))])) (va_A [(x, .inr (8, [.ref tp, .ref t, .ref u, .ref rd, .ref ch, .ref ci, .int (nI n), .int ep])), (t, .inr (7, [.ref (ta 1), .ref (ta 3), .ref (ta 5), .ref (ta 7), .int (nI (tn 4)), .ref (ta 9), .ref (ta 11), .ref (ta 13), .ref (ta 15), .ref (ta 17), .ref (ta 19), .ref (ta 21), .ref (ta 23), .ref (ta 25), .ref (ta 27), .ref (ta 29), .ref (ta 31), .ref (ta 33), .ref (ta 35)])), (ta 5, .inr (2, [.ref (ta 6), .int (nI (tn 2))]))] sz)) (vx_X (fun (_ : Unit) => True) (fun (E9 : String) (u9 : Unit) (t9 : State) => E9 = "java/lang/IndexOutOfBoundsException" ∧ kB D g (va_A [(x, .inr (8, [.ref tp, .ref t, .ref u, .ref rd, .ref ch, .ref ci, .int (nI n), .int ep])), (t, .inr (7, [.ref (ta 1), .ref (ta 3), .ref (ta 5), .ref (ta 7), .int (nI (tn 4)), .ref (ta 9), .ref (ta 11), .ref (ta 13), .ref (ta 15), .ref (ta 17), .ref (ta 19), .ref (ta 21), .ref (ta 23), .ref (ta 25), .ref (ta 27), .ref (ta 29), .ref (ta 31), .ref (ta 33), .ref (ta 35)])), (ta 5, .inr (2, [.ref (ta 6), .int (nI (tn 2))]))] sz) (fun (_ : Unit) => [(x, .inr (8, [.ref tp, .ref t, .ref u, .ref rd, .ref ch, .ref ci, .int (nI n), .int ep])), (t, .inr (7, [.ref (ta 1), .ref (ta 3), .ref (ta 5), .ref (ta 7), .int (nI (tn 4)), .ref (ta 9), .ref (ta 11), .ref (ta 13), .ref (ta 15), .ref (ta 17), .ref (ta 19), .ref (ta 21), .ref (ta 23), .ref (ta 25), .ref (ta 27), .ref (ta 29), .ref (ta 31), .ref (ta 33), .ref (ta 35)])), (ta 5, .inr (2, [.ref (ta 6), .int (nI (tn 2))]))]) u9 t9) (va_A [(x, .inr (8, [.ref tp, .ref t, .ref u, .ref rd, .ref ch, .ref ci, .int (nI n), .int ep])), (t, .inr (7, [.ref (ta 1), .ref (ta 3), .ref (ta 5), .ref (ta 7), .int (nI (tn 4)), .ref (ta 9), .ref (ta 11), .ref (ta 13), .ref (ta 15), .ref (ta 17), .ref (ta 19), .ref (ta 21), .ref (ta 23), .ref (ta 25), .ref (ta 27), .ref (ta 29), .ref (ta 31), .ref (ta 33), .ref (ta 35)])), (ta 5, .inr (2, [.ref (ta 6), .int (nI (tn 2))]))] sz)) 1 6 (va_A [(x, .inr (8, [.ref tp, .ref t, .ref u, .ref rd, .ref ch, .ref ci, .int (nI n), .int ep])), (t, .inr (7, [.ref (ta 1), .ref (ta 3), .ref (ta 5), .ref (ta 7), .int (nI (tn 4)), .ref (ta 9), .ref (ta 11), .ref (ta 13), .ref (ta 15), .ref (ta 17), .ref (ta 19), .ref (ta 21), .ref (ta 23), .ref (ta 25), .ref (ta 27), .ref (ta 29), .ref (ta 31), .ref (ta 33), .ref (ta 35)])), (ta 5, .inr (2, [.ref (ta 6), .int (nI (tn 2))]))] sz) := by
  refine vx_ofW (cc := cX10_smoke) (maxL := 3) (ret := (some .int)) (by decide) rfl ?_
  intro p9 e9 s9 m9 args9 below9 meth9 c9 s₁ B hml htab hv
  obtain ⟨rfl, hsz, hP, hK, hD0, hZ, hX⟩ := hv
  have hx := B.exec
  have hb := B.bytes
  have hr := B.returns
  have hts := ws_sub (atoms_spec (ws := WS yX10_smoke cX10_smoke 3 (some .int)) B.pre)
  have hown : s9.vm.findClass RX10 = some m9.cls := findClass_of_methodNamed B.named
  have hlocks := B.notSynchronized
  subst hsz
  have hD := hD0.self (sz := s9.heap.size)
  generalize hAe : va_A [(x, .inr (8, [.ref tp, .ref t, .ref u, .ref rd, .ref ch, .ref ci, .int (nI n), .int ep])), (t, .inr (7, [.ref (ta 1), .ref (ta 3), .ref (ta 5), .ref (ta 7), .int (nI (tn 4)), .ref (ta 9), .ref (ta 11), .ref (ta 13), .ref (ta 15), .ref (ta 17), .ref (ta 19), .ref (ta 21), .ref (ta 23), .ref (ta 25), .ref (ta 27), .ref (ta 29), .ref (ta 31), .ref (ta 33), .ref (ta 35)])), (ta 5, .inr (2, [.ref (ta 6), .int (nI (tn 2))]))] s9.heap.size = A at hD hZ hX ⊢
  have hA : ∀ q : Nat, s9.heap.size ≤ q → A q := fun q h => by rw [← hAe]; exact Or.inr h
  have hS : va_S A s9.heap s9.heap [] := va_S.rf
  have hP : va_P D CLS [(x, .inr (8, [.ref tp, .ref t, .ref u, .ref rd, .ref ch, .ref ci, .int (nI n), .int ep])), (t, .inr (7, [.ref (ta 1), .ref (ta 3), .ref (ta 5), .ref (ta 7), .int (nI (tn 4)), .ref (ta 9), .ref (ta 11), .ref (ta 13), .ref (ta 15), .ref (ta 17), .ref (ta 19), .ref (ta 21), .ref (ta 23), .ref (ta 25), .ref (ta 27), .ref (ta 29), .ref (ta 31), .ref (ta 33), .ref (ta 35)])), (ta 5, .inr (2, [.ref (ta 6), .int (nI (tn 2))]))] s9.heap := hP
  have hl := lv_entry ([.ref x, .int p0]) (n := 3) (Nat.le_of_ble_eq_true rfl)
  rw [lg_entry_eq]
  generalize (lg_sl ([.ref x, .int p0]) ++ List.replicate (3 - (lg_sl ([.ref x, .int p0])).length) Slot.unset).toArray = ls at hl ⊢
  have hl : lv_has ls 3 [(0, .ref x), (1, .int p0)] := hl
  change W p9 l9 e9 ({ frames := 7, cells := 1, slots := 6, locals := 111 } : Room) s9 m9 _ below9 meth9 c9 _ _ _ _ _ _
  refine lv_iload_n hx hb dX10_smoke_0 rfl (lv_at hl 1 rfl) ?_
  refine lv_aload_n hx hb dX10_smoke_1 rfl (lv_at hl 0 rfl) ?_
  refine va_get (D := D) (ci := 8) (v := .ref t) (C := RX10) (T := TX10) (N := 8) hx hb hts in_X10 hown hK hP 0 rfl rfl 1 (by decide) (hts _ w_467) (fun _ h9 => h9) rfl dX10_smoke_2 ?_
  refine va_getN (D := D) (ci := 7) (v := .ref (ta 5)) (C := RX9) (T := TX9) (N := 19) hx hb hts in_X9 hown hK hP 1 rfl rfl 2 (by decide) (hZ.nst.use nw_222) (fun _ h9 => h9) rfl dX10_smoke_5 ?_
  refine va_getN (D := D) (ci := 2) (v := .int (nI (tn 2))) (C := RX3) (T := TX3) (N := 2) hx hb hts in_X3 hown hK hP 2 rfl rfl 1 (by decide) (hZ.nst.use nw_175) (fun _ h9 => h9) rfl dX10_smoke_8 ?_
  refine kx_v hA hP hD hS [(x, .inr (8, [.ref tp, .ref t, .ref u, .ref rd, .ref ch, .ref ci, .int (nI n), .int ep])), (t, .inr (7, [.ref (ta 1), .ref (ta 3), .ref (ta 5), .ref (ta 7), .int (nI (tn 4)), .ref (ta 9), .ref (ta 11), .ref (ta 13), .ref (ta 15), .ref (ta 17), .ref (ta 19), .ref (ta 21), .ref (ta 23), .ref (ta 25), .ref (ta 27), .ref (ta 29), .ref (ta 31), .ref (ta 33), .ref (ta 35)])), (ta 5, .inr (2, [.ref (ta 6), .int (nI (tn 2))]))] (vx_runS (As := [.int p0, .int (nI (tn 2))]) (rest := []) ⟨hx, hb, hml, hown, hts⟩ (t_X10_checkIndex_T l9 z D g p0 (tn 2) (by first | assumption | decide | omega) (by first | assumption | decide | omega) (Array.size s9.heap)) (va_cwS 2 hts gs_X10_87 rfl rfl rfl (by decide +kernel) ⟨Nat.le_of_ble_eq_true rfl, Nat.le_of_ble_eq_true rfl⟩) ⟨kBlindX, kPreX.pc hX hK hZ hA hP hD hS [] rfl (by decide +kernel)⟩ rfl rfl hl.1 rfl (lv_room (Nat.le_of_ble_eq_true rfl)) dX10_smoke_11 ⟨Nat.le_of_ble_eq_true rfl, Nat.le_of_ble_eq_true rfl⟩) [] [0, 1, 2] rfl rfl rfl rfl (fun ce9 q9 H locs hP7 hD7 hS7 hc7 hv7 hcl7 => ?_)
  clear hP hD hS
  have hP := hP7
  have hD := hD7
  have hS := hS7
  clear hP7 hD7 hS7
  replace hP : va_P D CLS [(x, .inr (8, [.ref tp, .ref t, .ref u, .ref rd, .ref ch, .ref ci, .int (nI n), .int ep])), (t, .inr (7, [.ref (ta 1), .ref (ta 3), .ref (ta 5), .ref (ta 7), .int (nI (tn 4)), .ref (ta 9), .ref (ta 11), .ref (ta 13), .ref (ta 15), .ref (ta 17), .ref (ta 19), .ref (ta 21), .ref (ta 23), .ref (ta 25), .ref (ta 27), .ref (ta 29), .ref (ta 31), .ref (ta 33), .ref (ta 35)])), (ta 5, .inr (2, [.ref (ta 6), .int (nI (tn 2))]))] H := hP
  replace hD : va_D A [(x, .inr (8, [.ref tp, .ref t, .ref u, .ref rd, .ref ch, .ref ci, .int (nI n), .int ep])), (t, .inr (7, [.ref (ta 1), .ref (ta 3), .ref (ta 5), .ref (ta 7), .int (nI (tn 4)), .ref (ta 9), .ref (ta 11), .ref (ta 13), .ref (ta 15), .ref (ta 17), .ref (ta 19), .ref (ta 21), .ref (ta 23), .ref (ta 25), .ref (ta 27), .ref (ta 29), .ref (ta 31), .ref (ta 33), .ref (ta 35)])), (ta 5, .inr (2, [.ref (ta 6), .int (nI (tn 2))]))] := hD
  exact vx_out (fun x9 h9 => (htab x9 h9).elim) hlocks hc7 hv7 hcl7 (fun t9 ht9 ha9 => xk_X hP hK hD hS [0, 1, 2] rfl (by decide +kernel) t9 ha9 (by rw [ht9]; exact Nat.le_refl _) (fun q9 _ => by rw [ht9])) hS.2.2 (Nat.le_of_ble_eq_true rfl) (Nat.le_of_ble_eq_true rfl)
set_option maxHeartbeats 4000000 in
set_option maxRecDepth 100000 in
/-- ChoirStalls.strip, throwing -/
theorem t_X10_strip_T (l9 : Launch) (z : Nat → Nat) (D : va_G) (g : Nat → ClassId) (x : Nat) (tp : Nat) (t : Nat) (u : Nat) (rd : Nat) (ch : Nat) (ci : Nat) (n : Nat) (ep : Int32) (ta : Nat → Nat) (tn : Nat → Nat) (p0 : Int32) (hN : fIn p0 (tn 2) = false) (hfl : l9.stackTraces = false) (sz : Nat) : vx_Met l9 yX10_strip (WS yX10_strip cX10_strip 3 (some .int)) ({ frames := 7, cells := 1, slots := 6, locals := 111 }) (va_Pc [.ref x, .int p0] (kPreX z D g [(x, .inr (8, [.ref tp, .ref t, .ref u, .ref rd, .ref ch, .ref ci, .int (nI n), .int ep])), (t, .inr (7, [.ref (ta 1), .ref (ta 3), .ref (ta 5), .ref (ta 7), .int (nI (tn 4)), .ref (ta 9), .ref (ta 11), .ref (ta 13), .ref (ta 15), .ref (ta 17), .ref (ta 19), .ref (ta 21), .ref (ta 23), .ref (ta 25), .ref (ta 27), .ref (ta 29), .ref (ta 31), .ref (ta 33), .ref (ta 35)])), (ta 5, .inr (2, [.ref (ta 6), .int (nI (tn 2))]))] sz)) (va_Qi (fun (r9 : Int32) (u9 : Unit) => False) (kB D g (va_A [(x, .inr (8, [.ref tp, .ref t, .ref u, .ref rd, .ref ch, .ref ci, .int (nI n), .int ep])), (t, .inr (7, [.ref (ta 1), .ref (ta 3), .ref (ta 5), .ref (ta 7), .int (nI (tn 4)), .ref (ta 9), .ref (ta 11), .ref (ta 13), .ref (ta 15), .ref (ta 17), .ref (ta 19), .ref (ta 21), .ref (ta 23), .ref (ta 25), .ref (ta 27), .ref (ta 29), .ref (ta 31), .ref (ta 33), .ref (ta 35)])), (ta 5, .inr (2, [.ref (ta 6), .int (nI (tn 2))]))] sz) (fun (u9 : Unit) => [(x, .inr (8, [.ref tp, .ref t, .ref u, .ref rd, .ref ch, .ref ci, .int (nI n), .int ep])), (t, .inr (7, [.ref (ta 1), .ref (ta 3), .ref (ta 5), .ref (ta 7), .int (nI (tn 4)), .ref (ta 9), .ref (ta 11), .ref (ta 13), .ref (ta 15), .ref (ta 17), .ref (ta 19), .ref (ta 21), .ref (ta 23), .ref (ta 25), .ref (ta 27), .ref (ta 29), .ref (ta 31), .ref (ta 33), .ref (ta 35)])), (ta 5, .inr (2, [.ref (ta 6), .int (nI (tn 2))]))])) (va_A [(x, .inr (8, [.ref tp, .ref t, .ref u, .ref rd, .ref ch, .ref ci, .int (nI n), .int ep])), (t, .inr (7, [.ref (ta 1), .ref (ta 3), .ref (ta 5), .ref (ta 7), .int (nI (tn 4)), .ref (ta 9), .ref (ta 11), .ref (ta 13), .ref (ta 15), .ref (ta 17), .ref (ta 19), .ref (ta 21), .ref (ta 23), .ref (ta 25), .ref (ta 27), .ref (ta 29), .ref (ta 31), .ref (ta 33), .ref (ta 35)])), (ta 5, .inr (2, [.ref (ta 6), .int (nI (tn 2))]))] sz)) (vx_X (fun (_ : Unit) => True) (fun (E9 : String) (u9 : Unit) (t9 : State) => E9 = "java/lang/IndexOutOfBoundsException" ∧ kB D g (va_A [(x, .inr (8, [.ref tp, .ref t, .ref u, .ref rd, .ref ch, .ref ci, .int (nI n), .int ep])), (t, .inr (7, [.ref (ta 1), .ref (ta 3), .ref (ta 5), .ref (ta 7), .int (nI (tn 4)), .ref (ta 9), .ref (ta 11), .ref (ta 13), .ref (ta 15), .ref (ta 17), .ref (ta 19), .ref (ta 21), .ref (ta 23), .ref (ta 25), .ref (ta 27), .ref (ta 29), .ref (ta 31), .ref (ta 33), .ref (ta 35)])), (ta 5, .inr (2, [.ref (ta 6), .int (nI (tn 2))]))] sz) (fun (_ : Unit) => [(x, .inr (8, [.ref tp, .ref t, .ref u, .ref rd, .ref ch, .ref ci, .int (nI n), .int ep])), (t, .inr (7, [.ref (ta 1), .ref (ta 3), .ref (ta 5), .ref (ta 7), .int (nI (tn 4)), .ref (ta 9), .ref (ta 11), .ref (ta 13), .ref (ta 15), .ref (ta 17), .ref (ta 19), .ref (ta 21), .ref (ta 23), .ref (ta 25), .ref (ta 27), .ref (ta 29), .ref (ta 31), .ref (ta 33), .ref (ta 35)])), (ta 5, .inr (2, [.ref (ta 6), .int (nI (tn 2))]))]) u9 t9) (va_A [(x, .inr (8, [.ref tp, .ref t, .ref u, .ref rd, .ref ch, .ref ci, .int (nI n), .int ep])), (t, .inr (7, [.ref (ta 1), .ref (ta 3), .ref (ta 5), .ref (ta 7), .int (nI (tn 4)), .ref (ta 9), .ref (ta 11), .ref (ta 13), .ref (ta 15), .ref (ta 17), .ref (ta 19), .ref (ta 21), .ref (ta 23), .ref (ta 25), .ref (ta 27), .ref (ta 29), .ref (ta 31), .ref (ta 33), .ref (ta 35)])), (ta 5, .inr (2, [.ref (ta 6), .int (nI (tn 2))]))] sz)) 1 6 (va_A [(x, .inr (8, [.ref tp, .ref t, .ref u, .ref rd, .ref ch, .ref ci, .int (nI n), .int ep])), (t, .inr (7, [.ref (ta 1), .ref (ta 3), .ref (ta 5), .ref (ta 7), .int (nI (tn 4)), .ref (ta 9), .ref (ta 11), .ref (ta 13), .ref (ta 15), .ref (ta 17), .ref (ta 19), .ref (ta 21), .ref (ta 23), .ref (ta 25), .ref (ta 27), .ref (ta 29), .ref (ta 31), .ref (ta 33), .ref (ta 35)])), (ta 5, .inr (2, [.ref (ta 6), .int (nI (tn 2))]))] sz) := by
  refine vx_ofW (cc := cX10_strip) (maxL := 3) (ret := (some .int)) (by decide) rfl ?_
  intro p9 e9 s9 m9 args9 below9 meth9 c9 s₁ B hml htab hv
  obtain ⟨rfl, hsz, hP, hK, hD0, hZ, hX⟩ := hv
  have hx := B.exec
  have hb := B.bytes
  have hr := B.returns
  have hts := ws_sub (atoms_spec (ws := WS yX10_strip cX10_strip 3 (some .int)) B.pre)
  have hown : s9.vm.findClass RX10 = some m9.cls := findClass_of_methodNamed B.named
  have hlocks := B.notSynchronized
  subst hsz
  have hD := hD0.self (sz := s9.heap.size)
  generalize hAe : va_A [(x, .inr (8, [.ref tp, .ref t, .ref u, .ref rd, .ref ch, .ref ci, .int (nI n), .int ep])), (t, .inr (7, [.ref (ta 1), .ref (ta 3), .ref (ta 5), .ref (ta 7), .int (nI (tn 4)), .ref (ta 9), .ref (ta 11), .ref (ta 13), .ref (ta 15), .ref (ta 17), .ref (ta 19), .ref (ta 21), .ref (ta 23), .ref (ta 25), .ref (ta 27), .ref (ta 29), .ref (ta 31), .ref (ta 33), .ref (ta 35)])), (ta 5, .inr (2, [.ref (ta 6), .int (nI (tn 2))]))] s9.heap.size = A at hD hZ hX ⊢
  have hA : ∀ q : Nat, s9.heap.size ≤ q → A q := fun q h => by rw [← hAe]; exact Or.inr h
  have hS : va_S A s9.heap s9.heap [] := va_S.rf
  have hP : va_P D CLS [(x, .inr (8, [.ref tp, .ref t, .ref u, .ref rd, .ref ch, .ref ci, .int (nI n), .int ep])), (t, .inr (7, [.ref (ta 1), .ref (ta 3), .ref (ta 5), .ref (ta 7), .int (nI (tn 4)), .ref (ta 9), .ref (ta 11), .ref (ta 13), .ref (ta 15), .ref (ta 17), .ref (ta 19), .ref (ta 21), .ref (ta 23), .ref (ta 25), .ref (ta 27), .ref (ta 29), .ref (ta 31), .ref (ta 33), .ref (ta 35)])), (ta 5, .inr (2, [.ref (ta 6), .int (nI (tn 2))]))] s9.heap := hP
  have hl := lv_entry ([.ref x, .int p0]) (n := 3) (Nat.le_of_ble_eq_true rfl)
  rw [lg_entry_eq]
  generalize (lg_sl ([.ref x, .int p0]) ++ List.replicate (3 - (lg_sl ([.ref x, .int p0])).length) Slot.unset).toArray = ls at hl ⊢
  have hl : lv_has ls 3 [(0, .ref x), (1, .int p0)] := hl
  change W p9 l9 e9 ({ frames := 7, cells := 1, slots := 6, locals := 111 } : Room) s9 m9 _ below9 meth9 c9 _ _ _ _ _ _
  refine lv_iload_n hx hb dX10_strip_0 rfl (lv_at hl 1 rfl) ?_
  refine lv_aload_n hx hb dX10_strip_1 rfl (lv_at hl 0 rfl) ?_
  refine va_get (D := D) (ci := 8) (v := .ref t) (C := RX10) (T := TX10) (N := 8) hx hb hts in_X10 hown hK hP 0 rfl rfl 1 (by decide) (hts _ w_467) (fun _ h9 => h9) rfl dX10_strip_2 ?_
  refine va_getN (D := D) (ci := 7) (v := .ref (ta 5)) (C := RX9) (T := TX9) (N := 19) hx hb hts in_X9 hown hK hP 1 rfl rfl 2 (by decide) (hZ.nst.use nw_222) (fun _ h9 => h9) rfl dX10_strip_5 ?_
  refine va_getN (D := D) (ci := 2) (v := .int (nI (tn 2))) (C := RX3) (T := TX3) (N := 2) hx hb hts in_X3 hown hK hP 2 rfl rfl 1 (by decide) (hZ.nst.use nw_175) (fun _ h9 => h9) rfl dX10_strip_8 ?_
  refine kx_v hA hP hD hS [(x, .inr (8, [.ref tp, .ref t, .ref u, .ref rd, .ref ch, .ref ci, .int (nI n), .int ep])), (t, .inr (7, [.ref (ta 1), .ref (ta 3), .ref (ta 5), .ref (ta 7), .int (nI (tn 4)), .ref (ta 9), .ref (ta 11), .ref (ta 13), .ref (ta 15), .ref (ta 17), .ref (ta 19), .ref (ta 21), .ref (ta 23), .ref (ta 25), .ref (ta 27), .ref (ta 29), .ref (ta 31), .ref (ta 33), .ref (ta 35)])), (ta 5, .inr (2, [.ref (ta 6), .int (nI (tn 2))]))] (vx_runS (As := [.int p0, .int (nI (tn 2))]) (rest := []) ⟨hx, hb, hml, hown, hts⟩ (t_X10_checkIndex_T l9 z D g p0 (tn 2) (by first | assumption | decide | omega) (by first | assumption | decide | omega) (Array.size s9.heap)) (va_cwS 2 hts gs_X10_87 rfl rfl rfl (by decide +kernel) ⟨Nat.le_of_ble_eq_true rfl, Nat.le_of_ble_eq_true rfl⟩) ⟨kBlindX, kPreX.pc hX hK hZ hA hP hD hS [] rfl (by decide +kernel)⟩ rfl rfl hl.1 rfl (lv_room (Nat.le_of_ble_eq_true rfl)) dX10_strip_11 ⟨Nat.le_of_ble_eq_true rfl, Nat.le_of_ble_eq_true rfl⟩) [] [0, 1, 2] rfl rfl rfl rfl (fun ce9 q9 H locs hP7 hD7 hS7 hc7 hv7 hcl7 => ?_)
  clear hP hD hS
  have hP := hP7
  have hD := hD7
  have hS := hS7
  clear hP7 hD7 hS7
  replace hP : va_P D CLS [(x, .inr (8, [.ref tp, .ref t, .ref u, .ref rd, .ref ch, .ref ci, .int (nI n), .int ep])), (t, .inr (7, [.ref (ta 1), .ref (ta 3), .ref (ta 5), .ref (ta 7), .int (nI (tn 4)), .ref (ta 9), .ref (ta 11), .ref (ta 13), .ref (ta 15), .ref (ta 17), .ref (ta 19), .ref (ta 21), .ref (ta 23), .ref (ta 25), .ref (ta 27), .ref (ta 29), .ref (ta 31), .ref (ta 33), .ref (ta 35)])), (ta 5, .inr (2, [.ref (ta 6), .int (nI (tn 2))]))] H := hP
  replace hD : va_D A [(x, .inr (8, [.ref tp, .ref t, .ref u, .ref rd, .ref ch, .ref ci, .int (nI n), .int ep])), (t, .inr (7, [.ref (ta 1), .ref (ta 3), .ref (ta 5), .ref (ta 7), .int (nI (tn 4)), .ref (ta 9), .ref (ta 11), .ref (ta 13), .ref (ta 15), .ref (ta 17), .ref (ta 19), .ref (ta 21), .ref (ta 23), .ref (ta 25), .ref (ta 27), .ref (ta 29), .ref (ta 31), .ref (ta 33), .ref (ta 35)])), (ta 5, .inr (2, [.ref (ta 6), .int (nI (tn 2))]))] := hD
  exact vx_out (fun x9 h9 => (htab x9 h9).elim) hlocks hc7 hv7 hcl7 (fun t9 ht9 ha9 => xk_X hP hK hD hS [0, 1, 2] rfl (by decide +kernel) t9 ha9 (by rw [ht9]; exact Nat.le_refl _) (fun q9 _ => by rw [ht9])) hS.2.2 (Nat.le_of_ble_eq_true rfl) (Nat.le_of_ble_eq_true rfl)
set_option maxHeartbeats 4000000 in
set_option maxRecDepth 100000 in
/-- ChoirStalls.beast, throwing -/
theorem t_X10_beast_T (l9 : Launch) (z : Nat → Nat) (D : va_G) (g : Nat → ClassId) (x : Nat) (tp : Nat) (t : Nat) (u : Nat) (rd : Nat) (ch : Nat) (ci : Nat) (n : Nat) (ep : Int32) (ta : Nat → Nat) (tn : Nat → Nat) (p0 : Int32) (p1 : Int32) (hN : fIn p0 (tn 0) = false) (hfl : l9.stackTraces = false) (sz : Nat) : vx_Met l9 yX10_beast (WS yX10_beast cX10_beast 3 (some .int)) ({ frames := 7, cells := 1, slots := 6, locals := 111 }) (va_Pc [.ref x, .int p0, .int p1] (kPreX z D g [(x, .inr (8, [.ref tp, .ref t, .ref u, .ref rd, .ref ch, .ref ci, .int (nI n), .int ep])), (t, .inr (7, [.ref (ta 1), .ref (ta 3), .ref (ta 5), .ref (ta 7), .int (nI (tn 4)), .ref (ta 9), .ref (ta 11), .ref (ta 13), .ref (ta 15), .ref (ta 17), .ref (ta 19), .ref (ta 21), .ref (ta 23), .ref (ta 25), .ref (ta 27), .ref (ta 29), .ref (ta 31), .ref (ta 33), .ref (ta 35)])), (ta 1, .inr (2, [.ref (ta 2), .int (nI (tn 0))]))] sz)) (va_Qi (fun (r9 : Int32) (u9 : Unit) => False) (kB D g (va_A [(x, .inr (8, [.ref tp, .ref t, .ref u, .ref rd, .ref ch, .ref ci, .int (nI n), .int ep])), (t, .inr (7, [.ref (ta 1), .ref (ta 3), .ref (ta 5), .ref (ta 7), .int (nI (tn 4)), .ref (ta 9), .ref (ta 11), .ref (ta 13), .ref (ta 15), .ref (ta 17), .ref (ta 19), .ref (ta 21), .ref (ta 23), .ref (ta 25), .ref (ta 27), .ref (ta 29), .ref (ta 31), .ref (ta 33), .ref (ta 35)])), (ta 1, .inr (2, [.ref (ta 2), .int (nI (tn 0))]))] sz) (fun (u9 : Unit) => [(x, .inr (8, [.ref tp, .ref t, .ref u, .ref rd, .ref ch, .ref ci, .int (nI n), .int ep])), (t, .inr (7, [.ref (ta 1), .ref (ta 3), .ref (ta 5), .ref (ta 7), .int (nI (tn 4)), .ref (ta 9), .ref (ta 11), .ref (ta 13), .ref (ta 15), .ref (ta 17), .ref (ta 19), .ref (ta 21), .ref (ta 23), .ref (ta 25), .ref (ta 27), .ref (ta 29), .ref (ta 31), .ref (ta 33), .ref (ta 35)])), (ta 1, .inr (2, [.ref (ta 2), .int (nI (tn 0))]))])) (va_A [(x, .inr (8, [.ref tp, .ref t, .ref u, .ref rd, .ref ch, .ref ci, .int (nI n), .int ep])), (t, .inr (7, [.ref (ta 1), .ref (ta 3), .ref (ta 5), .ref (ta 7), .int (nI (tn 4)), .ref (ta 9), .ref (ta 11), .ref (ta 13), .ref (ta 15), .ref (ta 17), .ref (ta 19), .ref (ta 21), .ref (ta 23), .ref (ta 25), .ref (ta 27), .ref (ta 29), .ref (ta 31), .ref (ta 33), .ref (ta 35)])), (ta 1, .inr (2, [.ref (ta 2), .int (nI (tn 0))]))] sz)) (vx_X (fun (_ : Unit) => True) (fun (E9 : String) (u9 : Unit) (t9 : State) => E9 = "java/lang/IndexOutOfBoundsException" ∧ kB D g (va_A [(x, .inr (8, [.ref tp, .ref t, .ref u, .ref rd, .ref ch, .ref ci, .int (nI n), .int ep])), (t, .inr (7, [.ref (ta 1), .ref (ta 3), .ref (ta 5), .ref (ta 7), .int (nI (tn 4)), .ref (ta 9), .ref (ta 11), .ref (ta 13), .ref (ta 15), .ref (ta 17), .ref (ta 19), .ref (ta 21), .ref (ta 23), .ref (ta 25), .ref (ta 27), .ref (ta 29), .ref (ta 31), .ref (ta 33), .ref (ta 35)])), (ta 1, .inr (2, [.ref (ta 2), .int (nI (tn 0))]))] sz) (fun (_ : Unit) => [(x, .inr (8, [.ref tp, .ref t, .ref u, .ref rd, .ref ch, .ref ci, .int (nI n), .int ep])), (t, .inr (7, [.ref (ta 1), .ref (ta 3), .ref (ta 5), .ref (ta 7), .int (nI (tn 4)), .ref (ta 9), .ref (ta 11), .ref (ta 13), .ref (ta 15), .ref (ta 17), .ref (ta 19), .ref (ta 21), .ref (ta 23), .ref (ta 25), .ref (ta 27), .ref (ta 29), .ref (ta 31), .ref (ta 33), .ref (ta 35)])), (ta 1, .inr (2, [.ref (ta 2), .int (nI (tn 0))]))]) u9 t9) (va_A [(x, .inr (8, [.ref tp, .ref t, .ref u, .ref rd, .ref ch, .ref ci, .int (nI n), .int ep])), (t, .inr (7, [.ref (ta 1), .ref (ta 3), .ref (ta 5), .ref (ta 7), .int (nI (tn 4)), .ref (ta 9), .ref (ta 11), .ref (ta 13), .ref (ta 15), .ref (ta 17), .ref (ta 19), .ref (ta 21), .ref (ta 23), .ref (ta 25), .ref (ta 27), .ref (ta 29), .ref (ta 31), .ref (ta 33), .ref (ta 35)])), (ta 1, .inr (2, [.ref (ta 2), .int (nI (tn 0))]))] sz)) 1 6 (va_A [(x, .inr (8, [.ref tp, .ref t, .ref u, .ref rd, .ref ch, .ref ci, .int (nI n), .int ep])), (t, .inr (7, [.ref (ta 1), .ref (ta 3), .ref (ta 5), .ref (ta 7), .int (nI (tn 4)), .ref (ta 9), .ref (ta 11), .ref (ta 13), .ref (ta 15), .ref (ta 17), .ref (ta 19), .ref (ta 21), .ref (ta 23), .ref (ta 25), .ref (ta 27), .ref (ta 29), .ref (ta 31), .ref (ta 33), .ref (ta 35)])), (ta 1, .inr (2, [.ref (ta 2), .int (nI (tn 0))]))] sz) := by
  refine vx_ofW (cc := cX10_beast) (maxL := 3) (ret := (some .int)) (by decide) rfl ?_
  intro p9 e9 s9 m9 args9 below9 meth9 c9 s₁ B hml htab hv
  obtain ⟨rfl, hsz, hP, hK, hD0, hZ, hX⟩ := hv
  have hx := B.exec
  have hb := B.bytes
  have hr := B.returns
  have hts := ws_sub (atoms_spec (ws := WS yX10_beast cX10_beast 3 (some .int)) B.pre)
  have hown : s9.vm.findClass RX10 = some m9.cls := findClass_of_methodNamed B.named
  have hlocks := B.notSynchronized
  subst hsz
  have hD := hD0.self (sz := s9.heap.size)
  generalize hAe : va_A [(x, .inr (8, [.ref tp, .ref t, .ref u, .ref rd, .ref ch, .ref ci, .int (nI n), .int ep])), (t, .inr (7, [.ref (ta 1), .ref (ta 3), .ref (ta 5), .ref (ta 7), .int (nI (tn 4)), .ref (ta 9), .ref (ta 11), .ref (ta 13), .ref (ta 15), .ref (ta 17), .ref (ta 19), .ref (ta 21), .ref (ta 23), .ref (ta 25), .ref (ta 27), .ref (ta 29), .ref (ta 31), .ref (ta 33), .ref (ta 35)])), (ta 1, .inr (2, [.ref (ta 2), .int (nI (tn 0))]))] s9.heap.size = A at hD hZ hX ⊢
  have hA : ∀ q : Nat, s9.heap.size ≤ q → A q := fun q h => by rw [← hAe]; exact Or.inr h
  have hS : va_S A s9.heap s9.heap [] := va_S.rf
  have hP : va_P D CLS [(x, .inr (8, [.ref tp, .ref t, .ref u, .ref rd, .ref ch, .ref ci, .int (nI n), .int ep])), (t, .inr (7, [.ref (ta 1), .ref (ta 3), .ref (ta 5), .ref (ta 7), .int (nI (tn 4)), .ref (ta 9), .ref (ta 11), .ref (ta 13), .ref (ta 15), .ref (ta 17), .ref (ta 19), .ref (ta 21), .ref (ta 23), .ref (ta 25), .ref (ta 27), .ref (ta 29), .ref (ta 31), .ref (ta 33), .ref (ta 35)])), (ta 1, .inr (2, [.ref (ta 2), .int (nI (tn 0))]))] s9.heap := hP
  have hl := lv_entry ([.ref x, .int p0, .int p1]) (n := 3) (Nat.le_of_ble_eq_true rfl)
  rw [lg_entry_eq]
  generalize (lg_sl ([.ref x, .int p0, .int p1]) ++ List.replicate (3 - (lg_sl ([.ref x, .int p0, .int p1])).length) Slot.unset).toArray = ls at hl ⊢
  have hl : lv_has ls 3 [(0, .ref x), (1, .int p0), (2, .int p1)] := hl
  change W p9 l9 e9 ({ frames := 7, cells := 1, slots := 6, locals := 111 } : Room) s9 m9 _ below9 meth9 c9 _ _ _ _ _ _
  refine lv_iload_n hx hb dX10_beast_0 rfl (lv_at hl 1 rfl) ?_
  refine lv_aload_n hx hb dX10_beast_1 rfl (lv_at hl 0 rfl) ?_
  refine va_get (D := D) (ci := 8) (v := .ref t) (C := RX10) (T := TX10) (N := 8) hx hb hts in_X10 hown hK hP 0 rfl rfl 1 (by decide) (hts _ w_467) (fun _ h9 => h9) rfl dX10_beast_2 ?_
  refine va_getN (D := D) (ci := 7) (v := .ref (ta 1)) (C := RX9) (T := TX9) (N := 19) hx hb hts in_X9 hown hK hP 1 rfl rfl 0 (by decide) (hZ.nst.use nw_215) (fun _ h9 => h9) rfl dX10_beast_5 ?_
  refine va_getN (D := D) (ci := 2) (v := .int (nI (tn 0))) (C := RX3) (T := TX3) (N := 2) hx hb hts in_X3 hown hK hP 2 rfl rfl 1 (by decide) (hZ.nst.use nw_175) (fun _ h9 => h9) rfl dX10_beast_8 ?_
  refine kx_v hA hP hD hS [(x, .inr (8, [.ref tp, .ref t, .ref u, .ref rd, .ref ch, .ref ci, .int (nI n), .int ep])), (t, .inr (7, [.ref (ta 1), .ref (ta 3), .ref (ta 5), .ref (ta 7), .int (nI (tn 4)), .ref (ta 9), .ref (ta 11), .ref (ta 13), .ref (ta 15), .ref (ta 17), .ref (ta 19), .ref (ta 21), .ref (ta 23), .ref (ta 25), .ref (ta 27), .ref (ta 29), .ref (ta 31), .ref (ta 33), .ref (ta 35)])), (ta 1, .inr (2, [.ref (ta 2), .int (nI (tn 0))]))] (vx_runS (As := [.int p0, .int (nI (tn 0))]) (rest := []) ⟨hx, hb, hml, hown, hts⟩ (t_X10_checkIndex_T l9 z D g p0 (tn 0) (by first | assumption | decide | omega) (by first | assumption | decide | omega) (Array.size s9.heap)) (va_cwS 2 hts gs_X10_87 rfl rfl rfl (by decide +kernel) ⟨Nat.le_of_ble_eq_true rfl, Nat.le_of_ble_eq_true rfl⟩) ⟨kBlindX, kPreX.pc hX hK hZ hA hP hD hS [] rfl (by decide +kernel)⟩ rfl rfl hl.1 rfl (lv_room (Nat.le_of_ble_eq_true rfl)) dX10_beast_11 ⟨Nat.le_of_ble_eq_true rfl, Nat.le_of_ble_eq_true rfl⟩) [] [0, 1, 2] rfl rfl rfl rfl (fun ce9 q9 H locs hP7 hD7 hS7 hc7 hv7 hcl7 => ?_)
  clear hP hD hS
  have hP := hP7
  have hD := hD7
  have hS := hS7
  clear hP7 hD7 hS7
  replace hP : va_P D CLS [(x, .inr (8, [.ref tp, .ref t, .ref u, .ref rd, .ref ch, .ref ci, .int (nI n), .int ep])), (t, .inr (7, [.ref (ta 1), .ref (ta 3), .ref (ta 5), .ref (ta 7), .int (nI (tn 4)), .ref (ta 9), .ref (ta 11), .ref (ta 13), .ref (ta 15), .ref (ta 17), .ref (ta 19), .ref (ta 21), .ref (ta 23), .ref (ta 25), .ref (ta 27), .ref (ta 29), .ref (ta 31), .ref (ta 33), .ref (ta 35)])), (ta 1, .inr (2, [.ref (ta 2), .int (nI (tn 0))]))] H := hP
  replace hD : va_D A [(x, .inr (8, [.ref tp, .ref t, .ref u, .ref rd, .ref ch, .ref ci, .int (nI n), .int ep])), (t, .inr (7, [.ref (ta 1), .ref (ta 3), .ref (ta 5), .ref (ta 7), .int (nI (tn 4)), .ref (ta 9), .ref (ta 11), .ref (ta 13), .ref (ta 15), .ref (ta 17), .ref (ta 19), .ref (ta 21), .ref (ta 23), .ref (ta 25), .ref (ta 27), .ref (ta 29), .ref (ta 31), .ref (ta 33), .ref (ta 35)])), (ta 1, .inr (2, [.ref (ta 2), .int (nI (tn 0))]))] := hD
  exact vx_out (fun x9 h9 => (htab x9 h9).elim) hlocks hc7 hv7 hcl7 (fun t9 ht9 ha9 => xk_X hP hK hD hS [0, 1, 2] rfl (by decide +kernel) t9 ha9 (by rw [ht9]; exact Nat.le_refl _) (fun q9 _ => by rw [ht9])) hS.2.2 (Nat.le_of_ble_eq_true rfl) (Nat.le_of_ble_eq_true rfl)
set_option maxHeartbeats 4000000 in
set_option maxRecDepth 100000 in
/-- ChoirStalls.beast, throwing -/
theorem t_X10_beast_U (l9 : Launch) (z : Nat → Nat) (D : va_G) (g : Nat → ClassId) (x : Nat) (tp : Nat) (t : Nat) (u : Nat) (rd : Nat) (ch : Nat) (ci : Nat) (n : Nat) (ep : Int32) (ta : Nat → Nat) (tn : Nat → Nat) (k : Nat) (p1 : Int32) (hN : fIn p1 3 = false) (hk : k < tn 0) (hm : tn 0 ≤ 20) (hfl : l9.stackTraces = false) (sz : Nat) : vx_Met l9 yX10_beast (WS yX10_beast cX10_beast 3 (some .int)) ({ frames := 7, cells := 1, slots := 6, locals := 111 }) (va_Pc [.ref x, .int (nI k), .int p1] (kPreX z D g [(x, .inr (8, [.ref tp, .ref t, .ref u, .ref rd, .ref ch, .ref ci, .int (nI n), .int ep])), (t, .inr (7, [.ref (ta 1), .ref (ta 3), .ref (ta 5), .ref (ta 7), .int (nI (tn 4)), .ref (ta 9), .ref (ta 11), .ref (ta 13), .ref (ta 15), .ref (ta 17), .ref (ta 19), .ref (ta 21), .ref (ta 23), .ref (ta 25), .ref (ta 27), .ref (ta 29), .ref (ta 31), .ref (ta 33), .ref (ta 35)])), (ta 1, .inr (2, [.ref (ta 2), .int (nI (tn 0))]))] sz)) (va_Qi (fun (r9 : Int32) (u9 : Unit) => False) (kB D g (va_A [(x, .inr (8, [.ref tp, .ref t, .ref u, .ref rd, .ref ch, .ref ci, .int (nI n), .int ep])), (t, .inr (7, [.ref (ta 1), .ref (ta 3), .ref (ta 5), .ref (ta 7), .int (nI (tn 4)), .ref (ta 9), .ref (ta 11), .ref (ta 13), .ref (ta 15), .ref (ta 17), .ref (ta 19), .ref (ta 21), .ref (ta 23), .ref (ta 25), .ref (ta 27), .ref (ta 29), .ref (ta 31), .ref (ta 33), .ref (ta 35)])), (ta 1, .inr (2, [.ref (ta 2), .int (nI (tn 0))]))] sz) (fun (u9 : Unit) => [(x, .inr (8, [.ref tp, .ref t, .ref u, .ref rd, .ref ch, .ref ci, .int (nI n), .int ep])), (t, .inr (7, [.ref (ta 1), .ref (ta 3), .ref (ta 5), .ref (ta 7), .int (nI (tn 4)), .ref (ta 9), .ref (ta 11), .ref (ta 13), .ref (ta 15), .ref (ta 17), .ref (ta 19), .ref (ta 21), .ref (ta 23), .ref (ta 25), .ref (ta 27), .ref (ta 29), .ref (ta 31), .ref (ta 33), .ref (ta 35)])), (ta 1, .inr (2, [.ref (ta 2), .int (nI (tn 0))]))])) (va_A [(x, .inr (8, [.ref tp, .ref t, .ref u, .ref rd, .ref ch, .ref ci, .int (nI n), .int ep])), (t, .inr (7, [.ref (ta 1), .ref (ta 3), .ref (ta 5), .ref (ta 7), .int (nI (tn 4)), .ref (ta 9), .ref (ta 11), .ref (ta 13), .ref (ta 15), .ref (ta 17), .ref (ta 19), .ref (ta 21), .ref (ta 23), .ref (ta 25), .ref (ta 27), .ref (ta 29), .ref (ta 31), .ref (ta 33), .ref (ta 35)])), (ta 1, .inr (2, [.ref (ta 2), .int (nI (tn 0))]))] sz)) (vx_X (fun (_ : Unit) => True) (fun (E9 : String) (u9 : Unit) (t9 : State) => E9 = "java/lang/IndexOutOfBoundsException" ∧ kB D g (va_A [(x, .inr (8, [.ref tp, .ref t, .ref u, .ref rd, .ref ch, .ref ci, .int (nI n), .int ep])), (t, .inr (7, [.ref (ta 1), .ref (ta 3), .ref (ta 5), .ref (ta 7), .int (nI (tn 4)), .ref (ta 9), .ref (ta 11), .ref (ta 13), .ref (ta 15), .ref (ta 17), .ref (ta 19), .ref (ta 21), .ref (ta 23), .ref (ta 25), .ref (ta 27), .ref (ta 29), .ref (ta 31), .ref (ta 33), .ref (ta 35)])), (ta 1, .inr (2, [.ref (ta 2), .int (nI (tn 0))]))] sz) (fun (_ : Unit) => [(x, .inr (8, [.ref tp, .ref t, .ref u, .ref rd, .ref ch, .ref ci, .int (nI n), .int ep])), (t, .inr (7, [.ref (ta 1), .ref (ta 3), .ref (ta 5), .ref (ta 7), .int (nI (tn 4)), .ref (ta 9), .ref (ta 11), .ref (ta 13), .ref (ta 15), .ref (ta 17), .ref (ta 19), .ref (ta 21), .ref (ta 23), .ref (ta 25), .ref (ta 27), .ref (ta 29), .ref (ta 31), .ref (ta 33), .ref (ta 35)])), (ta 1, .inr (2, [.ref (ta 2), .int (nI (tn 0))]))]) u9 t9) (va_A [(x, .inr (8, [.ref tp, .ref t, .ref u, .ref rd, .ref ch, .ref ci, .int (nI n), .int ep])), (t, .inr (7, [.ref (ta 1), .ref (ta 3), .ref (ta 5), .ref (ta 7), .int (nI (tn 4)), .ref (ta 9), .ref (ta 11), .ref (ta 13), .ref (ta 15), .ref (ta 17), .ref (ta 19), .ref (ta 21), .ref (ta 23), .ref (ta 25), .ref (ta 27), .ref (ta 29), .ref (ta 31), .ref (ta 33), .ref (ta 35)])), (ta 1, .inr (2, [.ref (ta 2), .int (nI (tn 0))]))] sz)) 1 6 (va_A [(x, .inr (8, [.ref tp, .ref t, .ref u, .ref rd, .ref ch, .ref ci, .int (nI n), .int ep])), (t, .inr (7, [.ref (ta 1), .ref (ta 3), .ref (ta 5), .ref (ta 7), .int (nI (tn 4)), .ref (ta 9), .ref (ta 11), .ref (ta 13), .ref (ta 15), .ref (ta 17), .ref (ta 19), .ref (ta 21), .ref (ta 23), .ref (ta 25), .ref (ta 27), .ref (ta 29), .ref (ta 31), .ref (ta 33), .ref (ta 35)])), (ta 1, .inr (2, [.ref (ta 2), .int (nI (tn 0))]))] sz) := by
  refine vx_ofW (cc := cX10_beast) (maxL := 3) (ret := (some .int)) (by decide) rfl ?_
  intro p9 e9 s9 m9 args9 below9 meth9 c9 s₁ B hml htab hv
  obtain ⟨rfl, hsz, hP, hK, hD0, hZ, hX⟩ := hv
  have hx := B.exec
  have hb := B.bytes
  have hr := B.returns
  have hts := ws_sub (atoms_spec (ws := WS yX10_beast cX10_beast 3 (some .int)) B.pre)
  have hown : s9.vm.findClass RX10 = some m9.cls := findClass_of_methodNamed B.named
  have hlocks := B.notSynchronized
  subst hsz
  have hD := hD0.self (sz := s9.heap.size)
  generalize hAe : va_A [(x, .inr (8, [.ref tp, .ref t, .ref u, .ref rd, .ref ch, .ref ci, .int (nI n), .int ep])), (t, .inr (7, [.ref (ta 1), .ref (ta 3), .ref (ta 5), .ref (ta 7), .int (nI (tn 4)), .ref (ta 9), .ref (ta 11), .ref (ta 13), .ref (ta 15), .ref (ta 17), .ref (ta 19), .ref (ta 21), .ref (ta 23), .ref (ta 25), .ref (ta 27), .ref (ta 29), .ref (ta 31), .ref (ta 33), .ref (ta 35)])), (ta 1, .inr (2, [.ref (ta 2), .int (nI (tn 0))]))] s9.heap.size = A at hD hZ hX ⊢
  have hA : ∀ q : Nat, s9.heap.size ≤ q → A q := fun q h => by rw [← hAe]; exact Or.inr h
  have hS : va_S A s9.heap s9.heap [] := va_S.rf
  have hP : va_P D CLS [(x, .inr (8, [.ref tp, .ref t, .ref u, .ref rd, .ref ch, .ref ci, .int (nI n), .int ep])), (t, .inr (7, [.ref (ta 1), .ref (ta 3), .ref (ta 5), .ref (ta 7), .int (nI (tn 4)), .ref (ta 9), .ref (ta 11), .ref (ta 13), .ref (ta 15), .ref (ta 17), .ref (ta 19), .ref (ta 21), .ref (ta 23), .ref (ta 25), .ref (ta 27), .ref (ta 29), .ref (ta 31), .ref (ta 33), .ref (ta 35)])), (ta 1, .inr (2, [.ref (ta 2), .int (nI (tn 0))]))] s9.heap := hP
  have hl := lv_entry ([.ref x, .int (nI k), .int p1]) (n := 3) (Nat.le_of_ble_eq_true rfl)
  rw [lg_entry_eq]
  generalize (lg_sl ([.ref x, .int (nI k), .int p1]) ++ List.replicate (3 - (lg_sl ([.ref x, .int (nI k), .int p1])).length) Slot.unset).toArray = ls at hl ⊢
  have hl : lv_has ls 3 [(0, .ref x), (1, .int (nI k)), (2, .int p1)] := hl
  change W p9 l9 e9 ({ frames := 7, cells := 1, slots := 6, locals := 111 } : Room) s9 m9 _ below9 meth9 c9 _ _ _ _ _ _
  refine lv_iload_n hx hb dX10_beast_0 rfl (lv_at hl 1 rfl) ?_
  refine lv_aload_n hx hb dX10_beast_1 rfl (lv_at hl 0 rfl) ?_
  refine va_get (D := D) (ci := 8) (v := .ref t) (C := RX10) (T := TX10) (N := 8) hx hb hts in_X10 hown hK hP 0 rfl rfl 1 (by decide) (hts _ w_467) (fun _ h9 => h9) rfl dX10_beast_2 ?_
  refine va_getN (D := D) (ci := 7) (v := .ref (ta 1)) (C := RX9) (T := TX9) (N := 19) hx hb hts in_X9 hown hK hP 1 rfl rfl 0 (by decide) (hZ.nst.use nw_215) (fun _ h9 => h9) rfl dX10_beast_5 ?_
  refine va_getN (D := D) (ci := 2) (v := .int (nI (tn 0))) (C := RX3) (T := TX3) (N := 2) hx hb hts in_X3 hown hK hP 2 rfl rfl 1 (by decide) (hZ.nst.use nw_175) (fun _ h9 => h9) rfl dX10_beast_8 ?_
  refine k_v hA hP hD hS [(x, .inr (8, [.ref tp, .ref t, .ref u, .ref rd, .ref ch, .ref ci, .int (nI n), .int ep])), (t, .inr (7, [.ref (ta 1), .ref (ta 3), .ref (ta 5), .ref (ta 7), .int (nI (tn 4)), .ref (ta 9), .ref (ta 11), .ref (ta 13), .ref (ta 15), .ref (ta 17), .ref (ta 19), .ref (ta 21), .ref (ta 23), .ref (ta 25), .ref (ta 27), .ref (ta 29), .ref (ta 31), .ref (ta 33), .ref (ta 35)])), (ta 1, .inr (2, [.ref (ta 2), .int (nI (tn 0))]))] (va_runS (As := [.int (nI k), .int (nI (tn 0))]) (rest := []) ⟨hx, hb, hml, hown, hts⟩ (c_X10_checkIndex l9 z D g k (tn 0) (by first | assumption | decide | omega) (by first | assumption | decide | omega) (Array.size s9.heap)) (va_cwS 2 hts gs_X10_87 rfl rfl rfl (by decide +kernel) ⟨Nat.le_of_ble_eq_true rfl, Nat.le_of_ble_eq_true rfl⟩) ⟨kBlind, kPre.pc hK hZ hA hP hD hS [] rfl (by decide +kernel)⟩ rfl rfl hl.1 rfl (lv_room (Nat.le_of_ble_eq_true rfl)) dX10_beast_11 ⟨Nat.le_of_ble_eq_true rfl, Nat.le_of_ble_eq_true rfl⟩) [] [0, 1, 2] rfl rfl rfl rfl (fun u_1 H locs hw_11 hP7 hD7 hS7 => ?_)
  clear hP hD hS
  have hP := hP7
  have hD := hD7
  have hS := hS7
  clear hP7 hD7 hS7
  replace hP : va_P D CLS [(x, .inr (8, [.ref tp, .ref t, .ref u, .ref rd, .ref ch, .ref ci, .int (nI n), .int ep])), (t, .inr (7, [.ref (ta 1), .ref (ta 3), .ref (ta 5), .ref (ta 7), .int (nI (tn 4)), .ref (ta 9), .ref (ta 11), .ref (ta 13), .ref (ta 15), .ref (ta 17), .ref (ta 19), .ref (ta 21), .ref (ta 23), .ref (ta 25), .ref (ta 27), .ref (ta 29), .ref (ta 31), .ref (ta 33), .ref (ta 35)])), (ta 1, .inr (2, [.ref (ta 2), .int (nI (tn 0))]))] H := hP
  replace hD : va_D A [(x, .inr (8, [.ref tp, .ref t, .ref u, .ref rd, .ref ch, .ref ci, .int (nI n), .int ep])), (t, .inr (7, [.ref (ta 1), .ref (ta 3), .ref (ta 5), .ref (ta 7), .int (nI (tn 4)), .ref (ta 9), .ref (ta 11), .ref (ta 13), .ref (ta 15), .ref (ta 17), .ref (ta 19), .ref (ta 21), .ref (ta 23), .ref (ta 25), .ref (ta 27), .ref (ta 29), .ref (ta 31), .ref (ta 33), .ref (ta 35)])), (ta 1, .inr (2, [.ref (ta 2), .int (nI (tn 0))]))] := hD
  refine lv_iload_n hx hb dX10_beast_14 rfl (lv_at hl 2 rfl) ?_
  refine lv_iconst (v := 3) hx hb dX10_beast_15 (by decide) ?_
  refine kx_v hA hP hD hS [(x, .inr (8, [.ref tp, .ref t, .ref u, .ref rd, .ref ch, .ref ci, .int (nI n), .int ep])), (t, .inr (7, [.ref (ta 1), .ref (ta 3), .ref (ta 5), .ref (ta 7), .int (nI (tn 4)), .ref (ta 9), .ref (ta 11), .ref (ta 13), .ref (ta 15), .ref (ta 17), .ref (ta 19), .ref (ta 21), .ref (ta 23), .ref (ta 25), .ref (ta 27), .ref (ta 29), .ref (ta 31), .ref (ta 33), .ref (ta 35)])), (ta 1, .inr (2, [.ref (ta 2), .int (nI (tn 0))]))] (vx_runS (As := [.int p1, .int 3]) (rest := []) ⟨hx, hb, hml, hown, hts⟩ (t_X10_checkIndex_T l9 z D g p1 3 (by first | assumption | decide | omega) (by first | assumption | decide | omega) (Array.size H)) (va_cwS 2 hts gs_X10_87 rfl rfl rfl (by decide +kernel) ⟨Nat.le_of_ble_eq_true rfl, Nat.le_of_ble_eq_true rfl⟩) ⟨kBlindX, kPreX.pc hX hK hZ hA hP hD hS [] rfl (by decide +kernel)⟩ rfl rfl hl.1 rfl (lv_room (Nat.le_of_ble_eq_true rfl)) dX10_beast_16 ⟨Nat.le_of_ble_eq_true rfl, Nat.le_of_ble_eq_true rfl⟩) [] [0, 1, 2] rfl rfl rfl rfl (fun ce9 q9 H locs hP7 hD7 hS7 hc7 hv7 hcl7 => ?_)
  clear hP hD hS
  have hP := hP7
  have hD := hD7
  have hS := hS7
  clear hP7 hD7 hS7
  replace hP : va_P D CLS [(x, .inr (8, [.ref tp, .ref t, .ref u, .ref rd, .ref ch, .ref ci, .int (nI n), .int ep])), (t, .inr (7, [.ref (ta 1), .ref (ta 3), .ref (ta 5), .ref (ta 7), .int (nI (tn 4)), .ref (ta 9), .ref (ta 11), .ref (ta 13), .ref (ta 15), .ref (ta 17), .ref (ta 19), .ref (ta 21), .ref (ta 23), .ref (ta 25), .ref (ta 27), .ref (ta 29), .ref (ta 31), .ref (ta 33), .ref (ta 35)])), (ta 1, .inr (2, [.ref (ta 2), .int (nI (tn 0))]))] H := hP
  replace hD : va_D A [(x, .inr (8, [.ref tp, .ref t, .ref u, .ref rd, .ref ch, .ref ci, .int (nI n), .int ep])), (t, .inr (7, [.ref (ta 1), .ref (ta 3), .ref (ta 5), .ref (ta 7), .int (nI (tn 4)), .ref (ta 9), .ref (ta 11), .ref (ta 13), .ref (ta 15), .ref (ta 17), .ref (ta 19), .ref (ta 21), .ref (ta 23), .ref (ta 25), .ref (ta 27), .ref (ta 29), .ref (ta 31), .ref (ta 33), .ref (ta 35)])), (ta 1, .inr (2, [.ref (ta 2), .int (nI (tn 0))]))] := hD
  exact vx_out (fun x9 h9 => (htab x9 h9).elim) hlocks hc7 hv7 hcl7 (fun t9 ht9 ha9 => xk_X hP hK hD hS [0, 1, 2] rfl (by decide +kernel) t9 ha9 (by rw [ht9]; exact Nat.le_refl _) (fun q9 _ => by rw [ht9])) hS.2.2 (Nat.le_of_ble_eq_true rfl) (Nat.le_of_ble_eq_true rfl)
set_option maxHeartbeats 4000000 in
set_option maxRecDepth 100000 in
/-- ChoirStalls.carver, throwing -/
theorem t_X10_carver_T (l9 : Launch) (z : Nat → Nat) (D : va_G) (g : Nat → ClassId) (x : Nat) (tp : Nat) (t : Nat) (u : Nat) (rd : Nat) (ch : Nat) (ci : Nat) (n : Nat) (ep : Int32) (ta : Nat → Nat) (tn : Nat → Nat) (p0 : Int32) (p1 : Int32) (hN : fIn p0 (tn 1) = false) (hfl : l9.stackTraces = false) (sz : Nat) : vx_Met l9 yX10_carver (WS yX10_carver cX10_carver 3 (some .int)) ({ frames := 7, cells := 1, slots := 6, locals := 111 }) (va_Pc [.ref x, .int p0, .int p1] (kPreX z D g [(x, .inr (8, [.ref tp, .ref t, .ref u, .ref rd, .ref ch, .ref ci, .int (nI n), .int ep])), (t, .inr (7, [.ref (ta 1), .ref (ta 3), .ref (ta 5), .ref (ta 7), .int (nI (tn 4)), .ref (ta 9), .ref (ta 11), .ref (ta 13), .ref (ta 15), .ref (ta 17), .ref (ta 19), .ref (ta 21), .ref (ta 23), .ref (ta 25), .ref (ta 27), .ref (ta 29), .ref (ta 31), .ref (ta 33), .ref (ta 35)])), (ta 3, .inr (2, [.ref (ta 4), .int (nI (tn 1))]))] sz)) (va_Qi (fun (r9 : Int32) (u9 : Unit) => False) (kB D g (va_A [(x, .inr (8, [.ref tp, .ref t, .ref u, .ref rd, .ref ch, .ref ci, .int (nI n), .int ep])), (t, .inr (7, [.ref (ta 1), .ref (ta 3), .ref (ta 5), .ref (ta 7), .int (nI (tn 4)), .ref (ta 9), .ref (ta 11), .ref (ta 13), .ref (ta 15), .ref (ta 17), .ref (ta 19), .ref (ta 21), .ref (ta 23), .ref (ta 25), .ref (ta 27), .ref (ta 29), .ref (ta 31), .ref (ta 33), .ref (ta 35)])), (ta 3, .inr (2, [.ref (ta 4), .int (nI (tn 1))]))] sz) (fun (u9 : Unit) => [(x, .inr (8, [.ref tp, .ref t, .ref u, .ref rd, .ref ch, .ref ci, .int (nI n), .int ep])), (t, .inr (7, [.ref (ta 1), .ref (ta 3), .ref (ta 5), .ref (ta 7), .int (nI (tn 4)), .ref (ta 9), .ref (ta 11), .ref (ta 13), .ref (ta 15), .ref (ta 17), .ref (ta 19), .ref (ta 21), .ref (ta 23), .ref (ta 25), .ref (ta 27), .ref (ta 29), .ref (ta 31), .ref (ta 33), .ref (ta 35)])), (ta 3, .inr (2, [.ref (ta 4), .int (nI (tn 1))]))])) (va_A [(x, .inr (8, [.ref tp, .ref t, .ref u, .ref rd, .ref ch, .ref ci, .int (nI n), .int ep])), (t, .inr (7, [.ref (ta 1), .ref (ta 3), .ref (ta 5), .ref (ta 7), .int (nI (tn 4)), .ref (ta 9), .ref (ta 11), .ref (ta 13), .ref (ta 15), .ref (ta 17), .ref (ta 19), .ref (ta 21), .ref (ta 23), .ref (ta 25), .ref (ta 27), .ref (ta 29), .ref (ta 31), .ref (ta 33), .ref (ta 35)])), (ta 3, .inr (2, [.ref (ta 4), .int (nI (tn 1))]))] sz)) (vx_X (fun (_ : Unit) => True) (fun (E9 : String) (u9 : Unit) (t9 : State) => E9 = "java/lang/IndexOutOfBoundsException" ∧ kB D g (va_A [(x, .inr (8, [.ref tp, .ref t, .ref u, .ref rd, .ref ch, .ref ci, .int (nI n), .int ep])), (t, .inr (7, [.ref (ta 1), .ref (ta 3), .ref (ta 5), .ref (ta 7), .int (nI (tn 4)), .ref (ta 9), .ref (ta 11), .ref (ta 13), .ref (ta 15), .ref (ta 17), .ref (ta 19), .ref (ta 21), .ref (ta 23), .ref (ta 25), .ref (ta 27), .ref (ta 29), .ref (ta 31), .ref (ta 33), .ref (ta 35)])), (ta 3, .inr (2, [.ref (ta 4), .int (nI (tn 1))]))] sz) (fun (_ : Unit) => [(x, .inr (8, [.ref tp, .ref t, .ref u, .ref rd, .ref ch, .ref ci, .int (nI n), .int ep])), (t, .inr (7, [.ref (ta 1), .ref (ta 3), .ref (ta 5), .ref (ta 7), .int (nI (tn 4)), .ref (ta 9), .ref (ta 11), .ref (ta 13), .ref (ta 15), .ref (ta 17), .ref (ta 19), .ref (ta 21), .ref (ta 23), .ref (ta 25), .ref (ta 27), .ref (ta 29), .ref (ta 31), .ref (ta 33), .ref (ta 35)])), (ta 3, .inr (2, [.ref (ta 4), .int (nI (tn 1))]))]) u9 t9) (va_A [(x, .inr (8, [.ref tp, .ref t, .ref u, .ref rd, .ref ch, .ref ci, .int (nI n), .int ep])), (t, .inr (7, [.ref (ta 1), .ref (ta 3), .ref (ta 5), .ref (ta 7), .int (nI (tn 4)), .ref (ta 9), .ref (ta 11), .ref (ta 13), .ref (ta 15), .ref (ta 17), .ref (ta 19), .ref (ta 21), .ref (ta 23), .ref (ta 25), .ref (ta 27), .ref (ta 29), .ref (ta 31), .ref (ta 33), .ref (ta 35)])), (ta 3, .inr (2, [.ref (ta 4), .int (nI (tn 1))]))] sz)) 1 6 (va_A [(x, .inr (8, [.ref tp, .ref t, .ref u, .ref rd, .ref ch, .ref ci, .int (nI n), .int ep])), (t, .inr (7, [.ref (ta 1), .ref (ta 3), .ref (ta 5), .ref (ta 7), .int (nI (tn 4)), .ref (ta 9), .ref (ta 11), .ref (ta 13), .ref (ta 15), .ref (ta 17), .ref (ta 19), .ref (ta 21), .ref (ta 23), .ref (ta 25), .ref (ta 27), .ref (ta 29), .ref (ta 31), .ref (ta 33), .ref (ta 35)])), (ta 3, .inr (2, [.ref (ta 4), .int (nI (tn 1))]))] sz) := by
  refine vx_ofW (cc := cX10_carver) (maxL := 3) (ret := (some .int)) (by decide) rfl ?_
  intro p9 e9 s9 m9 args9 below9 meth9 c9 s₁ B hml htab hv
  obtain ⟨rfl, hsz, hP, hK, hD0, hZ, hX⟩ := hv
  have hx := B.exec
  have hb := B.bytes
  have hr := B.returns
  have hts := ws_sub (atoms_spec (ws := WS yX10_carver cX10_carver 3 (some .int)) B.pre)
  have hown : s9.vm.findClass RX10 = some m9.cls := findClass_of_methodNamed B.named
  have hlocks := B.notSynchronized
  subst hsz
  have hD := hD0.self (sz := s9.heap.size)
  generalize hAe : va_A [(x, .inr (8, [.ref tp, .ref t, .ref u, .ref rd, .ref ch, .ref ci, .int (nI n), .int ep])), (t, .inr (7, [.ref (ta 1), .ref (ta 3), .ref (ta 5), .ref (ta 7), .int (nI (tn 4)), .ref (ta 9), .ref (ta 11), .ref (ta 13), .ref (ta 15), .ref (ta 17), .ref (ta 19), .ref (ta 21), .ref (ta 23), .ref (ta 25), .ref (ta 27), .ref (ta 29), .ref (ta 31), .ref (ta 33), .ref (ta 35)])), (ta 3, .inr (2, [.ref (ta 4), .int (nI (tn 1))]))] s9.heap.size = A at hD hZ hX ⊢
  have hA : ∀ q : Nat, s9.heap.size ≤ q → A q := fun q h => by rw [← hAe]; exact Or.inr h
  have hS : va_S A s9.heap s9.heap [] := va_S.rf
  have hP : va_P D CLS [(x, .inr (8, [.ref tp, .ref t, .ref u, .ref rd, .ref ch, .ref ci, .int (nI n), .int ep])), (t, .inr (7, [.ref (ta 1), .ref (ta 3), .ref (ta 5), .ref (ta 7), .int (nI (tn 4)), .ref (ta 9), .ref (ta 11), .ref (ta 13), .ref (ta 15), .ref (ta 17), .ref (ta 19), .ref (ta 21), .ref (ta 23), .ref (ta 25), .ref (ta 27), .ref (ta 29), .ref (ta 31), .ref (ta 33), .ref (ta 35)])), (ta 3, .inr (2, [.ref (ta 4), .int (nI (tn 1))]))] s9.heap := hP
  have hl := lv_entry ([.ref x, .int p0, .int p1]) (n := 3) (Nat.le_of_ble_eq_true rfl)
  rw [lg_entry_eq]
  generalize (lg_sl ([.ref x, .int p0, .int p1]) ++ List.replicate (3 - (lg_sl ([.ref x, .int p0, .int p1])).length) Slot.unset).toArray = ls at hl ⊢
  have hl : lv_has ls 3 [(0, .ref x), (1, .int p0), (2, .int p1)] := hl
  change W p9 l9 e9 ({ frames := 7, cells := 1, slots := 6, locals := 111 } : Room) s9 m9 _ below9 meth9 c9 _ _ _ _ _ _
  refine lv_iload_n hx hb dX10_carver_0 rfl (lv_at hl 1 rfl) ?_
  refine lv_aload_n hx hb dX10_carver_1 rfl (lv_at hl 0 rfl) ?_
  refine va_get (D := D) (ci := 8) (v := .ref t) (C := RX10) (T := TX10) (N := 8) hx hb hts in_X10 hown hK hP 0 rfl rfl 1 (by decide) (hts _ w_467) (fun _ h9 => h9) rfl dX10_carver_2 ?_
  refine va_getN (D := D) (ci := 7) (v := .ref (ta 3)) (C := RX9) (T := TX9) (N := 19) hx hb hts in_X9 hown hK hP 1 rfl rfl 1 (by decide) (hZ.nst.use nw_218) (fun _ h9 => h9) rfl dX10_carver_5 ?_
  refine va_getN (D := D) (ci := 2) (v := .int (nI (tn 1))) (C := RX3) (T := TX3) (N := 2) hx hb hts in_X3 hown hK hP 2 rfl rfl 1 (by decide) (hZ.nst.use nw_175) (fun _ h9 => h9) rfl dX10_carver_8 ?_
  refine kx_v hA hP hD hS [(x, .inr (8, [.ref tp, .ref t, .ref u, .ref rd, .ref ch, .ref ci, .int (nI n), .int ep])), (t, .inr (7, [.ref (ta 1), .ref (ta 3), .ref (ta 5), .ref (ta 7), .int (nI (tn 4)), .ref (ta 9), .ref (ta 11), .ref (ta 13), .ref (ta 15), .ref (ta 17), .ref (ta 19), .ref (ta 21), .ref (ta 23), .ref (ta 25), .ref (ta 27), .ref (ta 29), .ref (ta 31), .ref (ta 33), .ref (ta 35)])), (ta 3, .inr (2, [.ref (ta 4), .int (nI (tn 1))]))] (vx_runS (As := [.int p0, .int (nI (tn 1))]) (rest := []) ⟨hx, hb, hml, hown, hts⟩ (t_X10_checkIndex_T l9 z D g p0 (tn 1) (by first | assumption | decide | omega) (by first | assumption | decide | omega) (Array.size s9.heap)) (va_cwS 2 hts gs_X10_87 rfl rfl rfl (by decide +kernel) ⟨Nat.le_of_ble_eq_true rfl, Nat.le_of_ble_eq_true rfl⟩) ⟨kBlindX, kPreX.pc hX hK hZ hA hP hD hS [] rfl (by decide +kernel)⟩ rfl rfl hl.1 rfl (lv_room (Nat.le_of_ble_eq_true rfl)) dX10_carver_11 ⟨Nat.le_of_ble_eq_true rfl, Nat.le_of_ble_eq_true rfl⟩) [] [0, 1, 2] rfl rfl rfl rfl (fun ce9 q9 H locs hP7 hD7 hS7 hc7 hv7 hcl7 => ?_)
  clear hP hD hS
  have hP := hP7
  have hD := hD7
  have hS := hS7
  clear hP7 hD7 hS7
  replace hP : va_P D CLS [(x, .inr (8, [.ref tp, .ref t, .ref u, .ref rd, .ref ch, .ref ci, .int (nI n), .int ep])), (t, .inr (7, [.ref (ta 1), .ref (ta 3), .ref (ta 5), .ref (ta 7), .int (nI (tn 4)), .ref (ta 9), .ref (ta 11), .ref (ta 13), .ref (ta 15), .ref (ta 17), .ref (ta 19), .ref (ta 21), .ref (ta 23), .ref (ta 25), .ref (ta 27), .ref (ta 29), .ref (ta 31), .ref (ta 33), .ref (ta 35)])), (ta 3, .inr (2, [.ref (ta 4), .int (nI (tn 1))]))] H := hP
  replace hD : va_D A [(x, .inr (8, [.ref tp, .ref t, .ref u, .ref rd, .ref ch, .ref ci, .int (nI n), .int ep])), (t, .inr (7, [.ref (ta 1), .ref (ta 3), .ref (ta 5), .ref (ta 7), .int (nI (tn 4)), .ref (ta 9), .ref (ta 11), .ref (ta 13), .ref (ta 15), .ref (ta 17), .ref (ta 19), .ref (ta 21), .ref (ta 23), .ref (ta 25), .ref (ta 27), .ref (ta 29), .ref (ta 31), .ref (ta 33), .ref (ta 35)])), (ta 3, .inr (2, [.ref (ta 4), .int (nI (tn 1))]))] := hD
  exact vx_out (fun x9 h9 => (htab x9 h9).elim) hlocks hc7 hv7 hcl7 (fun t9 ht9 ha9 => xk_X hP hK hD hS [0, 1, 2] rfl (by decide +kernel) t9 ha9 (by rw [ht9]; exact Nat.le_refl _) (fun q9 _ => by rw [ht9])) hS.2.2 (Nat.le_of_ble_eq_true rfl) (Nat.le_of_ble_eq_true rfl)
set_option maxHeartbeats 4000000 in
set_option maxRecDepth 100000 in
/-- ChoirStalls.carver, throwing -/
theorem t_X10_carver_U (l9 : Launch) (z : Nat → Nat) (D : va_G) (g : Nat → ClassId) (x : Nat) (tp : Nat) (t : Nat) (u : Nat) (rd : Nat) (ch : Nat) (ci : Nat) (n : Nat) (ep : Int32) (ta : Nat → Nat) (tn : Nat → Nat) (k : Nat) (p1 : Int32) (hN : fIn p1 5 = false) (hk : k < tn 1) (hm : tn 1 ≤ 20) (hfl : l9.stackTraces = false) (sz : Nat) : vx_Met l9 yX10_carver (WS yX10_carver cX10_carver 3 (some .int)) ({ frames := 7, cells := 1, slots := 6, locals := 111 }) (va_Pc [.ref x, .int (nI k), .int p1] (kPreX z D g [(x, .inr (8, [.ref tp, .ref t, .ref u, .ref rd, .ref ch, .ref ci, .int (nI n), .int ep])), (t, .inr (7, [.ref (ta 1), .ref (ta 3), .ref (ta 5), .ref (ta 7), .int (nI (tn 4)), .ref (ta 9), .ref (ta 11), .ref (ta 13), .ref (ta 15), .ref (ta 17), .ref (ta 19), .ref (ta 21), .ref (ta 23), .ref (ta 25), .ref (ta 27), .ref (ta 29), .ref (ta 31), .ref (ta 33), .ref (ta 35)])), (ta 3, .inr (2, [.ref (ta 4), .int (nI (tn 1))]))] sz)) (va_Qi (fun (r9 : Int32) (u9 : Unit) => False) (kB D g (va_A [(x, .inr (8, [.ref tp, .ref t, .ref u, .ref rd, .ref ch, .ref ci, .int (nI n), .int ep])), (t, .inr (7, [.ref (ta 1), .ref (ta 3), .ref (ta 5), .ref (ta 7), .int (nI (tn 4)), .ref (ta 9), .ref (ta 11), .ref (ta 13), .ref (ta 15), .ref (ta 17), .ref (ta 19), .ref (ta 21), .ref (ta 23), .ref (ta 25), .ref (ta 27), .ref (ta 29), .ref (ta 31), .ref (ta 33), .ref (ta 35)])), (ta 3, .inr (2, [.ref (ta 4), .int (nI (tn 1))]))] sz) (fun (u9 : Unit) => [(x, .inr (8, [.ref tp, .ref t, .ref u, .ref rd, .ref ch, .ref ci, .int (nI n), .int ep])), (t, .inr (7, [.ref (ta 1), .ref (ta 3), .ref (ta 5), .ref (ta 7), .int (nI (tn 4)), .ref (ta 9), .ref (ta 11), .ref (ta 13), .ref (ta 15), .ref (ta 17), .ref (ta 19), .ref (ta 21), .ref (ta 23), .ref (ta 25), .ref (ta 27), .ref (ta 29), .ref (ta 31), .ref (ta 33), .ref (ta 35)])), (ta 3, .inr (2, [.ref (ta 4), .int (nI (tn 1))]))])) (va_A [(x, .inr (8, [.ref tp, .ref t, .ref u, .ref rd, .ref ch, .ref ci, .int (nI n), .int ep])), (t, .inr (7, [.ref (ta 1), .ref (ta 3), .ref (ta 5), .ref (ta 7), .int (nI (tn 4)), .ref (ta 9), .ref (ta 11), .ref (ta 13), .ref (ta 15), .ref (ta 17), .ref (ta 19), .ref (ta 21), .ref (ta 23), .ref (ta 25), .ref (ta 27), .ref (ta 29), .ref (ta 31), .ref (ta 33), .ref (ta 35)])), (ta 3, .inr (2, [.ref (ta 4), .int (nI (tn 1))]))] sz)) (vx_X (fun (_ : Unit) => True) (fun (E9 : String) (u9 : Unit) (t9 : State) => E9 = "java/lang/IndexOutOfBoundsException" ∧ kB D g (va_A [(x, .inr (8, [.ref tp, .ref t, .ref u, .ref rd, .ref ch, .ref ci, .int (nI n), .int ep])), (t, .inr (7, [.ref (ta 1), .ref (ta 3), .ref (ta 5), .ref (ta 7), .int (nI (tn 4)), .ref (ta 9), .ref (ta 11), .ref (ta 13), .ref (ta 15), .ref (ta 17), .ref (ta 19), .ref (ta 21), .ref (ta 23), .ref (ta 25), .ref (ta 27), .ref (ta 29), .ref (ta 31), .ref (ta 33), .ref (ta 35)])), (ta 3, .inr (2, [.ref (ta 4), .int (nI (tn 1))]))] sz) (fun (_ : Unit) => [(x, .inr (8, [.ref tp, .ref t, .ref u, .ref rd, .ref ch, .ref ci, .int (nI n), .int ep])), (t, .inr (7, [.ref (ta 1), .ref (ta 3), .ref (ta 5), .ref (ta 7), .int (nI (tn 4)), .ref (ta 9), .ref (ta 11), .ref (ta 13), .ref (ta 15), .ref (ta 17), .ref (ta 19), .ref (ta 21), .ref (ta 23), .ref (ta 25), .ref (ta 27), .ref (ta 29), .ref (ta 31), .ref (ta 33), .ref (ta 35)])), (ta 3, .inr (2, [.ref (ta 4), .int (nI (tn 1))]))]) u9 t9) (va_A [(x, .inr (8, [.ref tp, .ref t, .ref u, .ref rd, .ref ch, .ref ci, .int (nI n), .int ep])), (t, .inr (7, [.ref (ta 1), .ref (ta 3), .ref (ta 5), .ref (ta 7), .int (nI (tn 4)), .ref (ta 9), .ref (ta 11), .ref (ta 13), .ref (ta 15), .ref (ta 17), .ref (ta 19), .ref (ta 21), .ref (ta 23), .ref (ta 25), .ref (ta 27), .ref (ta 29), .ref (ta 31), .ref (ta 33), .ref (ta 35)])), (ta 3, .inr (2, [.ref (ta 4), .int (nI (tn 1))]))] sz)) 1 6 (va_A [(x, .inr (8, [.ref tp, .ref t, .ref u, .ref rd, .ref ch, .ref ci, .int (nI n), .int ep])), (t, .inr (7, [.ref (ta 1), .ref (ta 3), .ref (ta 5), .ref (ta 7), .int (nI (tn 4)), .ref (ta 9), .ref (ta 11), .ref (ta 13), .ref (ta 15), .ref (ta 17), .ref (ta 19), .ref (ta 21), .ref (ta 23), .ref (ta 25), .ref (ta 27), .ref (ta 29), .ref (ta 31), .ref (ta 33), .ref (ta 35)])), (ta 3, .inr (2, [.ref (ta 4), .int (nI (tn 1))]))] sz) := by
  refine vx_ofW (cc := cX10_carver) (maxL := 3) (ret := (some .int)) (by decide) rfl ?_
  intro p9 e9 s9 m9 args9 below9 meth9 c9 s₁ B hml htab hv
  obtain ⟨rfl, hsz, hP, hK, hD0, hZ, hX⟩ := hv
  have hx := B.exec
  have hb := B.bytes
  have hr := B.returns
  have hts := ws_sub (atoms_spec (ws := WS yX10_carver cX10_carver 3 (some .int)) B.pre)
  have hown : s9.vm.findClass RX10 = some m9.cls := findClass_of_methodNamed B.named
  have hlocks := B.notSynchronized
  subst hsz
  have hD := hD0.self (sz := s9.heap.size)
  generalize hAe : va_A [(x, .inr (8, [.ref tp, .ref t, .ref u, .ref rd, .ref ch, .ref ci, .int (nI n), .int ep])), (t, .inr (7, [.ref (ta 1), .ref (ta 3), .ref (ta 5), .ref (ta 7), .int (nI (tn 4)), .ref (ta 9), .ref (ta 11), .ref (ta 13), .ref (ta 15), .ref (ta 17), .ref (ta 19), .ref (ta 21), .ref (ta 23), .ref (ta 25), .ref (ta 27), .ref (ta 29), .ref (ta 31), .ref (ta 33), .ref (ta 35)])), (ta 3, .inr (2, [.ref (ta 4), .int (nI (tn 1))]))] s9.heap.size = A at hD hZ hX ⊢
  have hA : ∀ q : Nat, s9.heap.size ≤ q → A q := fun q h => by rw [← hAe]; exact Or.inr h
  have hS : va_S A s9.heap s9.heap [] := va_S.rf
  have hP : va_P D CLS [(x, .inr (8, [.ref tp, .ref t, .ref u, .ref rd, .ref ch, .ref ci, .int (nI n), .int ep])), (t, .inr (7, [.ref (ta 1), .ref (ta 3), .ref (ta 5), .ref (ta 7), .int (nI (tn 4)), .ref (ta 9), .ref (ta 11), .ref (ta 13), .ref (ta 15), .ref (ta 17), .ref (ta 19), .ref (ta 21), .ref (ta 23), .ref (ta 25), .ref (ta 27), .ref (ta 29), .ref (ta 31), .ref (ta 33), .ref (ta 35)])), (ta 3, .inr (2, [.ref (ta 4), .int (nI (tn 1))]))] s9.heap := hP
  have hl := lv_entry ([.ref x, .int (nI k), .int p1]) (n := 3) (Nat.le_of_ble_eq_true rfl)
  rw [lg_entry_eq]
  generalize (lg_sl ([.ref x, .int (nI k), .int p1]) ++ List.replicate (3 - (lg_sl ([.ref x, .int (nI k), .int p1])).length) Slot.unset).toArray = ls at hl ⊢
  have hl : lv_has ls 3 [(0, .ref x), (1, .int (nI k)), (2, .int p1)] := hl
  change W p9 l9 e9 ({ frames := 7, cells := 1, slots := 6, locals := 111 } : Room) s9 m9 _ below9 meth9 c9 _ _ _ _ _ _
  refine lv_iload_n hx hb dX10_carver_0 rfl (lv_at hl 1 rfl) ?_
  refine lv_aload_n hx hb dX10_carver_1 rfl (lv_at hl 0 rfl) ?_
  refine va_get (D := D) (ci := 8) (v := .ref t) (C := RX10) (T := TX10) (N := 8) hx hb hts in_X10 hown hK hP 0 rfl rfl 1 (by decide) (hts _ w_467) (fun _ h9 => h9) rfl dX10_carver_2 ?_
  refine va_getN (D := D) (ci := 7) (v := .ref (ta 3)) (C := RX9) (T := TX9) (N := 19) hx hb hts in_X9 hown hK hP 1 rfl rfl 1 (by decide) (hZ.nst.use nw_218) (fun _ h9 => h9) rfl dX10_carver_5 ?_
  refine va_getN (D := D) (ci := 2) (v := .int (nI (tn 1))) (C := RX3) (T := TX3) (N := 2) hx hb hts in_X3 hown hK hP 2 rfl rfl 1 (by decide) (hZ.nst.use nw_175) (fun _ h9 => h9) rfl dX10_carver_8 ?_
  refine k_v hA hP hD hS [(x, .inr (8, [.ref tp, .ref t, .ref u, .ref rd, .ref ch, .ref ci, .int (nI n), .int ep])), (t, .inr (7, [.ref (ta 1), .ref (ta 3), .ref (ta 5), .ref (ta 7), .int (nI (tn 4)), .ref (ta 9), .ref (ta 11), .ref (ta 13), .ref (ta 15), .ref (ta 17), .ref (ta 19), .ref (ta 21), .ref (ta 23), .ref (ta 25), .ref (ta 27), .ref (ta 29), .ref (ta 31), .ref (ta 33), .ref (ta 35)])), (ta 3, .inr (2, [.ref (ta 4), .int (nI (tn 1))]))] (va_runS (As := [.int (nI k), .int (nI (tn 1))]) (rest := []) ⟨hx, hb, hml, hown, hts⟩ (c_X10_checkIndex l9 z D g k (tn 1) (by first | assumption | decide | omega) (by first | assumption | decide | omega) (Array.size s9.heap)) (va_cwS 2 hts gs_X10_87 rfl rfl rfl (by decide +kernel) ⟨Nat.le_of_ble_eq_true rfl, Nat.le_of_ble_eq_true rfl⟩) ⟨kBlind, kPre.pc hK hZ hA hP hD hS [] rfl (by decide +kernel)⟩ rfl rfl hl.1 rfl (lv_room (Nat.le_of_ble_eq_true rfl)) dX10_carver_11 ⟨Nat.le_of_ble_eq_true rfl, Nat.le_of_ble_eq_true rfl⟩) [] [0, 1, 2] rfl rfl rfl rfl (fun u_1 H locs hw_11 hP7 hD7 hS7 => ?_)
  clear hP hD hS
  have hP := hP7
  have hD := hD7
  have hS := hS7
  clear hP7 hD7 hS7
  replace hP : va_P D CLS [(x, .inr (8, [.ref tp, .ref t, .ref u, .ref rd, .ref ch, .ref ci, .int (nI n), .int ep])), (t, .inr (7, [.ref (ta 1), .ref (ta 3), .ref (ta 5), .ref (ta 7), .int (nI (tn 4)), .ref (ta 9), .ref (ta 11), .ref (ta 13), .ref (ta 15), .ref (ta 17), .ref (ta 19), .ref (ta 21), .ref (ta 23), .ref (ta 25), .ref (ta 27), .ref (ta 29), .ref (ta 31), .ref (ta 33), .ref (ta 35)])), (ta 3, .inr (2, [.ref (ta 4), .int (nI (tn 1))]))] H := hP
  replace hD : va_D A [(x, .inr (8, [.ref tp, .ref t, .ref u, .ref rd, .ref ch, .ref ci, .int (nI n), .int ep])), (t, .inr (7, [.ref (ta 1), .ref (ta 3), .ref (ta 5), .ref (ta 7), .int (nI (tn 4)), .ref (ta 9), .ref (ta 11), .ref (ta 13), .ref (ta 15), .ref (ta 17), .ref (ta 19), .ref (ta 21), .ref (ta 23), .ref (ta 25), .ref (ta 27), .ref (ta 29), .ref (ta 31), .ref (ta 33), .ref (ta 35)])), (ta 3, .inr (2, [.ref (ta 4), .int (nI (tn 1))]))] := hD
  refine lv_iload_n hx hb dX10_carver_14 rfl (lv_at hl 2 rfl) ?_
  refine lv_iconst (v := 5) hx hb dX10_carver_15 (by decide) ?_
  refine kx_v hA hP hD hS [(x, .inr (8, [.ref tp, .ref t, .ref u, .ref rd, .ref ch, .ref ci, .int (nI n), .int ep])), (t, .inr (7, [.ref (ta 1), .ref (ta 3), .ref (ta 5), .ref (ta 7), .int (nI (tn 4)), .ref (ta 9), .ref (ta 11), .ref (ta 13), .ref (ta 15), .ref (ta 17), .ref (ta 19), .ref (ta 21), .ref (ta 23), .ref (ta 25), .ref (ta 27), .ref (ta 29), .ref (ta 31), .ref (ta 33), .ref (ta 35)])), (ta 3, .inr (2, [.ref (ta 4), .int (nI (tn 1))]))] (vx_runS (As := [.int p1, .int 5]) (rest := []) ⟨hx, hb, hml, hown, hts⟩ (t_X10_checkIndex_T l9 z D g p1 5 (by first | assumption | decide | omega) (by first | assumption | decide | omega) (Array.size H)) (va_cwS 2 hts gs_X10_87 rfl rfl rfl (by decide +kernel) ⟨Nat.le_of_ble_eq_true rfl, Nat.le_of_ble_eq_true rfl⟩) ⟨kBlindX, kPreX.pc hX hK hZ hA hP hD hS [] rfl (by decide +kernel)⟩ rfl rfl hl.1 rfl (lv_room (Nat.le_of_ble_eq_true rfl)) dX10_carver_16 ⟨Nat.le_of_ble_eq_true rfl, Nat.le_of_ble_eq_true rfl⟩) [] [0, 1, 2] rfl rfl rfl rfl (fun ce9 q9 H locs hP7 hD7 hS7 hc7 hv7 hcl7 => ?_)
  clear hP hD hS
  have hP := hP7
  have hD := hD7
  have hS := hS7
  clear hP7 hD7 hS7
  replace hP : va_P D CLS [(x, .inr (8, [.ref tp, .ref t, .ref u, .ref rd, .ref ch, .ref ci, .int (nI n), .int ep])), (t, .inr (7, [.ref (ta 1), .ref (ta 3), .ref (ta 5), .ref (ta 7), .int (nI (tn 4)), .ref (ta 9), .ref (ta 11), .ref (ta 13), .ref (ta 15), .ref (ta 17), .ref (ta 19), .ref (ta 21), .ref (ta 23), .ref (ta 25), .ref (ta 27), .ref (ta 29), .ref (ta 31), .ref (ta 33), .ref (ta 35)])), (ta 3, .inr (2, [.ref (ta 4), .int (nI (tn 1))]))] H := hP
  replace hD : va_D A [(x, .inr (8, [.ref tp, .ref t, .ref u, .ref rd, .ref ch, .ref ci, .int (nI n), .int ep])), (t, .inr (7, [.ref (ta 1), .ref (ta 3), .ref (ta 5), .ref (ta 7), .int (nI (tn 4)), .ref (ta 9), .ref (ta 11), .ref (ta 13), .ref (ta 15), .ref (ta 17), .ref (ta 19), .ref (ta 21), .ref (ta 23), .ref (ta 25), .ref (ta 27), .ref (ta 29), .ref (ta 31), .ref (ta 33), .ref (ta 35)])), (ta 3, .inr (2, [.ref (ta 4), .int (nI (tn 1))]))] := hD
  exact vx_out (fun x9 h9 => (htab x9 h9).elim) hlocks hc7 hv7 hcl7 (fun t9 ht9 ha9 => xk_X hP hK hD hS [0, 1, 2] rfl (by decide +kernel) t9 ha9 (by rw [ht9]; exact Nat.le_refl _) (fun q9 _ => by rw [ht9])) hS.2.2 (Nat.le_of_ble_eq_true rfl) (Nat.le_of_ble_eq_true rfl)
set_option maxHeartbeats 4000000 in
set_option maxRecDepth 100000 in
/-- ChoirStalls.stall, throwing -/
theorem t_X10_stall_T (l9 : Launch) (z : Nat → Nat) (D : va_G) (g : Nat → ClassId) (x : Nat) (tp : Nat) (t : Nat) (u : Nat) (rd : Nat) (ch : Nat) (ci : Nat) (n : Nat) (ep : Int32) (ta : Nat → Nat) (tn : Nat → Nat) (p0 : Int32) (p1 : Int32) (hN : fIn p0 (tn 2) = false) (hfl : l9.stackTraces = false) (sz : Nat) : vx_Met l9 yX10_stall (WS yX10_stall cX10_stall 3 (some .int)) ({ frames := 7, cells := 1, slots := 6, locals := 111 }) (va_Pc [.ref x, .int p0, .int p1] (kPreX z D g [(x, .inr (8, [.ref tp, .ref t, .ref u, .ref rd, .ref ch, .ref ci, .int (nI n), .int ep])), (t, .inr (7, [.ref (ta 1), .ref (ta 3), .ref (ta 5), .ref (ta 7), .int (nI (tn 4)), .ref (ta 9), .ref (ta 11), .ref (ta 13), .ref (ta 15), .ref (ta 17), .ref (ta 19), .ref (ta 21), .ref (ta 23), .ref (ta 25), .ref (ta 27), .ref (ta 29), .ref (ta 31), .ref (ta 33), .ref (ta 35)])), (ta 5, .inr (2, [.ref (ta 6), .int (nI (tn 2))]))] sz)) (va_Qi (fun (r9 : Int32) (u9 : Unit) => False) (kB D g (va_A [(x, .inr (8, [.ref tp, .ref t, .ref u, .ref rd, .ref ch, .ref ci, .int (nI n), .int ep])), (t, .inr (7, [.ref (ta 1), .ref (ta 3), .ref (ta 5), .ref (ta 7), .int (nI (tn 4)), .ref (ta 9), .ref (ta 11), .ref (ta 13), .ref (ta 15), .ref (ta 17), .ref (ta 19), .ref (ta 21), .ref (ta 23), .ref (ta 25), .ref (ta 27), .ref (ta 29), .ref (ta 31), .ref (ta 33), .ref (ta 35)])), (ta 5, .inr (2, [.ref (ta 6), .int (nI (tn 2))]))] sz) (fun (u9 : Unit) => [(x, .inr (8, [.ref tp, .ref t, .ref u, .ref rd, .ref ch, .ref ci, .int (nI n), .int ep])), (t, .inr (7, [.ref (ta 1), .ref (ta 3), .ref (ta 5), .ref (ta 7), .int (nI (tn 4)), .ref (ta 9), .ref (ta 11), .ref (ta 13), .ref (ta 15), .ref (ta 17), .ref (ta 19), .ref (ta 21), .ref (ta 23), .ref (ta 25), .ref (ta 27), .ref (ta 29), .ref (ta 31), .ref (ta 33), .ref (ta 35)])), (ta 5, .inr (2, [.ref (ta 6), .int (nI (tn 2))]))])) (va_A [(x, .inr (8, [.ref tp, .ref t, .ref u, .ref rd, .ref ch, .ref ci, .int (nI n), .int ep])), (t, .inr (7, [.ref (ta 1), .ref (ta 3), .ref (ta 5), .ref (ta 7), .int (nI (tn 4)), .ref (ta 9), .ref (ta 11), .ref (ta 13), .ref (ta 15), .ref (ta 17), .ref (ta 19), .ref (ta 21), .ref (ta 23), .ref (ta 25), .ref (ta 27), .ref (ta 29), .ref (ta 31), .ref (ta 33), .ref (ta 35)])), (ta 5, .inr (2, [.ref (ta 6), .int (nI (tn 2))]))] sz)) (vx_X (fun (_ : Unit) => True) (fun (E9 : String) (u9 : Unit) (t9 : State) => E9 = "java/lang/IndexOutOfBoundsException" ∧ kB D g (va_A [(x, .inr (8, [.ref tp, .ref t, .ref u, .ref rd, .ref ch, .ref ci, .int (nI n), .int ep])), (t, .inr (7, [.ref (ta 1), .ref (ta 3), .ref (ta 5), .ref (ta 7), .int (nI (tn 4)), .ref (ta 9), .ref (ta 11), .ref (ta 13), .ref (ta 15), .ref (ta 17), .ref (ta 19), .ref (ta 21), .ref (ta 23), .ref (ta 25), .ref (ta 27), .ref (ta 29), .ref (ta 31), .ref (ta 33), .ref (ta 35)])), (ta 5, .inr (2, [.ref (ta 6), .int (nI (tn 2))]))] sz) (fun (_ : Unit) => [(x, .inr (8, [.ref tp, .ref t, .ref u, .ref rd, .ref ch, .ref ci, .int (nI n), .int ep])), (t, .inr (7, [.ref (ta 1), .ref (ta 3), .ref (ta 5), .ref (ta 7), .int (nI (tn 4)), .ref (ta 9), .ref (ta 11), .ref (ta 13), .ref (ta 15), .ref (ta 17), .ref (ta 19), .ref (ta 21), .ref (ta 23), .ref (ta 25), .ref (ta 27), .ref (ta 29), .ref (ta 31), .ref (ta 33), .ref (ta 35)])), (ta 5, .inr (2, [.ref (ta 6), .int (nI (tn 2))]))]) u9 t9) (va_A [(x, .inr (8, [.ref tp, .ref t, .ref u, .ref rd, .ref ch, .ref ci, .int (nI n), .int ep])), (t, .inr (7, [.ref (ta 1), .ref (ta 3), .ref (ta 5), .ref (ta 7), .int (nI (tn 4)), .ref (ta 9), .ref (ta 11), .ref (ta 13), .ref (ta 15), .ref (ta 17), .ref (ta 19), .ref (ta 21), .ref (ta 23), .ref (ta 25), .ref (ta 27), .ref (ta 29), .ref (ta 31), .ref (ta 33), .ref (ta 35)])), (ta 5, .inr (2, [.ref (ta 6), .int (nI (tn 2))]))] sz)) 1 6 (va_A [(x, .inr (8, [.ref tp, .ref t, .ref u, .ref rd, .ref ch, .ref ci, .int (nI n), .int ep])), (t, .inr (7, [.ref (ta 1), .ref (ta 3), .ref (ta 5), .ref (ta 7), .int (nI (tn 4)), .ref (ta 9), .ref (ta 11), .ref (ta 13), .ref (ta 15), .ref (ta 17), .ref (ta 19), .ref (ta 21), .ref (ta 23), .ref (ta 25), .ref (ta 27), .ref (ta 29), .ref (ta 31), .ref (ta 33), .ref (ta 35)])), (ta 5, .inr (2, [.ref (ta 6), .int (nI (tn 2))]))] sz) := by
  refine vx_ofW (cc := cX10_stall) (maxL := 3) (ret := (some .int)) (by decide) rfl ?_
  intro p9 e9 s9 m9 args9 below9 meth9 c9 s₁ B hml htab hv
  obtain ⟨rfl, hsz, hP, hK, hD0, hZ, hX⟩ := hv
  have hx := B.exec
  have hb := B.bytes
  have hr := B.returns
  have hts := ws_sub (atoms_spec (ws := WS yX10_stall cX10_stall 3 (some .int)) B.pre)
  have hown : s9.vm.findClass RX10 = some m9.cls := findClass_of_methodNamed B.named
  have hlocks := B.notSynchronized
  subst hsz
  have hD := hD0.self (sz := s9.heap.size)
  generalize hAe : va_A [(x, .inr (8, [.ref tp, .ref t, .ref u, .ref rd, .ref ch, .ref ci, .int (nI n), .int ep])), (t, .inr (7, [.ref (ta 1), .ref (ta 3), .ref (ta 5), .ref (ta 7), .int (nI (tn 4)), .ref (ta 9), .ref (ta 11), .ref (ta 13), .ref (ta 15), .ref (ta 17), .ref (ta 19), .ref (ta 21), .ref (ta 23), .ref (ta 25), .ref (ta 27), .ref (ta 29), .ref (ta 31), .ref (ta 33), .ref (ta 35)])), (ta 5, .inr (2, [.ref (ta 6), .int (nI (tn 2))]))] s9.heap.size = A at hD hZ hX ⊢
  have hA : ∀ q : Nat, s9.heap.size ≤ q → A q := fun q h => by rw [← hAe]; exact Or.inr h
  have hS : va_S A s9.heap s9.heap [] := va_S.rf
  have hP : va_P D CLS [(x, .inr (8, [.ref tp, .ref t, .ref u, .ref rd, .ref ch, .ref ci, .int (nI n), .int ep])), (t, .inr (7, [.ref (ta 1), .ref (ta 3), .ref (ta 5), .ref (ta 7), .int (nI (tn 4)), .ref (ta 9), .ref (ta 11), .ref (ta 13), .ref (ta 15), .ref (ta 17), .ref (ta 19), .ref (ta 21), .ref (ta 23), .ref (ta 25), .ref (ta 27), .ref (ta 29), .ref (ta 31), .ref (ta 33), .ref (ta 35)])), (ta 5, .inr (2, [.ref (ta 6), .int (nI (tn 2))]))] s9.heap := hP
  have hl := lv_entry ([.ref x, .int p0, .int p1]) (n := 3) (Nat.le_of_ble_eq_true rfl)
  rw [lg_entry_eq]
  generalize (lg_sl ([.ref x, .int p0, .int p1]) ++ List.replicate (3 - (lg_sl ([.ref x, .int p0, .int p1])).length) Slot.unset).toArray = ls at hl ⊢
  have hl : lv_has ls 3 [(0, .ref x), (1, .int p0), (2, .int p1)] := hl
  change W p9 l9 e9 ({ frames := 7, cells := 1, slots := 6, locals := 111 } : Room) s9 m9 _ below9 meth9 c9 _ _ _ _ _ _
  refine lv_iload_n hx hb dX10_stall_0 rfl (lv_at hl 1 rfl) ?_
  refine lv_aload_n hx hb dX10_stall_1 rfl (lv_at hl 0 rfl) ?_
  refine va_get (D := D) (ci := 8) (v := .ref t) (C := RX10) (T := TX10) (N := 8) hx hb hts in_X10 hown hK hP 0 rfl rfl 1 (by decide) (hts _ w_467) (fun _ h9 => h9) rfl dX10_stall_2 ?_
  refine va_getN (D := D) (ci := 7) (v := .ref (ta 5)) (C := RX9) (T := TX9) (N := 19) hx hb hts in_X9 hown hK hP 1 rfl rfl 2 (by decide) (hZ.nst.use nw_222) (fun _ h9 => h9) rfl dX10_stall_5 ?_
  refine va_getN (D := D) (ci := 2) (v := .int (nI (tn 2))) (C := RX3) (T := TX3) (N := 2) hx hb hts in_X3 hown hK hP 2 rfl rfl 1 (by decide) (hZ.nst.use nw_175) (fun _ h9 => h9) rfl dX10_stall_8 ?_
  refine kx_v hA hP hD hS [(x, .inr (8, [.ref tp, .ref t, .ref u, .ref rd, .ref ch, .ref ci, .int (nI n), .int ep])), (t, .inr (7, [.ref (ta 1), .ref (ta 3), .ref (ta 5), .ref (ta 7), .int (nI (tn 4)), .ref (ta 9), .ref (ta 11), .ref (ta 13), .ref (ta 15), .ref (ta 17), .ref (ta 19), .ref (ta 21), .ref (ta 23), .ref (ta 25), .ref (ta 27), .ref (ta 29), .ref (ta 31), .ref (ta 33), .ref (ta 35)])), (ta 5, .inr (2, [.ref (ta 6), .int (nI (tn 2))]))] (vx_runS (As := [.int p0, .int (nI (tn 2))]) (rest := []) ⟨hx, hb, hml, hown, hts⟩ (t_X10_checkIndex_T l9 z D g p0 (tn 2) (by first | assumption | decide | omega) (by first | assumption | decide | omega) (Array.size s9.heap)) (va_cwS 2 hts gs_X10_87 rfl rfl rfl (by decide +kernel) ⟨Nat.le_of_ble_eq_true rfl, Nat.le_of_ble_eq_true rfl⟩) ⟨kBlindX, kPreX.pc hX hK hZ hA hP hD hS [] rfl (by decide +kernel)⟩ rfl rfl hl.1 rfl (lv_room (Nat.le_of_ble_eq_true rfl)) dX10_stall_11 ⟨Nat.le_of_ble_eq_true rfl, Nat.le_of_ble_eq_true rfl⟩) [] [0, 1, 2] rfl rfl rfl rfl (fun ce9 q9 H locs hP7 hD7 hS7 hc7 hv7 hcl7 => ?_)
  clear hP hD hS
  have hP := hP7
  have hD := hD7
  have hS := hS7
  clear hP7 hD7 hS7
  replace hP : va_P D CLS [(x, .inr (8, [.ref tp, .ref t, .ref u, .ref rd, .ref ch, .ref ci, .int (nI n), .int ep])), (t, .inr (7, [.ref (ta 1), .ref (ta 3), .ref (ta 5), .ref (ta 7), .int (nI (tn 4)), .ref (ta 9), .ref (ta 11), .ref (ta 13), .ref (ta 15), .ref (ta 17), .ref (ta 19), .ref (ta 21), .ref (ta 23), .ref (ta 25), .ref (ta 27), .ref (ta 29), .ref (ta 31), .ref (ta 33), .ref (ta 35)])), (ta 5, .inr (2, [.ref (ta 6), .int (nI (tn 2))]))] H := hP
  replace hD : va_D A [(x, .inr (8, [.ref tp, .ref t, .ref u, .ref rd, .ref ch, .ref ci, .int (nI n), .int ep])), (t, .inr (7, [.ref (ta 1), .ref (ta 3), .ref (ta 5), .ref (ta 7), .int (nI (tn 4)), .ref (ta 9), .ref (ta 11), .ref (ta 13), .ref (ta 15), .ref (ta 17), .ref (ta 19), .ref (ta 21), .ref (ta 23), .ref (ta 25), .ref (ta 27), .ref (ta 29), .ref (ta 31), .ref (ta 33), .ref (ta 35)])), (ta 5, .inr (2, [.ref (ta 6), .int (nI (tn 2))]))] := hD
  exact vx_out (fun x9 h9 => (htab x9 h9).elim) hlocks hc7 hv7 hcl7 (fun t9 ht9 ha9 => xk_X hP hK hD hS [0, 1, 2] rfl (by decide +kernel) t9 ha9 (by rw [ht9]; exact Nat.le_refl _) (fun q9 _ => by rw [ht9])) hS.2.2 (Nat.le_of_ble_eq_true rfl) (Nat.le_of_ble_eq_true rfl)
set_option maxHeartbeats 4000000 in
set_option maxRecDepth 100000 in
/-- ChoirStalls.stall, throwing -/
theorem t_X10_stall_U (l9 : Launch) (z : Nat → Nat) (D : va_G) (g : Nat → ClassId) (x : Nat) (tp : Nat) (t : Nat) (u : Nat) (rd : Nat) (ch : Nat) (ci : Nat) (n : Nat) (ep : Int32) (ta : Nat → Nat) (tn : Nat → Nat) (k : Nat) (p1 : Int32) (hN : fIn p1 7 = false) (hk : k < tn 2) (hm : tn 2 ≤ 20) (hfl : l9.stackTraces = false) (sz : Nat) : vx_Met l9 yX10_stall (WS yX10_stall cX10_stall 3 (some .int)) ({ frames := 7, cells := 1, slots := 6, locals := 111 }) (va_Pc [.ref x, .int (nI k), .int p1] (kPreX z D g [(x, .inr (8, [.ref tp, .ref t, .ref u, .ref rd, .ref ch, .ref ci, .int (nI n), .int ep])), (t, .inr (7, [.ref (ta 1), .ref (ta 3), .ref (ta 5), .ref (ta 7), .int (nI (tn 4)), .ref (ta 9), .ref (ta 11), .ref (ta 13), .ref (ta 15), .ref (ta 17), .ref (ta 19), .ref (ta 21), .ref (ta 23), .ref (ta 25), .ref (ta 27), .ref (ta 29), .ref (ta 31), .ref (ta 33), .ref (ta 35)])), (ta 5, .inr (2, [.ref (ta 6), .int (nI (tn 2))]))] sz)) (va_Qi (fun (r9 : Int32) (u9 : Unit) => False) (kB D g (va_A [(x, .inr (8, [.ref tp, .ref t, .ref u, .ref rd, .ref ch, .ref ci, .int (nI n), .int ep])), (t, .inr (7, [.ref (ta 1), .ref (ta 3), .ref (ta 5), .ref (ta 7), .int (nI (tn 4)), .ref (ta 9), .ref (ta 11), .ref (ta 13), .ref (ta 15), .ref (ta 17), .ref (ta 19), .ref (ta 21), .ref (ta 23), .ref (ta 25), .ref (ta 27), .ref (ta 29), .ref (ta 31), .ref (ta 33), .ref (ta 35)])), (ta 5, .inr (2, [.ref (ta 6), .int (nI (tn 2))]))] sz) (fun (u9 : Unit) => [(x, .inr (8, [.ref tp, .ref t, .ref u, .ref rd, .ref ch, .ref ci, .int (nI n), .int ep])), (t, .inr (7, [.ref (ta 1), .ref (ta 3), .ref (ta 5), .ref (ta 7), .int (nI (tn 4)), .ref (ta 9), .ref (ta 11), .ref (ta 13), .ref (ta 15), .ref (ta 17), .ref (ta 19), .ref (ta 21), .ref (ta 23), .ref (ta 25), .ref (ta 27), .ref (ta 29), .ref (ta 31), .ref (ta 33), .ref (ta 35)])), (ta 5, .inr (2, [.ref (ta 6), .int (nI (tn 2))]))])) (va_A [(x, .inr (8, [.ref tp, .ref t, .ref u, .ref rd, .ref ch, .ref ci, .int (nI n), .int ep])), (t, .inr (7, [.ref (ta 1), .ref (ta 3), .ref (ta 5), .ref (ta 7), .int (nI (tn 4)), .ref (ta 9), .ref (ta 11), .ref (ta 13), .ref (ta 15), .ref (ta 17), .ref (ta 19), .ref (ta 21), .ref (ta 23), .ref (ta 25), .ref (ta 27), .ref (ta 29), .ref (ta 31), .ref (ta 33), .ref (ta 35)])), (ta 5, .inr (2, [.ref (ta 6), .int (nI (tn 2))]))] sz)) (vx_X (fun (_ : Unit) => True) (fun (E9 : String) (u9 : Unit) (t9 : State) => E9 = "java/lang/IndexOutOfBoundsException" ∧ kB D g (va_A [(x, .inr (8, [.ref tp, .ref t, .ref u, .ref rd, .ref ch, .ref ci, .int (nI n), .int ep])), (t, .inr (7, [.ref (ta 1), .ref (ta 3), .ref (ta 5), .ref (ta 7), .int (nI (tn 4)), .ref (ta 9), .ref (ta 11), .ref (ta 13), .ref (ta 15), .ref (ta 17), .ref (ta 19), .ref (ta 21), .ref (ta 23), .ref (ta 25), .ref (ta 27), .ref (ta 29), .ref (ta 31), .ref (ta 33), .ref (ta 35)])), (ta 5, .inr (2, [.ref (ta 6), .int (nI (tn 2))]))] sz) (fun (_ : Unit) => [(x, .inr (8, [.ref tp, .ref t, .ref u, .ref rd, .ref ch, .ref ci, .int (nI n), .int ep])), (t, .inr (7, [.ref (ta 1), .ref (ta 3), .ref (ta 5), .ref (ta 7), .int (nI (tn 4)), .ref (ta 9), .ref (ta 11), .ref (ta 13), .ref (ta 15), .ref (ta 17), .ref (ta 19), .ref (ta 21), .ref (ta 23), .ref (ta 25), .ref (ta 27), .ref (ta 29), .ref (ta 31), .ref (ta 33), .ref (ta 35)])), (ta 5, .inr (2, [.ref (ta 6), .int (nI (tn 2))]))]) u9 t9) (va_A [(x, .inr (8, [.ref tp, .ref t, .ref u, .ref rd, .ref ch, .ref ci, .int (nI n), .int ep])), (t, .inr (7, [.ref (ta 1), .ref (ta 3), .ref (ta 5), .ref (ta 7), .int (nI (tn 4)), .ref (ta 9), .ref (ta 11), .ref (ta 13), .ref (ta 15), .ref (ta 17), .ref (ta 19), .ref (ta 21), .ref (ta 23), .ref (ta 25), .ref (ta 27), .ref (ta 29), .ref (ta 31), .ref (ta 33), .ref (ta 35)])), (ta 5, .inr (2, [.ref (ta 6), .int (nI (tn 2))]))] sz)) 1 6 (va_A [(x, .inr (8, [.ref tp, .ref t, .ref u, .ref rd, .ref ch, .ref ci, .int (nI n), .int ep])), (t, .inr (7, [.ref (ta 1), .ref (ta 3), .ref (ta 5), .ref (ta 7), .int (nI (tn 4)), .ref (ta 9), .ref (ta 11), .ref (ta 13), .ref (ta 15), .ref (ta 17), .ref (ta 19), .ref (ta 21), .ref (ta 23), .ref (ta 25), .ref (ta 27), .ref (ta 29), .ref (ta 31), .ref (ta 33), .ref (ta 35)])), (ta 5, .inr (2, [.ref (ta 6), .int (nI (tn 2))]))] sz) := by
  refine vx_ofW (cc := cX10_stall) (maxL := 3) (ret := (some .int)) (by decide) rfl ?_
  intro p9 e9 s9 m9 args9 below9 meth9 c9 s₁ B hml htab hv
  obtain ⟨rfl, hsz, hP, hK, hD0, hZ, hX⟩ := hv
  have hx := B.exec
  have hb := B.bytes
  have hr := B.returns
  have hts := ws_sub (atoms_spec (ws := WS yX10_stall cX10_stall 3 (some .int)) B.pre)
  have hown : s9.vm.findClass RX10 = some m9.cls := findClass_of_methodNamed B.named
  have hlocks := B.notSynchronized
  subst hsz
  have hD := hD0.self (sz := s9.heap.size)
  generalize hAe : va_A [(x, .inr (8, [.ref tp, .ref t, .ref u, .ref rd, .ref ch, .ref ci, .int (nI n), .int ep])), (t, .inr (7, [.ref (ta 1), .ref (ta 3), .ref (ta 5), .ref (ta 7), .int (nI (tn 4)), .ref (ta 9), .ref (ta 11), .ref (ta 13), .ref (ta 15), .ref (ta 17), .ref (ta 19), .ref (ta 21), .ref (ta 23), .ref (ta 25), .ref (ta 27), .ref (ta 29), .ref (ta 31), .ref (ta 33), .ref (ta 35)])), (ta 5, .inr (2, [.ref (ta 6), .int (nI (tn 2))]))] s9.heap.size = A at hD hZ hX ⊢
  have hA : ∀ q : Nat, s9.heap.size ≤ q → A q := fun q h => by rw [← hAe]; exact Or.inr h
  have hS : va_S A s9.heap s9.heap [] := va_S.rf
  have hP : va_P D CLS [(x, .inr (8, [.ref tp, .ref t, .ref u, .ref rd, .ref ch, .ref ci, .int (nI n), .int ep])), (t, .inr (7, [.ref (ta 1), .ref (ta 3), .ref (ta 5), .ref (ta 7), .int (nI (tn 4)), .ref (ta 9), .ref (ta 11), .ref (ta 13), .ref (ta 15), .ref (ta 17), .ref (ta 19), .ref (ta 21), .ref (ta 23), .ref (ta 25), .ref (ta 27), .ref (ta 29), .ref (ta 31), .ref (ta 33), .ref (ta 35)])), (ta 5, .inr (2, [.ref (ta 6), .int (nI (tn 2))]))] s9.heap := hP
  have hl := lv_entry ([.ref x, .int (nI k), .int p1]) (n := 3) (Nat.le_of_ble_eq_true rfl)
  rw [lg_entry_eq]
  generalize (lg_sl ([.ref x, .int (nI k), .int p1]) ++ List.replicate (3 - (lg_sl ([.ref x, .int (nI k), .int p1])).length) Slot.unset).toArray = ls at hl ⊢
  have hl : lv_has ls 3 [(0, .ref x), (1, .int (nI k)), (2, .int p1)] := hl
  change W p9 l9 e9 ({ frames := 7, cells := 1, slots := 6, locals := 111 } : Room) s9 m9 _ below9 meth9 c9 _ _ _ _ _ _
  refine lv_iload_n hx hb dX10_stall_0 rfl (lv_at hl 1 rfl) ?_
  refine lv_aload_n hx hb dX10_stall_1 rfl (lv_at hl 0 rfl) ?_
  refine va_get (D := D) (ci := 8) (v := .ref t) (C := RX10) (T := TX10) (N := 8) hx hb hts in_X10 hown hK hP 0 rfl rfl 1 (by decide) (hts _ w_467) (fun _ h9 => h9) rfl dX10_stall_2 ?_
  refine va_getN (D := D) (ci := 7) (v := .ref (ta 5)) (C := RX9) (T := TX9) (N := 19) hx hb hts in_X9 hown hK hP 1 rfl rfl 2 (by decide) (hZ.nst.use nw_222) (fun _ h9 => h9) rfl dX10_stall_5 ?_
  refine va_getN (D := D) (ci := 2) (v := .int (nI (tn 2))) (C := RX3) (T := TX3) (N := 2) hx hb hts in_X3 hown hK hP 2 rfl rfl 1 (by decide) (hZ.nst.use nw_175) (fun _ h9 => h9) rfl dX10_stall_8 ?_
  refine k_v hA hP hD hS [(x, .inr (8, [.ref tp, .ref t, .ref u, .ref rd, .ref ch, .ref ci, .int (nI n), .int ep])), (t, .inr (7, [.ref (ta 1), .ref (ta 3), .ref (ta 5), .ref (ta 7), .int (nI (tn 4)), .ref (ta 9), .ref (ta 11), .ref (ta 13), .ref (ta 15), .ref (ta 17), .ref (ta 19), .ref (ta 21), .ref (ta 23), .ref (ta 25), .ref (ta 27), .ref (ta 29), .ref (ta 31), .ref (ta 33), .ref (ta 35)])), (ta 5, .inr (2, [.ref (ta 6), .int (nI (tn 2))]))] (va_runS (As := [.int (nI k), .int (nI (tn 2))]) (rest := []) ⟨hx, hb, hml, hown, hts⟩ (c_X10_checkIndex l9 z D g k (tn 2) (by first | assumption | decide | omega) (by first | assumption | decide | omega) (Array.size s9.heap)) (va_cwS 2 hts gs_X10_87 rfl rfl rfl (by decide +kernel) ⟨Nat.le_of_ble_eq_true rfl, Nat.le_of_ble_eq_true rfl⟩) ⟨kBlind, kPre.pc hK hZ hA hP hD hS [] rfl (by decide +kernel)⟩ rfl rfl hl.1 rfl (lv_room (Nat.le_of_ble_eq_true rfl)) dX10_stall_11 ⟨Nat.le_of_ble_eq_true rfl, Nat.le_of_ble_eq_true rfl⟩) [] [0, 1, 2] rfl rfl rfl rfl (fun u_1 H locs hw_11 hP7 hD7 hS7 => ?_)
  clear hP hD hS
  have hP := hP7
  have hD := hD7
  have hS := hS7
  clear hP7 hD7 hS7
  replace hP : va_P D CLS [(x, .inr (8, [.ref tp, .ref t, .ref u, .ref rd, .ref ch, .ref ci, .int (nI n), .int ep])), (t, .inr (7, [.ref (ta 1), .ref (ta 3), .ref (ta 5), .ref (ta 7), .int (nI (tn 4)), .ref (ta 9), .ref (ta 11), .ref (ta 13), .ref (ta 15), .ref (ta 17), .ref (ta 19), .ref (ta 21), .ref (ta 23), .ref (ta 25), .ref (ta 27), .ref (ta 29), .ref (ta 31), .ref (ta 33), .ref (ta 35)])), (ta 5, .inr (2, [.ref (ta 6), .int (nI (tn 2))]))] H := hP
  replace hD : va_D A [(x, .inr (8, [.ref tp, .ref t, .ref u, .ref rd, .ref ch, .ref ci, .int (nI n), .int ep])), (t, .inr (7, [.ref (ta 1), .ref (ta 3), .ref (ta 5), .ref (ta 7), .int (nI (tn 4)), .ref (ta 9), .ref (ta 11), .ref (ta 13), .ref (ta 15), .ref (ta 17), .ref (ta 19), .ref (ta 21), .ref (ta 23), .ref (ta 25), .ref (ta 27), .ref (ta 29), .ref (ta 31), .ref (ta 33), .ref (ta 35)])), (ta 5, .inr (2, [.ref (ta 6), .int (nI (tn 2))]))] := hD
  refine lv_iload_n hx hb dX10_stall_14 rfl (lv_at hl 2 rfl) ?_
  refine lv_bipush (v := 7) hx hb dX10_stall_15 (by decide) ?_
  refine kx_v hA hP hD hS [(x, .inr (8, [.ref tp, .ref t, .ref u, .ref rd, .ref ch, .ref ci, .int (nI n), .int ep])), (t, .inr (7, [.ref (ta 1), .ref (ta 3), .ref (ta 5), .ref (ta 7), .int (nI (tn 4)), .ref (ta 9), .ref (ta 11), .ref (ta 13), .ref (ta 15), .ref (ta 17), .ref (ta 19), .ref (ta 21), .ref (ta 23), .ref (ta 25), .ref (ta 27), .ref (ta 29), .ref (ta 31), .ref (ta 33), .ref (ta 35)])), (ta 5, .inr (2, [.ref (ta 6), .int (nI (tn 2))]))] (vx_runS (As := [.int p1, .int 7]) (rest := []) ⟨hx, hb, hml, hown, hts⟩ (t_X10_checkIndex_T l9 z D g p1 7 (by first | assumption | decide | omega) (by first | assumption | decide | omega) (Array.size H)) (va_cwS 2 hts gs_X10_87 rfl rfl rfl (by decide +kernel) ⟨Nat.le_of_ble_eq_true rfl, Nat.le_of_ble_eq_true rfl⟩) ⟨kBlindX, kPreX.pc hX hK hZ hA hP hD hS [] rfl (by decide +kernel)⟩ rfl rfl hl.1 rfl (lv_room (Nat.le_of_ble_eq_true rfl)) dX10_stall_17 ⟨Nat.le_of_ble_eq_true rfl, Nat.le_of_ble_eq_true rfl⟩) [] [0, 1, 2] rfl rfl rfl rfl (fun ce9 q9 H locs hP7 hD7 hS7 hc7 hv7 hcl7 => ?_)
  clear hP hD hS
  have hP := hP7
  have hD := hD7
  have hS := hS7
  clear hP7 hD7 hS7
  replace hP : va_P D CLS [(x, .inr (8, [.ref tp, .ref t, .ref u, .ref rd, .ref ch, .ref ci, .int (nI n), .int ep])), (t, .inr (7, [.ref (ta 1), .ref (ta 3), .ref (ta 5), .ref (ta 7), .int (nI (tn 4)), .ref (ta 9), .ref (ta 11), .ref (ta 13), .ref (ta 15), .ref (ta 17), .ref (ta 19), .ref (ta 21), .ref (ta 23), .ref (ta 25), .ref (ta 27), .ref (ta 29), .ref (ta 31), .ref (ta 33), .ref (ta 35)])), (ta 5, .inr (2, [.ref (ta 6), .int (nI (tn 2))]))] H := hP
  replace hD : va_D A [(x, .inr (8, [.ref tp, .ref t, .ref u, .ref rd, .ref ch, .ref ci, .int (nI n), .int ep])), (t, .inr (7, [.ref (ta 1), .ref (ta 3), .ref (ta 5), .ref (ta 7), .int (nI (tn 4)), .ref (ta 9), .ref (ta 11), .ref (ta 13), .ref (ta 15), .ref (ta 17), .ref (ta 19), .ref (ta 21), .ref (ta 23), .ref (ta 25), .ref (ta 27), .ref (ta 29), .ref (ta 31), .ref (ta 33), .ref (ta 35)])), (ta 5, .inr (2, [.ref (ta 6), .int (nI (tn 2))]))] := hD
  exact vx_out (fun x9 h9 => (htab x9 h9).elim) hlocks hc7 hv7 hcl7 (fun t9 ht9 ha9 => xk_X hP hK hD hS [0, 1, 2] rfl (by decide +kernel) t9 ha9 (by rw [ht9]; exact Nat.le_refl _) (fun q9 _ => by rw [ht9])) hS.2.2 (Nat.le_of_ble_eq_true rfl) (Nat.le_of_ble_eq_true rfl)
set_option maxHeartbeats 4000000 in
set_option maxRecDepth 100000 in
/-- ChoirStalls.until, throwing -/
theorem t_X10_until_T (l9 : Launch) (z : Nat → Nat) (D : va_G) (g : Nat → ClassId) (x : Nat) (tp : Nat) (t : Nat) (u : Nat) (rd : Nat) (ch : Nat) (ci : Nat) (n : Nat) (ep : Int32) (ta : Nat → Nat) (tn : Nat → Nat) (p0 : Int32) (p1 : Int32) (hN : fIn p0 (tn 2) = false) (hfl : l9.stackTraces = false) (sz : Nat) : vx_Met l9 yX10_until (WS yX10_until cX10_until 4 (some .int)) ({ frames := 7, cells := 1, slots := 6, locals := 111 }) (va_Pc [.ref x, .int p0, .int p1] (kPreX z D g [(x, .inr (8, [.ref tp, .ref t, .ref u, .ref rd, .ref ch, .ref ci, .int (nI n), .int ep])), (t, .inr (7, [.ref (ta 1), .ref (ta 3), .ref (ta 5), .ref (ta 7), .int (nI (tn 4)), .ref (ta 9), .ref (ta 11), .ref (ta 13), .ref (ta 15), .ref (ta 17), .ref (ta 19), .ref (ta 21), .ref (ta 23), .ref (ta 25), .ref (ta 27), .ref (ta 29), .ref (ta 31), .ref (ta 33), .ref (ta 35)])), (ta 5, .inr (2, [.ref (ta 6), .int (nI (tn 2))]))] sz)) (va_Qi (fun (r9 : Int32) (u9 : Unit) => False) (kB D g (va_A [(x, .inr (8, [.ref tp, .ref t, .ref u, .ref rd, .ref ch, .ref ci, .int (nI n), .int ep])), (t, .inr (7, [.ref (ta 1), .ref (ta 3), .ref (ta 5), .ref (ta 7), .int (nI (tn 4)), .ref (ta 9), .ref (ta 11), .ref (ta 13), .ref (ta 15), .ref (ta 17), .ref (ta 19), .ref (ta 21), .ref (ta 23), .ref (ta 25), .ref (ta 27), .ref (ta 29), .ref (ta 31), .ref (ta 33), .ref (ta 35)])), (ta 5, .inr (2, [.ref (ta 6), .int (nI (tn 2))]))] sz) (fun (u9 : Unit) => [(x, .inr (8, [.ref tp, .ref t, .ref u, .ref rd, .ref ch, .ref ci, .int (nI n), .int ep])), (t, .inr (7, [.ref (ta 1), .ref (ta 3), .ref (ta 5), .ref (ta 7), .int (nI (tn 4)), .ref (ta 9), .ref (ta 11), .ref (ta 13), .ref (ta 15), .ref (ta 17), .ref (ta 19), .ref (ta 21), .ref (ta 23), .ref (ta 25), .ref (ta 27), .ref (ta 29), .ref (ta 31), .ref (ta 33), .ref (ta 35)])), (ta 5, .inr (2, [.ref (ta 6), .int (nI (tn 2))]))])) (va_A [(x, .inr (8, [.ref tp, .ref t, .ref u, .ref rd, .ref ch, .ref ci, .int (nI n), .int ep])), (t, .inr (7, [.ref (ta 1), .ref (ta 3), .ref (ta 5), .ref (ta 7), .int (nI (tn 4)), .ref (ta 9), .ref (ta 11), .ref (ta 13), .ref (ta 15), .ref (ta 17), .ref (ta 19), .ref (ta 21), .ref (ta 23), .ref (ta 25), .ref (ta 27), .ref (ta 29), .ref (ta 31), .ref (ta 33), .ref (ta 35)])), (ta 5, .inr (2, [.ref (ta 6), .int (nI (tn 2))]))] sz)) (vx_X (fun (_ : Unit) => True) (fun (E9 : String) (u9 : Unit) (t9 : State) => E9 = "java/lang/IndexOutOfBoundsException" ∧ kB D g (va_A [(x, .inr (8, [.ref tp, .ref t, .ref u, .ref rd, .ref ch, .ref ci, .int (nI n), .int ep])), (t, .inr (7, [.ref (ta 1), .ref (ta 3), .ref (ta 5), .ref (ta 7), .int (nI (tn 4)), .ref (ta 9), .ref (ta 11), .ref (ta 13), .ref (ta 15), .ref (ta 17), .ref (ta 19), .ref (ta 21), .ref (ta 23), .ref (ta 25), .ref (ta 27), .ref (ta 29), .ref (ta 31), .ref (ta 33), .ref (ta 35)])), (ta 5, .inr (2, [.ref (ta 6), .int (nI (tn 2))]))] sz) (fun (_ : Unit) => [(x, .inr (8, [.ref tp, .ref t, .ref u, .ref rd, .ref ch, .ref ci, .int (nI n), .int ep])), (t, .inr (7, [.ref (ta 1), .ref (ta 3), .ref (ta 5), .ref (ta 7), .int (nI (tn 4)), .ref (ta 9), .ref (ta 11), .ref (ta 13), .ref (ta 15), .ref (ta 17), .ref (ta 19), .ref (ta 21), .ref (ta 23), .ref (ta 25), .ref (ta 27), .ref (ta 29), .ref (ta 31), .ref (ta 33), .ref (ta 35)])), (ta 5, .inr (2, [.ref (ta 6), .int (nI (tn 2))]))]) u9 t9) (va_A [(x, .inr (8, [.ref tp, .ref t, .ref u, .ref rd, .ref ch, .ref ci, .int (nI n), .int ep])), (t, .inr (7, [.ref (ta 1), .ref (ta 3), .ref (ta 5), .ref (ta 7), .int (nI (tn 4)), .ref (ta 9), .ref (ta 11), .ref (ta 13), .ref (ta 15), .ref (ta 17), .ref (ta 19), .ref (ta 21), .ref (ta 23), .ref (ta 25), .ref (ta 27), .ref (ta 29), .ref (ta 31), .ref (ta 33), .ref (ta 35)])), (ta 5, .inr (2, [.ref (ta 6), .int (nI (tn 2))]))] sz)) 1 6 (va_A [(x, .inr (8, [.ref tp, .ref t, .ref u, .ref rd, .ref ch, .ref ci, .int (nI n), .int ep])), (t, .inr (7, [.ref (ta 1), .ref (ta 3), .ref (ta 5), .ref (ta 7), .int (nI (tn 4)), .ref (ta 9), .ref (ta 11), .ref (ta 13), .ref (ta 15), .ref (ta 17), .ref (ta 19), .ref (ta 21), .ref (ta 23), .ref (ta 25), .ref (ta 27), .ref (ta 29), .ref (ta 31), .ref (ta 33), .ref (ta 35)])), (ta 5, .inr (2, [.ref (ta 6), .int (nI (tn 2))]))] sz) := by
  refine vx_ofW (cc := cX10_until) (maxL := 4) (ret := (some .int)) (by decide) rfl ?_
  intro p9 e9 s9 m9 args9 below9 meth9 c9 s₁ B hml htab hv
  obtain ⟨rfl, hsz, hP, hK, hD0, hZ, hX⟩ := hv
  have hx := B.exec
  have hb := B.bytes
  have hr := B.returns
  have hts := ws_sub (atoms_spec (ws := WS yX10_until cX10_until 4 (some .int)) B.pre)
  have hown : s9.vm.findClass RX10 = some m9.cls := findClass_of_methodNamed B.named
  have hlocks := B.notSynchronized
  subst hsz
  have hD := hD0.self (sz := s9.heap.size)
  generalize hAe : va_A [(x, .inr (8, [.ref tp, .ref t, .ref u, .ref rd, .ref ch, .ref ci, .int (nI n), .int ep])), (t, .inr (7, [.ref (ta 1), .ref (ta 3), .ref (ta 5), .ref (ta 7), .int (nI (tn 4)), .ref (ta 9), .ref (ta 11), .ref (ta 13), .ref (ta 15), .ref (ta 17), .ref (ta 19), .ref (ta 21), .ref (ta 23), .ref (ta 25), .ref (ta 27), .ref (ta 29), .ref (ta 31), .ref (ta 33), .ref (ta 35)])), (ta 5, .inr (2, [.ref (ta 6), .int (nI (tn 2))]))] s9.heap.size = A at hD hZ hX ⊢
  have hA : ∀ q : Nat, s9.heap.size ≤ q → A q := fun q h => by rw [← hAe]; exact Or.inr h
  have hS : va_S A s9.heap s9.heap [] := va_S.rf
  have hP : va_P D CLS [(x, .inr (8, [.ref tp, .ref t, .ref u, .ref rd, .ref ch, .ref ci, .int (nI n), .int ep])), (t, .inr (7, [.ref (ta 1), .ref (ta 3), .ref (ta 5), .ref (ta 7), .int (nI (tn 4)), .ref (ta 9), .ref (ta 11), .ref (ta 13), .ref (ta 15), .ref (ta 17), .ref (ta 19), .ref (ta 21), .ref (ta 23), .ref (ta 25), .ref (ta 27), .ref (ta 29), .ref (ta 31), .ref (ta 33), .ref (ta 35)])), (ta 5, .inr (2, [.ref (ta 6), .int (nI (tn 2))]))] s9.heap := hP
  have hl := lv_entry ([.ref x, .int p0, .int p1]) (n := 4) (Nat.le_of_ble_eq_true rfl)
  rw [lg_entry_eq]
  generalize (lg_sl ([.ref x, .int p0, .int p1]) ++ List.replicate (4 - (lg_sl ([.ref x, .int p0, .int p1])).length) Slot.unset).toArray = ls at hl ⊢
  have hl : lv_has ls 4 [(0, .ref x), (1, .int p0), (2, .int p1)] := hl
  change W p9 l9 e9 ({ frames := 7, cells := 1, slots := 6, locals := 111 } : Room) s9 m9 _ below9 meth9 c9 _ _ _ _ _ _
  refine lv_iload_n hx hb dX10_until_0 rfl (lv_at hl 1 rfl) ?_
  refine lv_aload_n hx hb dX10_until_1 rfl (lv_at hl 0 rfl) ?_
  refine va_get (D := D) (ci := 8) (v := .ref t) (C := RX10) (T := TX10) (N := 8) hx hb hts in_X10 hown hK hP 0 rfl rfl 1 (by decide) (hts _ w_467) (fun _ h9 => h9) rfl dX10_until_2 ?_
  refine va_getN (D := D) (ci := 7) (v := .ref (ta 5)) (C := RX9) (T := TX9) (N := 19) hx hb hts in_X9 hown hK hP 1 rfl rfl 2 (by decide) (hZ.nst.use nw_222) (fun _ h9 => h9) rfl dX10_until_5 ?_
  refine va_getN (D := D) (ci := 2) (v := .int (nI (tn 2))) (C := RX3) (T := TX3) (N := 2) hx hb hts in_X3 hown hK hP 2 rfl rfl 1 (by decide) (hZ.nst.use nw_175) (fun _ h9 => h9) rfl dX10_until_8 ?_
  refine kx_v hA hP hD hS [(x, .inr (8, [.ref tp, .ref t, .ref u, .ref rd, .ref ch, .ref ci, .int (nI n), .int ep])), (t, .inr (7, [.ref (ta 1), .ref (ta 3), .ref (ta 5), .ref (ta 7), .int (nI (tn 4)), .ref (ta 9), .ref (ta 11), .ref (ta 13), .ref (ta 15), .ref (ta 17), .ref (ta 19), .ref (ta 21), .ref (ta 23), .ref (ta 25), .ref (ta 27), .ref (ta 29), .ref (ta 31), .ref (ta 33), .ref (ta 35)])), (ta 5, .inr (2, [.ref (ta 6), .int (nI (tn 2))]))] (vx_runS (As := [.int p0, .int (nI (tn 2))]) (rest := []) ⟨hx, hb, hml, hown, hts⟩ (t_X10_checkIndex_T l9 z D g p0 (tn 2) (by first | assumption | decide | omega) (by first | assumption | decide | omega) (Array.size s9.heap)) (va_cwS 2 hts gs_X10_87 rfl rfl rfl (by decide +kernel) ⟨Nat.le_of_ble_eq_true rfl, Nat.le_of_ble_eq_true rfl⟩) ⟨kBlindX, kPreX.pc hX hK hZ hA hP hD hS [] rfl (by decide +kernel)⟩ rfl rfl hl.1 rfl (lv_room (Nat.le_of_ble_eq_true rfl)) dX10_until_11 ⟨Nat.le_of_ble_eq_true rfl, Nat.le_of_ble_eq_true rfl⟩) [] [0, 1, 2] rfl rfl rfl rfl (fun ce9 q9 H locs hP7 hD7 hS7 hc7 hv7 hcl7 => ?_)
  clear hP hD hS
  have hP := hP7
  have hD := hD7
  have hS := hS7
  clear hP7 hD7 hS7
  replace hP : va_P D CLS [(x, .inr (8, [.ref tp, .ref t, .ref u, .ref rd, .ref ch, .ref ci, .int (nI n), .int ep])), (t, .inr (7, [.ref (ta 1), .ref (ta 3), .ref (ta 5), .ref (ta 7), .int (nI (tn 4)), .ref (ta 9), .ref (ta 11), .ref (ta 13), .ref (ta 15), .ref (ta 17), .ref (ta 19), .ref (ta 21), .ref (ta 23), .ref (ta 25), .ref (ta 27), .ref (ta 29), .ref (ta 31), .ref (ta 33), .ref (ta 35)])), (ta 5, .inr (2, [.ref (ta 6), .int (nI (tn 2))]))] H := hP
  replace hD : va_D A [(x, .inr (8, [.ref tp, .ref t, .ref u, .ref rd, .ref ch, .ref ci, .int (nI n), .int ep])), (t, .inr (7, [.ref (ta 1), .ref (ta 3), .ref (ta 5), .ref (ta 7), .int (nI (tn 4)), .ref (ta 9), .ref (ta 11), .ref (ta 13), .ref (ta 15), .ref (ta 17), .ref (ta 19), .ref (ta 21), .ref (ta 23), .ref (ta 25), .ref (ta 27), .ref (ta 29), .ref (ta 31), .ref (ta 33), .ref (ta 35)])), (ta 5, .inr (2, [.ref (ta 6), .int (nI (tn 2))]))] := hD
  exact vx_out (fun x9 h9 => (htab x9 h9).elim) hlocks hc7 hv7 hcl7 (fun t9 ht9 ha9 => xk_X hP hK hD hS [0, 1, 2] rfl (by decide +kernel) t9 ha9 (by rw [ht9]; exact Nat.le_refl _) (fun q9 _ => by rw [ht9])) hS.2.2 (Nat.le_of_ble_eq_true rfl) (Nat.le_of_ble_eq_true rfl)
set_option maxHeartbeats 4000000 in
set_option maxRecDepth 100000 in
/-- ChoirStalls.until, throwing -/
theorem t_X10_until_U (l9 : Launch) (z : Nat → Nat) (D : va_G) (g : Nat → ClassId) (x : Nat) (tp : Nat) (t : Nat) (u : Nat) (rd : Nat) (ch : Nat) (ci : Nat) (n : Nat) (ep : Int32) (ta : Nat → Nat) (tn : Nat → Nat) (k : Nat) (p1 : Int32) (hN : fIn p1 3 = false) (hk : k < tn 2) (hm : tn 2 ≤ 20) (hfl : l9.stackTraces = false) (sz : Nat) : vx_Met l9 yX10_until (WS yX10_until cX10_until 4 (some .int)) ({ frames := 7, cells := 1, slots := 6, locals := 111 }) (va_Pc [.ref x, .int (nI k), .int p1] (kPreX z D g [(x, .inr (8, [.ref tp, .ref t, .ref u, .ref rd, .ref ch, .ref ci, .int (nI n), .int ep])), (t, .inr (7, [.ref (ta 1), .ref (ta 3), .ref (ta 5), .ref (ta 7), .int (nI (tn 4)), .ref (ta 9), .ref (ta 11), .ref (ta 13), .ref (ta 15), .ref (ta 17), .ref (ta 19), .ref (ta 21), .ref (ta 23), .ref (ta 25), .ref (ta 27), .ref (ta 29), .ref (ta 31), .ref (ta 33), .ref (ta 35)])), (ta 5, .inr (2, [.ref (ta 6), .int (nI (tn 2))]))] sz)) (va_Qi (fun (r9 : Int32) (u9 : Unit) => False) (kB D g (va_A [(x, .inr (8, [.ref tp, .ref t, .ref u, .ref rd, .ref ch, .ref ci, .int (nI n), .int ep])), (t, .inr (7, [.ref (ta 1), .ref (ta 3), .ref (ta 5), .ref (ta 7), .int (nI (tn 4)), .ref (ta 9), .ref (ta 11), .ref (ta 13), .ref (ta 15), .ref (ta 17), .ref (ta 19), .ref (ta 21), .ref (ta 23), .ref (ta 25), .ref (ta 27), .ref (ta 29), .ref (ta 31), .ref (ta 33), .ref (ta 35)])), (ta 5, .inr (2, [.ref (ta 6), .int (nI (tn 2))]))] sz) (fun (u9 : Unit) => [(x, .inr (8, [.ref tp, .ref t, .ref u, .ref rd, .ref ch, .ref ci, .int (nI n), .int ep])), (t, .inr (7, [.ref (ta 1), .ref (ta 3), .ref (ta 5), .ref (ta 7), .int (nI (tn 4)), .ref (ta 9), .ref (ta 11), .ref (ta 13), .ref (ta 15), .ref (ta 17), .ref (ta 19), .ref (ta 21), .ref (ta 23), .ref (ta 25), .ref (ta 27), .ref (ta 29), .ref (ta 31), .ref (ta 33), .ref (ta 35)])), (ta 5, .inr (2, [.ref (ta 6), .int (nI (tn 2))]))])) (va_A [(x, .inr (8, [.ref tp, .ref t, .ref u, .ref rd, .ref ch, .ref ci, .int (nI n), .int ep])), (t, .inr (7, [.ref (ta 1), .ref (ta 3), .ref (ta 5), .ref (ta 7), .int (nI (tn 4)), .ref (ta 9), .ref (ta 11), .ref (ta 13), .ref (ta 15), .ref (ta 17), .ref (ta 19), .ref (ta 21), .ref (ta 23), .ref (ta 25), .ref (ta 27), .ref (ta 29), .ref (ta 31), .ref (ta 33), .ref (ta 35)])), (ta 5, .inr (2, [.ref (ta 6), .int (nI (tn 2))]))] sz)) (vx_X (fun (_ : Unit) => True) (fun (E9 : String) (u9 : Unit) (t9 : State) => E9 = "java/lang/IndexOutOfBoundsException" ∧ kB D g (va_A [(x, .inr (8, [.ref tp, .ref t, .ref u, .ref rd, .ref ch, .ref ci, .int (nI n), .int ep])), (t, .inr (7, [.ref (ta 1), .ref (ta 3), .ref (ta 5), .ref (ta 7), .int (nI (tn 4)), .ref (ta 9), .ref (ta 11), .ref (ta 13), .ref (ta 15), .ref (ta 17), .ref (ta 19), .ref (ta 21), .ref (ta 23), .ref (ta 25), .ref (ta 27), .ref (ta 29), .ref (ta 31), .ref (ta 33), .ref (ta 35)])), (ta 5, .inr (2, [.ref (ta 6), .int (nI (tn 2))]))] sz) (fun (_ : Unit) => [(x, .inr (8, [.ref tp, .ref t, .ref u, .ref rd, .ref ch, .ref ci, .int (nI n), .int ep])), (t, .inr (7, [.ref (ta 1), .ref (ta 3), .ref (ta 5), .ref (ta 7), .int (nI (tn 4)), .ref (ta 9), .ref (ta 11), .ref (ta 13), .ref (ta 15), .ref (ta 17), .ref (ta 19), .ref (ta 21), .ref (ta 23), .ref (ta 25), .ref (ta 27), .ref (ta 29), .ref (ta 31), .ref (ta 33), .ref (ta 35)])), (ta 5, .inr (2, [.ref (ta 6), .int (nI (tn 2))]))]) u9 t9) (va_A [(x, .inr (8, [.ref tp, .ref t, .ref u, .ref rd, .ref ch, .ref ci, .int (nI n), .int ep])), (t, .inr (7, [.ref (ta 1), .ref (ta 3), .ref (ta 5), .ref (ta 7), .int (nI (tn 4)), .ref (ta 9), .ref (ta 11), .ref (ta 13), .ref (ta 15), .ref (ta 17), .ref (ta 19), .ref (ta 21), .ref (ta 23), .ref (ta 25), .ref (ta 27), .ref (ta 29), .ref (ta 31), .ref (ta 33), .ref (ta 35)])), (ta 5, .inr (2, [.ref (ta 6), .int (nI (tn 2))]))] sz)) 1 6 (va_A [(x, .inr (8, [.ref tp, .ref t, .ref u, .ref rd, .ref ch, .ref ci, .int (nI n), .int ep])), (t, .inr (7, [.ref (ta 1), .ref (ta 3), .ref (ta 5), .ref (ta 7), .int (nI (tn 4)), .ref (ta 9), .ref (ta 11), .ref (ta 13), .ref (ta 15), .ref (ta 17), .ref (ta 19), .ref (ta 21), .ref (ta 23), .ref (ta 25), .ref (ta 27), .ref (ta 29), .ref (ta 31), .ref (ta 33), .ref (ta 35)])), (ta 5, .inr (2, [.ref (ta 6), .int (nI (tn 2))]))] sz) := by
  refine vx_ofW (cc := cX10_until) (maxL := 4) (ret := (some .int)) (by decide) rfl ?_
  intro p9 e9 s9 m9 args9 below9 meth9 c9 s₁ B hml htab hv
  obtain ⟨rfl, hsz, hP, hK, hD0, hZ, hX⟩ := hv
  have hx := B.exec
  have hb := B.bytes
  have hr := B.returns
  have hts := ws_sub (atoms_spec (ws := WS yX10_until cX10_until 4 (some .int)) B.pre)
  have hown : s9.vm.findClass RX10 = some m9.cls := findClass_of_methodNamed B.named
  have hlocks := B.notSynchronized
  subst hsz
  have hD := hD0.self (sz := s9.heap.size)
  generalize hAe : va_A [(x, .inr (8, [.ref tp, .ref t, .ref u, .ref rd, .ref ch, .ref ci, .int (nI n), .int ep])), (t, .inr (7, [.ref (ta 1), .ref (ta 3), .ref (ta 5), .ref (ta 7), .int (nI (tn 4)), .ref (ta 9), .ref (ta 11), .ref (ta 13), .ref (ta 15), .ref (ta 17), .ref (ta 19), .ref (ta 21), .ref (ta 23), .ref (ta 25), .ref (ta 27), .ref (ta 29), .ref (ta 31), .ref (ta 33), .ref (ta 35)])), (ta 5, .inr (2, [.ref (ta 6), .int (nI (tn 2))]))] s9.heap.size = A at hD hZ hX ⊢
  have hA : ∀ q : Nat, s9.heap.size ≤ q → A q := fun q h => by rw [← hAe]; exact Or.inr h
  have hS : va_S A s9.heap s9.heap [] := va_S.rf
  have hP : va_P D CLS [(x, .inr (8, [.ref tp, .ref t, .ref u, .ref rd, .ref ch, .ref ci, .int (nI n), .int ep])), (t, .inr (7, [.ref (ta 1), .ref (ta 3), .ref (ta 5), .ref (ta 7), .int (nI (tn 4)), .ref (ta 9), .ref (ta 11), .ref (ta 13), .ref (ta 15), .ref (ta 17), .ref (ta 19), .ref (ta 21), .ref (ta 23), .ref (ta 25), .ref (ta 27), .ref (ta 29), .ref (ta 31), .ref (ta 33), .ref (ta 35)])), (ta 5, .inr (2, [.ref (ta 6), .int (nI (tn 2))]))] s9.heap := hP
  have hl := lv_entry ([.ref x, .int (nI k), .int p1]) (n := 4) (Nat.le_of_ble_eq_true rfl)
  rw [lg_entry_eq]
  generalize (lg_sl ([.ref x, .int (nI k), .int p1]) ++ List.replicate (4 - (lg_sl ([.ref x, .int (nI k), .int p1])).length) Slot.unset).toArray = ls at hl ⊢
  have hl : lv_has ls 4 [(0, .ref x), (1, .int (nI k)), (2, .int p1)] := hl
  change W p9 l9 e9 ({ frames := 7, cells := 1, slots := 6, locals := 111 } : Room) s9 m9 _ below9 meth9 c9 _ _ _ _ _ _
  refine lv_iload_n hx hb dX10_until_0 rfl (lv_at hl 1 rfl) ?_
  refine lv_aload_n hx hb dX10_until_1 rfl (lv_at hl 0 rfl) ?_
  refine va_get (D := D) (ci := 8) (v := .ref t) (C := RX10) (T := TX10) (N := 8) hx hb hts in_X10 hown hK hP 0 rfl rfl 1 (by decide) (hts _ w_467) (fun _ h9 => h9) rfl dX10_until_2 ?_
  refine va_getN (D := D) (ci := 7) (v := .ref (ta 5)) (C := RX9) (T := TX9) (N := 19) hx hb hts in_X9 hown hK hP 1 rfl rfl 2 (by decide) (hZ.nst.use nw_222) (fun _ h9 => h9) rfl dX10_until_5 ?_
  refine va_getN (D := D) (ci := 2) (v := .int (nI (tn 2))) (C := RX3) (T := TX3) (N := 2) hx hb hts in_X3 hown hK hP 2 rfl rfl 1 (by decide) (hZ.nst.use nw_175) (fun _ h9 => h9) rfl dX10_until_8 ?_
  refine k_v hA hP hD hS [(x, .inr (8, [.ref tp, .ref t, .ref u, .ref rd, .ref ch, .ref ci, .int (nI n), .int ep])), (t, .inr (7, [.ref (ta 1), .ref (ta 3), .ref (ta 5), .ref (ta 7), .int (nI (tn 4)), .ref (ta 9), .ref (ta 11), .ref (ta 13), .ref (ta 15), .ref (ta 17), .ref (ta 19), .ref (ta 21), .ref (ta 23), .ref (ta 25), .ref (ta 27), .ref (ta 29), .ref (ta 31), .ref (ta 33), .ref (ta 35)])), (ta 5, .inr (2, [.ref (ta 6), .int (nI (tn 2))]))] (va_runS (As := [.int (nI k), .int (nI (tn 2))]) (rest := []) ⟨hx, hb, hml, hown, hts⟩ (c_X10_checkIndex l9 z D g k (tn 2) (by first | assumption | decide | omega) (by first | assumption | decide | omega) (Array.size s9.heap)) (va_cwS 2 hts gs_X10_87 rfl rfl rfl (by decide +kernel) ⟨Nat.le_of_ble_eq_true rfl, Nat.le_of_ble_eq_true rfl⟩) ⟨kBlind, kPre.pc hK hZ hA hP hD hS [] rfl (by decide +kernel)⟩ rfl rfl hl.1 rfl (lv_room (Nat.le_of_ble_eq_true rfl)) dX10_until_11 ⟨Nat.le_of_ble_eq_true rfl, Nat.le_of_ble_eq_true rfl⟩) [] [0, 1, 2] rfl rfl rfl rfl (fun u_1 H locs hw_11 hP7 hD7 hS7 => ?_)
  clear hP hD hS
  have hP := hP7
  have hD := hD7
  have hS := hS7
  clear hP7 hD7 hS7
  replace hP : va_P D CLS [(x, .inr (8, [.ref tp, .ref t, .ref u, .ref rd, .ref ch, .ref ci, .int (nI n), .int ep])), (t, .inr (7, [.ref (ta 1), .ref (ta 3), .ref (ta 5), .ref (ta 7), .int (nI (tn 4)), .ref (ta 9), .ref (ta 11), .ref (ta 13), .ref (ta 15), .ref (ta 17), .ref (ta 19), .ref (ta 21), .ref (ta 23), .ref (ta 25), .ref (ta 27), .ref (ta 29), .ref (ta 31), .ref (ta 33), .ref (ta 35)])), (ta 5, .inr (2, [.ref (ta 6), .int (nI (tn 2))]))] H := hP
  replace hD : va_D A [(x, .inr (8, [.ref tp, .ref t, .ref u, .ref rd, .ref ch, .ref ci, .int (nI n), .int ep])), (t, .inr (7, [.ref (ta 1), .ref (ta 3), .ref (ta 5), .ref (ta 7), .int (nI (tn 4)), .ref (ta 9), .ref (ta 11), .ref (ta 13), .ref (ta 15), .ref (ta 17), .ref (ta 19), .ref (ta 21), .ref (ta 23), .ref (ta 25), .ref (ta 27), .ref (ta 29), .ref (ta 31), .ref (ta 33), .ref (ta 35)])), (ta 5, .inr (2, [.ref (ta 6), .int (nI (tn 2))]))] := hD
  refine lv_iload_n hx hb dX10_until_14 rfl (lv_at hl 2 rfl) ?_
  refine lv_iconst (v := 3) hx hb dX10_until_15 (by decide) ?_
  refine kx_v hA hP hD hS [(x, .inr (8, [.ref tp, .ref t, .ref u, .ref rd, .ref ch, .ref ci, .int (nI n), .int ep])), (t, .inr (7, [.ref (ta 1), .ref (ta 3), .ref (ta 5), .ref (ta 7), .int (nI (tn 4)), .ref (ta 9), .ref (ta 11), .ref (ta 13), .ref (ta 15), .ref (ta 17), .ref (ta 19), .ref (ta 21), .ref (ta 23), .ref (ta 25), .ref (ta 27), .ref (ta 29), .ref (ta 31), .ref (ta 33), .ref (ta 35)])), (ta 5, .inr (2, [.ref (ta 6), .int (nI (tn 2))]))] (vx_runS (As := [.int p1, .int 3]) (rest := []) ⟨hx, hb, hml, hown, hts⟩ (t_X10_checkIndex_T l9 z D g p1 3 (by first | assumption | decide | omega) (by first | assumption | decide | omega) (Array.size H)) (va_cwS 2 hts gs_X10_87 rfl rfl rfl (by decide +kernel) ⟨Nat.le_of_ble_eq_true rfl, Nat.le_of_ble_eq_true rfl⟩) ⟨kBlindX, kPreX.pc hX hK hZ hA hP hD hS [] rfl (by decide +kernel)⟩ rfl rfl hl.1 rfl (lv_room (Nat.le_of_ble_eq_true rfl)) dX10_until_16 ⟨Nat.le_of_ble_eq_true rfl, Nat.le_of_ble_eq_true rfl⟩) [] [0, 1, 2] rfl rfl rfl rfl (fun ce9 q9 H locs hP7 hD7 hS7 hc7 hv7 hcl7 => ?_)
  clear hP hD hS
  have hP := hP7
  have hD := hD7
  have hS := hS7
  clear hP7 hD7 hS7
  replace hP : va_P D CLS [(x, .inr (8, [.ref tp, .ref t, .ref u, .ref rd, .ref ch, .ref ci, .int (nI n), .int ep])), (t, .inr (7, [.ref (ta 1), .ref (ta 3), .ref (ta 5), .ref (ta 7), .int (nI (tn 4)), .ref (ta 9), .ref (ta 11), .ref (ta 13), .ref (ta 15), .ref (ta 17), .ref (ta 19), .ref (ta 21), .ref (ta 23), .ref (ta 25), .ref (ta 27), .ref (ta 29), .ref (ta 31), .ref (ta 33), .ref (ta 35)])), (ta 5, .inr (2, [.ref (ta 6), .int (nI (tn 2))]))] H := hP
  replace hD : va_D A [(x, .inr (8, [.ref tp, .ref t, .ref u, .ref rd, .ref ch, .ref ci, .int (nI n), .int ep])), (t, .inr (7, [.ref (ta 1), .ref (ta 3), .ref (ta 5), .ref (ta 7), .int (nI (tn 4)), .ref (ta 9), .ref (ta 11), .ref (ta 13), .ref (ta 15), .ref (ta 17), .ref (ta 19), .ref (ta 21), .ref (ta 23), .ref (ta 25), .ref (ta 27), .ref (ta 29), .ref (ta 31), .ref (ta 33), .ref (ta 35)])), (ta 5, .inr (2, [.ref (ta 6), .int (nI (tn 2))]))] := hD
  exact vx_out (fun x9 h9 => (htab x9 h9).elim) hlocks hc7 hv7 hcl7 (fun t9 ht9 ha9 => xk_X hP hK hD hS [0, 1, 2] rfl (by decide +kernel) t9 ha9 (by rw [ht9]; exact Nat.le_refl _) (fun q9 _ => by rw [ht9])) hS.2.2 (Nat.le_of_ble_eq_true rfl) (Nat.le_of_ble_eq_true rfl)
set_option maxHeartbeats 4000000 in
set_option maxRecDepth 100000 in
/-- ChoirStalls.order, throwing -/
theorem t_X10_order_T (l9 : Launch) (z : Nat → Nat) (D : va_G) (g : Nat → ClassId) (x : Nat) (tp : Nat) (t : Nat) (u : Nat) (rd : Nat) (ch : Nat) (ci : Nat) (n : Nat) (ep : Int32) (ta : Nat → Nat) (tn : Nat → Nat) (p0 : Int32) (p1 : Int32) (hN : fIn p0 (tn 4) = false) (hfl : l9.stackTraces = false) (sz : Nat) : vx_Met l9 yX10_order (WS yX10_order cX10_order 3 (some .int)) ({ frames := 7, cells := 1, slots := 6, locals := 111 }) (va_Pc [.ref x, .int p0, .int p1] (kPreX z D g [(x, .inr (8, [.ref tp, .ref t, .ref u, .ref rd, .ref ch, .ref ci, .int (nI n), .int ep])), (t, .inr (7, [.ref (ta 1), .ref (ta 3), .ref (ta 5), .ref (ta 7), .int (nI (tn 4)), .ref (ta 9), .ref (ta 11), .ref (ta 13), .ref (ta 15), .ref (ta 17), .ref (ta 19), .ref (ta 21), .ref (ta 23), .ref (ta 25), .ref (ta 27), .ref (ta 29), .ref (ta 31), .ref (ta 33), .ref (ta 35)]))] sz)) (va_Qi (fun (r9 : Int32) (u9 : Unit) => False) (kB D g (va_A [(x, .inr (8, [.ref tp, .ref t, .ref u, .ref rd, .ref ch, .ref ci, .int (nI n), .int ep])), (t, .inr (7, [.ref (ta 1), .ref (ta 3), .ref (ta 5), .ref (ta 7), .int (nI (tn 4)), .ref (ta 9), .ref (ta 11), .ref (ta 13), .ref (ta 15), .ref (ta 17), .ref (ta 19), .ref (ta 21), .ref (ta 23), .ref (ta 25), .ref (ta 27), .ref (ta 29), .ref (ta 31), .ref (ta 33), .ref (ta 35)]))] sz) (fun (u9 : Unit) => [(x, .inr (8, [.ref tp, .ref t, .ref u, .ref rd, .ref ch, .ref ci, .int (nI n), .int ep])), (t, .inr (7, [.ref (ta 1), .ref (ta 3), .ref (ta 5), .ref (ta 7), .int (nI (tn 4)), .ref (ta 9), .ref (ta 11), .ref (ta 13), .ref (ta 15), .ref (ta 17), .ref (ta 19), .ref (ta 21), .ref (ta 23), .ref (ta 25), .ref (ta 27), .ref (ta 29), .ref (ta 31), .ref (ta 33), .ref (ta 35)]))])) (va_A [(x, .inr (8, [.ref tp, .ref t, .ref u, .ref rd, .ref ch, .ref ci, .int (nI n), .int ep])), (t, .inr (7, [.ref (ta 1), .ref (ta 3), .ref (ta 5), .ref (ta 7), .int (nI (tn 4)), .ref (ta 9), .ref (ta 11), .ref (ta 13), .ref (ta 15), .ref (ta 17), .ref (ta 19), .ref (ta 21), .ref (ta 23), .ref (ta 25), .ref (ta 27), .ref (ta 29), .ref (ta 31), .ref (ta 33), .ref (ta 35)]))] sz)) (vx_X (fun (_ : Unit) => True) (fun (E9 : String) (u9 : Unit) (t9 : State) => E9 = "java/lang/IndexOutOfBoundsException" ∧ kB D g (va_A [(x, .inr (8, [.ref tp, .ref t, .ref u, .ref rd, .ref ch, .ref ci, .int (nI n), .int ep])), (t, .inr (7, [.ref (ta 1), .ref (ta 3), .ref (ta 5), .ref (ta 7), .int (nI (tn 4)), .ref (ta 9), .ref (ta 11), .ref (ta 13), .ref (ta 15), .ref (ta 17), .ref (ta 19), .ref (ta 21), .ref (ta 23), .ref (ta 25), .ref (ta 27), .ref (ta 29), .ref (ta 31), .ref (ta 33), .ref (ta 35)]))] sz) (fun (_ : Unit) => [(x, .inr (8, [.ref tp, .ref t, .ref u, .ref rd, .ref ch, .ref ci, .int (nI n), .int ep])), (t, .inr (7, [.ref (ta 1), .ref (ta 3), .ref (ta 5), .ref (ta 7), .int (nI (tn 4)), .ref (ta 9), .ref (ta 11), .ref (ta 13), .ref (ta 15), .ref (ta 17), .ref (ta 19), .ref (ta 21), .ref (ta 23), .ref (ta 25), .ref (ta 27), .ref (ta 29), .ref (ta 31), .ref (ta 33), .ref (ta 35)]))]) u9 t9) (va_A [(x, .inr (8, [.ref tp, .ref t, .ref u, .ref rd, .ref ch, .ref ci, .int (nI n), .int ep])), (t, .inr (7, [.ref (ta 1), .ref (ta 3), .ref (ta 5), .ref (ta 7), .int (nI (tn 4)), .ref (ta 9), .ref (ta 11), .ref (ta 13), .ref (ta 15), .ref (ta 17), .ref (ta 19), .ref (ta 21), .ref (ta 23), .ref (ta 25), .ref (ta 27), .ref (ta 29), .ref (ta 31), .ref (ta 33), .ref (ta 35)]))] sz)) 1 6 (va_A [(x, .inr (8, [.ref tp, .ref t, .ref u, .ref rd, .ref ch, .ref ci, .int (nI n), .int ep])), (t, .inr (7, [.ref (ta 1), .ref (ta 3), .ref (ta 5), .ref (ta 7), .int (nI (tn 4)), .ref (ta 9), .ref (ta 11), .ref (ta 13), .ref (ta 15), .ref (ta 17), .ref (ta 19), .ref (ta 21), .ref (ta 23), .ref (ta 25), .ref (ta 27), .ref (ta 29), .ref (ta 31), .ref (ta 33), .ref (ta 35)]))] sz) := by
  refine vx_ofW (cc := cX10_order) (maxL := 3) (ret := (some .int)) (by decide) rfl ?_
  intro p9 e9 s9 m9 args9 below9 meth9 c9 s₁ B hml htab hv
  obtain ⟨rfl, hsz, hP, hK, hD0, hZ, hX⟩ := hv
  have hx := B.exec
  have hb := B.bytes
  have hr := B.returns
  have hts := ws_sub (atoms_spec (ws := WS yX10_order cX10_order 3 (some .int)) B.pre)
  have hown : s9.vm.findClass RX10 = some m9.cls := findClass_of_methodNamed B.named
  have hlocks := B.notSynchronized
  subst hsz
  have hD := hD0.self (sz := s9.heap.size)
  generalize hAe : va_A [(x, .inr (8, [.ref tp, .ref t, .ref u, .ref rd, .ref ch, .ref ci, .int (nI n), .int ep])), (t, .inr (7, [.ref (ta 1), .ref (ta 3), .ref (ta 5), .ref (ta 7), .int (nI (tn 4)), .ref (ta 9), .ref (ta 11), .ref (ta 13), .ref (ta 15), .ref (ta 17), .ref (ta 19), .ref (ta 21), .ref (ta 23), .ref (ta 25), .ref (ta 27), .ref (ta 29), .ref (ta 31), .ref (ta 33), .ref (ta 35)]))] s9.heap.size = A at hD hZ hX ⊢
  have hA : ∀ q : Nat, s9.heap.size ≤ q → A q := fun q h => by rw [← hAe]; exact Or.inr h
  have hS : va_S A s9.heap s9.heap [] := va_S.rf
  have hP : va_P D CLS [(x, .inr (8, [.ref tp, .ref t, .ref u, .ref rd, .ref ch, .ref ci, .int (nI n), .int ep])), (t, .inr (7, [.ref (ta 1), .ref (ta 3), .ref (ta 5), .ref (ta 7), .int (nI (tn 4)), .ref (ta 9), .ref (ta 11), .ref (ta 13), .ref (ta 15), .ref (ta 17), .ref (ta 19), .ref (ta 21), .ref (ta 23), .ref (ta 25), .ref (ta 27), .ref (ta 29), .ref (ta 31), .ref (ta 33), .ref (ta 35)]))] s9.heap := hP
  have hl := lv_entry ([.ref x, .int p0, .int p1]) (n := 3) (Nat.le_of_ble_eq_true rfl)
  rw [lg_entry_eq]
  generalize (lg_sl ([.ref x, .int p0, .int p1]) ++ List.replicate (3 - (lg_sl ([.ref x, .int p0, .int p1])).length) Slot.unset).toArray = ls at hl ⊢
  have hl : lv_has ls 3 [(0, .ref x), (1, .int p0), (2, .int p1)] := hl
  change W p9 l9 e9 ({ frames := 7, cells := 1, slots := 6, locals := 111 } : Room) s9 m9 _ below9 meth9 c9 _ _ _ _ _ _
  refine lv_iload_n hx hb dX10_order_0 rfl (lv_at hl 1 rfl) ?_
  refine lv_aload_n hx hb dX10_order_1 rfl (lv_at hl 0 rfl) ?_
  refine va_get (D := D) (ci := 8) (v := .ref t) (C := RX10) (T := TX10) (N := 8) hx hb hts in_X10 hown hK hP 0 rfl rfl 1 (by decide) (hts _ w_467) (fun _ h9 => h9) rfl dX10_order_2 ?_
  refine va_getN (D := D) (ci := 7) (v := .int (nI (tn 4))) (C := RX9) (T := TX9) (N := 19) hx hb hts in_X9 hown hK hP 1 rfl rfl 4 (by decide) (hZ.nst.use nw_231) (fun _ h9 => h9) rfl dX10_order_5 ?_
  refine kx_v hA hP hD hS [(x, .inr (8, [.ref tp, .ref t, .ref u, .ref rd, .ref ch, .ref ci, .int (nI n), .int ep])), (t, .inr (7, [.ref (ta 1), .ref (ta 3), .ref (ta 5), .ref (ta 7), .int (nI (tn 4)), .ref (ta 9), .ref (ta 11), .ref (ta 13), .ref (ta 15), .ref (ta 17), .ref (ta 19), .ref (ta 21), .ref (ta 23), .ref (ta 25), .ref (ta 27), .ref (ta 29), .ref (ta 31), .ref (ta 33), .ref (ta 35)]))] (vx_runS (As := [.int p0, .int (nI (tn 4))]) (rest := []) ⟨hx, hb, hml, hown, hts⟩ (t_X10_checkIndex_T l9 z D g p0 (tn 4) (by first | assumption | decide | omega) (by first | assumption | decide | omega) (Array.size s9.heap)) (va_cwS 2 hts gs_X10_87 rfl rfl rfl (by decide +kernel) ⟨Nat.le_of_ble_eq_true rfl, Nat.le_of_ble_eq_true rfl⟩) ⟨kBlindX, kPreX.pc hX hK hZ hA hP hD hS [] rfl (by decide +kernel)⟩ rfl rfl hl.1 rfl (lv_room (Nat.le_of_ble_eq_true rfl)) dX10_order_8 ⟨Nat.le_of_ble_eq_true rfl, Nat.le_of_ble_eq_true rfl⟩) [] [0, 1] rfl rfl rfl rfl (fun ce9 q9 H locs hP7 hD7 hS7 hc7 hv7 hcl7 => ?_)
  clear hP hD hS
  have hP := hP7
  have hD := hD7
  have hS := hS7
  clear hP7 hD7 hS7
  replace hP : va_P D CLS [(x, .inr (8, [.ref tp, .ref t, .ref u, .ref rd, .ref ch, .ref ci, .int (nI n), .int ep])), (t, .inr (7, [.ref (ta 1), .ref (ta 3), .ref (ta 5), .ref (ta 7), .int (nI (tn 4)), .ref (ta 9), .ref (ta 11), .ref (ta 13), .ref (ta 15), .ref (ta 17), .ref (ta 19), .ref (ta 21), .ref (ta 23), .ref (ta 25), .ref (ta 27), .ref (ta 29), .ref (ta 31), .ref (ta 33), .ref (ta 35)]))] H := hP
  replace hD : va_D A [(x, .inr (8, [.ref tp, .ref t, .ref u, .ref rd, .ref ch, .ref ci, .int (nI n), .int ep])), (t, .inr (7, [.ref (ta 1), .ref (ta 3), .ref (ta 5), .ref (ta 7), .int (nI (tn 4)), .ref (ta 9), .ref (ta 11), .ref (ta 13), .ref (ta 15), .ref (ta 17), .ref (ta 19), .ref (ta 21), .ref (ta 23), .ref (ta 25), .ref (ta 27), .ref (ta 29), .ref (ta 31), .ref (ta 33), .ref (ta 35)]))] := hD
  exact vx_out (fun x9 h9 => (htab x9 h9).elim) hlocks hc7 hv7 hcl7 (fun t9 ht9 ha9 => xk_X hP hK hD hS [0, 1] rfl (by decide +kernel) t9 ha9 (by rw [ht9]; exact Nat.le_refl _) (fun q9 _ => by rw [ht9])) hS.2.2 (Nat.le_of_ble_eq_true rfl) (Nat.le_of_ble_eq_true rfl)
set_option maxHeartbeats 4000000 in
set_option maxRecDepth 100000 in
/-- ChoirStalls.order, throwing -/
theorem t_X10_order_U (l9 : Launch) (z : Nat → Nat) (D : va_G) (g : Nat → ClassId) (x : Nat) (tp : Nat) (t : Nat) (u : Nat) (rd : Nat) (ch : Nat) (ci : Nat) (n : Nat) (ep : Int32) (ta : Nat → Nat) (tn : Nat → Nat) (k : Nat) (p1 : Int32) (hN : fIn p1 6 = false) (hk : k < tn 4) (hm : tn 4 ≤ 20) (hfl : l9.stackTraces = false) (sz : Nat) : vx_Met l9 yX10_order (WS yX10_order cX10_order 3 (some .int)) ({ frames := 7, cells := 1, slots := 6, locals := 111 }) (va_Pc [.ref x, .int (nI k), .int p1] (kPreX z D g [(x, .inr (8, [.ref tp, .ref t, .ref u, .ref rd, .ref ch, .ref ci, .int (nI n), .int ep])), (t, .inr (7, [.ref (ta 1), .ref (ta 3), .ref (ta 5), .ref (ta 7), .int (nI (tn 4)), .ref (ta 9), .ref (ta 11), .ref (ta 13), .ref (ta 15), .ref (ta 17), .ref (ta 19), .ref (ta 21), .ref (ta 23), .ref (ta 25), .ref (ta 27), .ref (ta 29), .ref (ta 31), .ref (ta 33), .ref (ta 35)]))] sz)) (va_Qi (fun (r9 : Int32) (u9 : Unit) => False) (kB D g (va_A [(x, .inr (8, [.ref tp, .ref t, .ref u, .ref rd, .ref ch, .ref ci, .int (nI n), .int ep])), (t, .inr (7, [.ref (ta 1), .ref (ta 3), .ref (ta 5), .ref (ta 7), .int (nI (tn 4)), .ref (ta 9), .ref (ta 11), .ref (ta 13), .ref (ta 15), .ref (ta 17), .ref (ta 19), .ref (ta 21), .ref (ta 23), .ref (ta 25), .ref (ta 27), .ref (ta 29), .ref (ta 31), .ref (ta 33), .ref (ta 35)]))] sz) (fun (u9 : Unit) => [(x, .inr (8, [.ref tp, .ref t, .ref u, .ref rd, .ref ch, .ref ci, .int (nI n), .int ep])), (t, .inr (7, [.ref (ta 1), .ref (ta 3), .ref (ta 5), .ref (ta 7), .int (nI (tn 4)), .ref (ta 9), .ref (ta 11), .ref (ta 13), .ref (ta 15), .ref (ta 17), .ref (ta 19), .ref (ta 21), .ref (ta 23), .ref (ta 25), .ref (ta 27), .ref (ta 29), .ref (ta 31), .ref (ta 33), .ref (ta 35)]))])) (va_A [(x, .inr (8, [.ref tp, .ref t, .ref u, .ref rd, .ref ch, .ref ci, .int (nI n), .int ep])), (t, .inr (7, [.ref (ta 1), .ref (ta 3), .ref (ta 5), .ref (ta 7), .int (nI (tn 4)), .ref (ta 9), .ref (ta 11), .ref (ta 13), .ref (ta 15), .ref (ta 17), .ref (ta 19), .ref (ta 21), .ref (ta 23), .ref (ta 25), .ref (ta 27), .ref (ta 29), .ref (ta 31), .ref (ta 33), .ref (ta 35)]))] sz)) (vx_X (fun (_ : Unit) => True) (fun (E9 : String) (u9 : Unit) (t9 : State) => E9 = "java/lang/IndexOutOfBoundsException" ∧ kB D g (va_A [(x, .inr (8, [.ref tp, .ref t, .ref u, .ref rd, .ref ch, .ref ci, .int (nI n), .int ep])), (t, .inr (7, [.ref (ta 1), .ref (ta 3), .ref (ta 5), .ref (ta 7), .int (nI (tn 4)), .ref (ta 9), .ref (ta 11), .ref (ta 13), .ref (ta 15), .ref (ta 17), .ref (ta 19), .ref (ta 21), .ref (ta 23), .ref (ta 25), .ref (ta 27), .ref (ta 29), .ref (ta 31), .ref (ta 33), .ref (ta 35)]))] sz) (fun (_ : Unit) => [(x, .inr (8, [.ref tp, .ref t, .ref u, .ref rd, .ref ch, .ref ci, .int (nI n), .int ep])), (t, .inr (7, [.ref (ta 1), .ref (ta 3), .ref (ta 5), .ref (ta 7), .int (nI (tn 4)), .ref (ta 9), .ref (ta 11), .ref (ta 13), .ref (ta 15), .ref (ta 17), .ref (ta 19), .ref (ta 21), .ref (ta 23), .ref (ta 25), .ref (ta 27), .ref (ta 29), .ref (ta 31), .ref (ta 33), .ref (ta 35)]))]) u9 t9) (va_A [(x, .inr (8, [.ref tp, .ref t, .ref u, .ref rd, .ref ch, .ref ci, .int (nI n), .int ep])), (t, .inr (7, [.ref (ta 1), .ref (ta 3), .ref (ta 5), .ref (ta 7), .int (nI (tn 4)), .ref (ta 9), .ref (ta 11), .ref (ta 13), .ref (ta 15), .ref (ta 17), .ref (ta 19), .ref (ta 21), .ref (ta 23), .ref (ta 25), .ref (ta 27), .ref (ta 29), .ref (ta 31), .ref (ta 33), .ref (ta 35)]))] sz)) 1 6 (va_A [(x, .inr (8, [.ref tp, .ref t, .ref u, .ref rd, .ref ch, .ref ci, .int (nI n), .int ep])), (t, .inr (7, [.ref (ta 1), .ref (ta 3), .ref (ta 5), .ref (ta 7), .int (nI (tn 4)), .ref (ta 9), .ref (ta 11), .ref (ta 13), .ref (ta 15), .ref (ta 17), .ref (ta 19), .ref (ta 21), .ref (ta 23), .ref (ta 25), .ref (ta 27), .ref (ta 29), .ref (ta 31), .ref (ta 33), .ref (ta 35)]))] sz) := by
  refine vx_ofW (cc := cX10_order) (maxL := 3) (ret := (some .int)) (by decide) rfl ?_
  intro p9 e9 s9 m9 args9 below9 meth9 c9 s₁ B hml htab hv
  obtain ⟨rfl, hsz, hP, hK, hD0, hZ, hX⟩ := hv
  have hx := B.exec
  have hb := B.bytes
  have hr := B.returns
  have hts := ws_sub (atoms_spec (ws := WS yX10_order cX10_order 3 (some .int)) B.pre)
  have hown : s9.vm.findClass RX10 = some m9.cls := findClass_of_methodNamed B.named
  have hlocks := B.notSynchronized
  subst hsz
  have hD := hD0.self (sz := s9.heap.size)
  generalize hAe : va_A [(x, .inr (8, [.ref tp, .ref t, .ref u, .ref rd, .ref ch, .ref ci, .int (nI n), .int ep])), (t, .inr (7, [.ref (ta 1), .ref (ta 3), .ref (ta 5), .ref (ta 7), .int (nI (tn 4)), .ref (ta 9), .ref (ta 11), .ref (ta 13), .ref (ta 15), .ref (ta 17), .ref (ta 19), .ref (ta 21), .ref (ta 23), .ref (ta 25), .ref (ta 27), .ref (ta 29), .ref (ta 31), .ref (ta 33), .ref (ta 35)]))] s9.heap.size = A at hD hZ hX ⊢
  have hA : ∀ q : Nat, s9.heap.size ≤ q → A q := fun q h => by rw [← hAe]; exact Or.inr h
  have hS : va_S A s9.heap s9.heap [] := va_S.rf
  have hP : va_P D CLS [(x, .inr (8, [.ref tp, .ref t, .ref u, .ref rd, .ref ch, .ref ci, .int (nI n), .int ep])), (t, .inr (7, [.ref (ta 1), .ref (ta 3), .ref (ta 5), .ref (ta 7), .int (nI (tn 4)), .ref (ta 9), .ref (ta 11), .ref (ta 13), .ref (ta 15), .ref (ta 17), .ref (ta 19), .ref (ta 21), .ref (ta 23), .ref (ta 25), .ref (ta 27), .ref (ta 29), .ref (ta 31), .ref (ta 33), .ref (ta 35)]))] s9.heap := hP
  have hl := lv_entry ([.ref x, .int (nI k), .int p1]) (n := 3) (Nat.le_of_ble_eq_true rfl)
  rw [lg_entry_eq]
  generalize (lg_sl ([.ref x, .int (nI k), .int p1]) ++ List.replicate (3 - (lg_sl ([.ref x, .int (nI k), .int p1])).length) Slot.unset).toArray = ls at hl ⊢
  have hl : lv_has ls 3 [(0, .ref x), (1, .int (nI k)), (2, .int p1)] := hl
  change W p9 l9 e9 ({ frames := 7, cells := 1, slots := 6, locals := 111 } : Room) s9 m9 _ below9 meth9 c9 _ _ _ _ _ _
  refine lv_iload_n hx hb dX10_order_0 rfl (lv_at hl 1 rfl) ?_
  refine lv_aload_n hx hb dX10_order_1 rfl (lv_at hl 0 rfl) ?_
  refine va_get (D := D) (ci := 8) (v := .ref t) (C := RX10) (T := TX10) (N := 8) hx hb hts in_X10 hown hK hP 0 rfl rfl 1 (by decide) (hts _ w_467) (fun _ h9 => h9) rfl dX10_order_2 ?_
  refine va_getN (D := D) (ci := 7) (v := .int (nI (tn 4))) (C := RX9) (T := TX9) (N := 19) hx hb hts in_X9 hown hK hP 1 rfl rfl 4 (by decide) (hZ.nst.use nw_231) (fun _ h9 => h9) rfl dX10_order_5 ?_
  refine k_v hA hP hD hS [(x, .inr (8, [.ref tp, .ref t, .ref u, .ref rd, .ref ch, .ref ci, .int (nI n), .int ep])), (t, .inr (7, [.ref (ta 1), .ref (ta 3), .ref (ta 5), .ref (ta 7), .int (nI (tn 4)), .ref (ta 9), .ref (ta 11), .ref (ta 13), .ref (ta 15), .ref (ta 17), .ref (ta 19), .ref (ta 21), .ref (ta 23), .ref (ta 25), .ref (ta 27), .ref (ta 29), .ref (ta 31), .ref (ta 33), .ref (ta 35)]))] (va_runS (As := [.int (nI k), .int (nI (tn 4))]) (rest := []) ⟨hx, hb, hml, hown, hts⟩ (c_X10_checkIndex l9 z D g k (tn 4) (by first | assumption | decide | omega) (by first | assumption | decide | omega) (Array.size s9.heap)) (va_cwS 2 hts gs_X10_87 rfl rfl rfl (by decide +kernel) ⟨Nat.le_of_ble_eq_true rfl, Nat.le_of_ble_eq_true rfl⟩) ⟨kBlind, kPre.pc hK hZ hA hP hD hS [] rfl (by decide +kernel)⟩ rfl rfl hl.1 rfl (lv_room (Nat.le_of_ble_eq_true rfl)) dX10_order_8 ⟨Nat.le_of_ble_eq_true rfl, Nat.le_of_ble_eq_true rfl⟩) [] [0, 1] rfl rfl rfl rfl (fun u_1 H locs hw_8 hP7 hD7 hS7 => ?_)
  clear hP hD hS
  have hP := hP7
  have hD := hD7
  have hS := hS7
  clear hP7 hD7 hS7
  replace hP : va_P D CLS [(x, .inr (8, [.ref tp, .ref t, .ref u, .ref rd, .ref ch, .ref ci, .int (nI n), .int ep])), (t, .inr (7, [.ref (ta 1), .ref (ta 3), .ref (ta 5), .ref (ta 7), .int (nI (tn 4)), .ref (ta 9), .ref (ta 11), .ref (ta 13), .ref (ta 15), .ref (ta 17), .ref (ta 19), .ref (ta 21), .ref (ta 23), .ref (ta 25), .ref (ta 27), .ref (ta 29), .ref (ta 31), .ref (ta 33), .ref (ta 35)]))] H := hP
  replace hD : va_D A [(x, .inr (8, [.ref tp, .ref t, .ref u, .ref rd, .ref ch, .ref ci, .int (nI n), .int ep])), (t, .inr (7, [.ref (ta 1), .ref (ta 3), .ref (ta 5), .ref (ta 7), .int (nI (tn 4)), .ref (ta 9), .ref (ta 11), .ref (ta 13), .ref (ta 15), .ref (ta 17), .ref (ta 19), .ref (ta 21), .ref (ta 23), .ref (ta 25), .ref (ta 27), .ref (ta 29), .ref (ta 31), .ref (ta 33), .ref (ta 35)]))] := hD
  refine lv_iload_n hx hb dX10_order_11 rfl (lv_at hl 2 rfl) ?_
  refine lv_bipush (v := 6) hx hb dX10_order_12 (by decide) ?_
  refine kx_v hA hP hD hS [(x, .inr (8, [.ref tp, .ref t, .ref u, .ref rd, .ref ch, .ref ci, .int (nI n), .int ep])), (t, .inr (7, [.ref (ta 1), .ref (ta 3), .ref (ta 5), .ref (ta 7), .int (nI (tn 4)), .ref (ta 9), .ref (ta 11), .ref (ta 13), .ref (ta 15), .ref (ta 17), .ref (ta 19), .ref (ta 21), .ref (ta 23), .ref (ta 25), .ref (ta 27), .ref (ta 29), .ref (ta 31), .ref (ta 33), .ref (ta 35)]))] (vx_runS (As := [.int p1, .int 6]) (rest := []) ⟨hx, hb, hml, hown, hts⟩ (t_X10_checkIndex_T l9 z D g p1 6 (by first | assumption | decide | omega) (by first | assumption | decide | omega) (Array.size H)) (va_cwS 2 hts gs_X10_87 rfl rfl rfl (by decide +kernel) ⟨Nat.le_of_ble_eq_true rfl, Nat.le_of_ble_eq_true rfl⟩) ⟨kBlindX, kPreX.pc hX hK hZ hA hP hD hS [] rfl (by decide +kernel)⟩ rfl rfl hl.1 rfl (lv_room (Nat.le_of_ble_eq_true rfl)) dX10_order_14 ⟨Nat.le_of_ble_eq_true rfl, Nat.le_of_ble_eq_true rfl⟩) [] [0, 1] rfl rfl rfl rfl (fun ce9 q9 H locs hP7 hD7 hS7 hc7 hv7 hcl7 => ?_)
  clear hP hD hS
  have hP := hP7
  have hD := hD7
  have hS := hS7
  clear hP7 hD7 hS7
  replace hP : va_P D CLS [(x, .inr (8, [.ref tp, .ref t, .ref u, .ref rd, .ref ch, .ref ci, .int (nI n), .int ep])), (t, .inr (7, [.ref (ta 1), .ref (ta 3), .ref (ta 5), .ref (ta 7), .int (nI (tn 4)), .ref (ta 9), .ref (ta 11), .ref (ta 13), .ref (ta 15), .ref (ta 17), .ref (ta 19), .ref (ta 21), .ref (ta 23), .ref (ta 25), .ref (ta 27), .ref (ta 29), .ref (ta 31), .ref (ta 33), .ref (ta 35)]))] H := hP
  replace hD : va_D A [(x, .inr (8, [.ref tp, .ref t, .ref u, .ref rd, .ref ch, .ref ci, .int (nI n), .int ep])), (t, .inr (7, [.ref (ta 1), .ref (ta 3), .ref (ta 5), .ref (ta 7), .int (nI (tn 4)), .ref (ta 9), .ref (ta 11), .ref (ta 13), .ref (ta 15), .ref (ta 17), .ref (ta 19), .ref (ta 21), .ref (ta 23), .ref (ta 25), .ref (ta 27), .ref (ta 29), .ref (ta 31), .ref (ta 33), .ref (ta 35)]))] := hD
  exact vx_out (fun x9 h9 => (htab x9 h9).elim) hlocks hc7 hv7 hcl7 (fun t9 ht9 ha9 => xk_X hP hK hD hS [0, 1] rfl (by decide +kernel) t9 ha9 (by rw [ht9]; exact Nat.le_refl _) (fun q9 _ => by rw [ht9])) hS.2.2 (Nat.le_of_ble_eq_true rfl) (Nat.le_of_ble_eq_true rfl)
set_option maxHeartbeats 4000000 in
set_option maxRecDepth 100000 in
/-- ChoirStalls.pass, throwing -/
theorem t_X10_pass_T (l9 : Launch) (z : Nat → Nat) (D : va_G) (g : Nat → ClassId) (x : Nat) (tp : Nat) (t : Nat) (u : Nat) (rd : Nat) (ch : Nat) (ci : Nat) (n : Nat) (ep : Int32) (p0 : Int32) (hN : fDys p0 120 = false) (hfl : l9.stackTraces = false) (sz : Nat) : vx_Met l9 yX10_pass (WS yX10_pass cX10_pass 3 (some .int)) ({ frames := 7, cells := 1, slots := 6, locals := 111 }) (va_Pc [.ref x, .int p0] (kPreX z D g [(x, .inr (8, [.ref tp, .ref t, .ref u, .ref rd, .ref ch, .ref ci, .int (nI n), .int ep]))] sz)) (va_Qi (fun (r9 : Int32) (u9 : Unit) => False) (kB D g (va_A [(x, .inr (8, [.ref tp, .ref t, .ref u, .ref rd, .ref ch, .ref ci, .int (nI n), .int ep]))] sz) (fun (u9 : Unit) => [(x, .inr (8, [.ref tp, .ref t, .ref u, .ref rd, .ref ch, .ref ci, .int (nI n), .int ep]))])) (va_A [(x, .inr (8, [.ref tp, .ref t, .ref u, .ref rd, .ref ch, .ref ci, .int (nI n), .int ep]))] sz)) (vx_X (fun (_ : Unit) => True) (fun (E9 : String) (u9 : Unit) (t9 : State) => E9 = "java/lang/IllegalArgumentException" ∧ kB D g (va_A [(x, .inr (8, [.ref tp, .ref t, .ref u, .ref rd, .ref ch, .ref ci, .int (nI n), .int ep]))] sz) (fun (_ : Unit) => [(x, .inr (8, [.ref tp, .ref t, .ref u, .ref rd, .ref ch, .ref ci, .int (nI n), .int ep]))]) u9 t9) (va_A [(x, .inr (8, [.ref tp, .ref t, .ref u, .ref rd, .ref ch, .ref ci, .int (nI n), .int ep]))] sz)) 1 6 (va_A [(x, .inr (8, [.ref tp, .ref t, .ref u, .ref rd, .ref ch, .ref ci, .int (nI n), .int ep]))] sz) := by
  refine vx_ofW (cc := cX10_pass) (maxL := 3) (ret := (some .int)) (by decide) rfl ?_
  intro p9 e9 s9 m9 args9 below9 meth9 c9 s₁ B hml htab hv
  obtain ⟨rfl, hsz, hP, hK, hD0, hZ, hX⟩ := hv
  have hx := B.exec
  have hb := B.bytes
  have hr := B.returns
  have hts := ws_sub (atoms_spec (ws := WS yX10_pass cX10_pass 3 (some .int)) B.pre)
  have hown : s9.vm.findClass RX10 = some m9.cls := findClass_of_methodNamed B.named
  have hlocks := B.notSynchronized
  subst hsz
  have hD := hD0.self (sz := s9.heap.size)
  generalize hAe : va_A [(x, .inr (8, [.ref tp, .ref t, .ref u, .ref rd, .ref ch, .ref ci, .int (nI n), .int ep]))] s9.heap.size = A at hD hZ hX ⊢
  have hA : ∀ q : Nat, s9.heap.size ≤ q → A q := fun q h => by rw [← hAe]; exact Or.inr h
  have hS : va_S A s9.heap s9.heap [] := va_S.rf
  have hP : va_P D CLS [(x, .inr (8, [.ref tp, .ref t, .ref u, .ref rd, .ref ch, .ref ci, .int (nI n), .int ep]))] s9.heap := hP
  have hl := lv_entry ([.ref x, .int p0]) (n := 3) (Nat.le_of_ble_eq_true rfl)
  rw [lg_entry_eq]
  generalize (lg_sl ([.ref x, .int p0]) ++ List.replicate (3 - (lg_sl ([.ref x, .int p0])).length) Slot.unset).toArray = ls at hl ⊢
  have hl : lv_has ls 3 [(0, .ref x), (1, .int p0)] := hl
  change W p9 l9 e9 ({ frames := 7, cells := 1, slots := 6, locals := 111 } : Room) s9 m9 _ below9 meth9 c9 _ _ _ _ _ _
  refine lv_iload_n hx hb dX10_pass_0 rfl (lv_at hl 1 rfl) ?_
  refine lv_bipush (v := 120) hx hb dX10_pass_1 (by decide) ?_
  refine kx_v hA hP hD hS [(x, .inr (8, [.ref tp, .ref t, .ref u, .ref rd, .ref ch, .ref ci, .int (nI n), .int ep]))] (vx_runS (As := [.int p0, .int 120]) (rest := []) ⟨hx, hb, hml, hown, hts⟩ (t_X10_checkDays_T l9 z D g p0 120 (by first | assumption | decide | omega) (by first | assumption | decide | omega) (Array.size s9.heap)) (va_cwS 2 hts gs_X10_166 rfl rfl rfl (by decide +kernel) ⟨Nat.le_of_ble_eq_true rfl, Nat.le_of_ble_eq_true rfl⟩) ⟨kBlindX, kPreX.pc hX hK hZ hA hP hD hS [] rfl (by decide +kernel)⟩ rfl rfl hl.1 rfl (lv_room (Nat.le_of_ble_eq_true rfl)) dX10_pass_3 ⟨Nat.le_of_ble_eq_true rfl, Nat.le_of_ble_eq_true rfl⟩) [] [0] rfl rfl rfl rfl (fun ce9 q9 H locs hP7 hD7 hS7 hc7 hv7 hcl7 => ?_)
  clear hP hD hS
  have hP := hP7
  have hD := hD7
  have hS := hS7
  clear hP7 hD7 hS7
  replace hP : va_P D CLS [(x, .inr (8, [.ref tp, .ref t, .ref u, .ref rd, .ref ch, .ref ci, .int (nI n), .int ep]))] H := hP
  replace hD : va_D A [(x, .inr (8, [.ref tp, .ref t, .ref u, .ref rd, .ref ch, .ref ci, .int (nI n), .int ep]))] := hD
  exact vx_out (fun x9 h9 => (htab x9 h9).elim) hlocks hc7 hv7 hcl7 (fun t9 ht9 ha9 => xk_X hP hK hD hS [0] rfl (by decide +kernel) t9 ha9 (by rw [ht9]; exact Nat.le_refl _) (fun q9 _ => by rw [ht9])) hS.2.2 (Nat.le_of_ble_eq_true rfl) (Nat.le_of_ble_eq_true rfl)
set_option maxHeartbeats 4000000 in
set_option maxRecDepth 100000 in
/-- ChoirStalls.advise, throwing -/
theorem t_X10_advise_T (l9 : Launch) (z : Nat → Nat) (D : va_G) (g : Nat → ClassId) (x : Nat) (tp : Nat) (t : Nat) (u : Nat) (rd : Nat) (ch : Nat) (ci : Nat) (n : Nat) (ep : Int32) (p0 : Int32) (hN : fDys p0 90 = false) (hfl : l9.stackTraces = false) (sz : Nat) : vx_Met l9 yX10_advise (WS yX10_advise cX10_advise 5 (some .int)) ({ frames := 7, cells := 1, slots := 6, locals := 111 }) (va_Pc [.ref x, .int p0] (kPreX z D g [(x, .inr (8, [.ref tp, .ref t, .ref u, .ref rd, .ref ch, .ref ci, .int (nI n), .int ep]))] sz)) (va_Qi (fun (r9 : Int32) (u9 : Unit) => False) (kB D g (va_A [(x, .inr (8, [.ref tp, .ref t, .ref u, .ref rd, .ref ch, .ref ci, .int (nI n), .int ep]))] sz) (fun (u9 : Unit) => [(x, .inr (8, [.ref tp, .ref t, .ref u, .ref rd, .ref ch, .ref ci, .int (nI n), .int ep]))])) (va_A [(x, .inr (8, [.ref tp, .ref t, .ref u, .ref rd, .ref ch, .ref ci, .int (nI n), .int ep]))] sz)) (vx_X (fun (_ : Unit) => True) (fun (E9 : String) (u9 : Unit) (t9 : State) => E9 = "java/lang/IllegalArgumentException" ∧ kB D g (va_A [(x, .inr (8, [.ref tp, .ref t, .ref u, .ref rd, .ref ch, .ref ci, .int (nI n), .int ep]))] sz) (fun (_ : Unit) => [(x, .inr (8, [.ref tp, .ref t, .ref u, .ref rd, .ref ch, .ref ci, .int (nI n), .int ep]))]) u9 t9) (va_A [(x, .inr (8, [.ref tp, .ref t, .ref u, .ref rd, .ref ch, .ref ci, .int (nI n), .int ep]))] sz)) 1 6 (va_A [(x, .inr (8, [.ref tp, .ref t, .ref u, .ref rd, .ref ch, .ref ci, .int (nI n), .int ep]))] sz) := by
  refine vx_ofW (cc := cX10_advise) (maxL := 5) (ret := (some .int)) (by decide) rfl ?_
  intro p9 e9 s9 m9 args9 below9 meth9 c9 s₁ B hml htab hv
  obtain ⟨rfl, hsz, hP, hK, hD0, hZ, hX⟩ := hv
  have hx := B.exec
  have hb := B.bytes
  have hr := B.returns
  have hts := ws_sub (atoms_spec (ws := WS yX10_advise cX10_advise 5 (some .int)) B.pre)
  have hown : s9.vm.findClass RX10 = some m9.cls := findClass_of_methodNamed B.named
  have hlocks := B.notSynchronized
  subst hsz
  have hD := hD0.self (sz := s9.heap.size)
  generalize hAe : va_A [(x, .inr (8, [.ref tp, .ref t, .ref u, .ref rd, .ref ch, .ref ci, .int (nI n), .int ep]))] s9.heap.size = A at hD hZ hX ⊢
  have hA : ∀ q : Nat, s9.heap.size ≤ q → A q := fun q h => by rw [← hAe]; exact Or.inr h
  have hS : va_S A s9.heap s9.heap [] := va_S.rf
  have hP : va_P D CLS [(x, .inr (8, [.ref tp, .ref t, .ref u, .ref rd, .ref ch, .ref ci, .int (nI n), .int ep]))] s9.heap := hP
  have hl := lv_entry ([.ref x, .int p0]) (n := 5) (Nat.le_of_ble_eq_true rfl)
  rw [lg_entry_eq]
  generalize (lg_sl ([.ref x, .int p0]) ++ List.replicate (5 - (lg_sl ([.ref x, .int p0])).length) Slot.unset).toArray = ls at hl ⊢
  have hl : lv_has ls 5 [(0, .ref x), (1, .int p0)] := hl
  change W p9 l9 e9 ({ frames := 7, cells := 1, slots := 6, locals := 111 } : Room) s9 m9 _ below9 meth9 c9 _ _ _ _ _ _
  refine lv_iload_n hx hb dX10_advise_0 rfl (lv_at hl 1 rfl) ?_
  refine lv_bipush (v := 90) hx hb dX10_advise_1 (by decide) ?_
  refine kx_v hA hP hD hS [(x, .inr (8, [.ref tp, .ref t, .ref u, .ref rd, .ref ch, .ref ci, .int (nI n), .int ep]))] (vx_runS (As := [.int p0, .int 90]) (rest := []) ⟨hx, hb, hml, hown, hts⟩ (t_X10_checkDays_T l9 z D g p0 90 (by first | assumption | decide | omega) (by first | assumption | decide | omega) (Array.size s9.heap)) (va_cwS 2 hts gs_X10_166 rfl rfl rfl (by decide +kernel) ⟨Nat.le_of_ble_eq_true rfl, Nat.le_of_ble_eq_true rfl⟩) ⟨kBlindX, kPreX.pc hX hK hZ hA hP hD hS [] rfl (by decide +kernel)⟩ rfl rfl hl.1 rfl (lv_room (Nat.le_of_ble_eq_true rfl)) dX10_advise_3 ⟨Nat.le_of_ble_eq_true rfl, Nat.le_of_ble_eq_true rfl⟩) [] [0] rfl rfl rfl rfl (fun ce9 q9 H locs hP7 hD7 hS7 hc7 hv7 hcl7 => ?_)
  clear hP hD hS
  have hP := hP7
  have hD := hD7
  have hS := hS7
  clear hP7 hD7 hS7
  replace hP : va_P D CLS [(x, .inr (8, [.ref tp, .ref t, .ref u, .ref rd, .ref ch, .ref ci, .int (nI n), .int ep]))] H := hP
  replace hD : va_D A [(x, .inr (8, [.ref tp, .ref t, .ref u, .ref rd, .ref ch, .ref ci, .int (nI n), .int ep]))] := hD
  exact vx_out (fun x9 h9 => (htab x9 h9).elim) hlocks hc7 hv7 hcl7 (fun t9 ht9 ha9 => xk_X hP hK hD hS [0] rfl (by decide +kernel) t9 ha9 (by rw [ht9]; exact Nat.le_refl _) (fun q9 _ => by rw [ht9])) hS.2.2 (Nat.le_of_ble_eq_true rfl) (Nat.le_of_ble_eq_true rfl)
set_option maxHeartbeats 4000000 in
set_option maxRecDepth 100000 in
/-- ChoirStalls.spare, throwing -/
theorem t_X10_spare_T (l9 : Launch) (z : Nat → Nat) (D : va_G) (g : Nat → ClassId) (x : Nat) (tp : Nat) (t : Nat) (u : Nat) (rd : Nat) (ch : Nat) (ci : Nat) (n : Nat) (ep : Int32) (p0 : Int32) (hN : fDys p0 90 = false) (hfl : l9.stackTraces = false) (sz : Nat) : vx_Met l9 yX10_spare (WS yX10_spare cX10_spare 5 (some .int)) ({ frames := 7, cells := 1, slots := 6, locals := 111 }) (va_Pc [.ref x, .int p0] (kPreX z D g [(x, .inr (8, [.ref tp, .ref t, .ref u, .ref rd, .ref ch, .ref ci, .int (nI n), .int ep]))] sz)) (va_Qi (fun (r9 : Int32) (u9 : Unit) => False) (kB D g (va_A [(x, .inr (8, [.ref tp, .ref t, .ref u, .ref rd, .ref ch, .ref ci, .int (nI n), .int ep]))] sz) (fun (u9 : Unit) => [(x, .inr (8, [.ref tp, .ref t, .ref u, .ref rd, .ref ch, .ref ci, .int (nI n), .int ep]))])) (va_A [(x, .inr (8, [.ref tp, .ref t, .ref u, .ref rd, .ref ch, .ref ci, .int (nI n), .int ep]))] sz)) (vx_X (fun (_ : Unit) => True) (fun (E9 : String) (u9 : Unit) (t9 : State) => E9 = "java/lang/IllegalArgumentException" ∧ kB D g (va_A [(x, .inr (8, [.ref tp, .ref t, .ref u, .ref rd, .ref ch, .ref ci, .int (nI n), .int ep]))] sz) (fun (_ : Unit) => [(x, .inr (8, [.ref tp, .ref t, .ref u, .ref rd, .ref ch, .ref ci, .int (nI n), .int ep]))]) u9 t9) (va_A [(x, .inr (8, [.ref tp, .ref t, .ref u, .ref rd, .ref ch, .ref ci, .int (nI n), .int ep]))] sz)) 1 6 (va_A [(x, .inr (8, [.ref tp, .ref t, .ref u, .ref rd, .ref ch, .ref ci, .int (nI n), .int ep]))] sz) := by
  refine vx_ofW (cc := cX10_spare) (maxL := 5) (ret := (some .int)) (by decide) rfl ?_
  intro p9 e9 s9 m9 args9 below9 meth9 c9 s₁ B hml htab hv
  obtain ⟨rfl, hsz, hP, hK, hD0, hZ, hX⟩ := hv
  have hx := B.exec
  have hb := B.bytes
  have hr := B.returns
  have hts := ws_sub (atoms_spec (ws := WS yX10_spare cX10_spare 5 (some .int)) B.pre)
  have hown : s9.vm.findClass RX10 = some m9.cls := findClass_of_methodNamed B.named
  have hlocks := B.notSynchronized
  subst hsz
  have hD := hD0.self (sz := s9.heap.size)
  generalize hAe : va_A [(x, .inr (8, [.ref tp, .ref t, .ref u, .ref rd, .ref ch, .ref ci, .int (nI n), .int ep]))] s9.heap.size = A at hD hZ hX ⊢
  have hA : ∀ q : Nat, s9.heap.size ≤ q → A q := fun q h => by rw [← hAe]; exact Or.inr h
  have hS : va_S A s9.heap s9.heap [] := va_S.rf
  have hP : va_P D CLS [(x, .inr (8, [.ref tp, .ref t, .ref u, .ref rd, .ref ch, .ref ci, .int (nI n), .int ep]))] s9.heap := hP
  have hl := lv_entry ([.ref x, .int p0]) (n := 5) (Nat.le_of_ble_eq_true rfl)
  rw [lg_entry_eq]
  generalize (lg_sl ([.ref x, .int p0]) ++ List.replicate (5 - (lg_sl ([.ref x, .int p0])).length) Slot.unset).toArray = ls at hl ⊢
  have hl : lv_has ls 5 [(0, .ref x), (1, .int p0)] := hl
  change W p9 l9 e9 ({ frames := 7, cells := 1, slots := 6, locals := 111 } : Room) s9 m9 _ below9 meth9 c9 _ _ _ _ _ _
  refine lv_iload_n hx hb dX10_spare_0 rfl (lv_at hl 1 rfl) ?_
  refine lv_bipush (v := 90) hx hb dX10_spare_1 (by decide) ?_
  refine kx_v hA hP hD hS [(x, .inr (8, [.ref tp, .ref t, .ref u, .ref rd, .ref ch, .ref ci, .int (nI n), .int ep]))] (vx_runS (As := [.int p0, .int 90]) (rest := []) ⟨hx, hb, hml, hown, hts⟩ (t_X10_checkDays_T l9 z D g p0 90 (by first | assumption | decide | omega) (by first | assumption | decide | omega) (Array.size s9.heap)) (va_cwS 2 hts gs_X10_166 rfl rfl rfl (by decide +kernel) ⟨Nat.le_of_ble_eq_true rfl, Nat.le_of_ble_eq_true rfl⟩) ⟨kBlindX, kPreX.pc hX hK hZ hA hP hD hS [] rfl (by decide +kernel)⟩ rfl rfl hl.1 rfl (lv_room (Nat.le_of_ble_eq_true rfl)) dX10_spare_3 ⟨Nat.le_of_ble_eq_true rfl, Nat.le_of_ble_eq_true rfl⟩) [] [0] rfl rfl rfl rfl (fun ce9 q9 H locs hP7 hD7 hS7 hc7 hv7 hcl7 => ?_)
  clear hP hD hS
  have hP := hP7
  have hD := hD7
  have hS := hS7
  clear hP7 hD7 hS7
  replace hP : va_P D CLS [(x, .inr (8, [.ref tp, .ref t, .ref u, .ref rd, .ref ch, .ref ci, .int (nI n), .int ep]))] H := hP
  replace hD : va_D A [(x, .inr (8, [.ref tp, .ref t, .ref u, .ref rd, .ref ch, .ref ci, .int (nI n), .int ep]))] := hD
  exact vx_out (fun x9 h9 => (htab x9 h9).elim) hlocks hc7 hv7 hcl7 (fun t9 ht9 ha9 => xk_X hP hK hD hS [0] rfl (by decide +kernel) t9 ha9 (by rw [ht9]; exact Nat.le_refl _) (fun q9 _ => by rw [ht9])) hS.2.2 (Nat.le_of_ble_eq_true rfl) (Nat.le_of_ble_eq_true rfl)
set_option maxHeartbeats 4000000 in
set_option maxRecDepth 100000 in
/-- ChoirStalls.foresee, throwing -/
theorem t_X10_foresee_T (l9 : Launch) (z : Nat → Nat) (D : va_G) (g : Nat → ClassId) (x : Nat) (tp : Nat) (t : Nat) (u : Nat) (rd : Nat) (ch : Nat) (ci : Nat) (n : Nat) (ep : Int32) (p0 : Int32) (p1 : Int32) (hN : fDys p0 120 = false) (hfl : l9.stackTraces = false) (sz : Nat) : vx_Met l9 yX10_foresee (WS yX10_foresee cX10_foresee 4 (some .int)) ({ frames := 7, cells := 1, slots := 6, locals := 111 }) (va_Pc [.ref x, .int p0, .int p1] (kPreX z D g [(x, .inr (8, [.ref tp, .ref t, .ref u, .ref rd, .ref ch, .ref ci, .int (nI n), .int ep]))] sz)) (va_Qi (fun (r9 : Int32) (u9 : Unit) => False) (kB D g (va_A [(x, .inr (8, [.ref tp, .ref t, .ref u, .ref rd, .ref ch, .ref ci, .int (nI n), .int ep]))] sz) (fun (u9 : Unit) => [(x, .inr (8, [.ref tp, .ref t, .ref u, .ref rd, .ref ch, .ref ci, .int (nI n), .int ep]))])) (va_A [(x, .inr (8, [.ref tp, .ref t, .ref u, .ref rd, .ref ch, .ref ci, .int (nI n), .int ep]))] sz)) (vx_X (fun (_ : Unit) => True) (fun (E9 : String) (u9 : Unit) (t9 : State) => E9 = "java/lang/IllegalArgumentException" ∧ kB D g (va_A [(x, .inr (8, [.ref tp, .ref t, .ref u, .ref rd, .ref ch, .ref ci, .int (nI n), .int ep]))] sz) (fun (_ : Unit) => [(x, .inr (8, [.ref tp, .ref t, .ref u, .ref rd, .ref ch, .ref ci, .int (nI n), .int ep]))]) u9 t9) (va_A [(x, .inr (8, [.ref tp, .ref t, .ref u, .ref rd, .ref ch, .ref ci, .int (nI n), .int ep]))] sz)) 1 6 (va_A [(x, .inr (8, [.ref tp, .ref t, .ref u, .ref rd, .ref ch, .ref ci, .int (nI n), .int ep]))] sz) := by
  refine vx_ofW (cc := cX10_foresee) (maxL := 4) (ret := (some .int)) (by decide) rfl ?_
  intro p9 e9 s9 m9 args9 below9 meth9 c9 s₁ B hml htab hv
  obtain ⟨rfl, hsz, hP, hK, hD0, hZ, hX⟩ := hv
  have hx := B.exec
  have hb := B.bytes
  have hr := B.returns
  have hts := ws_sub (atoms_spec (ws := WS yX10_foresee cX10_foresee 4 (some .int)) B.pre)
  have hown : s9.vm.findClass RX10 = some m9.cls := findClass_of_methodNamed B.named
  have hlocks := B.notSynchronized
  subst hsz
  have hD := hD0.self (sz := s9.heap.size)
  generalize hAe : va_A [(x, .inr (8, [.ref tp, .ref t, .ref u, .ref rd, .ref ch, .ref ci, .int (nI n), .int ep]))] s9.heap.size = A at hD hZ hX ⊢
  have hA : ∀ q : Nat, s9.heap.size ≤ q → A q := fun q h => by rw [← hAe]; exact Or.inr h
  have hS : va_S A s9.heap s9.heap [] := va_S.rf
  have hP : va_P D CLS [(x, .inr (8, [.ref tp, .ref t, .ref u, .ref rd, .ref ch, .ref ci, .int (nI n), .int ep]))] s9.heap := hP
  have hl := lv_entry ([.ref x, .int p0, .int p1]) (n := 4) (Nat.le_of_ble_eq_true rfl)
  rw [lg_entry_eq]
  generalize (lg_sl ([.ref x, .int p0, .int p1]) ++ List.replicate (4 - (lg_sl ([.ref x, .int p0, .int p1])).length) Slot.unset).toArray = ls at hl ⊢
  have hl : lv_has ls 4 [(0, .ref x), (1, .int p0), (2, .int p1)] := hl
  change W p9 l9 e9 ({ frames := 7, cells := 1, slots := 6, locals := 111 } : Room) s9 m9 _ below9 meth9 c9 _ _ _ _ _ _
  refine lv_iload_n hx hb dX10_foresee_0 rfl (lv_at hl 1 rfl) ?_
  refine lv_bipush (v := 120) hx hb dX10_foresee_1 (by decide) ?_
  refine kx_v hA hP hD hS [(x, .inr (8, [.ref tp, .ref t, .ref u, .ref rd, .ref ch, .ref ci, .int (nI n), .int ep]))] (vx_runS (As := [.int p0, .int 120]) (rest := []) ⟨hx, hb, hml, hown, hts⟩ (t_X10_checkDays_T l9 z D g p0 120 (by first | assumption | decide | omega) (by first | assumption | decide | omega) (Array.size s9.heap)) (va_cwS 2 hts gs_X10_166 rfl rfl rfl (by decide +kernel) ⟨Nat.le_of_ble_eq_true rfl, Nat.le_of_ble_eq_true rfl⟩) ⟨kBlindX, kPreX.pc hX hK hZ hA hP hD hS [] rfl (by decide +kernel)⟩ rfl rfl hl.1 rfl (lv_room (Nat.le_of_ble_eq_true rfl)) dX10_foresee_3 ⟨Nat.le_of_ble_eq_true rfl, Nat.le_of_ble_eq_true rfl⟩) [] [0] rfl rfl rfl rfl (fun ce9 q9 H locs hP7 hD7 hS7 hc7 hv7 hcl7 => ?_)
  clear hP hD hS
  have hP := hP7
  have hD := hD7
  have hS := hS7
  clear hP7 hD7 hS7
  replace hP : va_P D CLS [(x, .inr (8, [.ref tp, .ref t, .ref u, .ref rd, .ref ch, .ref ci, .int (nI n), .int ep]))] H := hP
  replace hD : va_D A [(x, .inr (8, [.ref tp, .ref t, .ref u, .ref rd, .ref ch, .ref ci, .int (nI n), .int ep]))] := hD
  exact vx_out (fun x9 h9 => (htab x9 h9).elim) hlocks hc7 hv7 hcl7 (fun t9 ht9 ha9 => xk_X hP hK hD hS [0] rfl (by decide +kernel) t9 ha9 (by rw [ht9]; exact Nat.le_refl _) (fun q9 _ => by rw [ht9])) hS.2.2 (Nat.le_of_ble_eq_true rfl) (Nat.le_of_ble_eq_true rfl)
set_option maxHeartbeats 4000000 in
set_option maxRecDepth 100000 in
/-- ChoirStalls.foresee, throwing -/
theorem t_X10_foresee_U (l9 : Launch) (z : Nat → Nat) (D : va_G) (g : Nat → ClassId) (x : Nat) (tp : Nat) (t : Nat) (u : Nat) (rd : Nat) (ch : Nat) (ci : Nat) (n : Nat) (ep : Int32) (d : Nat) (p1 : Int32) (hN : fIn p1 5 = false) (hd1 : 1 ≤ d) (hd : d ≤ 120) (hfl : l9.stackTraces = false) (sz : Nat) : vx_Met l9 yX10_foresee (WS yX10_foresee cX10_foresee 4 (some .int)) ({ frames := 7, cells := 1, slots := 6, locals := 111 }) (va_Pc [.ref x, .int (nI d), .int p1] (kPreX z D g [(x, .inr (8, [.ref tp, .ref t, .ref u, .ref rd, .ref ch, .ref ci, .int (nI n), .int ep]))] sz)) (va_Qi (fun (r9 : Int32) (u9 : Unit) => False) (kB D g (va_A [(x, .inr (8, [.ref tp, .ref t, .ref u, .ref rd, .ref ch, .ref ci, .int (nI n), .int ep]))] sz) (fun (u9 : Unit) => [(x, .inr (8, [.ref tp, .ref t, .ref u, .ref rd, .ref ch, .ref ci, .int (nI n), .int ep]))])) (va_A [(x, .inr (8, [.ref tp, .ref t, .ref u, .ref rd, .ref ch, .ref ci, .int (nI n), .int ep]))] sz)) (vx_X (fun (_ : Unit) => True) (fun (E9 : String) (u9 : Unit) (t9 : State) => E9 = "java/lang/IndexOutOfBoundsException" ∧ kB D g (va_A [(x, .inr (8, [.ref tp, .ref t, .ref u, .ref rd, .ref ch, .ref ci, .int (nI n), .int ep]))] sz) (fun (_ : Unit) => [(x, .inr (8, [.ref tp, .ref t, .ref u, .ref rd, .ref ch, .ref ci, .int (nI n), .int ep]))]) u9 t9) (va_A [(x, .inr (8, [.ref tp, .ref t, .ref u, .ref rd, .ref ch, .ref ci, .int (nI n), .int ep]))] sz)) 1 6 (va_A [(x, .inr (8, [.ref tp, .ref t, .ref u, .ref rd, .ref ch, .ref ci, .int (nI n), .int ep]))] sz) := by
  refine vx_ofW (cc := cX10_foresee) (maxL := 4) (ret := (some .int)) (by decide) rfl ?_
  intro p9 e9 s9 m9 args9 below9 meth9 c9 s₁ B hml htab hv
  obtain ⟨rfl, hsz, hP, hK, hD0, hZ, hX⟩ := hv
  have hx := B.exec
  have hb := B.bytes
  have hr := B.returns
  have hts := ws_sub (atoms_spec (ws := WS yX10_foresee cX10_foresee 4 (some .int)) B.pre)
  have hown : s9.vm.findClass RX10 = some m9.cls := findClass_of_methodNamed B.named
  have hlocks := B.notSynchronized
  subst hsz
  have hD := hD0.self (sz := s9.heap.size)
  generalize hAe : va_A [(x, .inr (8, [.ref tp, .ref t, .ref u, .ref rd, .ref ch, .ref ci, .int (nI n), .int ep]))] s9.heap.size = A at hD hZ hX ⊢
  have hA : ∀ q : Nat, s9.heap.size ≤ q → A q := fun q h => by rw [← hAe]; exact Or.inr h
  have hS : va_S A s9.heap s9.heap [] := va_S.rf
  have hP : va_P D CLS [(x, .inr (8, [.ref tp, .ref t, .ref u, .ref rd, .ref ch, .ref ci, .int (nI n), .int ep]))] s9.heap := hP
  have hl := lv_entry ([.ref x, .int (nI d), .int p1]) (n := 4) (Nat.le_of_ble_eq_true rfl)
  rw [lg_entry_eq]
  generalize (lg_sl ([.ref x, .int (nI d), .int p1]) ++ List.replicate (4 - (lg_sl ([.ref x, .int (nI d), .int p1])).length) Slot.unset).toArray = ls at hl ⊢
  have hl : lv_has ls 4 [(0, .ref x), (1, .int (nI d)), (2, .int p1)] := hl
  change W p9 l9 e9 ({ frames := 7, cells := 1, slots := 6, locals := 111 } : Room) s9 m9 _ below9 meth9 c9 _ _ _ _ _ _
  refine lv_iload_n hx hb dX10_foresee_0 rfl (lv_at hl 1 rfl) ?_
  refine lv_bipush (v := 120) hx hb dX10_foresee_1 (by decide) ?_
  refine k_v hA hP hD hS [(x, .inr (8, [.ref tp, .ref t, .ref u, .ref rd, .ref ch, .ref ci, .int (nI n), .int ep]))] (va_runS (As := [.int (nI d), .int 120]) (rest := []) ⟨hx, hb, hml, hown, hts⟩ (c_X10_checkDays l9 z D g d 120 (by first | assumption | decide | omega) (by first | assumption | decide | omega) (by first | assumption | decide | omega) (Array.size s9.heap)) (va_cwS 2 hts gs_X10_166 rfl rfl rfl (by decide +kernel) ⟨Nat.le_of_ble_eq_true rfl, Nat.le_of_ble_eq_true rfl⟩) ⟨kBlind, kPre.pc hK hZ hA hP hD hS [] rfl (by decide +kernel)⟩ rfl rfl hl.1 rfl (lv_room (Nat.le_of_ble_eq_true rfl)) dX10_foresee_3 ⟨Nat.le_of_ble_eq_true rfl, Nat.le_of_ble_eq_true rfl⟩) [] [0] rfl rfl rfl rfl (fun u_1 H locs hw_3 hP7 hD7 hS7 => ?_)
  clear hP hD hS
  have hP := hP7
  have hD := hD7
  have hS := hS7
  clear hP7 hD7 hS7
  replace hP : va_P D CLS [(x, .inr (8, [.ref tp, .ref t, .ref u, .ref rd, .ref ch, .ref ci, .int (nI n), .int ep]))] H := hP
  replace hD : va_D A [(x, .inr (8, [.ref tp, .ref t, .ref u, .ref rd, .ref ch, .ref ci, .int (nI n), .int ep]))] := hD
  refine lv_iload_n hx hb dX10_foresee_6 rfl (lv_at hl 2 rfl) ?_
  refine lv_iconst (v := 5) hx hb dX10_foresee_7 (by decide) ?_
  refine kx_v hA hP hD hS [(x, .inr (8, [.ref tp, .ref t, .ref u, .ref rd, .ref ch, .ref ci, .int (nI n), .int ep]))] (vx_runS (As := [.int p1, .int 5]) (rest := []) ⟨hx, hb, hml, hown, hts⟩ (t_X10_checkIndex_T l9 z D g p1 5 (by first | assumption | decide | omega) (by first | assumption | decide | omega) (Array.size H)) (va_cwS 2 hts gs_X10_87 rfl rfl rfl (by decide +kernel) ⟨Nat.le_of_ble_eq_true rfl, Nat.le_of_ble_eq_true rfl⟩) ⟨kBlindX, kPreX.pc hX hK hZ hA hP hD hS [] rfl (by decide +kernel)⟩ rfl rfl hl.1 rfl (lv_room (Nat.le_of_ble_eq_true rfl)) dX10_foresee_8 ⟨Nat.le_of_ble_eq_true rfl, Nat.le_of_ble_eq_true rfl⟩) [] [0] rfl rfl rfl rfl (fun ce9 q9 H locs hP7 hD7 hS7 hc7 hv7 hcl7 => ?_)
  clear hP hD hS
  have hP := hP7
  have hD := hD7
  have hS := hS7
  clear hP7 hD7 hS7
  replace hP : va_P D CLS [(x, .inr (8, [.ref tp, .ref t, .ref u, .ref rd, .ref ch, .ref ci, .int (nI n), .int ep]))] H := hP
  replace hD : va_D A [(x, .inr (8, [.ref tp, .ref t, .ref u, .ref rd, .ref ch, .ref ci, .int (nI n), .int ep]))] := hD
  exact vx_out (fun x9 h9 => (htab x9 h9).elim) hlocks hc7 hv7 hcl7 (fun t9 ht9 ha9 => xk_X hP hK hD hS [0] rfl (by decide +kernel) t9 ha9 (by rw [ht9]; exact Nat.le_refl _) (fun q9 _ => by rw [ht9])) hS.2.2 (Nat.le_of_ble_eq_true rfl) (Nat.le_of_ble_eq_true rfl)
theorem dX10_smoke_25 : decode cX10_smoke 25 = .ok (.new 64, 3) := by decide +kernel
theorem dX10_smoke_28 : decode cX10_smoke 28 = .ok (.dup, 1) := by decide +kernel
theorem dX10_smoke_29 : decode cX10_smoke 29 = .ok (.ldc 153, 2) := by decide +kernel
theorem dX10_smoke_31 : decode cX10_smoke 31 = .ok (.invokespecial 68, 3) := by decide +kernel
theorem dX10_smoke_34 : decode cX10_smoke 34 = .ok (.athrow, 1) := by decide +kernel
set_option maxHeartbeats 4000000 in
set_option maxRecDepth 100000 in
/-- ChoirStalls.smoke, throwing -/
theorem t_X10_smoke_U (l9 : Launch) (z : Nat → Nat) (D : va_G) (g : Nat → ClassId) (x : Nat) (tp : Nat) (t : Nat) (u : Nat) (rd : Nat) (ch : Nat) (ci : Nat) (n : Nat) (ep : Int32) (ca : Nat → Nat) (c : CS) (ta : Nat → Nat) (tn : Nat → Nat) (k : Nat) (hk : k < tn 2) (hm : tn 2 ≤ 10) (hc : c.1.2.2.1 < (1 : Int32)) (hfl : l9.stackTraces = false) (sz : Nat) : vx_Met l9 yX10_smoke (WS yX10_smoke cX10_smoke 3 (some .int)) ({ frames := 6, cells := 1, slots := 6, locals := 90 }) (va_Pc [.ref x, .int (nI k)] (kPreX z D g [(x, .inr (8, [.ref tp, .ref t, .ref u, .ref rd, .ref ch, .ref ci, .int (nI n), .int ep])), (ch, .inr (0, [.ref t, .int c.1.1, .int c.1.2.1, .int c.1.2.2.1, .int c.2.1, .int (-1), .ref (ca 1), .ref (ca 3), .ref (ca 5), .ref (ca 7), .ref (ca 9), .ref (ca 11), .ref (ca 13), .ref (ca 15)])), (ca 5, .inr (4, [.ref (ca 6)])), (ca 6, .inl (g 0, 10, .inl c.1.2.2.2.2.2.1)), (t, .inr (7, [.ref (ta 1), .ref (ta 3), .ref (ta 5), .ref (ta 7), .int (nI (tn 4)), .ref (ta 9), .ref (ta 11), .ref (ta 13), .ref (ta 15), .ref (ta 17), .ref (ta 19), .ref (ta 21), .ref (ta 23), .ref (ta 25), .ref (ta 27), .ref (ta 29), .ref (ta 31), .ref (ta 33), .ref (ta 35)])), (ta 5, .inr (2, [.ref (ta 6), .int (nI (tn 2))]))] sz)) (va_Qi (fun (r9 : Int32) (u9 : Unit) => False) (kB D g (va_A [(x, .inr (8, [.ref tp, .ref t, .ref u, .ref rd, .ref ch, .ref ci, .int (nI n), .int ep])), (ch, .inr (0, [.ref t, .int c.1.1, .int c.1.2.1, .int c.1.2.2.1, .int c.2.1, .int (-1), .ref (ca 1), .ref (ca 3), .ref (ca 5), .ref (ca 7), .ref (ca 9), .ref (ca 11), .ref (ca 13), .ref (ca 15)])), (ca 5, .inr (4, [.ref (ca 6)])), (ca 6, .inl (g 0, 10, .inl c.1.2.2.2.2.2.1)), (t, .inr (7, [.ref (ta 1), .ref (ta 3), .ref (ta 5), .ref (ta 7), .int (nI (tn 4)), .ref (ta 9), .ref (ta 11), .ref (ta 13), .ref (ta 15), .ref (ta 17), .ref (ta 19), .ref (ta 21), .ref (ta 23), .ref (ta 25), .ref (ta 27), .ref (ta 29), .ref (ta 31), .ref (ta 33), .ref (ta 35)])), (ta 5, .inr (2, [.ref (ta 6), .int (nI (tn 2))]))] sz) (fun (u9 : Unit) => [(x, .inr (8, [.ref tp, .ref t, .ref u, .ref rd, .ref ch, .ref ci, .int (nI n), .int ep])), (ch, .inr (0, [.ref t, .int c.1.1, .int c.1.2.1, .int c.1.2.2.1, .int c.2.1, .int (-1), .ref (ca 1), .ref (ca 3), .ref (ca 5), .ref (ca 7), .ref (ca 9), .ref (ca 11), .ref (ca 13), .ref (ca 15)])), (ca 5, .inr (4, [.ref (ca 6)])), (ca 6, .inl (g 0, 10, .inl c.1.2.2.2.2.2.1)), (t, .inr (7, [.ref (ta 1), .ref (ta 3), .ref (ta 5), .ref (ta 7), .int (nI (tn 4)), .ref (ta 9), .ref (ta 11), .ref (ta 13), .ref (ta 15), .ref (ta 17), .ref (ta 19), .ref (ta 21), .ref (ta 23), .ref (ta 25), .ref (ta 27), .ref (ta 29), .ref (ta 31), .ref (ta 33), .ref (ta 35)])), (ta 5, .inr (2, [.ref (ta 6), .int (nI (tn 2))]))])) (va_A [(x, .inr (8, [.ref tp, .ref t, .ref u, .ref rd, .ref ch, .ref ci, .int (nI n), .int ep])), (ch, .inr (0, [.ref t, .int c.1.1, .int c.1.2.1, .int c.1.2.2.1, .int c.2.1, .int (-1), .ref (ca 1), .ref (ca 3), .ref (ca 5), .ref (ca 7), .ref (ca 9), .ref (ca 11), .ref (ca 13), .ref (ca 15)])), (ca 5, .inr (4, [.ref (ca 6)])), (ca 6, .inl (g 0, 10, .inl c.1.2.2.2.2.2.1)), (t, .inr (7, [.ref (ta 1), .ref (ta 3), .ref (ta 5), .ref (ta 7), .int (nI (tn 4)), .ref (ta 9), .ref (ta 11), .ref (ta 13), .ref (ta 15), .ref (ta 17), .ref (ta 19), .ref (ta 21), .ref (ta 23), .ref (ta 25), .ref (ta 27), .ref (ta 29), .ref (ta 31), .ref (ta 33), .ref (ta 35)])), (ta 5, .inr (2, [.ref (ta 6), .int (nI (tn 2))]))] sz)) (vx_X (fun (_ : Unit) => True) (fun (E9 : String) (u9 : Unit) (t9 : State) => E9 = "java/lang/IllegalStateException" ∧ kB D g (va_A [(x, .inr (8, [.ref tp, .ref t, .ref u, .ref rd, .ref ch, .ref ci, .int (nI n), .int ep])), (ch, .inr (0, [.ref t, .int c.1.1, .int c.1.2.1, .int c.1.2.2.1, .int c.2.1, .int (-1), .ref (ca 1), .ref (ca 3), .ref (ca 5), .ref (ca 7), .ref (ca 9), .ref (ca 11), .ref (ca 13), .ref (ca 15)])), (ca 5, .inr (4, [.ref (ca 6)])), (ca 6, .inl (g 0, 10, .inl c.1.2.2.2.2.2.1)), (t, .inr (7, [.ref (ta 1), .ref (ta 3), .ref (ta 5), .ref (ta 7), .int (nI (tn 4)), .ref (ta 9), .ref (ta 11), .ref (ta 13), .ref (ta 15), .ref (ta 17), .ref (ta 19), .ref (ta 21), .ref (ta 23), .ref (ta 25), .ref (ta 27), .ref (ta 29), .ref (ta 31), .ref (ta 33), .ref (ta 35)])), (ta 5, .inr (2, [.ref (ta 6), .int (nI (tn 2))]))] sz) (fun (_ : Unit) => [(x, .inr (8, [.ref tp, .ref t, .ref u, .ref rd, .ref ch, .ref ci, .int (nI n), .int ep])), (ch, .inr (0, [.ref t, .int c.1.1, .int c.1.2.1, .int c.1.2.2.1, .int c.2.1, .int (-1), .ref (ca 1), .ref (ca 3), .ref (ca 5), .ref (ca 7), .ref (ca 9), .ref (ca 11), .ref (ca 13), .ref (ca 15)])), (ca 5, .inr (4, [.ref (ca 6)])), (ca 6, .inl (g 0, 10, .inl c.1.2.2.2.2.2.1)), (t, .inr (7, [.ref (ta 1), .ref (ta 3), .ref (ta 5), .ref (ta 7), .int (nI (tn 4)), .ref (ta 9), .ref (ta 11), .ref (ta 13), .ref (ta 15), .ref (ta 17), .ref (ta 19), .ref (ta 21), .ref (ta 23), .ref (ta 25), .ref (ta 27), .ref (ta 29), .ref (ta 31), .ref (ta 33), .ref (ta 35)])), (ta 5, .inr (2, [.ref (ta 6), .int (nI (tn 2))]))]) u9 t9) (va_A [(x, .inr (8, [.ref tp, .ref t, .ref u, .ref rd, .ref ch, .ref ci, .int (nI n), .int ep])), (ch, .inr (0, [.ref t, .int c.1.1, .int c.1.2.1, .int c.1.2.2.1, .int c.2.1, .int (-1), .ref (ca 1), .ref (ca 3), .ref (ca 5), .ref (ca 7), .ref (ca 9), .ref (ca 11), .ref (ca 13), .ref (ca 15)])), (ca 5, .inr (4, [.ref (ca 6)])), (ca 6, .inl (g 0, 10, .inl c.1.2.2.2.2.2.1)), (t, .inr (7, [.ref (ta 1), .ref (ta 3), .ref (ta 5), .ref (ta 7), .int (nI (tn 4)), .ref (ta 9), .ref (ta 11), .ref (ta 13), .ref (ta 15), .ref (ta 17), .ref (ta 19), .ref (ta 21), .ref (ta 23), .ref (ta 25), .ref (ta 27), .ref (ta 29), .ref (ta 31), .ref (ta 33), .ref (ta 35)])), (ta 5, .inr (2, [.ref (ta 6), .int (nI (tn 2))]))] sz)) 1 6 (va_A [(x, .inr (8, [.ref tp, .ref t, .ref u, .ref rd, .ref ch, .ref ci, .int (nI n), .int ep])), (ch, .inr (0, [.ref t, .int c.1.1, .int c.1.2.1, .int c.1.2.2.1, .int c.2.1, .int (-1), .ref (ca 1), .ref (ca 3), .ref (ca 5), .ref (ca 7), .ref (ca 9), .ref (ca 11), .ref (ca 13), .ref (ca 15)])), (ca 5, .inr (4, [.ref (ca 6)])), (ca 6, .inl (g 0, 10, .inl c.1.2.2.2.2.2.1)), (t, .inr (7, [.ref (ta 1), .ref (ta 3), .ref (ta 5), .ref (ta 7), .int (nI (tn 4)), .ref (ta 9), .ref (ta 11), .ref (ta 13), .ref (ta 15), .ref (ta 17), .ref (ta 19), .ref (ta 21), .ref (ta 23), .ref (ta 25), .ref (ta 27), .ref (ta 29), .ref (ta 31), .ref (ta 33), .ref (ta 35)])), (ta 5, .inr (2, [.ref (ta 6), .int (nI (tn 2))]))] sz) := by
  refine vx_ofW (cc := cX10_smoke) (maxL := 3) (ret := (some .int)) (by decide) rfl ?_
  intro p9 e9 s9 m9 args9 below9 meth9 c9 s₁ B hml htab hv
  obtain ⟨rfl, hsz, hP, hK, hD0, hZ, hX⟩ := hv
  have hx := B.exec
  have hb := B.bytes
  have hr := B.returns
  have hts := ws_sub (atoms_spec (ws := WS yX10_smoke cX10_smoke 3 (some .int)) B.pre)
  have hown : s9.vm.findClass RX10 = some m9.cls := findClass_of_methodNamed B.named
  have hlocks := B.notSynchronized
  subst hsz
  have hD := hD0.self (sz := s9.heap.size)
  generalize hAe : va_A [(x, .inr (8, [.ref tp, .ref t, .ref u, .ref rd, .ref ch, .ref ci, .int (nI n), .int ep])), (ch, .inr (0, [.ref t, .int c.1.1, .int c.1.2.1, .int c.1.2.2.1, .int c.2.1, .int (-1), .ref (ca 1), .ref (ca 3), .ref (ca 5), .ref (ca 7), .ref (ca 9), .ref (ca 11), .ref (ca 13), .ref (ca 15)])), (ca 5, .inr (4, [.ref (ca 6)])), (ca 6, .inl (g 0, 10, .inl c.1.2.2.2.2.2.1)), (t, .inr (7, [.ref (ta 1), .ref (ta 3), .ref (ta 5), .ref (ta 7), .int (nI (tn 4)), .ref (ta 9), .ref (ta 11), .ref (ta 13), .ref (ta 15), .ref (ta 17), .ref (ta 19), .ref (ta 21), .ref (ta 23), .ref (ta 25), .ref (ta 27), .ref (ta 29), .ref (ta 31), .ref (ta 33), .ref (ta 35)])), (ta 5, .inr (2, [.ref (ta 6), .int (nI (tn 2))]))] s9.heap.size = A at hD hZ hX ⊢
  have hA : ∀ q : Nat, s9.heap.size ≤ q → A q := fun q h => by rw [← hAe]; exact Or.inr h
  have hS : va_S A s9.heap s9.heap [] := va_S.rf
  have hP : va_P D CLS [(x, .inr (8, [.ref tp, .ref t, .ref u, .ref rd, .ref ch, .ref ci, .int (nI n), .int ep])), (ch, .inr (0, [.ref t, .int c.1.1, .int c.1.2.1, .int c.1.2.2.1, .int c.2.1, .int (-1), .ref (ca 1), .ref (ca 3), .ref (ca 5), .ref (ca 7), .ref (ca 9), .ref (ca 11), .ref (ca 13), .ref (ca 15)])), (ca 5, .inr (4, [.ref (ca 6)])), (ca 6, .inl (g 0, 10, .inl c.1.2.2.2.2.2.1)), (t, .inr (7, [.ref (ta 1), .ref (ta 3), .ref (ta 5), .ref (ta 7), .int (nI (tn 4)), .ref (ta 9), .ref (ta 11), .ref (ta 13), .ref (ta 15), .ref (ta 17), .ref (ta 19), .ref (ta 21), .ref (ta 23), .ref (ta 25), .ref (ta 27), .ref (ta 29), .ref (ta 31), .ref (ta 33), .ref (ta 35)])), (ta 5, .inr (2, [.ref (ta 6), .int (nI (tn 2))]))] s9.heap := hP
  have hl := lv_entry ([.ref x, .int (nI k)]) (n := 3) (Nat.le_of_ble_eq_true rfl)
  rw [lg_entry_eq]
  generalize (lg_sl ([.ref x, .int (nI k)]) ++ List.replicate (3 - (lg_sl ([.ref x, .int (nI k)])).length) Slot.unset).toArray = ls at hl ⊢
  have hl : lv_has ls 3 [(0, .ref x), (1, .int (nI k))] := hl
  change W p9 l9 e9 ({ frames := 6, cells := 1, slots := 6, locals := 90 } : Room) s9 m9 _ below9 meth9 c9 _ _ _ _ _ _
  refine lv_iload_n hx hb dX10_smoke_0 rfl (lv_at hl 1 rfl) ?_
  refine lv_aload_n hx hb dX10_smoke_1 rfl (lv_at hl 0 rfl) ?_
  refine va_get (D := D) (ci := 8) (v := .ref t) (C := RX10) (T := TX10) (N := 8) hx hb hts in_X10 hown hK hP 0 rfl rfl 1 (by decide) (hts _ w_467) (fun _ h9 => h9) rfl dX10_smoke_2 ?_
  refine va_getN (D := D) (ci := 7) (v := .ref (ta 5)) (C := RX9) (T := TX9) (N := 19) hx hb hts in_X9 hown hK hP 4 rfl rfl 2 (by decide) (hZ.nst.use nw_222) (fun _ h9 => h9) rfl dX10_smoke_5 ?_
  refine va_getN (D := D) (ci := 2) (v := .int (nI (tn 2))) (C := RX3) (T := TX3) (N := 2) hx hb hts in_X3 hown hK hP 5 rfl rfl 1 (by decide) (hZ.nst.use nw_175) (fun _ h9 => h9) rfl dX10_smoke_8 ?_
  refine k_v hA hP hD hS [(x, .inr (8, [.ref tp, .ref t, .ref u, .ref rd, .ref ch, .ref ci, .int (nI n), .int ep])), (ch, .inr (0, [.ref t, .int c.1.1, .int c.1.2.1, .int c.1.2.2.1, .int c.2.1, .int (-1), .ref (ca 1), .ref (ca 3), .ref (ca 5), .ref (ca 7), .ref (ca 9), .ref (ca 11), .ref (ca 13), .ref (ca 15)])), (ca 5, .inr (4, [.ref (ca 6)])), (ca 6, .inl (g 0, 10, .inl c.1.2.2.2.2.2.1)), (t, .inr (7, [.ref (ta 1), .ref (ta 3), .ref (ta 5), .ref (ta 7), .int (nI (tn 4)), .ref (ta 9), .ref (ta 11), .ref (ta 13), .ref (ta 15), .ref (ta 17), .ref (ta 19), .ref (ta 21), .ref (ta 23), .ref (ta 25), .ref (ta 27), .ref (ta 29), .ref (ta 31), .ref (ta 33), .ref (ta 35)])), (ta 5, .inr (2, [.ref (ta 6), .int (nI (tn 2))]))] (va_runS (As := [.int (nI k), .int (nI (tn 2))]) (rest := []) ⟨hx, hb, hml, hown, hts⟩ (c_X10_checkIndex l9 z D g k (tn 2) (by first | assumption | decide | omega) (by first | assumption | decide | omega) (Array.size s9.heap)) (va_cwS 2 hts gs_X10_87 rfl rfl rfl (by decide +kernel) ⟨Nat.le_of_ble_eq_true rfl, Nat.le_of_ble_eq_true rfl⟩) ⟨kBlind, kPre.pc hK hZ hA hP hD hS [] rfl (by decide +kernel)⟩ rfl rfl hl.1 rfl (lv_room (Nat.le_of_ble_eq_true rfl)) dX10_smoke_11 ⟨Nat.le_of_ble_eq_true rfl, Nat.le_of_ble_eq_true rfl⟩) [] [0, 1, 2, 3, 4, 5] rfl rfl rfl rfl (fun u_1 H locs hw_11 hP7 hD7 hS7 => ?_)
  clear hP hD hS
  have hP := hP7
  have hD := hD7
  have hS := hS7
  clear hP7 hD7 hS7
  replace hP : va_P D CLS [(x, .inr (8, [.ref tp, .ref t, .ref u, .ref rd, .ref ch, .ref ci, .int (nI n), .int ep])), (ch, .inr (0, [.ref t, .int c.1.1, .int c.1.2.1, .int c.1.2.2.1, .int c.2.1, .int (-1), .ref (ca 1), .ref (ca 3), .ref (ca 5), .ref (ca 7), .ref (ca 9), .ref (ca 11), .ref (ca 13), .ref (ca 15)])), (ca 5, .inr (4, [.ref (ca 6)])), (ca 6, .inl (g 0, 10, .inl c.1.2.2.2.2.2.1)), (t, .inr (7, [.ref (ta 1), .ref (ta 3), .ref (ta 5), .ref (ta 7), .int (nI (tn 4)), .ref (ta 9), .ref (ta 11), .ref (ta 13), .ref (ta 15), .ref (ta 17), .ref (ta 19), .ref (ta 21), .ref (ta 23), .ref (ta 25), .ref (ta 27), .ref (ta 29), .ref (ta 31), .ref (ta 33), .ref (ta 35)])), (ta 5, .inr (2, [.ref (ta 6), .int (nI (tn 2))]))] H := hP
  replace hD : va_D A [(x, .inr (8, [.ref tp, .ref t, .ref u, .ref rd, .ref ch, .ref ci, .int (nI n), .int ep])), (ch, .inr (0, [.ref t, .int c.1.1, .int c.1.2.1, .int c.1.2.2.1, .int c.2.1, .int (-1), .ref (ca 1), .ref (ca 3), .ref (ca 5), .ref (ca 7), .ref (ca 9), .ref (ca 11), .ref (ca 13), .ref (ca 15)])), (ca 5, .inr (4, [.ref (ca 6)])), (ca 6, .inl (g 0, 10, .inl c.1.2.2.2.2.2.1)), (t, .inr (7, [.ref (ta 1), .ref (ta 3), .ref (ta 5), .ref (ta 7), .int (nI (tn 4)), .ref (ta 9), .ref (ta 11), .ref (ta 13), .ref (ta 15), .ref (ta 17), .ref (ta 19), .ref (ta 21), .ref (ta 23), .ref (ta 25), .ref (ta 27), .ref (ta 29), .ref (ta 31), .ref (ta 33), .ref (ta 35)])), (ta 5, .inr (2, [.ref (ta 6), .int (nI (tn 2))]))] := hD
  refine lv_aload_n hx hb dX10_smoke_14 rfl (lv_at hl 0 rfl) ?_
  refine va_get (D := D) (ci := 8) (v := .ref ch) (C := RX10) (T := TX10) (N := 8) hx hb hts in_X10 hown hK hP 0 rfl rfl 4 (by decide) (hts _ w_470) (fun _ h9 => h9) rfl dX10_smoke_15 ?_
  refine va_getN (D := D) (ci := 0) (v := .int c.1.2.2.1) (C := RX1) (T := TX1) (N := 14) hx hb hts in_X1 hown hK hP 1 rfl rfl 3 (by decide) (hZ.nst.use nw_414) (fun _ h9 => h9) rfl dX10_smoke_18 ?_
  refine lv_iconst (v := 1) hx hb dX10_smoke_21 (by decide) ?_
  refine lv_icmp_ge (tgt := 35) hx hb dX10_smoke_22 (by decide) (fun c_22 => ?_) (fun c_22 => ?_)
  · skip
    exact absurd hc (Int32.not_lt.mpr c_22)
  · skip
    exact vx_throwS hx hb hfl (own := RX10) (cls := "java/lang/IllegalStateException") (text := "there is no coin") (names := xNM) (ik := 64) (is := 153) (ic := 68) (sa := z 204) (A := A) hown (by decide +kernel) (by decide +kernel) (hts _ w_925) (hts _ w_125) hX.2.2.1.2.2.2.2.1 (xat_ISE hts hZ.nst) (xgd_ISE) hX.1 hX.2.1 hS (hl.1.trans hml.symm) dX10_smoke_25 dX10_smoke_28 dX10_smoke_29 dX10_smoke_31 dX10_smoke_34 (fun x9 h9 => (htab x9 h9).elim) (by decide) (by decide) (Nat.le_of_ble_eq_true rfl) (Nat.le_of_ble_eq_true rfl) hlocks (xk_X hP hK hD hS [0, 1, 2, 3, 4, 5] rfl (by decide +kernel)) hS.2.2 (Nat.le_of_ble_eq_true rfl) (Nat.le_of_ble_eq_true rfl)
theorem dX10_strip_31 : decode cX10_strip 31 = .ok (.new 64, 3) := by decide +kernel
theorem dX10_strip_34 : decode cX10_strip 34 = .ok (.dup, 1) := by decide +kernel
theorem dX10_strip_35 : decode cX10_strip 35 = .ok (.ldc 161, 2) := by decide +kernel
theorem dX10_strip_37 : decode cX10_strip 37 = .ok (.invokespecial 68, 3) := by decide +kernel
theorem dX10_strip_40 : decode cX10_strip 40 = .ok (.athrow, 1) := by decide +kernel
set_option maxHeartbeats 4000000 in
set_option maxRecDepth 100000 in
/-- ChoirStalls.strip, throwing -/
theorem t_X10_strip_U (l9 : Launch) (z : Nat → Nat) (D : va_G) (g : Nat → ClassId) (x : Nat) (tp : Nat) (t : Nat) (u : Nat) (rd : Nat) (ch : Nat) (ci : Nat) (n : Nat) (ep : Int32) (ca : Nat → Nat) (c : CS) (ta : Nat → Nat) (tn : Nat → Nat) (k : Nat) (hk : k < tn 2) (hm : tn 2 ≤ 10) (hbe : rat 10 c.1.2.2.2.1 (nI k) = (-1)) (hfl : l9.stackTraces = false) (sz : Nat) : vx_Met l9 yX10_strip (WS yX10_strip cX10_strip 3 (some .int)) ({ frames := 6, cells := 1, slots := 6, locals := 90 }) (va_Pc [.ref x, .int (nI k)] (kPreX z D g [(x, .inr (8, [.ref tp, .ref t, .ref u, .ref rd, .ref ch, .ref ci, .int (nI n), .int ep])), (ch, .inr (0, [.ref t, .int c.1.1, .int c.1.2.1, .int c.1.2.2.1, .int c.2.1, .int (-1), .ref (ca 1), .ref (ca 3), .ref (ca 5), .ref (ca 7), .ref (ca 9), .ref (ca 11), .ref (ca 13), .ref (ca 15)])), (ca 1, .inr (4, [.ref (ca 2)])), (ca 2, .inl (g 0, 10, .inl c.1.2.2.2.1)), (t, .inr (7, [.ref (ta 1), .ref (ta 3), .ref (ta 5), .ref (ta 7), .int (nI (tn 4)), .ref (ta 9), .ref (ta 11), .ref (ta 13), .ref (ta 15), .ref (ta 17), .ref (ta 19), .ref (ta 21), .ref (ta 23), .ref (ta 25), .ref (ta 27), .ref (ta 29), .ref (ta 31), .ref (ta 33), .ref (ta 35)])), (ta 5, .inr (2, [.ref (ta 6), .int (nI (tn 2))]))] sz)) (va_Qi (fun (r9 : Int32) (u9 : Unit) => False) (kB D g (va_A [(x, .inr (8, [.ref tp, .ref t, .ref u, .ref rd, .ref ch, .ref ci, .int (nI n), .int ep])), (ch, .inr (0, [.ref t, .int c.1.1, .int c.1.2.1, .int c.1.2.2.1, .int c.2.1, .int (-1), .ref (ca 1), .ref (ca 3), .ref (ca 5), .ref (ca 7), .ref (ca 9), .ref (ca 11), .ref (ca 13), .ref (ca 15)])), (ca 1, .inr (4, [.ref (ca 2)])), (ca 2, .inl (g 0, 10, .inl c.1.2.2.2.1)), (t, .inr (7, [.ref (ta 1), .ref (ta 3), .ref (ta 5), .ref (ta 7), .int (nI (tn 4)), .ref (ta 9), .ref (ta 11), .ref (ta 13), .ref (ta 15), .ref (ta 17), .ref (ta 19), .ref (ta 21), .ref (ta 23), .ref (ta 25), .ref (ta 27), .ref (ta 29), .ref (ta 31), .ref (ta 33), .ref (ta 35)])), (ta 5, .inr (2, [.ref (ta 6), .int (nI (tn 2))]))] sz) (fun (u9 : Unit) => [(x, .inr (8, [.ref tp, .ref t, .ref u, .ref rd, .ref ch, .ref ci, .int (nI n), .int ep])), (ch, .inr (0, [.ref t, .int c.1.1, .int c.1.2.1, .int c.1.2.2.1, .int c.2.1, .int (-1), .ref (ca 1), .ref (ca 3), .ref (ca 5), .ref (ca 7), .ref (ca 9), .ref (ca 11), .ref (ca 13), .ref (ca 15)])), (ca 1, .inr (4, [.ref (ca 2)])), (ca 2, .inl (g 0, 10, .inl c.1.2.2.2.1)), (t, .inr (7, [.ref (ta 1), .ref (ta 3), .ref (ta 5), .ref (ta 7), .int (nI (tn 4)), .ref (ta 9), .ref (ta 11), .ref (ta 13), .ref (ta 15), .ref (ta 17), .ref (ta 19), .ref (ta 21), .ref (ta 23), .ref (ta 25), .ref (ta 27), .ref (ta 29), .ref (ta 31), .ref (ta 33), .ref (ta 35)])), (ta 5, .inr (2, [.ref (ta 6), .int (nI (tn 2))]))])) (va_A [(x, .inr (8, [.ref tp, .ref t, .ref u, .ref rd, .ref ch, .ref ci, .int (nI n), .int ep])), (ch, .inr (0, [.ref t, .int c.1.1, .int c.1.2.1, .int c.1.2.2.1, .int c.2.1, .int (-1), .ref (ca 1), .ref (ca 3), .ref (ca 5), .ref (ca 7), .ref (ca 9), .ref (ca 11), .ref (ca 13), .ref (ca 15)])), (ca 1, .inr (4, [.ref (ca 2)])), (ca 2, .inl (g 0, 10, .inl c.1.2.2.2.1)), (t, .inr (7, [.ref (ta 1), .ref (ta 3), .ref (ta 5), .ref (ta 7), .int (nI (tn 4)), .ref (ta 9), .ref (ta 11), .ref (ta 13), .ref (ta 15), .ref (ta 17), .ref (ta 19), .ref (ta 21), .ref (ta 23), .ref (ta 25), .ref (ta 27), .ref (ta 29), .ref (ta 31), .ref (ta 33), .ref (ta 35)])), (ta 5, .inr (2, [.ref (ta 6), .int (nI (tn 2))]))] sz)) (vx_X (fun (_ : Unit) => True) (fun (E9 : String) (u9 : Unit) (t9 : State) => E9 = "java/lang/IllegalStateException" ∧ kB D g (va_A [(x, .inr (8, [.ref tp, .ref t, .ref u, .ref rd, .ref ch, .ref ci, .int (nI n), .int ep])), (ch, .inr (0, [.ref t, .int c.1.1, .int c.1.2.1, .int c.1.2.2.1, .int c.2.1, .int (-1), .ref (ca 1), .ref (ca 3), .ref (ca 5), .ref (ca 7), .ref (ca 9), .ref (ca 11), .ref (ca 13), .ref (ca 15)])), (ca 1, .inr (4, [.ref (ca 2)])), (ca 2, .inl (g 0, 10, .inl c.1.2.2.2.1)), (t, .inr (7, [.ref (ta 1), .ref (ta 3), .ref (ta 5), .ref (ta 7), .int (nI (tn 4)), .ref (ta 9), .ref (ta 11), .ref (ta 13), .ref (ta 15), .ref (ta 17), .ref (ta 19), .ref (ta 21), .ref (ta 23), .ref (ta 25), .ref (ta 27), .ref (ta 29), .ref (ta 31), .ref (ta 33), .ref (ta 35)])), (ta 5, .inr (2, [.ref (ta 6), .int (nI (tn 2))]))] sz) (fun (_ : Unit) => [(x, .inr (8, [.ref tp, .ref t, .ref u, .ref rd, .ref ch, .ref ci, .int (nI n), .int ep])), (ch, .inr (0, [.ref t, .int c.1.1, .int c.1.2.1, .int c.1.2.2.1, .int c.2.1, .int (-1), .ref (ca 1), .ref (ca 3), .ref (ca 5), .ref (ca 7), .ref (ca 9), .ref (ca 11), .ref (ca 13), .ref (ca 15)])), (ca 1, .inr (4, [.ref (ca 2)])), (ca 2, .inl (g 0, 10, .inl c.1.2.2.2.1)), (t, .inr (7, [.ref (ta 1), .ref (ta 3), .ref (ta 5), .ref (ta 7), .int (nI (tn 4)), .ref (ta 9), .ref (ta 11), .ref (ta 13), .ref (ta 15), .ref (ta 17), .ref (ta 19), .ref (ta 21), .ref (ta 23), .ref (ta 25), .ref (ta 27), .ref (ta 29), .ref (ta 31), .ref (ta 33), .ref (ta 35)])), (ta 5, .inr (2, [.ref (ta 6), .int (nI (tn 2))]))]) u9 t9) (va_A [(x, .inr (8, [.ref tp, .ref t, .ref u, .ref rd, .ref ch, .ref ci, .int (nI n), .int ep])), (ch, .inr (0, [.ref t, .int c.1.1, .int c.1.2.1, .int c.1.2.2.1, .int c.2.1, .int (-1), .ref (ca 1), .ref (ca 3), .ref (ca 5), .ref (ca 7), .ref (ca 9), .ref (ca 11), .ref (ca 13), .ref (ca 15)])), (ca 1, .inr (4, [.ref (ca 2)])), (ca 2, .inl (g 0, 10, .inl c.1.2.2.2.1)), (t, .inr (7, [.ref (ta 1), .ref (ta 3), .ref (ta 5), .ref (ta 7), .int (nI (tn 4)), .ref (ta 9), .ref (ta 11), .ref (ta 13), .ref (ta 15), .ref (ta 17), .ref (ta 19), .ref (ta 21), .ref (ta 23), .ref (ta 25), .ref (ta 27), .ref (ta 29), .ref (ta 31), .ref (ta 33), .ref (ta 35)])), (ta 5, .inr (2, [.ref (ta 6), .int (nI (tn 2))]))] sz)) 1 6 (va_A [(x, .inr (8, [.ref tp, .ref t, .ref u, .ref rd, .ref ch, .ref ci, .int (nI n), .int ep])), (ch, .inr (0, [.ref t, .int c.1.1, .int c.1.2.1, .int c.1.2.2.1, .int c.2.1, .int (-1), .ref (ca 1), .ref (ca 3), .ref (ca 5), .ref (ca 7), .ref (ca 9), .ref (ca 11), .ref (ca 13), .ref (ca 15)])), (ca 1, .inr (4, [.ref (ca 2)])), (ca 2, .inl (g 0, 10, .inl c.1.2.2.2.1)), (t, .inr (7, [.ref (ta 1), .ref (ta 3), .ref (ta 5), .ref (ta 7), .int (nI (tn 4)), .ref (ta 9), .ref (ta 11), .ref (ta 13), .ref (ta 15), .ref (ta 17), .ref (ta 19), .ref (ta 21), .ref (ta 23), .ref (ta 25), .ref (ta 27), .ref (ta 29), .ref (ta 31), .ref (ta 33), .ref (ta 35)])), (ta 5, .inr (2, [.ref (ta 6), .int (nI (tn 2))]))] sz) := by
  refine vx_ofW (cc := cX10_strip) (maxL := 3) (ret := (some .int)) (by decide) rfl ?_
  intro p9 e9 s9 m9 args9 below9 meth9 c9 s₁ B hml htab hv
  obtain ⟨rfl, hsz, hP, hK, hD0, hZ, hX⟩ := hv
  have hx := B.exec
  have hb := B.bytes
  have hr := B.returns
  have hts := ws_sub (atoms_spec (ws := WS yX10_strip cX10_strip 3 (some .int)) B.pre)
  have hown : s9.vm.findClass RX10 = some m9.cls := findClass_of_methodNamed B.named
  have hlocks := B.notSynchronized
  subst hsz
  have hD := hD0.self (sz := s9.heap.size)
  generalize hAe : va_A [(x, .inr (8, [.ref tp, .ref t, .ref u, .ref rd, .ref ch, .ref ci, .int (nI n), .int ep])), (ch, .inr (0, [.ref t, .int c.1.1, .int c.1.2.1, .int c.1.2.2.1, .int c.2.1, .int (-1), .ref (ca 1), .ref (ca 3), .ref (ca 5), .ref (ca 7), .ref (ca 9), .ref (ca 11), .ref (ca 13), .ref (ca 15)])), (ca 1, .inr (4, [.ref (ca 2)])), (ca 2, .inl (g 0, 10, .inl c.1.2.2.2.1)), (t, .inr (7, [.ref (ta 1), .ref (ta 3), .ref (ta 5), .ref (ta 7), .int (nI (tn 4)), .ref (ta 9), .ref (ta 11), .ref (ta 13), .ref (ta 15), .ref (ta 17), .ref (ta 19), .ref (ta 21), .ref (ta 23), .ref (ta 25), .ref (ta 27), .ref (ta 29), .ref (ta 31), .ref (ta 33), .ref (ta 35)])), (ta 5, .inr (2, [.ref (ta 6), .int (nI (tn 2))]))] s9.heap.size = A at hD hZ hX ⊢
  have hA : ∀ q : Nat, s9.heap.size ≤ q → A q := fun q h => by rw [← hAe]; exact Or.inr h
  have hS : va_S A s9.heap s9.heap [] := va_S.rf
  have hP : va_P D CLS [(x, .inr (8, [.ref tp, .ref t, .ref u, .ref rd, .ref ch, .ref ci, .int (nI n), .int ep])), (ch, .inr (0, [.ref t, .int c.1.1, .int c.1.2.1, .int c.1.2.2.1, .int c.2.1, .int (-1), .ref (ca 1), .ref (ca 3), .ref (ca 5), .ref (ca 7), .ref (ca 9), .ref (ca 11), .ref (ca 13), .ref (ca 15)])), (ca 1, .inr (4, [.ref (ca 2)])), (ca 2, .inl (g 0, 10, .inl c.1.2.2.2.1)), (t, .inr (7, [.ref (ta 1), .ref (ta 3), .ref (ta 5), .ref (ta 7), .int (nI (tn 4)), .ref (ta 9), .ref (ta 11), .ref (ta 13), .ref (ta 15), .ref (ta 17), .ref (ta 19), .ref (ta 21), .ref (ta 23), .ref (ta 25), .ref (ta 27), .ref (ta 29), .ref (ta 31), .ref (ta 33), .ref (ta 35)])), (ta 5, .inr (2, [.ref (ta 6), .int (nI (tn 2))]))] s9.heap := hP
  have hl := lv_entry ([.ref x, .int (nI k)]) (n := 3) (Nat.le_of_ble_eq_true rfl)
  rw [lg_entry_eq]
  generalize (lg_sl ([.ref x, .int (nI k)]) ++ List.replicate (3 - (lg_sl ([.ref x, .int (nI k)])).length) Slot.unset).toArray = ls at hl ⊢
  have hl : lv_has ls 3 [(0, .ref x), (1, .int (nI k))] := hl
  change W p9 l9 e9 ({ frames := 6, cells := 1, slots := 6, locals := 90 } : Room) s9 m9 _ below9 meth9 c9 _ _ _ _ _ _
  refine lv_iload_n hx hb dX10_strip_0 rfl (lv_at hl 1 rfl) ?_
  refine lv_aload_n hx hb dX10_strip_1 rfl (lv_at hl 0 rfl) ?_
  refine va_get (D := D) (ci := 8) (v := .ref t) (C := RX10) (T := TX10) (N := 8) hx hb hts in_X10 hown hK hP 0 rfl rfl 1 (by decide) (hts _ w_467) (fun _ h9 => h9) rfl dX10_strip_2 ?_
  refine va_getN (D := D) (ci := 7) (v := .ref (ta 5)) (C := RX9) (T := TX9) (N := 19) hx hb hts in_X9 hown hK hP 4 rfl rfl 2 (by decide) (hZ.nst.use nw_222) (fun _ h9 => h9) rfl dX10_strip_5 ?_
  refine va_getN (D := D) (ci := 2) (v := .int (nI (tn 2))) (C := RX3) (T := TX3) (N := 2) hx hb hts in_X3 hown hK hP 5 rfl rfl 1 (by decide) (hZ.nst.use nw_175) (fun _ h9 => h9) rfl dX10_strip_8 ?_
  refine k_v hA hP hD hS [(x, .inr (8, [.ref tp, .ref t, .ref u, .ref rd, .ref ch, .ref ci, .int (nI n), .int ep])), (ch, .inr (0, [.ref t, .int c.1.1, .int c.1.2.1, .int c.1.2.2.1, .int c.2.1, .int (-1), .ref (ca 1), .ref (ca 3), .ref (ca 5), .ref (ca 7), .ref (ca 9), .ref (ca 11), .ref (ca 13), .ref (ca 15)])), (ca 1, .inr (4, [.ref (ca 2)])), (ca 2, .inl (g 0, 10, .inl c.1.2.2.2.1)), (t, .inr (7, [.ref (ta 1), .ref (ta 3), .ref (ta 5), .ref (ta 7), .int (nI (tn 4)), .ref (ta 9), .ref (ta 11), .ref (ta 13), .ref (ta 15), .ref (ta 17), .ref (ta 19), .ref (ta 21), .ref (ta 23), .ref (ta 25), .ref (ta 27), .ref (ta 29), .ref (ta 31), .ref (ta 33), .ref (ta 35)])), (ta 5, .inr (2, [.ref (ta 6), .int (nI (tn 2))]))] (va_runS (As := [.int (nI k), .int (nI (tn 2))]) (rest := []) ⟨hx, hb, hml, hown, hts⟩ (c_X10_checkIndex l9 z D g k (tn 2) (by first | assumption | decide | omega) (by first | assumption | decide | omega) (Array.size s9.heap)) (va_cwS 2 hts gs_X10_87 rfl rfl rfl (by decide +kernel) ⟨Nat.le_of_ble_eq_true rfl, Nat.le_of_ble_eq_true rfl⟩) ⟨kBlind, kPre.pc hK hZ hA hP hD hS [] rfl (by decide +kernel)⟩ rfl rfl hl.1 rfl (lv_room (Nat.le_of_ble_eq_true rfl)) dX10_strip_11 ⟨Nat.le_of_ble_eq_true rfl, Nat.le_of_ble_eq_true rfl⟩) [] [0, 1, 2, 3, 4, 5] rfl rfl rfl rfl (fun u_1 H locs hw_11 hP7 hD7 hS7 => ?_)
  clear hP hD hS
  have hP := hP7
  have hD := hD7
  have hS := hS7
  clear hP7 hD7 hS7
  replace hP : va_P D CLS [(x, .inr (8, [.ref tp, .ref t, .ref u, .ref rd, .ref ch, .ref ci, .int (nI n), .int ep])), (ch, .inr (0, [.ref t, .int c.1.1, .int c.1.2.1, .int c.1.2.2.1, .int c.2.1, .int (-1), .ref (ca 1), .ref (ca 3), .ref (ca 5), .ref (ca 7), .ref (ca 9), .ref (ca 11), .ref (ca 13), .ref (ca 15)])), (ca 1, .inr (4, [.ref (ca 2)])), (ca 2, .inl (g 0, 10, .inl c.1.2.2.2.1)), (t, .inr (7, [.ref (ta 1), .ref (ta 3), .ref (ta 5), .ref (ta 7), .int (nI (tn 4)), .ref (ta 9), .ref (ta 11), .ref (ta 13), .ref (ta 15), .ref (ta 17), .ref (ta 19), .ref (ta 21), .ref (ta 23), .ref (ta 25), .ref (ta 27), .ref (ta 29), .ref (ta 31), .ref (ta 33), .ref (ta 35)])), (ta 5, .inr (2, [.ref (ta 6), .int (nI (tn 2))]))] H := hP
  replace hD : va_D A [(x, .inr (8, [.ref tp, .ref t, .ref u, .ref rd, .ref ch, .ref ci, .int (nI n), .int ep])), (ch, .inr (0, [.ref t, .int c.1.1, .int c.1.2.1, .int c.1.2.2.1, .int c.2.1, .int (-1), .ref (ca 1), .ref (ca 3), .ref (ca 5), .ref (ca 7), .ref (ca 9), .ref (ca 11), .ref (ca 13), .ref (ca 15)])), (ca 1, .inr (4, [.ref (ca 2)])), (ca 2, .inl (g 0, 10, .inl c.1.2.2.2.1)), (t, .inr (7, [.ref (ta 1), .ref (ta 3), .ref (ta 5), .ref (ta 7), .int (nI (tn 4)), .ref (ta 9), .ref (ta 11), .ref (ta 13), .ref (ta 15), .ref (ta 17), .ref (ta 19), .ref (ta 21), .ref (ta 23), .ref (ta 25), .ref (ta 27), .ref (ta 29), .ref (ta 31), .ref (ta 33), .ref (ta 35)])), (ta 5, .inr (2, [.ref (ta 6), .int (nI (tn 2))]))] := hD
  refine lv_aload_n hx hb dX10_strip_14 rfl (lv_at hl 0 rfl) ?_
  refine va_get (D := D) (ci := 8) (v := .ref ch) (C := RX10) (T := TX10) (N := 8) hx hb hts in_X10 hown hK hP 0 rfl rfl 4 (by decide) (hts _ w_470) (fun _ h9 => h9) rfl dX10_strip_15 ?_
  refine va_getN (D := D) (ci := 0) (v := .ref (ca 1)) (C := RX1) (T := TX1) (N := 14) hx hb hts in_X1 hown hK hP 1 rfl rfl 6 (by decide) (hZ.nst.use nw_421) (fun _ h9 => h9) rfl dX10_strip_18 ?_
  refine lv_iload_n hx hb dX10_strip_21 rfl (lv_at hl 1 rfl) ?_
  refine k_i hA hP hD hS [(x, .inr (8, [.ref tp, .ref t, .ref u, .ref rd, .ref ch, .ref ci, .int (nI n), .int ep])), (ch, .inr (0, [.ref t, .int c.1.1, .int c.1.2.1, .int c.1.2.2.1, .int c.2.1, .int (-1), .ref (ca 1), .ref (ca 3), .ref (ca 5), .ref (ca 7), .ref (ca 9), .ref (ca 11), .ref (ca 13), .ref (ca 15)])), (t, .inr (7, [.ref (ta 1), .ref (ta 3), .ref (ta 5), .ref (ta 7), .int (nI (tn 4)), .ref (ta 9), .ref (ta 11), .ref (ta 13), .ref (ta 15), .ref (ta 17), .ref (ta 19), .ref (ta 21), .ref (ta 23), .ref (ta 25), .ref (ta 27), .ref (ta 29), .ref (ta 31), .ref (ta 33), .ref (ta 35)])), (ta 5, .inr (2, [.ref (ta 6), .int (nI (tn 2))]))] (va_runV (As := [.int (nI k)]) (rest := []) ⟨hx, hb, hml, hown, hts⟩ (c_X5_at l9 z D g (ca 1) (ca 2) 10 c.1.2.2.2.1 (nI k) (by first | assumption | decide | omega) (Array.size H)) (cwV 1 hts gv_X10_144 rfl rfl rfl (by decide +kernel) ⟨Nat.le_of_ble_eq_true rfl, Nat.le_of_ble_eq_true rfl⟩) ⟨kBlind, va_recv hK hP (ci := 4) (q0 := 2) rfl rfl, kPre.pc hK hZ hA hP hD hS [2, 3] rfl (by decide +kernel)⟩ rfl rfl hl.1 rfl (lv_room (Nat.le_of_ble_eq_true rfl)) dX10_strip_22 ⟨Nat.le_of_ble_eq_true rfl, Nat.le_of_ble_eq_true rfl⟩) [2, 3] [0, 1, 4, 5] rfl rfl rfl rfl (fun r_22 u_2 H locs hw_22 hP7 hD7 hS7 => ?_)
  clear hP hD hS
  have hP := hP7
  have hD := hD7
  have hS := hS7
  clear hP7 hD7 hS7
  obtain rfl := hw_22
  replace hP : va_P D CLS [(x, .inr (8, [.ref tp, .ref t, .ref u, .ref rd, .ref ch, .ref ci, .int (nI n), .int ep])), (ch, .inr (0, [.ref t, .int c.1.1, .int c.1.2.1, .int c.1.2.2.1, .int c.2.1, .int (-1), .ref (ca 1), .ref (ca 3), .ref (ca 5), .ref (ca 7), .ref (ca 9), .ref (ca 11), .ref (ca 13), .ref (ca 15)])), (t, .inr (7, [.ref (ta 1), .ref (ta 3), .ref (ta 5), .ref (ta 7), .int (nI (tn 4)), .ref (ta 9), .ref (ta 11), .ref (ta 13), .ref (ta 15), .ref (ta 17), .ref (ta 19), .ref (ta 21), .ref (ta 23), .ref (ta 25), .ref (ta 27), .ref (ta 29), .ref (ta 31), .ref (ta 33), .ref (ta 35)])), (ta 5, .inr (2, [.ref (ta 6), .int (nI (tn 2))])), (ca 1, .inr (4, [.ref (ca 2)])), (ca 2, .inl (g 0, 10, .inl c.1.2.2.2.1))] H := hP
  replace hD : va_D A [(x, .inr (8, [.ref tp, .ref t, .ref u, .ref rd, .ref ch, .ref ci, .int (nI n), .int ep])), (ch, .inr (0, [.ref t, .int c.1.1, .int c.1.2.1, .int c.1.2.2.1, .int c.2.1, .int (-1), .ref (ca 1), .ref (ca 3), .ref (ca 5), .ref (ca 7), .ref (ca 9), .ref (ca 11), .ref (ca 13), .ref (ca 15)])), (t, .inr (7, [.ref (ta 1), .ref (ta 3), .ref (ta 5), .ref (ta 7), .int (nI (tn 4)), .ref (ta 9), .ref (ta 11), .ref (ta 13), .ref (ta 15), .ref (ta 17), .ref (ta 19), .ref (ta 21), .ref (ta 23), .ref (ta 25), .ref (ta 27), .ref (ta 29), .ref (ta 31), .ref (ta 33), .ref (ta 35)])), (ta 5, .inr (2, [.ref (ta 6), .int (nI (tn 2))])), (ca 1, .inr (4, [.ref (ca 2)])), (ca 2, .inl (g 0, 10, .inl c.1.2.2.2.1))] := hD
  refine lv_istore_n (lv' := [(2, .int (rat 10 c.1.2.2.2.1 (nI k))), (0, .ref x), (1, .int (nI k))]) hx hb dX10_strip_25 rfl hl (by decide) rfl (fun ls hl => ?_)
  refine lv_iload_n hx hb dX10_strip_26 rfl (lv_at hl 0 rfl) ?_
  refine lv_iconst (v := (-1)) hx hb dX10_strip_27 (by decide) ?_
  refine lv_icmp_ne (tgt := 41) hx hb dX10_strip_28 (by decide) (fun c_28 => ?_) (fun c_28 => ?_)
  · skip
    exact absurd hbe c_28
  · skip
    exact vx_throwS hx hb hfl (own := RX10) (cls := "java/lang/IllegalStateException") (text := "the stall bears no beast") (names := xNM) (ik := 64) (is := 161) (ic := 68) (sa := z 205) (A := A) hown (by decide +kernel) (by decide +kernel) (hts _ w_925) (hts _ w_125) hX.2.2.1.2.2.2.2.2.1 (xat_ISE hts hZ.nst) (xgd_ISE) hX.1 hX.2.1 hS (hl.1.trans hml.symm) dX10_strip_31 dX10_strip_34 dX10_strip_35 dX10_strip_37 dX10_strip_40 (fun x9 h9 => (htab x9 h9).elim) (by decide) (by decide) (Nat.le_of_ble_eq_true rfl) (Nat.le_of_ble_eq_true rfl) hlocks (xk_X hP hK hD hS [0, 1, 4, 5, 2, 3] rfl (by decide +kernel)) hS.2.2 (Nat.le_of_ble_eq_true rfl) (Nat.le_of_ble_eq_true rfl)
theorem dL_feed_0 : decode cL_feed 0 = .ok (.aload 6, 2) := by decide +kernel
theorem dL_feed_2 : decode cL_feed 2 = .ok (.iconst 0, 1) := by decide +kernel
theorem dL_feed_3 : decode cL_feed 3 = .ok (.aload_n 0, 1) := by decide +kernel
theorem dL_feed_4 : decode cL_feed 4 = .ok (.iload_n 1, 1) := by decide +kernel
theorem dL_feed_5 : decode cL_feed 5 = .ok (.iload_n 2, 1) := by decide +kernel
theorem dL_feed_6 : decode cL_feed 6 = .ok (.iload_n 3, 1) := by decide +kernel
theorem dL_feed_7 : decode cL_feed 7 = .ok (.iload 4, 2) := by decide +kernel
theorem dL_feed_9 : decode cL_feed 9 = .ok (.iload 5, 2) := by decide +kernel
theorem dL_feed_11 : decode cL_feed 11 = .ok (.invokevirtual 7, 3) := by decide +kernel
theorem dL_feed_14 : decode cL_feed 14 = .ok (.i2l, 1) := by decide +kernel
theorem dL_feed_15 : decode cL_feed 15 = .ok (.lastore, 1) := by decide +kernel
theorem dL_feed_16 : decode cL_feed 16 = .ok (.goto 7, 3) := by decide +kernel
theorem dL_feed_23 : decode cL_feed 23 = .ok (.iconst 0, 1) := by decide +kernel
theorem dL_feed_24 : decode cL_feed 24 = .ok (.ireturn, 1) := by decide +kernel
set_option maxHeartbeats 4000000 in
set_option maxRecDepth 100000 in
/-- the law, feed: 0 -/
theorem c_L_feed_V (l9 : Launch) (z : Nat → Nat) (D : va_G) (g : Nat → ClassId) (x : Nat) (tp : Nat) (t : Nat) (u : Nat) (rd : Nat) (ch : Nat) (ci : Nat) (n : Nat) (ep : Int32) (tpa : Nat) (bt : Nat → Int32) (p0 : Int32) (p1 : Int32) (p2 : Int32) (p3 : Int32) (p4 : Int32) (ou : Nat) (of : Nat → Int64) (hn : n + 20 ≤ 2000) (sz : Nat) : Met l9 yL_feed (WSH yL_feed cL_feed 8 (some .int) [(0, 16, 19, 13)]) ({ frames := 3, cells := 0, slots := 0, locals := 69 }) (va_Pc [.ref x, .int p0, .int p1, .int p2, .int p3, .int p4, .ref ou] (kPre z D g [(x, .inr (8, [.ref tp, .ref t, .ref u, .ref rd, .ref ch, .ref ci, .int (nI n), .int ep])), (tp, .inr (4, [.ref tpa])), (tpa, .inl (g 0, 2000, .inl bt)), (ou, .inl (g 1, 1, .inr (.inl of)))] sz)) (va_Qi (fun (r9 : Int32) (u9 : Unit) => r9 = (0 : Int32)) (kB D g (va_A [(x, .inr (8, [.ref tp, .ref t, .ref u, .ref rd, .ref ch, .ref ci, .int (nI n), .int ep])), (tp, .inr (4, [.ref tpa])), (tpa, .inl (g 0, 2000, .inl bt)), (ou, .inl (g 1, 1, .inr (.inl of)))] sz) (fun (u9 : Unit) => [(x, .inr (8, [.ref tp, .ref t, .ref u, .ref rd, .ref ch, .ref ci, .int (nI (n + 20)), .int ep])), (tp, .inr (4, [.ref tpa])), (tpa, .inl (g 0, 2000, .inl (fd5 bt n p0 p1 p2 p3 p4))), (ou, .inl (g 1, 1, .inr (.inl (vp_updL of 0 ((nI (n + 20)).toInt64)))))])) (va_A [(x, .inr (8, [.ref tp, .ref t, .ref u, .ref rd, .ref ch, .ref ci, .int (nI n), .int ep])), (tp, .inr (4, [.ref tpa])), (tpa, .inl (g 0, 2000, .inl bt)), (ou, .inl (g 1, 1, .inr (.inl of)))] sz)) 0 0 (va_A [(x, .inr (8, [.ref tp, .ref t, .ref u, .ref rd, .ref ch, .ref ci, .int (nI n), .int ep])), (tp, .inr (4, [.ref tpa])), (tpa, .inl (g 0, 2000, .inl bt)), (ou, .inl (g 1, 1, .inr (.inl of)))] sz) := by
  refine k_ofWH (cc := cL_feed) (maxL := 8) (ret := (some .int)) (hh := [(0, 16, 19, 13)]) (by decide) rfl ?_
  intro p9 e9 s9 m9 args9 below9 meth9 c9 s₁ B hml hv
  obtain ⟨rfl, hsz, hP, hK, hD0, hZ⟩ := hv
  have hx := B.exec
  have hb := B.bytes
  have hr := B.returns
  have hts0 := atoms_spec (ws := WSH yL_feed cL_feed 8 (some .int) [(0, 16, 19, 13)]) B.pre
  have htb := vx_table (x := yL_feed) B (hts0 _ List.mem_cons_self)
  have hts := wsh_sub hts0
  have hown : s9.vm.findClass RL = some m9.cls := findClass_of_methodNamed B.named
  have hlocks := B.notSynchronized
  subst hsz
  have hD := hD0.self (sz := s9.heap.size)
  generalize hAe : va_A [(x, .inr (8, [.ref tp, .ref t, .ref u, .ref rd, .ref ch, .ref ci, .int (nI n), .int ep])), (tp, .inr (4, [.ref tpa])), (tpa, .inl (g 0, 2000, .inl bt)), (ou, .inl (g 1, 1, .inr (.inl of)))] s9.heap.size = A at hD hZ ⊢
  have hA : ∀ q : Nat, s9.heap.size ≤ q → A q := fun q h => by rw [← hAe]; exact Or.inr h
  have hS : va_S A s9.heap s9.heap [] := va_S.rf
  have hP : va_P D CLS [(x, .inr (8, [.ref tp, .ref t, .ref u, .ref rd, .ref ch, .ref ci, .int (nI n), .int ep])), (tp, .inr (4, [.ref tpa])), (tpa, .inl (g 0, 2000, .inl bt)), (ou, .inl (g 1, 1, .inr (.inl of)))] s9.heap := hP
  have hl := lv_entry ([.ref x, .int p0, .int p1, .int p2, .int p3, .int p4, .ref ou]) (n := 8) (Nat.le_of_ble_eq_true rfl)
  rw [lg_entry_eq]
  generalize (lg_sl ([.ref x, .int p0, .int p1, .int p2, .int p3, .int p4, .ref ou]) ++ List.replicate (8 - (lg_sl ([.ref x, .int p0, .int p1, .int p2, .int p3, .int p4, .ref ou])).length) Slot.unset).toArray = ls at hl ⊢
  have hl : lv_has ls 8 [(0, .ref x), (1, .int p0), (2, .int p1), (3, .int p2), (4, .int p3), (5, .int p4), (6, .ref ou)] := hl
  change W p9 l9 e9 ({ frames := 3, cells := 0, slots := 0, locals := 69 } : Room) s9 m9 _ below9 meth9 c9 _ _ _ _ _ _
  refine lv_aload hx hb dL_feed_0 (lv_at hl 6 rfl) ?_
  refine lv_iconst (v := 0) hx hb dL_feed_2 (by decide) ?_
  refine lv_aload_n hx hb dL_feed_3 rfl (lv_at hl 0 rfl) ?_
  refine lv_iload_n hx hb dL_feed_4 rfl (lv_at hl 1 rfl) ?_
  refine lv_iload_n hx hb dL_feed_5 rfl (lv_at hl 2 rfl) ?_
  refine lv_iload_n hx hb dL_feed_6 rfl (lv_at hl 3 rfl) ?_
  refine lv_iload hx hb dL_feed_7 (lv_at hl 4 rfl) ?_
  refine lv_iload hx hb dL_feed_9 (lv_at hl 5 rfl) ?_
  refine k_i hA hP hD hS [(ou, .inl (g 1, 1, .inr (.inl of)))] (va_runV (As := [.int p0, .int p1, .int p2, .int p3, .int p4]) (rest := [.int 0, .ref ou]) ⟨hx, hb, hml, hown, hts⟩ (c_X10_feed l9 z D g x tp t u rd ch ci n ep tpa bt p0 p1 p2 p3 p4 (by first | assumption | decide | omega) (Array.size s9.heap)) (cwV 5 hts gv_L_7 rfl rfl rfl (by decide +kernel) ⟨Nat.le_of_ble_eq_true rfl, Nat.le_of_ble_eq_true rfl⟩) ⟨kBlind, va_recv hK hP (ci := 8) (q0 := 0) rfl rfl, kPre.pc hK hZ hA hP hD hS [0, 1, 2] rfl (by decide +kernel)⟩ rfl rfl hl.1 rfl (lv_room (Nat.le_of_ble_eq_true rfl)) dL_feed_11 ⟨Nat.le_of_ble_eq_true rfl, Nat.le_of_ble_eq_true rfl⟩) [0, 1, 2] [3] rfl rfl rfl rfl (fun r_11 u_1 H locs hw_11 hP7 hD7 hS7 => ?_)
  clear hP hD hS
  have hP := hP7
  have hD := hD7
  have hS := hS7
  clear hP7 hD7 hS7
  obtain rfl := hw_11
  replace hP : va_P D CLS [(ou, .inl (g 1, 1, .inr (.inl of))), (x, .inr (8, [.ref tp, .ref t, .ref u, .ref rd, .ref ch, .ref ci, .int (nI (n + 20)), .int ep])), (tp, .inr (4, [.ref tpa])), (tpa, .inl (g 0, 2000, .inl (fd5 bt n p0 p1 p2 p3 p4)))] H := hP
  replace hD : va_D A [(ou, .inl (g 1, 1, .inr (.inl of))), (x, .inr (8, [.ref tp, .ref t, .ref u, .ref rd, .ref ch, .ref ci, .int (nI (n + 20)), .int ep])), (tp, .inr (4, [.ref tpa])), (tpa, .inl (g 0, 2000, .inl (fd5 bt n p0 p1 p2 p3 p4)))] := hD
  refine lv_i2l hx hb dL_feed_14 rfl ?_
  refine k_lastN (i := 0) hx hb hK hP hD hS 0 1 rfl rfl (by decide) (by decide) dL_feed_15 (fun H locs hP7 hD7 hS7 => ?_)
  clear hP hD hS
  have hP := hP7
  have hD := hD7
  have hS := hS7
  clear hP7 hD7 hS7
  replace hP : va_P D CLS [(ou, .inl (g 1, 1, .inr (.inl (vp_updL of 0 ((nI (n + 20)).toInt64))))), (x, .inr (8, [.ref tp, .ref t, .ref u, .ref rd, .ref ch, .ref ci, .int (nI (n + 20)), .int ep])), (tp, .inr (4, [.ref tpa])), (tpa, .inl (g 0, 2000, .inl (fd5 bt n p0 p1 p2 p3 p4)))] H := hP
  replace hD : va_D A [(ou, .inl (g 1, 1, .inr (.inl (vp_updL of 0 ((nI (n + 20)).toInt64))))), (x, .inr (8, [.ref tp, .ref t, .ref u, .ref rd, .ref ch, .ref ci, .int (nI (n + 20)), .int ep])), (tp, .inr (4, [.ref tpa])), (tpa, .inl (g 0, 2000, .inl (fd5 bt n p0 p1 p2 p3 p4)))] := hD
  refine lv_goto (tgt := 23) hx hb dL_feed_16 (by decide) ?_
  refine lv_iconst (v := 0) hx hb dL_feed_23 (by decide) ?_
  have hr9 : 0 = (0 : Int32) := by rfl
  have hP9 : va_P D CLS [(x, .inr (8, [.ref tp, .ref t, .ref u, .ref rd, .ref ch, .ref ci, .int (nI (n + 20)), .int ep])), (tp, .inr (4, [.ref tpa])), (tpa, .inl (g 0, 2000, .inl (fd5 bt n p0 p1 p2 p3 p4))), (ou, .inl (g 1, 1, .inr (.inl (vp_updL of 0 ((nI (n + 20)).toInt64)))))] H := by exact kSub hP [1, 2, 3, 0] rfl
  have hD9 : va_D A [(x, .inr (8, [.ref tp, .ref t, .ref u, .ref rd, .ref ch, .ref ci, .int (nI (n + 20)), .int ep])), (tp, .inr (4, [.ref tpa])), (tpa, .inl (g 0, 2000, .inl (fd5 bt n p0 p1 p2 p3 p4))), (ou, .inl (g 1, 1, .inr (.inl (vp_updL of 0 ((nI (n + 20)).toInt64)))))] := by exact hD.sub [1, 2, 3, 0] (by decide +kernel) rfl
  exact W.iret (v := 0) hx hb hr (fun t9 ht9 hW9 => ⟨⟨0, (), rfl, hr9, by rw [ht9]; exact hP9, va_K.moved hW9.alike hK, hD9⟩, hS.F ht9⟩) hS.2.2 dL_feed_24
theorem dL_feed_19 : decode cL_feed 19 = .ok (.astore 7, 2) := by decide +kernel
theorem dL_feed_21 : decode cL_feed 21 = .ok (.iconst 1, 1) := by decide +kernel
theorem dL_feed_22 : decode cL_feed 22 = .ok (.ireturn, 1) := by decide +kernel
set_option maxHeartbeats 4000000 in
set_option maxRecDepth 100000 in
/-- the law, feed: 1 -/
theorem c_L_feed_N (l9 : Launch) (z : Nat → Nat) (D : va_G) (g : Nat → ClassId) (x : Nat) (tp : Nat) (t : Nat) (u : Nat) (rd : Nat) (ch : Nat) (ci : Nat) (n : Nat) (ep : Int32) (p0 : Int32) (p1 : Int32) (p2 : Int32) (p3 : Int32) (p4 : Int32) (ou : Nat) (of : Nat → Int64) (hn : ¬ n + 20 ≤ 2000) (hn2 : n ≤ 2000) (hfl : l9.stackTraces = false) (sz : Nat) : Met l9 yL_feed (WSH yL_feed cL_feed 8 (some .int) [(0, 16, 19, 13)]) ({ frames := 7, cells := 1, slots := 6, locals := 115 }) (va_Pc [.ref x, .int p0, .int p1, .int p2, .int p3, .int p4, .ref ou] (kPreX z D g [(x, .inr (8, [.ref tp, .ref t, .ref u, .ref rd, .ref ch, .ref ci, .int (nI n), .int ep])), (ou, .inl (g 1, 1, .inr (.inl of)))] sz)) (va_Qi (fun (r9 : Int32) (u9 : Unit) => r9 = (1 : Int32)) (kB D g (va_A [(x, .inr (8, [.ref tp, .ref t, .ref u, .ref rd, .ref ch, .ref ci, .int (nI n), .int ep])), (ou, .inl (g 1, 1, .inr (.inl of)))] sz) (fun (u9 : Unit) => [(x, .inr (8, [.ref tp, .ref t, .ref u, .ref rd, .ref ch, .ref ci, .int (nI n), .int ep])), (ou, .inl (g 1, 1, .inr (.inl of)))])) (va_A [(x, .inr (8, [.ref tp, .ref t, .ref u, .ref rd, .ref ch, .ref ci, .int (nI n), .int ep])), (ou, .inl (g 1, 1, .inr (.inl of)))] sz)) 1 6 (va_A [(x, .inr (8, [.ref tp, .ref t, .ref u, .ref rd, .ref ch, .ref ci, .int (nI n), .int ep])), (ou, .inl (g 1, 1, .inr (.inl of)))] sz) := by
  refine k_ofWH (cc := cL_feed) (maxL := 8) (ret := (some .int)) (hh := [(0, 16, 19, 13)]) (by decide) rfl ?_
  intro p9 e9 s9 m9 args9 below9 meth9 c9 s₁ B hml hv
  obtain ⟨rfl, hsz, hP, hK, hD0, hZ, hX⟩ := hv
  have hx := B.exec
  have hb := B.bytes
  have hr := B.returns
  have hts0 := atoms_spec (ws := WSH yL_feed cL_feed 8 (some .int) [(0, 16, 19, 13)]) B.pre
  have htb := vx_table (x := yL_feed) B (hts0 _ List.mem_cons_self)
  have hts := wsh_sub hts0
  have hown : s9.vm.findClass RL = some m9.cls := findClass_of_methodNamed B.named
  have hlocks := B.notSynchronized
  subst hsz
  have hD := hD0.self (sz := s9.heap.size)
  generalize hAe : va_A [(x, .inr (8, [.ref tp, .ref t, .ref u, .ref rd, .ref ch, .ref ci, .int (nI n), .int ep])), (ou, .inl (g 1, 1, .inr (.inl of)))] s9.heap.size = A at hD hZ hX ⊢
  have hA : ∀ q : Nat, s9.heap.size ≤ q → A q := fun q h => by rw [← hAe]; exact Or.inr h
  have hS : va_S A s9.heap s9.heap [] := va_S.rf
  have hP : va_P D CLS [(x, .inr (8, [.ref tp, .ref t, .ref u, .ref rd, .ref ch, .ref ci, .int (nI n), .int ep])), (ou, .inl (g 1, 1, .inr (.inl of)))] s9.heap := hP
  have hl := lv_entry ([.ref x, .int p0, .int p1, .int p2, .int p3, .int p4, .ref ou]) (n := 8) (Nat.le_of_ble_eq_true rfl)
  rw [lg_entry_eq]
  generalize (lg_sl ([.ref x, .int p0, .int p1, .int p2, .int p3, .int p4, .ref ou]) ++ List.replicate (8 - (lg_sl ([.ref x, .int p0, .int p1, .int p2, .int p3, .int p4, .ref ou])).length) Slot.unset).toArray = ls at hl ⊢
  have hl : lv_has ls 8 [(0, .ref x), (1, .int p0), (2, .int p1), (3, .int p2), (4, .int p3), (5, .int p4), (6, .ref ou)] := hl
  change W p9 l9 e9 ({ frames := 7, cells := 1, slots := 6, locals := 115 } : Room) s9 m9 _ below9 meth9 c9 _ _ _ _ _ _
  refine lv_aload hx hb dL_feed_0 (lv_at hl 6 rfl) ?_
  refine lv_iconst (v := 0) hx hb dL_feed_2 (by decide) ?_
  refine lv_aload_n hx hb dL_feed_3 rfl (lv_at hl 0 rfl) ?_
  refine lv_iload_n hx hb dL_feed_4 rfl (lv_at hl 1 rfl) ?_
  refine lv_iload_n hx hb dL_feed_5 rfl (lv_at hl 2 rfl) ?_
  refine lv_iload_n hx hb dL_feed_6 rfl (lv_at hl 3 rfl) ?_
  refine lv_iload hx hb dL_feed_7 (lv_at hl 4 rfl) ?_
  refine lv_iload hx hb dL_feed_9 (lv_at hl 5 rfl) ?_
  refine kx_i hA hP hD hS [(ou, .inl (g 1, 1, .inr (.inl of)))] (vx_runV (As := [.int p0, .int p1, .int p2, .int p3, .int p4]) (rest := [.int 0, .ref ou]) ⟨hx, hb, hml, hown, hts⟩ (t_X10_feed_T l9 z D g x tp t u rd ch ci n ep p0 p1 p2 p3 p4 (by first | assumption | decide | omega) (by first | assumption | decide | omega) (by first | assumption | decide | omega) (Array.size s9.heap)) (cwV 5 hts gv_L_7 rfl rfl rfl (by decide +kernel) ⟨Nat.le_of_ble_eq_true rfl, Nat.le_of_ble_eq_true rfl⟩) ⟨kBlindX, va_recv hK hP (ci := 8) (q0 := 0) rfl rfl, kPreX.pc hX hK hZ hA hP hD hS [0] rfl (by decide +kernel)⟩ rfl rfl hl.1 rfl (lv_room (Nat.le_of_ble_eq_true rfl)) dL_feed_11 ⟨Nat.le_of_ble_eq_true rfl, Nat.le_of_ble_eq_true rfl⟩) [0] [1] rfl rfl rfl rfl (fun ce9 q9 H locs hP7 hD7 hS7 hc7 hv7 hcl7 => ?_)
  clear hP hD hS
  have hP := hP7
  have hD := hD7
  have hS := hS7
  clear hP7 hD7 hS7
  replace hP : va_P D CLS [(ou, .inl (g 1, 1, .inr (.inl of))), (x, .inr (8, [.ref tp, .ref t, .ref u, .ref rd, .ref ch, .ref ci, .int (nI n), .int ep]))] H := hP
  replace hD : va_D A [(ou, .inl (g 1, 1, .inr (.inl of))), (x, .inr (8, [.ref tp, .ref t, .ref u, .ref rd, .ref ch, .ref ci, .int (nI n), .int ep]))] := hD
  refine vx_catch hown [] ⟨0, 16, 19, 13⟩ [] (htb.trans rfl) (fun z9 h9 => absurd h9 List.not_mem_nil) (by decide) (by decide) (hts _ w_920) (hZ.nst.use nw_927) hc7 hv7 hcl7 ?_
  change W _ _ _ _ _ _ _ _ _ _ _ _ _ _ _ (F0 m9 19 ls [.ref q9])
  refine lv_astore (lv' := [(7, .ref q9), (0, .ref x), (1, .int p0), (2, .int p1), (3, .int p2), (4, .int p3), (5, .int p4), (6, .ref ou)]) hx hb dL_feed_19 hl (by decide) rfl (fun ls hl => ?_)
  refine lv_iconst (v := 1) hx hb dL_feed_21 (by decide) ?_
  have hr9 : 1 = (1 : Int32) := by rfl
  have hP9 : va_P D CLS [(x, .inr (8, [.ref tp, .ref t, .ref u, .ref rd, .ref ch, .ref ci, .int (nI n), .int ep])), (ou, .inl (g 1, 1, .inr (.inl of)))] H := by exact kSub hP [1, 0] rfl
  have hD9 : va_D A [(x, .inr (8, [.ref tp, .ref t, .ref u, .ref rd, .ref ch, .ref ci, .int (nI n), .int ep])), (ou, .inl (g 1, 1, .inr (.inl of)))] := by exact hD.sub [1, 0] (by decide +kernel) rfl
  refine W.widen (k := 1) (n := 6) (by omega) (by omega) ?_
  exact W.iret (v := 1) hx hb hr (fun t9 ht9 hW9 => ⟨⟨1, (), rfl, hr9, by rw [ht9]; exact hP9, va_K.moved hW9.alike hK, hD9⟩, hS.F ht9⟩) hS.2.2 dL_feed_22
theorem dL_trim_0 : decode cL_trim 0 = .ok (.aload_n 2, 1) := by decide +kernel
theorem dL_trim_1 : decode cL_trim 1 = .ok (.iconst 0, 1) := by decide +kernel
theorem dL_trim_2 : decode cL_trim 2 = .ok (.aload_n 0, 1) := by decide +kernel
theorem dL_trim_3 : decode cL_trim 3 = .ok (.iload_n 1, 1) := by decide +kernel
theorem dL_trim_4 : decode cL_trim 4 = .ok (.invokevirtual 15, 3) := by decide +kernel
theorem dL_trim_7 : decode cL_trim 7 = .ok (.i2l, 1) := by decide +kernel
theorem dL_trim_8 : decode cL_trim 8 = .ok (.lastore, 1) := by decide +kernel
theorem dL_trim_9 : decode cL_trim 9 = .ok (.goto 6, 3) := by decide +kernel
theorem dL_trim_15 : decode cL_trim 15 = .ok (.iconst 0, 1) := by decide +kernel
theorem dL_trim_16 : decode cL_trim 16 = .ok (.ireturn, 1) := by decide +kernel
set_option maxHeartbeats 4000000 in
set_option maxRecDepth 100000 in
/-- the law, trim: 0 -/
theorem c_L_trim_V (l9 : Launch) (z : Nat → Nat) (D : va_G) (g : Nat → ClassId) (x : Nat) (tp : Nat) (t : Nat) (u : Nat) (rd : Nat) (ch : Nat) (ci : Nat) (n : Nat) (ep : Int32) (k : Nat) (ou : Nat) (of : Nat → Int64) (hk : k ≤ n) (hn : n ≤ 2000) (sz : Nat) : Met l9 yL_trim (WSH yL_trim cL_trim 4 (some .int) [(0, 9, 12, 19)]) ({ frames := 1, cells := 0, slots := 0, locals := 21 }) (va_Pc [.ref x, .int (nI k), .ref ou] (kPre z D g [(x, .inr (8, [.ref tp, .ref t, .ref u, .ref rd, .ref ch, .ref ci, .int (nI n), .int ep])), (ou, .inl (g 1, 1, .inr (.inl of)))] sz)) (va_Qi (fun (r9 : Int32) (u9 : Unit) => r9 = (0 : Int32)) (kB D g (va_A [(x, .inr (8, [.ref tp, .ref t, .ref u, .ref rd, .ref ch, .ref ci, .int (nI n), .int ep])), (ou, .inl (g 1, 1, .inr (.inl of)))] sz) (fun (u9 : Unit) => [(x, .inr (8, [.ref tp, .ref t, .ref u, .ref rd, .ref ch, .ref ci, .int (nI k), .int ep])), (ou, .inl (g 1, 1, .inr (.inl (vp_updL of 0 ((nI k).toInt64)))))])) (va_A [(x, .inr (8, [.ref tp, .ref t, .ref u, .ref rd, .ref ch, .ref ci, .int (nI n), .int ep])), (ou, .inl (g 1, 1, .inr (.inl of)))] sz)) 0 0 (va_A [(x, .inr (8, [.ref tp, .ref t, .ref u, .ref rd, .ref ch, .ref ci, .int (nI n), .int ep])), (ou, .inl (g 1, 1, .inr (.inl of)))] sz) := by
  refine k_ofWH (cc := cL_trim) (maxL := 4) (ret := (some .int)) (hh := [(0, 9, 12, 19)]) (by decide) rfl ?_
  intro p9 e9 s9 m9 args9 below9 meth9 c9 s₁ B hml hv
  obtain ⟨rfl, hsz, hP, hK, hD0, hZ⟩ := hv
  have hx := B.exec
  have hb := B.bytes
  have hr := B.returns
  have hts0 := atoms_spec (ws := WSH yL_trim cL_trim 4 (some .int) [(0, 9, 12, 19)]) B.pre
  have htb := vx_table (x := yL_trim) B (hts0 _ List.mem_cons_self)
  have hts := wsh_sub hts0
  have hown : s9.vm.findClass RL = some m9.cls := findClass_of_methodNamed B.named
  have hlocks := B.notSynchronized
  subst hsz
  have hD := hD0.self (sz := s9.heap.size)
  generalize hAe : va_A [(x, .inr (8, [.ref tp, .ref t, .ref u, .ref rd, .ref ch, .ref ci, .int (nI n), .int ep])), (ou, .inl (g 1, 1, .inr (.inl of)))] s9.heap.size = A at hD hZ ⊢
  have hA : ∀ q : Nat, s9.heap.size ≤ q → A q := fun q h => by rw [← hAe]; exact Or.inr h
  have hS : va_S A s9.heap s9.heap [] := va_S.rf
  have hP : va_P D CLS [(x, .inr (8, [.ref tp, .ref t, .ref u, .ref rd, .ref ch, .ref ci, .int (nI n), .int ep])), (ou, .inl (g 1, 1, .inr (.inl of)))] s9.heap := hP
  have hl := lv_entry ([.ref x, .int (nI k), .ref ou]) (n := 4) (Nat.le_of_ble_eq_true rfl)
  rw [lg_entry_eq]
  generalize (lg_sl ([.ref x, .int (nI k), .ref ou]) ++ List.replicate (4 - (lg_sl ([.ref x, .int (nI k), .ref ou])).length) Slot.unset).toArray = ls at hl ⊢
  have hl : lv_has ls 4 [(0, .ref x), (1, .int (nI k)), (2, .ref ou)] := hl
  change W p9 l9 e9 ({ frames := 1, cells := 0, slots := 0, locals := 21 } : Room) s9 m9 _ below9 meth9 c9 _ _ _ _ _ _
  refine lv_aload_n hx hb dL_trim_0 rfl (lv_at hl 2 rfl) ?_
  refine lv_iconst (v := 0) hx hb dL_trim_1 (by decide) ?_
  refine lv_aload_n hx hb dL_trim_2 rfl (lv_at hl 0 rfl) ?_
  refine lv_iload_n hx hb dL_trim_3 rfl (lv_at hl 1 rfl) ?_
  refine k_i hA hP hD hS [(ou, .inl (g 1, 1, .inr (.inl of)))] (va_runV (As := [.int (nI k)]) (rest := [.int 0, .ref ou]) ⟨hx, hb, hml, hown, hts⟩ (c_X10_trim l9 z D g x tp t u rd ch ci n ep k (by first | assumption | decide | omega) (by first | assumption | decide | omega) (Array.size s9.heap)) (cwV 1 hts gv_L_15 rfl rfl rfl (by decide +kernel) ⟨Nat.le_of_ble_eq_true rfl, Nat.le_of_ble_eq_true rfl⟩) ⟨kBlind, va_recv hK hP (ci := 8) (q0 := 0) rfl rfl, kPre.pc hK hZ hA hP hD hS [0] rfl (by decide +kernel)⟩ rfl rfl hl.1 rfl (lv_room (Nat.le_of_ble_eq_true rfl)) dL_trim_4 ⟨Nat.le_of_ble_eq_true rfl, Nat.le_of_ble_eq_true rfl⟩) [0] [1] rfl rfl rfl rfl (fun r_4 u_1 H locs hw_4 hP7 hD7 hS7 => ?_)
  clear hP hD hS
  have hP := hP7
  have hD := hD7
  have hS := hS7
  clear hP7 hD7 hS7
  obtain rfl := hw_4
  replace hP : va_P D CLS [(ou, .inl (g 1, 1, .inr (.inl of))), (x, .inr (8, [.ref tp, .ref t, .ref u, .ref rd, .ref ch, .ref ci, .int (nI k), .int ep]))] H := hP
  replace hD : va_D A [(ou, .inl (g 1, 1, .inr (.inl of))), (x, .inr (8, [.ref tp, .ref t, .ref u, .ref rd, .ref ch, .ref ci, .int (nI k), .int ep]))] := hD
  refine lv_i2l hx hb dL_trim_7 rfl ?_
  refine k_lastN (i := 0) hx hb hK hP hD hS 0 1 rfl rfl (by decide) (by decide) dL_trim_8 (fun H locs hP7 hD7 hS7 => ?_)
  clear hP hD hS
  have hP := hP7
  have hD := hD7
  have hS := hS7
  clear hP7 hD7 hS7
  replace hP : va_P D CLS [(ou, .inl (g 1, 1, .inr (.inl (vp_updL of 0 ((nI k).toInt64))))), (x, .inr (8, [.ref tp, .ref t, .ref u, .ref rd, .ref ch, .ref ci, .int (nI k), .int ep]))] H := hP
  replace hD : va_D A [(ou, .inl (g 1, 1, .inr (.inl (vp_updL of 0 ((nI k).toInt64))))), (x, .inr (8, [.ref tp, .ref t, .ref u, .ref rd, .ref ch, .ref ci, .int (nI k), .int ep]))] := hD
  refine lv_goto (tgt := 15) hx hb dL_trim_9 (by decide) ?_
  refine lv_iconst (v := 0) hx hb dL_trim_15 (by decide) ?_
  have hr9 : 0 = (0 : Int32) := by rfl
  have hP9 : va_P D CLS [(x, .inr (8, [.ref tp, .ref t, .ref u, .ref rd, .ref ch, .ref ci, .int (nI k), .int ep])), (ou, .inl (g 1, 1, .inr (.inl (vp_updL of 0 ((nI k).toInt64)))))] H := by exact kSub hP [1, 0] rfl
  have hD9 : va_D A [(x, .inr (8, [.ref tp, .ref t, .ref u, .ref rd, .ref ch, .ref ci, .int (nI k), .int ep])), (ou, .inl (g 1, 1, .inr (.inl (vp_updL of 0 ((nI k).toInt64)))))] := by exact hD.sub [1, 0] (by decide +kernel) rfl
  exact W.iret (v := 0) hx hb hr (fun t9 ht9 hW9 => ⟨⟨0, (), rfl, hr9, by rw [ht9]; exact hP9, va_K.moved hW9.alike hK, hD9⟩, hS.F ht9⟩) hS.2.2 dL_trim_16
theorem dL_trim_12 : decode cL_trim 12 = .ok (.astore_n 3, 1) := by decide +kernel
theorem dL_trim_13 : decode cL_trim 13 = .ok (.iconst 1, 1) := by decide +kernel
theorem dL_trim_14 : decode cL_trim 14 = .ok (.ireturn, 1) := by decide +kernel
set_option maxHeartbeats 4000000 in
set_option maxRecDepth 100000 in
/-- the law, trim: 1 -/
theorem c_L_trim_N (l9 : Launch) (z : Nat → Nat) (D : va_G) (g : Nat → ClassId) (x : Nat) (tp : Nat) (t : Nat) (u : Nat) (rd : Nat) (ch : Nat) (ci : Nat) (n : Nat) (ep : Int32) (p0 : Int32) (ou : Nat) (of : Nat → Int64) (hN : ¬ (0 ≤ p0 ∧ p0 ≤ nI n)) (hfl : l9.stackTraces = false) (sz : Nat) : Met l9 yL_trim (WSH yL_trim cL_trim 4 (some .int) [(0, 9, 12, 19)]) ({ frames := 7, cells := 1, slots := 6, locals := 111 }) (va_Pc [.ref x, .int p0, .ref ou] (kPreX z D g [(x, .inr (8, [.ref tp, .ref t, .ref u, .ref rd, .ref ch, .ref ci, .int (nI n), .int ep])), (ou, .inl (g 1, 1, .inr (.inl of)))] sz)) (va_Qi (fun (r9 : Int32) (u9 : Unit) => r9 = (1 : Int32)) (kB D g (va_A [(x, .inr (8, [.ref tp, .ref t, .ref u, .ref rd, .ref ch, .ref ci, .int (nI n), .int ep])), (ou, .inl (g 1, 1, .inr (.inl of)))] sz) (fun (u9 : Unit) => [(x, .inr (8, [.ref tp, .ref t, .ref u, .ref rd, .ref ch, .ref ci, .int (nI n), .int ep])), (ou, .inl (g 1, 1, .inr (.inl of)))])) (va_A [(x, .inr (8, [.ref tp, .ref t, .ref u, .ref rd, .ref ch, .ref ci, .int (nI n), .int ep])), (ou, .inl (g 1, 1, .inr (.inl of)))] sz)) 1 6 (va_A [(x, .inr (8, [.ref tp, .ref t, .ref u, .ref rd, .ref ch, .ref ci, .int (nI n), .int ep])), (ou, .inl (g 1, 1, .inr (.inl of)))] sz) := by
  refine k_ofWH (cc := cL_trim) (maxL := 4) (ret := (some .int)) (hh := [(0, 9, 12, 19)]) (by decide) rfl ?_
  intro p9 e9 s9 m9 args9 below9 meth9 c9 s₁ B hml hv
  obtain ⟨rfl, hsz, hP, hK, hD0, hZ, hX⟩ := hv
  have hx := B.exec
  have hb := B.bytes
  have hr := B.returns
  have hts0 := atoms_spec (ws := WSH yL_trim cL_trim 4 (some .int) [(0, 9, 12, 19)]) B.pre
  have htb := vx_table (x := yL_trim) B (hts0 _ List.mem_cons_self)
  have hts := wsh_sub hts0
  have hown : s9.vm.findClass RL = some m9.cls := findClass_of_methodNamed B.named
  have hlocks := B.notSynchronized
  subst hsz
  have hD := hD0.self (sz := s9.heap.size)
  generalize hAe : va_A [(x, .inr (8, [.ref tp, .ref t, .ref u, .ref rd, .ref ch, .ref ci, .int (nI n), .int ep])), (ou, .inl (g 1, 1, .inr (.inl of)))] s9.heap.size = A at hD hZ hX ⊢
  have hA : ∀ q : Nat, s9.heap.size ≤ q → A q := fun q h => by rw [← hAe]; exact Or.inr h
  have hS : va_S A s9.heap s9.heap [] := va_S.rf
  have hP : va_P D CLS [(x, .inr (8, [.ref tp, .ref t, .ref u, .ref rd, .ref ch, .ref ci, .int (nI n), .int ep])), (ou, .inl (g 1, 1, .inr (.inl of)))] s9.heap := hP
  have hl := lv_entry ([.ref x, .int p0, .ref ou]) (n := 4) (Nat.le_of_ble_eq_true rfl)
  rw [lg_entry_eq]
  generalize (lg_sl ([.ref x, .int p0, .ref ou]) ++ List.replicate (4 - (lg_sl ([.ref x, .int p0, .ref ou])).length) Slot.unset).toArray = ls at hl ⊢
  have hl : lv_has ls 4 [(0, .ref x), (1, .int p0), (2, .ref ou)] := hl
  change W p9 l9 e9 ({ frames := 7, cells := 1, slots := 6, locals := 111 } : Room) s9 m9 _ below9 meth9 c9 _ _ _ _ _ _
  refine lv_aload_n hx hb dL_trim_0 rfl (lv_at hl 2 rfl) ?_
  refine lv_iconst (v := 0) hx hb dL_trim_1 (by decide) ?_
  refine lv_aload_n hx hb dL_trim_2 rfl (lv_at hl 0 rfl) ?_
  refine lv_iload_n hx hb dL_trim_3 rfl (lv_at hl 1 rfl) ?_
  refine kx_i hA hP hD hS [(ou, .inl (g 1, 1, .inr (.inl of)))] (vx_runV (As := [.int p0]) (rest := [.int 0, .ref ou]) ⟨hx, hb, hml, hown, hts⟩ (t_X10_trim_T l9 z D g x tp t u rd ch ci n ep p0 (by first | assumption | decide | omega) (by first | assumption | decide | omega) (Array.size s9.heap)) (cwV 1 hts gv_L_15 rfl rfl rfl (by decide +kernel) ⟨Nat.le_of_ble_eq_true rfl, Nat.le_of_ble_eq_true rfl⟩) ⟨kBlindX, va_recv hK hP (ci := 8) (q0 := 0) rfl rfl, kPreX.pc hX hK hZ hA hP hD hS [0] rfl (by decide +kernel)⟩ rfl rfl hl.1 rfl (lv_room (Nat.le_of_ble_eq_true rfl)) dL_trim_4 ⟨Nat.le_of_ble_eq_true rfl, Nat.le_of_ble_eq_true rfl⟩) [0] [1] rfl rfl rfl rfl (fun ce9 q9 H locs hP7 hD7 hS7 hc7 hv7 hcl7 => ?_)
  clear hP hD hS
  have hP := hP7
  have hD := hD7
  have hS := hS7
  clear hP7 hD7 hS7
  replace hP : va_P D CLS [(ou, .inl (g 1, 1, .inr (.inl of))), (x, .inr (8, [.ref tp, .ref t, .ref u, .ref rd, .ref ch, .ref ci, .int (nI n), .int ep]))] H := hP
  replace hD : va_D A [(ou, .inl (g 1, 1, .inr (.inl of))), (x, .inr (8, [.ref tp, .ref t, .ref u, .ref rd, .ref ch, .ref ci, .int (nI n), .int ep]))] := hD
  refine vx_catch hown [] ⟨0, 9, 12, 19⟩ [] (htb.trans rfl) (fun z9 h9 => absurd h9 List.not_mem_nil) (by decide) (by decide) (hts _ w_1001) (hZ.nst.use nw_1008) hc7 hv7 hcl7 ?_
  change W _ _ _ _ _ _ _ _ _ _ _ _ _ _ _ (F0 m9 12 ls [.ref q9])
  refine lv_astore_n (lv' := [(3, .ref q9), (0, .ref x), (1, .int p0), (2, .ref ou)]) hx hb dL_trim_12 rfl hl (by decide) rfl (fun ls hl => ?_)
  refine lv_iconst (v := 1) hx hb dL_trim_13 (by decide) ?_
  have hr9 : 1 = (1 : Int32) := by rfl
  have hP9 : va_P D CLS [(x, .inr (8, [.ref tp, .ref t, .ref u, .ref rd, .ref ch, .ref ci, .int (nI n), .int ep])), (ou, .inl (g 1, 1, .inr (.inl of)))] H := by exact kSub hP [1, 0] rfl
  have hD9 : va_D A [(x, .inr (8, [.ref tp, .ref t, .ref u, .ref rd, .ref ch, .ref ci, .int (nI n), .int ep])), (ou, .inl (g 1, 1, .inr (.inl of)))] := by exact hD.sub [1, 0] (by decide +kernel) rfl
  refine W.widen (k := 1) (n := 6) (by omega) (by omega) ?_
  exact W.iret (v := 1) hx hb hr (fun t9 ht9 hW9 => ⟨⟨1, (), rfl, hr9, by rw [ht9]; exact hP9, va_K.moved hW9.alike hK, hD9⟩, hS.F ht9⟩) hS.2.2 dL_trim_14
theorem dL_count_0 : decode cL_count 0 = .ok (.aload_n 2, 1) := by decide +kernel
theorem dL_count_1 : decode cL_count 1 = .ok (.iconst 0, 1) := by decide +kernel
theorem dL_count_2 : decode cL_count 2 = .ok (.aload_n 0, 1) := by decide +kernel
theorem dL_count_3 : decode cL_count 3 = .ok (.iload_n 1, 1) := by decide +kernel
theorem dL_count_4 : decode cL_count 4 = .ok (.invokevirtual 21, 3) := by decide +kernel
theorem dL_count_7 : decode cL_count 7 = .ok (.i2l, 1) := by decide +kernel
theorem dL_count_8 : decode cL_count 8 = .ok (.lastore, 1) := by decide +kernel
theorem dL_count_9 : decode cL_count 9 = .ok (.goto 6, 3) := by decide +kernel
theorem dL_count_15 : decode cL_count 15 = .ok (.iconst 0, 1) := by decide +kernel
theorem dL_count_16 : decode cL_count 16 = .ok (.ireturn, 1) := by decide +kernel
set_option maxHeartbeats 4000000 in
set_option maxRecDepth 100000 in
/-- the law, count: 0 -/
theorem c_L_count_V (l9 : Launch) (z : Nat → Nat) (D : va_G) (g : Nat → ClassId) (x : Nat) (tp : Nat) (t : Nat) (u : Nat) (rd : Nat) (ch : Nat) (ci : Nat) (n : Nat) (ep : Int32) (ca : Nat → Nat) (c : CS) (ta : Nat → Nat) (tn : Nat → Nat) (tr : Nat → Nat → Int32) (k : Nat) (ou : Nat) (of : Nat → Int64) (hnS : tn 2 ≤ 10) (hnO : tn 4 ≤ 20) (hk : k < 14) (sz : Nat) : Met l9 yL_count (WSH yL_count cL_count 4 (some .int) [(0, 9, 12, 24)]) ({ frames := 6, cells := 0, slots := 0, locals := 127 }) (va_Pc [.ref x, .int (nI k), .ref ou] (kPre z D g [(x, .inr (8, [.ref tp, .ref t, .ref u, .ref rd, .ref ch, .ref ci, .int (nI n), .int ep])), (ch, .inr (0, [.ref t, .int c.1.1, .int c.1.2.1, .int c.1.2.2.1, .int c.2.1, .int (-1), .ref (ca 1), .ref (ca 3), .ref (ca 5), .ref (ca 7), .ref (ca 9), .ref (ca 11), .ref (ca 13), .ref (ca 15)])), (ca 1, .inr (4, [.ref (ca 2)])), (ca 2, .inl (g 0, 10, .inl c.1.2.2.2.1)), (ca 3, .inr (4, [.ref (ca 4)])), (ca 4, .inl (g 0, 10, .inl c.1.2.2.2.2.1)), (ca 5, .inr (4, [.ref (ca 6)])), (ca 6, .inl (g 0, 10, .inl c.1.2.2.2.2.2.1)), (ca 9, .inr (4, [.ref (ca 10)])), (ca 10, .inl (g 0, 10, .inl c.1.2.2.2.2.2.2)), (t, .inr (7, [.ref (ta 1), .ref (ta 3), .ref (ta 5), .ref (ta 7), .int (nI (tn 4)), .ref (ta 9), .ref (ta 11), .ref (ta 13), .ref (ta 15), .ref (ta 17), .ref (ta 19), .ref (ta 21), .ref (ta 23), .ref (ta 25), .ref (ta 27), .ref (ta 29), .ref (ta 31), .ref (ta 33), .ref (ta 35)])), (ta 1, .inr (2, [.ref (ta 2), .int (nI (tn 0))])), (ta 3, .inr (2, [.ref (ta 4), .int (nI (tn 1))])), (ta 5, .inr (2, [.ref (ta 6), .int (nI (tn 2))])), (ta 7, .inr (2, [.ref (ta 8), .int (nI (tn 3))])), (ta 25, .inr (4, [.ref (ta 26)])), (ta 26, .inl (g 0, 20, .inl (tr 8))), (ta 27, .inr (4, [.ref (ta 28)])), (ta 28, .inl (g 0, 20, .inl (tr 9))), (ou, .inl (g 1, 1, .inr (.inl of)))] sz)) (va_Qi (fun (r9 : Int32) (u9 : Unit) => r9 = (0 : Int32)) (kB D g (va_A [(x, .inr (8, [.ref tp, .ref t, .ref u, .ref rd, .ref ch, .ref ci, .int (nI n), .int ep])), (ch, .inr (0, [.ref t, .int c.1.1, .int c.1.2.1, .int c.1.2.2.1, .int c.2.1, .int (-1), .ref (ca 1), .ref (ca 3), .ref (ca 5), .ref (ca 7), .ref (ca 9), .ref (ca 11), .ref (ca 13), .ref (ca 15)])), (ca 1, .inr (4, [.ref (ca 2)])), (ca 2, .inl (g 0, 10, .inl c.1.2.2.2.1)), (ca 3, .inr (4, [.ref (ca 4)])), (ca 4, .inl (g 0, 10, .inl c.1.2.2.2.2.1)), (ca 5, .inr (4, [.ref (ca 6)])), (ca 6, .inl (g 0, 10, .inl c.1.2.2.2.2.2.1)), (ca 9, .inr (4, [.ref (ca 10)])), (ca 10, .inl (g 0, 10, .inl c.1.2.2.2.2.2.2)), (t, .inr (7, [.ref (ta 1), .ref (ta 3), .ref (ta 5), .ref (ta 7), .int (nI (tn 4)), .ref (ta 9), .ref (ta 11), .ref (ta 13), .ref (ta 15), .ref (ta 17), .ref (ta 19), .ref (ta 21), .ref (ta 23), .ref (ta 25), .ref (ta 27), .ref (ta 29), .ref (ta 31), .ref (ta 33), .ref (ta 35)])), (ta 1, .inr (2, [.ref (ta 2), .int (nI (tn 0))])), (ta 3, .inr (2, [.ref (ta 4), .int (nI (tn 1))])), (ta 5, .inr (2, [.ref (ta 6), .int (nI (tn 2))])), (ta 7, .inr (2, [.ref (ta 8), .int (nI (tn 3))])), (ta 25, .inr (4, [.ref (ta 26)])), (ta 26, .inl (g 0, 20, .inl (tr 8))), (ta 27, .inr (4, [.ref (ta 28)])), (ta 28, .inl (g 0, 20, .inl (tr 9))), (ou, .inl (g 1, 1, .inr (.inl of)))] sz) (fun (u9 : Unit) => [(x, .inr (8, [.ref tp, .ref t, .ref u, .ref rd, .ref ch, .ref ci, .int (nI n), .int ep])), (ch, .inr (0, [.ref t, .int c.1.1, .int c.1.2.1, .int c.1.2.2.1, .int c.2.1, .int (-1), .ref (ca 1), .ref (ca 3), .ref (ca 5), .ref (ca 7), .ref (ca 9), .ref (ca 11), .ref (ca 13), .ref (ca 15)])), (ca 1, .inr (4, [.ref (ca 2)])), (ca 2, .inl (g 0, 10, .inl c.1.2.2.2.1)), (ca 3, .inr (4, [.ref (ca 4)])), (ca 4, .inl (g 0, 10, .inl c.1.2.2.2.2.1)), (ca 5, .inr (4, [.ref (ca 6)])), (ca 6, .inl (g 0, 10, .inl c.1.2.2.2.2.2.1)), (ca 9, .inr (4, [.ref (ca 10)])), (ca 10, .inl (g 0, 10, .inl c.1.2.2.2.2.2.2)), (t, .inr (7, [.ref (ta 1), .ref (ta 3), .ref (ta 5), .ref (ta 7), .int (nI (tn 4)), .ref (ta 9), .ref (ta 11), .ref (ta 13), .ref (ta 15), .ref (ta 17), .ref (ta 19), .ref (ta 21), .ref (ta 23), .ref (ta 25), .ref (ta 27), .ref (ta 29), .ref (ta 31), .ref (ta 33), .ref (ta 35)])), (ta 1, .inr (2, [.ref (ta 2), .int (nI (tn 0))])), (ta 3, .inr (2, [.ref (ta 4), .int (nI (tn 1))])), (ta 5, .inr (2, [.ref (ta 6), .int (nI (tn 2))])), (ta 7, .inr (2, [.ref (ta 8), .int (nI (tn 3))])), (ta 25, .inr (4, [.ref (ta 26)])), (ta 26, .inl (g 0, 20, .inl (tr 8))), (ta 27, .inr (4, [.ref (ta 28)])), (ta 28, .inl (g 0, 20, .inl (tr 9))), (ou, .inl (g 1, 1, .inr (.inl (vp_updL of 0 ((fCnt tr tn n c (nI k)).toInt64)))))])) (va_A [(x, .inr (8, [.ref tp, .ref t, .ref u, .ref rd, .ref ch, .ref ci, .int (nI n), .int ep])), (ch, .inr (0, [.ref t, .int c.1.1, .int c.1.2.1, .int c.1.2.2.1, .int c.2.1, .int (-1), .ref (ca 1), .ref (ca 3), .ref (ca 5), .ref (ca 7), .ref (ca 9), .ref (ca 11), .ref (ca 13), .ref (ca 15)])), (ca 1, .inr (4, [.ref (ca 2)])), (ca 2, .inl (g 0, 10, .inl c.1.2.2.2.1)), (ca 3, .inr (4, [.ref (ca 4)])), (ca 4, .inl (g 0, 10, .inl c.1.2.2.2.2.1)), (ca 5, .inr (4, [.ref (ca 6)])), (ca 6, .inl (g 0, 10, .inl c.1.2.2.2.2.2.1)), (ca 9, .inr (4, [.ref (ca 10)])), (ca 10, .inl (g 0, 10, .inl c.1.2.2.2.2.2.2)), (t, .inr (7, [.ref (ta 1), .ref (ta 3), .ref (ta 5), .ref (ta 7), .int (nI (tn 4)), .ref (ta 9), .ref (ta 11), .ref (ta 13), .ref (ta 15), .ref (ta 17), .ref (ta 19), .ref (ta 21), .ref (ta 23), .ref (ta 25), .ref (ta 27), .ref (ta 29), .ref (ta 31), .ref (ta 33), .ref (ta 35)])), (ta 1, .inr (2, [.ref (ta 2), .int (nI (tn 0))])), (ta 3, .inr (2, [.ref (ta 4), .int (nI (tn 1))])), (ta 5, .inr (2, [.ref (ta 6), .int (nI (tn 2))])), (ta 7, .inr (2, [.ref (ta 8), .int (nI (tn 3))])), (ta 25, .inr (4, [.ref (ta 26)])), (ta 26, .inl (g 0, 20, .inl (tr 8))), (ta 27, .inr (4, [.ref (ta 28)])), (ta 28, .inl (g 0, 20, .inl (tr 9))), (ou, .inl (g 1, 1, .inr (.inl of)))] sz)) 0 0 (va_A [(x, .inr (8, [.ref tp, .ref t, .ref u, .ref rd, .ref ch, .ref ci, .int (nI n), .int ep])), (ch, .inr (0, [.ref t, .int c.1.1, .int c.1.2.1, .int c.1.2.2.1, .int c.2.1, .int (-1), .ref (ca 1), .ref (ca 3), .ref (ca 5), .ref (ca 7), .ref (ca 9), .ref (ca 11), .ref (ca 13), .ref (ca 15)])), (ca 1, .inr (4, [.ref (ca 2)])), (ca 2, .inl (g 0, 10, .inl c.1.2.2.2.1)), (ca 3, .inr (4, [.ref (ca 4)])), (ca 4, .inl (g 0, 10, .inl c.1.2.2.2.2.1)), (ca 5, .inr (4, [.ref (ca 6)])), (ca 6, .inl (g 0, 10, .inl c.1.2.2.2.2.2.1)), (ca 9, .inr (4, [.ref (ca 10)])), (ca 10, .inl (g 0, 10, .inl c.1.2.2.2.2.2.2)), (t, .inr (7, [.ref (ta 1), .ref (ta 3), .ref (ta 5), .ref (ta 7), .int (nI (tn 4)), .ref (ta 9), .ref (ta 11), .ref (ta 13), .ref (ta 15), .ref (ta 17), .ref (ta 19), .ref (ta 21), .ref (ta 23), .ref (ta 25), .ref (ta 27), .ref (ta 29), .ref (ta 31), .ref (ta 33), .ref (ta 35)])), (ta 1, .inr (2, [.ref (ta 2), .int (nI (tn 0))])), (ta 3, .inr (2, [.ref (ta 4), .int (nI (tn 1))])), (ta 5, .inr (2, [.ref (ta 6), .int (nI (tn 2))])), (ta 7, .inr (2, [.ref (ta 8), .int (nI (tn 3))])), (ta 25, .inr (4, [.ref (ta 26)])), (ta 26, .inl (g 0, 20, .inl (tr 8))), (ta 27, .inr (4, [.ref (ta 28)])), (ta 28, .inl (g 0, 20, .inl (tr 9))), (ou, .inl (g 1, 1, .inr (.inl of)))] sz) := by
  refine k_ofWH (cc := cL_count) (maxL := 4) (ret := (some .int)) (hh := [(0, 9, 12, 24)]) (by decide) rfl ?_
  intro p9 e9 s9 m9 args9 below9 meth9 c9 s₁ B hml hv
  obtain ⟨rfl, hsz, hP, hK, hD0, hZ⟩ := hv
  have hx := B.exec
  have hb := B.bytes
  have hr := B.returns
  have hts0 := atoms_spec (ws := WSH yL_count cL_count 4 (some .int) [(0, 9, 12, 24)]) B.pre
  have htb := vx_table (x := yL_count) B (hts0 _ List.mem_cons_self)
  have hts := wsh_sub hts0
  have hown : s9.vm.findClass RL = some m9.cls := findClass_of_methodNamed B.named
  have hlocks := B.notSynchronized
  subst hsz
  have hD := hD0.self (sz := s9.heap.size)
  generalize hAe : va_A [(x, .inr (8, [.ref tp, .ref t, .ref u, .ref rd, .ref ch, .ref ci, .int (nI n), .int ep])), (ch, .inr (0, [.ref t, .int c.1.1, .int c.1.2.1, .int c.1.2.2.1, .int c.2.1, .int (-1), .ref (ca 1), .ref (ca 3), .ref (ca 5), .ref (ca 7), .ref (ca 9), .ref (ca 11), .ref (ca 13), .ref (ca 15)])), (ca 1, .inr (4, [.ref (ca 2)])), (ca 2, .inl (g 0, 10, .inl c.1.2.2.2.1)), (ca 3, .inr (4, [.ref (ca 4)])), (ca 4, .inl (g 0, 10, .inl c.1.2.2.2.2.1)), (ca 5, .inr (4, [.ref (ca 6)])), (ca 6, .inl (g 0, 10, .inl c.1.2.2.2.2.2.1)), (ca 9, .inr (4, [.ref (ca 10)])), (ca 10, .inl (g 0, 10, .inl c.1.2.2.2.2.2.2)), (t, .inr (7, [.ref (ta 1), .ref (ta 3), .ref (ta 5), .ref (ta 7), .int (nI (tn 4)), .ref (ta 9), .ref (ta 11), .ref (ta 13), .ref (ta 15), .ref (ta 17), .ref (ta 19), .ref (ta 21), .ref (ta 23), .ref (ta 25), .ref (ta 27), .ref (ta 29), .ref (ta 31), .ref (ta 33), .ref (ta 35)])), (ta 1, .inr (2, [.ref (ta 2), .int (nI (tn 0))])), (ta 3, .inr (2, [.ref (ta 4), .int (nI (tn 1))])), (ta 5, .inr (2, [.ref (ta 6), .int (nI (tn 2))])), (ta 7, .inr (2, [.ref (ta 8), .int (nI (tn 3))])), (ta 25, .inr (4, [.ref (ta 26)])), (ta 26, .inl (g 0, 20, .inl (tr 8))), (ta 27, .inr (4, [.ref (ta 28)])), (ta 28, .inl (g 0, 20, .inl (tr 9))), (ou, .inl (g 1, 1, .inr (.inl of)))] s9.heap.size = A at hD hZ ⊢
  have hA : ∀ q : Nat, s9.heap.size ≤ q → A q := fun q h => by rw [← hAe]; exact Or.inr h
  have hS : va_S A s9.heap s9.heap [] := va_S.rf
  have hP : va_P D CLS [(x, .inr (8, [.ref tp, .ref t, .ref u, .ref rd, .ref ch, .ref ci, .int (nI n), .int ep])), (ch, .inr (0, [.ref t, .int c.1.1, .int c.1.2.1, .int c.1.2.2.1, .int c.2.1, .int (-1), .ref (ca 1), .ref (ca 3), .ref (ca 5), .ref (ca 7), .ref (ca 9), .ref (ca 11), .ref (ca 13), .ref (ca 15)])), (ca 1, .inr (4, [.ref (ca 2)])), (ca 2, .inl (g 0, 10, .inl c.1.2.2.2.1)), (ca 3, .inr (4, [.ref (ca 4)])), (ca 4, .inl (g 0, 10, .inl c.1.2.2.2.2.1)), (ca 5, .inr (4, [.ref (ca 6)])), (ca 6, .inl (g 0, 10, .inl c.1.2.2.2.2.2.1)), (ca 9, .inr (4, [.ref (ca 10)])), (ca 10, .inl (g 0, 10, .inl c.1.2.2.2.2.2.2)), (t, .inr (7, [.ref (ta 1), .ref (ta 3), .ref (ta 5), .ref (ta 7), .int (nI (tn 4)), .ref (ta 9), .ref (ta 11), .ref (ta 13), .ref (ta 15), .ref (ta 17), .ref (ta 19), .ref (ta 21), .ref (ta 23), .ref (ta 25), .ref (ta 27), .ref (ta 29), .ref (ta 31), .ref (ta 33), .ref (ta 35)])), (ta 1, .inr (2, [.ref (ta 2), .int (nI (tn 0))])), (ta 3, .inr (2, [.ref (ta 4), .int (nI (tn 1))])), (ta 5, .inr (2, [.ref (ta 6), .int (nI (tn 2))])), (ta 7, .inr (2, [.ref (ta 8), .int (nI (tn 3))])), (ta 25, .inr (4, [.ref (ta 26)])), (ta 26, .inl (g 0, 20, .inl (tr 8))), (ta 27, .inr (4, [.ref (ta 28)])), (ta 28, .inl (g 0, 20, .inl (tr 9))), (ou, .inl (g 1, 1, .inr (.inl of)))] s9.heap := hP
  have hl := lv_entry ([.ref x, .int (nI k), .ref ou]) (n := 4) (Nat.le_of_ble_eq_true rfl)
  rw [lg_entry_eq]
  generalize (lg_sl ([.ref x, .int (nI k), .ref ou]) ++ List.replicate (4 - (lg_sl ([.ref x, .int (nI k), .ref ou])).length) Slot.unset).toArray = ls at hl ⊢
  have hl : lv_has ls 4 [(0, .ref x), (1, .int (nI k)), (2, .ref ou)] := hl
  change W p9 l9 e9 ({ frames := 6, cells := 0, slots := 0, locals := 127 } : Room) s9 m9 _ below9 meth9 c9 _ _ _ _ _ _
  refine lv_aload_n hx hb dL_count_0 rfl (lv_at hl 2 rfl) ?_
  refine lv_iconst (v := 0) hx hb dL_count_1 (by decide) ?_
  refine lv_aload_n hx hb dL_count_2 rfl (lv_at hl 0 rfl) ?_
  refine lv_iload_n hx hb dL_count_3 rfl (lv_at hl 1 rfl) ?_
  refine k_i hA hP hD hS [(ou, .inl (g 1, 1, .inr (.inl of)))] (va_runV (As := [.int (nI k)]) (rest := [.int 0, .ref ou]) ⟨hx, hb, hml, hown, hts⟩ (c_X10_count l9 z D g x tp t u rd ch ci n ep ca c ta tn tr k (by first | assumption | decide | omega) (by first | assumption | decide | omega) (by first | assumption | decide | omega) (Array.size s9.heap)) (cwV 1 hts gv_L_21 rfl rfl rfl (by decide +kernel) ⟨Nat.le_of_ble_eq_true rfl, Nat.le_of_ble_eq_true rfl⟩) ⟨kBlind, va_recv hK hP (ci := 8) (q0 := 0) rfl rfl, kPre.pc hK hZ hA hP hD hS [0, 1, 2, 3, 4, 5, 6, 7, 8, 9, 10, 11, 12, 13, 14, 15, 16, 17, 18] rfl (by decide +kernel)⟩ rfl rfl hl.1 rfl (lv_room (Nat.le_of_ble_eq_true rfl)) dL_count_4 ⟨Nat.le_of_ble_eq_true rfl, Nat.le_of_ble_eq_true rfl⟩) [0, 1, 2, 3, 4, 5, 6, 7, 8, 9, 10, 11, 12, 13, 14, 15, 16, 17, 18] [19] rfl rfl rfl rfl (fun r_4 u_1 H locs hw_4 hP7 hD7 hS7 => ?_)
  clear hP hD hS
  have hP := hP7
  have hD := hD7
  have hS := hS7
  clear hP7 hD7 hS7
  obtain rfl := hw_4
  replace hP : va_P D CLS [(ou, .inl (g 1, 1, .inr (.inl of))), (x, .inr (8, [.ref tp, .ref t, .ref u, .ref rd, .ref ch, .ref ci, .int (nI n), .int ep])), (ch, .inr (0, [.ref t, .int c.1.1, .int c.1.2.1, .int c.1.2.2.1, .int c.2.1, .int (-1), .ref (ca 1), .ref (ca 3), .ref (ca 5), .ref (ca 7), .ref (ca 9), .ref (ca 11), .ref (ca 13), .ref (ca 15)])), (ca 1, .inr (4, [.ref (ca 2)])), (ca 2, .inl (g 0, 10, .inl c.1.2.2.2.1)), (ca 3, .inr (4, [.ref (ca 4)])), (ca 4, .inl (g 0, 10, .inl c.1.2.2.2.2.1)), (ca 5, .inr (4, [.ref (ca 6)])), (ca 6, .inl (g 0, 10, .inl c.1.2.2.2.2.2.1)), (ca 9, .inr (4, [.ref (ca 10)])), (ca 10, .inl (g 0, 10, .inl c.1.2.2.2.2.2.2)), (t, .inr (7, [.ref (ta 1), .ref (ta 3), .ref (ta 5), .ref (ta 7), .int (nI (tn 4)), .ref (ta 9), .ref (ta 11), .ref (ta 13), .ref (ta 15), .ref (ta 17), .ref (ta 19), .ref (ta 21), .ref (ta 23), .ref (ta 25), .ref (ta 27), .ref (ta 29), .ref (ta 31), .ref (ta 33), .ref (ta 35)])), (ta 1, .inr (2, [.ref (ta 2), .int (nI (tn 0))])), (ta 3, .inr (2, [.ref (ta 4), .int (nI (tn 1))])), (ta 5, .inr (2, [.ref (ta 6), .int (nI (tn 2))])), (ta 7, .inr (2, [.ref (ta 8), .int (nI (tn 3))])), (ta 25, .inr (4, [.ref (ta 26)])), (ta 26, .inl (g 0, 20, .inl (tr 8))), (ta 27, .inr (4, [.ref (ta 28)])), (ta 28, .inl (g 0, 20, .inl (tr 9)))] H := hP
  replace hD : va_D A [(ou, .inl (g 1, 1, .inr (.inl of))), (x, .inr (8, [.ref tp, .ref t, .ref u, .ref rd, .ref ch, .ref ci, .int (nI n), .int ep])), (ch, .inr (0, [.ref t, .int c.1.1, .int c.1.2.1, .int c.1.2.2.1, .int c.2.1, .int (-1), .ref (ca 1), .ref (ca 3), .ref (ca 5), .ref (ca 7), .ref (ca 9), .ref (ca 11), .ref (ca 13), .ref (ca 15)])), (ca 1, .inr (4, [.ref (ca 2)])), (ca 2, .inl (g 0, 10, .inl c.1.2.2.2.1)), (ca 3, .inr (4, [.ref (ca 4)])), (ca 4, .inl (g 0, 10, .inl c.1.2.2.2.2.1)), (ca 5, .inr (4, [.ref (ca 6)])), (ca 6, .inl (g 0, 10, .inl c.1.2.2.2.2.2.1)), (ca 9, .inr (4, [.ref (ca 10)])), (ca 10, .inl (g 0, 10, .inl c.1.2.2.2.2.2.2)), (t, .inr (7, [.ref (ta 1), .ref (ta 3), .ref (ta 5), .ref (ta 7), .int (nI (tn 4)), .ref (ta 9), .ref (ta 11), .ref (ta 13), .ref (ta 15), .ref (ta 17), .ref (ta 19), .ref (ta 21), .ref (ta 23), .ref (ta 25), .ref (ta 27), .ref (ta 29), .ref (ta 31), .ref (ta 33), .ref (ta 35)])), (ta 1, .inr (2, [.ref (ta 2), .int (nI (tn 0))])), (ta 3, .inr (2, [.ref (ta 4), .int (nI (tn 1))])), (ta 5, .inr (2, [.ref (ta 6), .int (nI (tn 2))])), (ta 7, .inr (2, [.ref (ta 8), .int (nI (tn 3))])), (ta 25, .inr (4, [.ref (ta 26)])), (ta 26, .inl (g 0, 20, .inl (tr 8))), (ta 27, .inr (4, [.ref (ta 28)])), (ta 28, .inl (g 0, 20, .inl (tr 9)))] := hD
  refine lv_i2l hx hb dL_count_7 rfl ?_
  refine k_lastN (i := 0) hx hb hK hP hD hS 0 1 rfl rfl (by decide) (by decide) dL_count_8 (fun H locs hP7 hD7 hS7 => ?_)
  clear hP hD hS
  have hP := hP7
  have hD := hD7
  have hS := hS7
  clear hP7 hD7 hS7
  replace hP : va_P D CLS [(ou, .inl (g 1, 1, .inr (.inl (vp_updL of 0 ((fCnt tr tn n c (nI k)).toInt64))))), (x, .inr (8, [.ref tp, .ref t, .ref u, .ref rd, .ref ch, .ref ci, .int (nI n), .int ep])), (ch, .inr (0, [.ref t, .int c.1.1, .int c.1.2.1, .int c.1.2.2.1, .int c.2.1, .int (-1), .ref (ca 1), .ref (ca 3), .ref (ca 5), .ref (ca 7), .ref (ca 9), .ref (ca 11), .ref (ca 13), .ref (ca 15)])), (ca 1, .inr (4, [.ref (ca 2)])), (ca 2, .inl (g 0, 10, .inl c.1.2.2.2.1)), (ca 3, .inr (4, [.ref (ca 4)])), (ca 4, .inl (g 0, 10, .inl c.1.2.2.2.2.1)), (ca 5, .inr (4, [.ref (ca 6)])), (ca 6, .inl (g 0, 10, .inl c.1.2.2.2.2.2.1)), (ca 9, .inr (4, [.ref (ca 10)])), (ca 10, .inl (g 0, 10, .inl c.1.2.2.2.2.2.2)), (t, .inr (7, [.ref (ta 1), .ref (ta 3), .ref (ta 5), .ref (ta 7), .int (nI (tn 4)), .ref (ta 9), .ref (ta 11), .ref (ta 13), .ref (ta 15), .ref (ta 17), .ref (ta 19), .ref (ta 21), .ref (ta 23), .ref (ta 25), .ref (ta 27), .ref (ta 29), .ref (ta 31), .ref (ta 33), .ref (ta 35)])), (ta 1, .inr (2, [.ref (ta 2), .int (nI (tn 0))])), (ta 3, .inr (2, [.ref (ta 4), .int (nI (tn 1))])), (ta 5, .inr (2, [.ref (ta 6), .int (nI (tn 2))])), (ta 7, .inr (2, [.ref (ta 8), .int (nI (tn 3))])), (ta 25, .inr (4, [.ref (ta 26)])), (ta 26, .inl (g 0, 20, .inl (tr 8))), (ta 27, .inr (4, [.ref (ta 28)])), (ta 28, .inl (g 0, 20, .inl (tr 9)))] H := hP
  replace hD : va_D A [(ou, .inl (g 1, 1, .inr (.inl (vp_updL of 0 ((fCnt tr tn n c (nI k)).toInt64))))), (x, .inr (8, [.ref tp, .ref t, .ref u, .ref rd, .ref ch, .ref ci, .int (nI n), .int ep])), (ch, .inr (0, [.ref t, .int c.1.1, .int c.1.2.1, .int c.1.2.2.1, .int c.2.1, .int (-1), .ref (ca 1), .ref (ca 3), .ref (ca 5), .ref (ca 7), .ref (ca 9), .ref (ca 11), .ref (ca 13), .ref (ca 15)])), (ca 1, .inr (4, [.ref (ca 2)])), (ca 2, .inl (g 0, 10, .inl c.1.2.2.2.1)), (ca 3, .inr (4, [.ref (ca 4)])), (ca 4, .inl (g 0, 10, .inl c.1.2.2.2.2.1)), (ca 5, .inr (4, [.ref (ca 6)])), (ca 6, .inl (g 0, 10, .inl c.1.2.2.2.2.2.1)), (ca 9, .inr (4, [.ref (ca 10)])), (ca 10, .inl (g 0, 10, .inl c.1.2.2.2.2.2.2)), (t, .inr (7, [.ref (ta 1), .ref (ta 3), .ref (ta 5), .ref (ta 7), .int (nI (tn 4)), .ref (ta 9), .ref (ta 11), .ref (ta 13), .ref (ta 15), .ref (ta 17), .ref (ta 19), .ref (ta 21), .ref (ta 23), .ref (ta 25), .ref (ta 27), .ref (ta 29), .ref (ta 31), .ref (ta 33), .ref (ta 35)])), (ta 1, .inr (2, [.ref (ta 2), .int (nI (tn 0))])), (ta 3, .inr (2, [.ref (ta 4), .int (nI (tn 1))])), (ta 5, .inr (2, [.ref (ta 6), .int (nI (tn 2))])), (ta 7, .inr (2, [.ref (ta 8), .int (nI (tn 3))])), (ta 25, .inr (4, [.ref (ta 26)])), (ta 26, .inl (g 0, 20, .inl (tr 8))), (ta 27, .inr (4, [.ref (ta 28)])), (ta 28, .inl (g 0, 20, .inl (tr 9)))] := hD
  refine lv_goto (tgt := 15) hx hb dL_count_9 (by decide) ?_
  refine lv_iconst (v := 0) hx hb dL_count_15 (by decide) ?_
  have hr9 : 0 = (0 : Int32) := by rfl
  have hP9 : va_P D CLS [(x, .inr (8, [.ref tp, .ref t, .ref u, .ref rd, .ref ch, .ref ci, .int (nI n), .int ep])), (ch, .inr (0, [.ref t, .int c.1.1, .int c.1.2.1, .int c.1.2.2.1, .int c.2.1, .int (-1), .ref (ca 1), .ref (ca 3), .ref (ca 5), .ref (ca 7), .ref (ca 9), .ref (ca 11), .ref (ca 13), .ref (ca 15)])), (ca 1, .inr (4, [.ref (ca 2)])), (ca 2, .inl (g 0, 10, .inl c.1.2.2.2.1)), (ca 3, .inr (4, [.ref (ca 4)])), (ca 4, .inl (g 0, 10, .inl c.1.2.2.2.2.1)), (ca 5, .inr (4, [.ref (ca 6)])), (ca 6, .inl (g 0, 10, .inl c.1.2.2.2.2.2.1)), (ca 9, .inr (4, [.ref (ca 10)])), (ca 10, .inl (g 0, 10, .inl c.1.2.2.2.2.2.2)), (t, .inr (7, [.ref (ta 1), .ref (ta 3), .ref (ta 5), .ref (ta 7), .int (nI (tn 4)), .ref (ta 9), .ref (ta 11), .ref (ta 13), .ref (ta 15), .ref (ta 17), .ref (ta 19), .ref (ta 21), .ref (ta 23), .ref (ta 25), .ref (ta 27), .ref (ta 29), .ref (ta 31), .ref (ta 33), .ref (ta 35)])), (ta 1, .inr (2, [.ref (ta 2), .int (nI (tn 0))])), (ta 3, .inr (2, [.ref (ta 4), .int (nI (tn 1))])), (ta 5, .inr (2, [.ref (ta 6), .int (nI (tn 2))])), (ta 7, .inr (2, [.ref (ta 8), .int (nI (tn 3))])), (ta 25, .inr (4, [.ref (ta 26)])), (ta 26, .inl (g 0, 20, .inl (tr 8))), (ta 27, .inr (4, [.ref (ta 28)])), (ta 28, .inl (g 0, 20, .inl (tr 9))), (ou, .inl (g 1, 1, .inr (.inl (vp_updL of 0 ((fCnt tr tn n c (nI k)).toInt64)))))] H := by exact kSub hP [1, 2, 3, 4, 5, 6, 7, 8, 9, 10, 11, 12, 13, 14, 15, 16, 17, 18, 19, 0] rfl
  have hD9 : va_D A [(x, .inr (8, [.ref tp, .ref t, .ref u, .ref rd, .ref ch, .ref ci, .int (nI n), .int ep])), (ch, .inr (0, [.ref t, .int c.1.1, .int c.1.2.1, .int c.1.2.2.1, .int c.2.1, .int (-1), .ref (ca 1), .ref (ca 3), .ref (ca 5), .ref (ca 7), .ref (ca 9), .ref (ca 11), .ref (ca 13), .ref (ca 15)])), (ca 1, .inr (4, [.ref (ca 2)])), (ca 2, .inl (g 0, 10, .inl c.1.2.2.2.1)), (ca 3, .inr (4, [.ref (ca 4)])), (ca 4, .inl (g 0, 10, .inl c.1.2.2.2.2.1)), (ca 5, .inr (4, [.ref (ca 6)])), (ca 6, .inl (g 0, 10, .inl c.1.2.2.2.2.2.1)), (ca 9, .inr (4, [.ref (ca 10)])), (ca 10, .inl (g 0, 10, .inl c.1.2.2.2.2.2.2)), (t, .inr (7, [.ref (ta 1), .ref (ta 3), .ref (ta 5), .ref (ta 7), .int (nI (tn 4)), .ref (ta 9), .ref (ta 11), .ref (ta 13), .ref (ta 15), .ref (ta 17), .ref (ta 19), .ref (ta 21), .ref (ta 23), .ref (ta 25), .ref (ta 27), .ref (ta 29), .ref (ta 31), .ref (ta 33), .ref (ta 35)])), (ta 1, .inr (2, [.ref (ta 2), .int (nI (tn 0))])), (ta 3, .inr (2, [.ref (ta 4), .int (nI (tn 1))])), (ta 5, .inr (2, [.ref (ta 6), .int (nI (tn 2))])), (ta 7, .inr (2, [.ref (ta 8), .int (nI (tn 3))])), (ta 25, .inr (4, [.ref (ta 26)])), (ta 26, .inl (g 0, 20, .inl (tr 8))), (ta 27, .inr (4, [.ref (ta 28)])), (ta 28, .inl (g 0, 20, .inl (tr 9))), (ou, .inl (g 1, 1, .inr (.inl (vp_updL of 0 ((fCnt tr tn n c (nI k)).toInt64)))))] := by exact hD.sub [1, 2, 3, 4, 5, 6, 7, 8, 9, 10, 11, 12, 13, 14, 15, 16, 17, 18, 19, 0] (by decide +kernel) rfl
  exact W.iret (v := 0) hx hb hr (fun t9 ht9 hW9 => ⟨⟨0, (), rfl, hr9, by rw [ht9]; exact hP9, va_K.moved hW9.alike hK, hD9⟩, hS.F ht9⟩) hS.2.2 dL_count_16
theorem dL_count_12 : decode cL_count 12 = .ok (.astore_n 3, 1) := by decide +kernel
theorem dL_count_13 : decode cL_count 13 = .ok (.iconst 1, 1) := by decide +kernel
theorem dL_count_14 : decode cL_count 14 = .ok (.ireturn, 1) := by decide +kernel
set_option maxHeartbeats 4000000 in
set_option maxRecDepth 100000 in
/-- the law, count: 1 -/
theorem c_L_count_N (l9 : Launch) (z : Nat → Nat) (D : va_G) (g : Nat → ClassId) (x : Nat) (tp : Nat) (t : Nat) (u : Nat) (rd : Nat) (ch : Nat) (ci : Nat) (n : Nat) (ep : Int32) (p0 : Int32) (ou : Nat) (of : Nat → Int64) (hN : fIn p0 14 = false) (hfl : l9.stackTraces = false) (sz : Nat) : Met l9 yL_count (WSH yL_count cL_count 4 (some .int) [(0, 9, 12, 24)]) ({ frames := 8, cells := 1, slots := 6, locals := 132 }) (va_Pc [.ref x, .int p0, .ref ou] (kPreX z D g [(x, .inr (8, [.ref tp, .ref t, .ref u, .ref rd, .ref ch, .ref ci, .int (nI n), .int ep])), (ou, .inl (g 1, 1, .inr (.inl of)))] sz)) (va_Qi (fun (r9 : Int32) (u9 : Unit) => r9 = (1 : Int32)) (kB D g (va_A [(x, .inr (8, [.ref tp, .ref t, .ref u, .ref rd, .ref ch, .ref ci, .int (nI n), .int ep])), (ou, .inl (g 1, 1, .inr (.inl of)))] sz) (fun (u9 : Unit) => [(x, .inr (8, [.ref tp, .ref t, .ref u, .ref rd, .ref ch, .ref ci, .int (nI n), .int ep])), (ou, .inl (g 1, 1, .inr (.inl of)))])) (va_A [(x, .inr (8, [.ref tp, .ref t, .ref u, .ref rd, .ref ch, .ref ci, .int (nI n), .int ep])), (ou, .inl (g 1, 1, .inr (.inl of)))] sz)) 1 6 (va_A [(x, .inr (8, [.ref tp, .ref t, .ref u, .ref rd, .ref ch, .ref ci, .int (nI n), .int ep])), (ou, .inl (g 1, 1, .inr (.inl of)))] sz) := by
  refine k_ofWH (cc := cL_count) (maxL := 4) (ret := (some .int)) (hh := [(0, 9, 12, 24)]) (by decide) rfl ?_
  intro p9 e9 s9 m9 args9 below9 meth9 c9 s₁ B hml hv
  obtain ⟨rfl, hsz, hP, hK, hD0, hZ, hX⟩ := hv
  have hx := B.exec
  have hb := B.bytes
  have hr := B.returns
  have hts0 := atoms_spec (ws := WSH yL_count cL_count 4 (some .int) [(0, 9, 12, 24)]) B.pre
  have htb := vx_table (x := yL_count) B (hts0 _ List.mem_cons_self)
  have hts := wsh_sub hts0
  have hown : s9.vm.findClass RL = some m9.cls := findClass_of_methodNamed B.named
  have hlocks := B.notSynchronized
  subst hsz
  have hD := hD0.self (sz := s9.heap.size)
  generalize hAe : va_A [(x, .inr (8, [.ref tp, .ref t, .ref u, .ref rd, .ref ch, .ref ci, .int (nI n), .int ep])), (ou, .inl (g 1, 1, .inr (.inl of)))] s9.heap.size = A at hD hZ hX ⊢
  have hA : ∀ q : Nat, s9.heap.size ≤ q → A q := fun q h => by rw [← hAe]; exact Or.inr h
  have hS : va_S A s9.heap s9.heap [] := va_S.rf
  have hP : va_P D CLS [(x, .inr (8, [.ref tp, .ref t, .ref u, .ref rd, .ref ch, .ref ci, .int (nI n), .int ep])), (ou, .inl (g 1, 1, .inr (.inl of)))] s9.heap := hP
  have hl := lv_entry ([.ref x, .int p0, .ref ou]) (n := 4) (Nat.le_of_ble_eq_true rfl)
  rw [lg_entry_eq]
  generalize (lg_sl ([.ref x, .int p0, .ref ou]) ++ List.replicate (4 - (lg_sl ([.ref x, .int p0, .ref ou])).length) Slot.unset).toArray = ls at hl ⊢
  have hl : lv_has ls 4 [(0, .ref x), (1, .int p0), (2, .ref ou)] := hl
  change W p9 l9 e9 ({ frames := 8, cells := 1, slots := 6, locals := 132 } : Room) s9 m9 _ below9 meth9 c9 _ _ _ _ _ _
  refine lv_aload_n hx hb dL_count_0 rfl (lv_at hl 2 rfl) ?_
  refine lv_iconst (v := 0) hx hb dL_count_1 (by decide) ?_
  refine lv_aload_n hx hb dL_count_2 rfl (lv_at hl 0 rfl) ?_
  refine lv_iload_n hx hb dL_count_3 rfl (lv_at hl 1 rfl) ?_
  refine kx_i hA hP hD hS [(ou, .inl (g 1, 1, .inr (.inl of)))] (vx_runV (As := [.int p0]) (rest := [.int 0, .ref ou]) ⟨hx, hb, hml, hown, hts⟩ (t_X10_count_T l9 z D g x tp t u rd ch ci n ep p0 (by first | assumption | decide | omega) (by first | assumption | decide | omega) (Array.size s9.heap)) (cwV 1 hts gv_L_21 rfl rfl rfl (by decide +kernel) ⟨Nat.le_of_ble_eq_true rfl, Nat.le_of_ble_eq_true rfl⟩) ⟨kBlindX, va_recv hK hP (ci := 8) (q0 := 0) rfl rfl, kPreX.pc hX hK hZ hA hP hD hS [0] rfl (by decide +kernel)⟩ rfl rfl hl.1 rfl (lv_room (Nat.le_of_ble_eq_true rfl)) dL_count_4 ⟨Nat.le_of_ble_eq_true rfl, Nat.le_of_ble_eq_true rfl⟩) [0] [1] rfl rfl rfl rfl (fun ce9 q9 H locs hP7 hD7 hS7 hc7 hv7 hcl7 => ?_)
  clear hP hD hS
  have hP := hP7
  have hD := hD7
  have hS := hS7
  clear hP7 hD7 hS7
  replace hP : va_P D CLS [(ou, .inl (g 1, 1, .inr (.inl of))), (x, .inr (8, [.ref tp, .ref t, .ref u, .ref rd, .ref ch, .ref ci, .int (nI n), .int ep]))] H := hP
  replace hD : va_D A [(ou, .inl (g 1, 1, .inr (.inl of))), (x, .inr (8, [.ref tp, .ref t, .ref u, .ref rd, .ref ch, .ref ci, .int (nI n), .int ep]))] := hD
  refine vx_catch hown [] ⟨0, 9, 12, 24⟩ [] (htb.trans rfl) (fun z9 h9 => absurd h9 List.not_mem_nil) (by decide) (by decide) (hts _ w_1025) (hZ.nst.use nw_1035) hc7 hv7 hcl7 ?_
  change W _ _ _ _ _ _ _ _ _ _ _ _ _ _ _ (F0 m9 12 ls [.ref q9])
  refine lv_astore_n (lv' := [(3, .ref q9), (0, .ref x), (1, .int p0), (2, .ref ou)]) hx hb dL_count_12 rfl hl (by decide) rfl (fun ls hl => ?_)
  refine lv_iconst (v := 1) hx hb dL_count_13 (by decide) ?_
  have hr9 : 1 = (1 : Int32) := by rfl
  have hP9 : va_P D CLS [(x, .inr (8, [.ref tp, .ref t, .ref u, .ref rd, .ref ch, .ref ci, .int (nI n), .int ep])), (ou, .inl (g 1, 1, .inr (.inl of)))] H := by exact kSub hP [1, 0] rfl
  have hD9 : va_D A [(x, .inr (8, [.ref tp, .ref t, .ref u, .ref rd, .ref ch, .ref ci, .int (nI n), .int ep])), (ou, .inl (g 1, 1, .inr (.inl of)))] := by exact hD.sub [1, 0] (by decide +kernel) rfl
  refine W.widen (k := 1) (n := 6) (by omega) (by omega) ?_
  exact W.iret (v := 1) hx hb hr (fun t9 ht9 hW9 => ⟨⟨1, (), rfl, hr9, by rw [ht9]; exact hP9, va_K.moved hW9.alike hK, hD9⟩, hS.F ht9⟩) hS.2.2 dL_count_14
theorem dL_beast_0 : decode cL_beast 0 = .ok (.aload_n 3, 1) := by decide +kernel
theorem dL_beast_1 : decode cL_beast 1 = .ok (.iconst 0, 1) := by decide +kernel
theorem dL_beast_2 : decode cL_beast 2 = .ok (.aload_n 0, 1) := by decide +kernel
theorem dL_beast_3 : decode cL_beast 3 = .ok (.iload_n 1, 1) := by decide +kernel
theorem dL_beast_4 : decode cL_beast 4 = .ok (.iload_n 2, 1) := by decide +kernel
theorem dL_beast_5 : decode cL_beast 5 = .ok (.invokevirtual 26, 3) := by decide +kernel
theorem dL_beast_8 : decode cL_beast 8 = .ok (.i2l, 1) := by decide +kernel
theorem dL_beast_9 : decode cL_beast 9 = .ok (.lastore, 1) := by decide +kernel
theorem dL_beast_10 : decode cL_beast 10 = .ok (.goto 7, 3) := by decide +kernel
theorem dL_beast_17 : decode cL_beast 17 = .ok (.iconst 0, 1) := by decide +kernel
theorem dL_beast_18 : decode cL_beast 18 = .ok (.ireturn, 1) := by decide +kernel
set_option maxHeartbeats 4000000 in
set_option maxRecDepth 100000 in
/-- the law, beast: 0 -/
theorem c_L_beast_V (l9 : Launch) (z : Nat → Nat) (D : va_G) (g : Nat → ClassId) (x : Nat) (tp : Nat) (t : Nat) (u : Nat) (rd : Nat) (ch : Nat) (ci : Nat) (n : Nat) (ep : Int32) (ca : Nat → Nat) (c : CS) (ta : Nat → Nat) (tn : Nat → Nat) (tr : Nat → Nat → Int32) (k : Nat) (w : Nat) (ou : Nat) (of : Nat → Int64) (hnS : tn 2 ≤ 10) (hn0 : tn 0 ≤ 8) (hk : k < tn 0) (hw : w < 3) (sz : Nat) : Met l9 yL_beast (WSH yL_beast cL_beast 5 (some .int) [(0, 10, 13, 24)]) ({ frames := 4, cells := 0, slots := 0, locals := 88 }) (va_Pc [.ref x, .int (nI k), .int (nI w), .ref ou] (kPre z D g [(x, .inr (8, [.ref tp, .ref t, .ref u, .ref rd, .ref ch, .ref ci, .int (nI n), .int ep])), (ch, .inr (0, [.ref t, .int c.1.1, .int c.1.2.1, .int c.1.2.2.1, .int c.2.1, .int (-1), .ref (ca 1), .ref (ca 3), .ref (ca 5), .ref (ca 7), .ref (ca 9), .ref (ca 11), .ref (ca 13), .ref (ca 15)])), (ca 1, .inr (4, [.ref (ca 2)])), (ca 2, .inl (g 0, 10, .inl c.1.2.2.2.1)), (t, .inr (7, [.ref (ta 1), .ref (ta 3), .ref (ta 5), .ref (ta 7), .int (nI (tn 4)), .ref (ta 9), .ref (ta 11), .ref (ta 13), .ref (ta 15), .ref (ta 17), .ref (ta 19), .ref (ta 21), .ref (ta 23), .ref (ta 25), .ref (ta 27), .ref (ta 29), .ref (ta 31), .ref (ta 33), .ref (ta 35)])), (ta 1, .inr (2, [.ref (ta 2), .int (nI (tn 0))])), (ta 5, .inr (2, [.ref (ta 6), .int (nI (tn 2))])), (ta 9, .inr (4, [.ref (ta 10)])), (ta 10, .inl (g 0, 8, .inl (tr 0))), (ta 11, .inr (4, [.ref (ta 12)])), (ta 12, .inl (g 0, 8, .inl (tr 1))), (ou, .inl (g 1, 1, .inr (.inl of)))] sz)) (va_Qi (fun (r9 : Int32) (u9 : Unit) => r9 = (0 : Int32)) (kB D g (va_A [(x, .inr (8, [.ref tp, .ref t, .ref u, .ref rd, .ref ch, .ref ci, .int (nI n), .int ep])), (ch, .inr (0, [.ref t, .int c.1.1, .int c.1.2.1, .int c.1.2.2.1, .int c.2.1, .int (-1), .ref (ca 1), .ref (ca 3), .ref (ca 5), .ref (ca 7), .ref (ca 9), .ref (ca 11), .ref (ca 13), .ref (ca 15)])), (ca 1, .inr (4, [.ref (ca 2)])), (ca 2, .inl (g 0, 10, .inl c.1.2.2.2.1)), (t, .inr (7, [.ref (ta 1), .ref (ta 3), .ref (ta 5), .ref (ta 7), .int (nI (tn 4)), .ref (ta 9), .ref (ta 11), .ref (ta 13), .ref (ta 15), .ref (ta 17), .ref (ta 19), .ref (ta 21), .ref (ta 23), .ref (ta 25), .ref (ta 27), .ref (ta 29), .ref (ta 31), .ref (ta 33), .ref (ta 35)])), (ta 1, .inr (2, [.ref (ta 2), .int (nI (tn 0))])), (ta 5, .inr (2, [.ref (ta 6), .int (nI (tn 2))])), (ta 9, .inr (4, [.ref (ta 10)])), (ta 10, .inl (g 0, 8, .inl (tr 0))), (ta 11, .inr (4, [.ref (ta 12)])), (ta 12, .inl (g 0, 8, .inl (tr 1))), (ou, .inl (g 1, 1, .inr (.inl of)))] sz) (fun (u9 : Unit) => [(x, .inr (8, [.ref tp, .ref t, .ref u, .ref rd, .ref ch, .ref ci, .int (nI n), .int ep])), (ch, .inr (0, [.ref t, .int c.1.1, .int c.1.2.1, .int c.1.2.2.1, .int c.2.1, .int (-1), .ref (ca 1), .ref (ca 3), .ref (ca 5), .ref (ca 7), .ref (ca 9), .ref (ca 11), .ref (ca 13), .ref (ca 15)])), (ca 1, .inr (4, [.ref (ca 2)])), (ca 2, .inl (g 0, 10, .inl c.1.2.2.2.1)), (t, .inr (7, [.ref (ta 1), .ref (ta 3), .ref (ta 5), .ref (ta 7), .int (nI (tn 4)), .ref (ta 9), .ref (ta 11), .ref (ta 13), .ref (ta 15), .ref (ta 17), .ref (ta 19), .ref (ta 21), .ref (ta 23), .ref (ta 25), .ref (ta 27), .ref (ta 29), .ref (ta 31), .ref (ta 33), .ref (ta 35)])), (ta 1, .inr (2, [.ref (ta 2), .int (nI (tn 0))])), (ta 5, .inr (2, [.ref (ta 6), .int (nI (tn 2))])), (ta 9, .inr (4, [.ref (ta 10)])), (ta 10, .inl (g 0, 8, .inl (tr 0))), (ta 11, .inr (4, [.ref (ta 12)])), (ta 12, .inl (g 0, 8, .inl (tr 1))), (ou, .inl (g 1, 1, .inr (.inl (vp_updL of 0 ((fBst tr tn c k (nI w)).toInt64)))))])) (va_A [(x, .inr (8, [.ref tp, .ref t, .ref u, .ref rd, .ref ch, .ref ci, .int (nI n), .int ep])), (ch, .inr (0, [.ref t, .int c.1.1, .int c.1.2.1, .int c.1.2.2.1, .int c.2.1, .int (-1), .ref (ca 1), .ref (ca 3), .ref (ca 5), .ref (ca 7), .ref (ca 9), .ref (ca 11), .ref (ca 13), .ref (ca 15)])), (ca 1, .inr (4, [.ref (ca 2)])), (ca 2, .inl (g 0, 10, .inl c.1.2.2.2.1)), (t, .inr (7, [.ref (ta 1), .ref (ta 3), .ref (ta 5), .ref (ta 7), .int (nI (tn 4)), .ref (ta 9), .ref (ta 11), .ref (ta 13), .ref (ta 15), .ref (ta 17), .ref (ta 19), .ref (ta 21), .ref (ta 23), .ref (ta 25), .ref (ta 27), .ref (ta 29), .ref (ta 31), .ref (ta 33), .ref (ta 35)])), (ta 1, .inr (2, [.ref (ta 2), .int (nI (tn 0))])), (ta 5, .inr (2, [.ref (ta 6), .int (nI (tn 2))])), (ta 9, .inr (4, [.ref (ta 10)])), (ta 10, .inl (g 0, 8, .inl (tr 0))), (ta 11, .inr (4, [.ref (ta 12)])), (ta 12, .inl (g 0, 8, .inl (tr 1))), (ou, .inl (g 1, 1, .inr (.inl of)))] sz)) 0 0 (va_A [(x, .inr (8, [.ref tp, .ref t, .ref u, .ref rd, .ref ch, .ref ci, .int (nI n), .int ep])), (ch, .inr (0, [.ref t, .int c.1.1, .int c.1.2.1, .int c.1.2.2.1, .int c.2.1, .int (-1), .ref (ca 1), .ref (ca 3), .ref (ca 5), .ref (ca 7), .ref (ca 9), .ref (ca 11), .ref (ca 13), .ref (ca 15)])), (ca 1, .inr (4, [.ref (ca 2)])), (ca 2, .inl (g 0, 10, .inl c.1.2.2.2.1)), (t, .inr (7, [.ref (ta 1), .ref (ta 3), .ref (ta 5), .ref (ta 7), .int (nI (tn 4)), .ref (ta 9), .ref (ta 11), .ref (ta 13), .ref (ta 15), .ref (ta 17), .ref (ta 19), .ref (ta 21), .ref (ta 23), .ref (ta 25), .ref (ta 27), .ref (ta 29), .ref (ta 31), .ref (ta 33), .ref (ta 35)])), (ta 1, .inr (2, [.ref (ta 2), .int (nI (tn 0))])), (ta 5, .inr (2, [.ref (ta 6), .int (nI (tn 2))])), (ta 9, .inr (4, [.ref (ta 10)])), (ta 10, .inl (g 0, 8, .inl (tr 0))), (ta 11, .inr (4, [.ref (ta 12)])), (ta 12, .inl (g 0, 8, .inl (tr 1))), (ou, .inl (g 1, 1, .inr (.inl of)))] sz) := by
  refine k_ofWH (cc := cL_beast) (maxL := 5) (ret := (some .int)) (hh := [(0, 10, 13, 24)]) (by decide) rfl ?_
  intro p9 e9 s9 m9 args9 below9 meth9 c9 s₁ B hml hv
  obtain ⟨rfl, hsz, hP, hK, hD0, hZ⟩ := hv
  have hx := B.exec
  have hb := B.bytes
  have hr := B.returns
  have hts0 := atoms_spec (ws := WSH yL_beast cL_beast 5 (some .int) [(0, 10, 13, 24)]) B.pre
  have htb := vx_table (x := yL_beast) B (hts0 _ List.mem_cons_self)
  have hts := wsh_sub hts0
  have hown : s9.vm.findClass RL = some m9.cls := findClass_of_methodNamed B.named
  have hlocks := B.notSynchronized
  subst hsz
  have hD := hD0.self (sz := s9.heap.size)
  generalize hAe : va_A [(x, .inr (8, [.ref tp, .ref t, .ref u, .ref rd, .ref ch, .ref ci, .int (nI n), .int ep])), (ch, .inr (0, [.ref t, .int c.1.1, .int c.1.2.1, .int c.1.2.2.1, .int c.2.1, .int (-1), .ref (ca 1), .ref (ca 3), .ref (ca 5), .ref (ca 7), .ref (ca 9), .ref (ca 11), .ref (ca 13), .ref (ca 15)])), (ca 1, .inr (4, [.ref (ca 2)])), (ca 2, .inl (g 0, 10, .inl c.1.2.2.2.1)), (t, .inr (7, [.ref (ta 1), .ref (ta 3), .ref (ta 5), .ref (ta 7), .int (nI (tn 4)), .ref (ta 9), .ref (ta 11), .ref (ta 13), .ref (ta 15), .ref (ta 17), .ref (ta 19), .ref (ta 21), .ref (ta 23), .ref (ta 25), .ref (ta 27), .ref (ta 29), .ref (ta 31), .ref (ta 33), .ref (ta 35)])), (ta 1, .inr (2, [.ref (ta 2), .int (nI (tn 0))])), (ta 5, .inr (2, [.ref (ta 6), .int (nI (tn 2))])), (ta 9, .inr (4, [.ref (ta 10)])), (ta 10, .inl (g 0, 8, .inl (tr 0))), (ta 11, .inr (4, [.ref (ta 12)])), (ta 12, .inl (g 0, 8, .inl (tr 1))), (ou, .inl (g 1, 1, .inr (.inl of)))] s9.heap.size = A at hD hZ ⊢
  have hA : ∀ q : Nat, s9.heap.size ≤ q → A q := fun q h => by rw [← hAe]; exact Or.inr h
  have hS : va_S A s9.heap s9.heap [] := va_S.rf
  have hP : va_P D CLS [(x, .inr (8, [.ref tp, .ref t, .ref u, .ref rd, .ref ch, .ref ci, .int (nI n), .int ep])), (ch, .inr (0, [.ref t, .int c.1.1, .int c.1.2.1, .int c.1.2.2.1, .int c.2.1, .int (-1), .ref (ca 1), .ref (ca 3), .ref (ca 5), .ref (ca 7), .ref (ca 9), .ref (ca 11), .ref (ca 13), .ref (ca 15)])), (ca 1, .inr (4, [.ref (ca 2)])), (ca 2, .inl (g 0, 10, .inl c.1.2.2.2.1)), (t, .inr (7, [.ref (ta 1), .ref (ta 3), .ref (ta 5), .ref (ta 7), .int (nI (tn 4)), .ref (ta 9), .ref (ta 11), .ref (ta 13), .ref (ta 15), .ref (ta 17), .ref (ta 19), .ref (ta 21), .ref (ta 23), .ref (ta 25), .ref (ta 27), .ref (ta 29), .ref (ta 31), .ref (ta 33), .ref (ta 35)])), (ta 1, .inr (2, [.ref (ta 2), .int (nI (tn 0))])), (ta 5, .inr (2, [.ref (ta 6), .int (nI (tn 2))])), (ta 9, .inr (4, [.ref (ta 10)])), (ta 10, .inl (g 0, 8, .inl (tr 0))), (ta 11, .inr (4, [.ref (ta 12)])), (ta 12, .inl (g 0, 8, .inl (tr 1))), (ou, .inl (g 1, 1, .inr (.inl of)))] s9.heap := hP
  have hl := lv_entry ([.ref x, .int (nI k), .int (nI w), .ref ou]) (n := 5) (Nat.le_of_ble_eq_true rfl)
  rw [lg_entry_eq]
  generalize (lg_sl ([.ref x, .int (nI k), .int (nI w), .ref ou]) ++ List.replicate (5 - (lg_sl ([.ref x, .int (nI k), .int (nI w), .ref ou])).length) Slot.unset).toArray = ls at hl ⊢
  have hl : lv_has ls 5 [(0, .ref x), (1, .int (nI k)), (2, .int (nI w)), (3, .ref ou)] := hl
  change W p9 l9 e9 ({ frames := 4, cells := 0, slots := 0, locals := 88 } : Room) s9 m9 _ below9 meth9 c9 _ _ _ _ _ _
  refine lv_aload_n hx hb dL_beast_0 rfl (lv_at hl 3 rfl) ?_
  refine lv_iconst (v := 0) hx hb dL_beast_1 (by decide) ?_
  refine lv_aload_n hx hb dL_beast_2 rfl (lv_at hl 0 rfl) ?_
  refine lv_iload_n hx hb dL_beast_3 rfl (lv_at hl 1 rfl) ?_
  refine lv_iload_n hx hb dL_beast_4 rfl (lv_at hl 2 rfl) ?_
  refine k_i hA hP hD hS [(ou, .inl (g 1, 1, .inr (.inl of)))] (va_runV (As := [.int (nI k), .int (nI w)]) (rest := [.int 0, .ref ou]) ⟨hx, hb, hml, hown, hts⟩ (c_X10_beast l9 z D g x tp t u rd ch ci n ep ca c ta tn tr k w (by first | assumption | decide | omega) (by first | assumption | decide | omega) (by first | assumption | decide | omega) (by first | assumption | decide | omega) (Array.size s9.heap)) (cwV 2 hts gv_L_26 rfl rfl rfl (by decide +kernel) ⟨Nat.le_of_ble_eq_true rfl, Nat.le_of_ble_eq_true rfl⟩) ⟨kBlind, va_recv hK hP (ci := 8) (q0 := 0) rfl rfl, kPre.pc hK hZ hA hP hD hS [0, 1, 2, 3, 4, 5, 6, 7, 8, 9, 10] rfl (by decide +kernel)⟩ rfl rfl hl.1 rfl (lv_room (Nat.le_of_ble_eq_true rfl)) dL_beast_5 ⟨Nat.le_of_ble_eq_true rfl, Nat.le_of_ble_eq_true rfl⟩) [0, 1, 2, 3, 4, 5, 6, 7, 8, 9, 10] [11] rfl rfl rfl rfl (fun r_5 u_1 H locs hw_5 hP7 hD7 hS7 => ?_)
  clear hP hD hS
  have hP := hP7
  have hD := hD7
  have hS := hS7
  clear hP7 hD7 hS7
  obtain rfl := hw_5
  replace hP : va_P D CLS [(ou, .inl (g 1, 1, .inr (.inl of))), (x, .inr (8, [.ref tp, .ref t, .ref u, .ref rd, .ref ch, .ref ci, .int (nI n), .int ep])), (ch, .inr (0, [.ref t, .int c.1.1, .int c.1.2.1, .int c.1.2.2.1, .int c.2.1, .int (-1), .ref (ca 1), .ref (ca 3), .ref (ca 5), .ref (ca 7), .ref (ca 9), .ref (ca 11), .ref (ca 13), .ref (ca 15)])), (ca 1, .inr (4, [.ref (ca 2)])), (ca 2, .inl (g 0, 10, .inl c.1.2.2.2.1)), (t, .inr (7, [.ref (ta 1), .ref (ta 3), .ref (ta 5), .ref (ta 7), .int (nI (tn 4)), .ref (ta 9), .ref (ta 11), .ref (ta 13), .ref (ta 15), .ref (ta 17), .ref (ta 19), .ref (ta 21), .ref (ta 23), .ref (ta 25), .ref (ta 27), .ref (ta 29), .ref (ta 31), .ref (ta 33), .ref (ta 35)])), (ta 1, .inr (2, [.ref (ta 2), .int (nI (tn 0))])), (ta 5, .inr (2, [.ref (ta 6), .int (nI (tn 2))])), (ta 9, .inr (4, [.ref (ta 10)])), (ta 10, .inl (g 0, 8, .inl (tr 0))), (ta 11, .inr (4, [.ref (ta 12)])), (ta 12, .inl (g 0, 8, .inl (tr 1)))] H := hP
  replace hD : va_D A [(ou, .inl (g 1, 1, .inr (.inl of))), (x, .inr (8, [.ref tp, .ref t, .ref u, .ref rd, .ref ch, .ref ci, .int (nI n), .int ep])), (ch, .inr (0, [.ref t, .int c.1.1, .int c.1.2.1, .int c.1.2.2.1, .int c.2.1, .int (-1), .ref (ca 1), .ref (ca 3), .ref (ca 5), .ref (ca 7), .ref (ca 9), .ref (ca 11), .ref (ca 13), .ref (ca 15)])), (ca 1, .inr (4, [.ref (ca 2)])), (ca 2, .inl (g 0, 10, .inl c.1.2.2.2.1)), (t, .inr (7, [.ref (ta 1), .ref (ta 3), .ref (ta 5), .ref (ta 7), .int (nI (tn 4)), .ref (ta 9), .ref (ta 11), .ref (ta 13), .ref (ta 15), .ref (ta 17), .ref (ta 19), .ref (ta 21), .ref (ta 23), .ref (ta 25), .ref (ta 27), .ref (ta 29), .ref (ta 31), .ref (ta 33), .ref (ta 35)])), (ta 1, .inr (2, [.ref (ta 2), .int (nI (tn 0))])), (ta 5, .inr (2, [.ref (ta 6), .int (nI (tn 2))])), (ta 9, .inr (4, [.ref (ta 10)])), (ta 10, .inl (g 0, 8, .inl (tr 0))), (ta 11, .inr (4, [.ref (ta 12)])), (ta 12, .inl (g 0, 8, .inl (tr 1)))] := hD
  refine lv_i2l hx hb dL_beast_8 rfl ?_
  refine k_lastN (i := 0) hx hb hK hP hD hS 0 1 rfl rfl (by decide) (by decide) dL_beast_9 (fun H locs hP7 hD7 hS7 => ?_)
  clear hP hD hS
  have hP := hP7
  have hD := hD7
  have hS := hS7
  clear hP7 hD7 hS7
  replace hP : va_P D CLS [(ou, .inl (g 1, 1, .inr (.inl (vp_updL of 0 ((fBst tr tn c k (nI w)).toInt64))))), (x, .inr (8, [.ref tp, .ref t, .ref u, .ref rd, .ref ch, .ref ci, .int (nI n), .int ep])), (ch, .inr (0, [.ref t, .int c.1.1, .int c.1.2.1, .int c.1.2.2.1, .int c.2.1, .int (-1), .ref (ca 1), .ref (ca 3), .ref (ca 5), .ref (ca 7), .ref (ca 9), .ref (ca 11), .ref (ca 13), .ref (ca 15)])), (ca 1, .inr (4, [.ref (ca 2)])), (ca 2, .inl (g 0, 10, .inl c.1.2.2.2.1)), (t, .inr (7, [.ref (ta 1), .ref (ta 3), .ref (ta 5), .ref (ta 7), .int (nI (tn 4)), .ref (ta 9), .ref (ta 11), .ref (ta 13), .ref (ta 15), .ref (ta 17), .ref (ta 19), .ref (ta 21), .ref (ta 23), .ref (ta 25), .ref (ta 27), .ref (ta 29), .ref (ta 31), .ref (ta 33), .ref (ta 35)])), (ta 1, .inr (2, [.ref (ta 2), .int (nI (tn 0))])), (ta 5, .inr (2, [.ref (ta 6), .int (nI (tn 2))])), (ta 9, .inr (4, [.ref (ta 10)])), (ta 10, .inl (g 0, 8, .inl (tr 0))), (ta 11, .inr (4, [.ref (ta 12)])), (ta 12, .inl (g 0, 8, .inl (tr 1)))] H := hP
  replace hD : va_D A [(ou, .inl (g 1, 1, .inr (.inl (vp_updL of 0 ((fBst tr tn c k (nI w)).toInt64))))), (x, .inr (8, [.ref tp, .ref t, .ref u, .ref rd, .ref ch, .ref ci, .int (nI n), .int ep])), (ch, .inr (0, [.ref t, .int c.1.1, .int c.1.2.1, .int c.1.2.2.1, .int c.2.1, .int (-1), .ref (ca 1), .ref (ca 3), .ref (ca 5), .ref (ca 7), .ref (ca 9), .ref (ca 11), .ref (ca 13), .ref (ca 15)])), (ca 1, .inr (4, [.ref (ca 2)])), (ca 2, .inl (g 0, 10, .inl c.1.2.2.2.1)), (t, .inr (7, [.ref (ta 1), .ref (ta 3), .ref (ta 5), .ref (ta 7), .int (nI (tn 4)), .ref (ta 9), .ref (ta 11), .ref (ta 13), .ref (ta 15), .ref (ta 17), .ref (ta 19), .ref (ta 21), .ref (ta 23), .ref (ta 25), .ref (ta 27), .ref (ta 29), .ref (ta 31), .ref (ta 33), .ref (ta 35)])), (ta 1, .inr (2, [.ref (ta 2), .int (nI (tn 0))])), (ta 5, .inr (2, [.ref (ta 6), .int (nI (tn 2))])), (ta 9, .inr (4, [.ref (ta 10)])), (ta 10, .inl (g 0, 8, .inl (tr 0))), (ta 11, .inr (4, [.ref (ta 12)])), (ta 12, .inl (g 0, 8, .inl (tr 1)))] := hD
  refine lv_goto (tgt := 17) hx hb dL_beast_10 (by decide) ?_
  refine lv_iconst (v := 0) hx hb dL_beast_17 (by decide) ?_
  have hr9 : 0 = (0 : Int32) := by rfl
  have hP9 : va_P D CLS [(x, .inr (8, [.ref tp, .ref t, .ref u, .ref rd, .ref ch, .ref ci, .int (nI n), .int ep])), (ch, .inr (0, [.ref t, .int c.1.1, .int c.1.2.1, .int c.1.2.2.1, .int c.2.1, .int (-1), .ref (ca 1), .ref (ca 3), .ref (ca 5), .ref (ca 7), .ref (ca 9), .ref (ca 11), .ref (ca 13), .ref (ca 15)])), (ca 1, .inr (4, [.ref (ca 2)])), (ca 2, .inl (g 0, 10, .inl c.1.2.2.2.1)), (t, .inr (7, [.ref (ta 1), .ref (ta 3), .ref (ta 5), .ref (ta 7), .int (nI (tn 4)), .ref (ta 9), .ref (ta 11), .ref (ta 13), .ref (ta 15), .ref (ta 17), .ref (ta 19), .ref (ta 21), .ref (ta 23), .ref (ta 25), .ref (ta 27), .ref (ta 29), .ref (ta 31), .ref (ta 33), .ref (ta 35)])), (ta 1, .inr (2, [.ref (ta 2), .int (nI (tn 0))])), (ta 5, .inr (2, [.ref (ta 6), .int (nI (tn 2))])), (ta 9, .inr (4, [.ref (ta 10)])), (ta 10, .inl (g 0, 8, .inl (tr 0))), (ta 11, .inr (4, [.ref (ta 12)])), (ta 12, .inl (g 0, 8, .inl (tr 1))), (ou, .inl (g 1, 1, .inr (.inl (vp_updL of 0 ((fBst tr tn c k (nI w)).toInt64)))))] H := by exact kSub hP [1, 2, 3, 4, 5, 6, 7, 8, 9, 10, 11, 0] rfl
  have hD9 : va_D A [(x, .inr (8, [.ref tp, .ref t, .ref u, .ref rd, .ref ch, .ref ci, .int (nI n), .int ep])), (ch, .inr (0, [.ref t, .int c.1.1, .int c.1.2.1, .int c.1.2.2.1, .int c.2.1, .int (-1), .ref (ca 1), .ref (ca 3), .ref (ca 5), .ref (ca 7), .ref (ca 9), .ref (ca 11), .ref (ca 13), .ref (ca 15)])), (ca 1, .inr (4, [.ref (ca 2)])), (ca 2, .inl (g 0, 10, .inl c.1.2.2.2.1)), (t, .inr (7, [.ref (ta 1), .ref (ta 3), .ref (ta 5), .ref (ta 7), .int (nI (tn 4)), .ref (ta 9), .ref (ta 11), .ref (ta 13), .ref (ta 15), .ref (ta 17), .ref (ta 19), .ref (ta 21), .ref (ta 23), .ref (ta 25), .ref (ta 27), .ref (ta 29), .ref (ta 31), .ref (ta 33), .ref (ta 35)])), (ta 1, .inr (2, [.ref (ta 2), .int (nI (tn 0))])), (ta 5, .inr (2, [.ref (ta 6), .int (nI (tn 2))])), (ta 9, .inr (4, [.ref (ta 10)])), (ta 10, .inl (g 0, 8, .inl (tr 0))), (ta 11, .inr (4, [.ref (ta 12)])), (ta 12, .inl (g 0, 8, .inl (tr 1))), (ou, .inl (g 1, 1, .inr (.inl (vp_updL of 0 ((fBst tr tn c k (nI w)).toInt64)))))] := by exact hD.sub [1, 2, 3, 4, 5, 6, 7, 8, 9, 10, 11, 0] (by decide +kernel) rfl
  exact W.iret (v := 0) hx hb hr (fun t9 ht9 hW9 => ⟨⟨0, (), rfl, hr9, by rw [ht9]; exact hP9, va_K.moved hW9.alike hK, hD9⟩, hS.F ht9⟩) hS.2.2 dL_beast_18
