theorem dX2_init_0 : decode cX2_init 0 = .ok (.aload_n 0, 1) := by decide +kernel
theorem dX2_init_1 : decode cX2_init 1 = .ok (.invokespecial 3, 3) := by decide +kernel
theorem dX2_init_4 : decode cX2_init 4 = .ok (.aload_n 0, 1) := by decide +kernel
theorem dX2_init_5 : decode cX2_init 5 = .ok (.iconst (-1), 1) := by decide +kernel
theorem dX2_init_6 : decode cX2_init 6 = .ok (.putfield 9, 3) := by decide +kernel
theorem dX2_init_9 : decode cX2_init 9 = .ok (.aload_n 0, 1) := by decide +kernel
theorem dX2_init_10 : decode cX2_init 10 = .ok (.iconst 0, 1) := by decide +kernel
theorem dX2_init_11 : decode cX2_init 11 = .ok (.putfield 15, 3) := by decide +kernel
theorem dX2_init_14 : decode cX2_init 14 = .ok (.aload_n 0, 1) := by decide +kernel
theorem dX2_init_15 : decode cX2_init 15 = .ok (.iconst (-1), 1) := by decide +kernel
theorem dX2_init_16 : decode cX2_init 16 = .ok (.putfield 18, 3) := by decide +kernel
theorem dX2_init_19 : decode cX2_init 19 = .ok (.aload_n 0, 1) := by decide +kernel
theorem dX2_init_20 : decode cX2_init 20 = .ok (.iconst (-1), 1) := by decide +kernel
theorem dX2_init_21 : decode cX2_init 21 = .ok (.putfield 21, 3) := by decide +kernel
theorem dX2_init_24 : decode cX2_init 24 = .ok (.aload_n 0, 1) := by decide +kernel
theorem dX2_init_25 : decode cX2_init 25 = .ok (.aload_n 1, 1) := by decide +kernel
theorem dX2_init_26 : decode cX2_init 26 = .ok (.putfield 24, 3) := by decide +kernel
theorem dX2_init_29 : decode cX2_init 29 = .ok (.aload_n 0, 1) := by decide +kernel
theorem dX2_init_30 : decode cX2_init 30 = .ok (.aload_n 2, 1) := by decide +kernel
theorem dX2_init_31 : decode cX2_init 31 = .ok (.putfield 28, 3) := by decide +kernel
theorem dX2_init_34 : decode cX2_init 34 = .ok (.return_, 1) := by decide +kernel
set_option maxHeartbeats 4000000 in
set_option maxRecDepth 100000 in
/-- ListReader(Tokens, Told) -/
theorem c_X2_init (l9 : Launch) (z : Nat → Nat) (D : va_G) (g : Nat → ClassId) (rd : Nat) (tk : Nat) (t : Nat) (sz : Nat) : Met l9 yX2_init (WS yX2_init cX2_init 3 none) ({ frames := 1, cells := 0, slots := 0, locals := 12 }) (va_Pc [.ref rd, .ref tk, .ref t] (kPre z D g [(rd, .inr (1, [.null, .null, .int 0, .int 0, .int 0, .int 0]))] sz)) (va_Qv (fun (u9 : Unit) => True) (kB D g (va_A [(rd, .inr (1, [.null, .null, .int 0, .int 0, .int 0, .int 0]))] sz) (fun (u9 : Unit) => [(rd, .inr (1, [.ref tk, .ref t, .int (-1), .int 0, .int (-1), .int (-1)]))])) (va_A [(rd, .inr (1, [.null, .null, .int 0, .int 0, .int 0, .int 0]))] sz)) 0 0 (va_A [(rd, .inr (1, [.null, .null, .int 0, .int 0, .int 0, .int 0]))] sz) := by
  refine Met.ofW (cc := cX2_init) (maxL := 3) (ret := none) (by decide) rfl ?_
  intro p9 e9 s9 m9 args9 below9 meth9 c9 s₁ B hml hv
  obtain ⟨rfl, hsz, hP, hK, hD0, hZ⟩ := hv
  have hx := B.exec
  have hb := B.bytes
  have hr := B.returns
  have hts := ws_sub (atoms_spec (ws := WS yX2_init cX2_init 3 none) B.pre)
  have hown : s9.vm.findClass RX2 = some m9.cls := findClass_of_methodNamed B.named
  have hlocks := B.notSynchronized
  have hin : meth9.name = "<init>" := (name_of_methodNamed B.named B.method).1
  subst hsz
  have hD := hD0.self (sz := s9.heap.size)
  generalize hAe : va_A [(rd, .inr (1, [.null, .null, .int 0, .int 0, .int 0, .int 0]))] s9.heap.size = A at hD hZ ⊢
  have hA : ∀ q : Nat, s9.heap.size ≤ q → A q := fun q h => by rw [← hAe]; exact Or.inr h
  have hS : va_S A s9.heap s9.heap [] := va_S.rf
  have hP : va_P D CLS [(rd, .inr (1, [.null, .null, .int 0, .int 0, .int 0, .int 0]))] s9.heap := hP
  have hl := lv_entry ([.ref rd, .ref tk, .ref t]) (n := 3) (Nat.le_of_ble_eq_true rfl)
  rw [lg_entry_eq]
  generalize (lg_sl ([.ref rd, .ref tk, .ref t]) ++ List.replicate (3 - (lg_sl ([.ref rd, .ref tk, .ref t])).length) Slot.unset).toArray = ls at hl ⊢
  have hl : lv_has ls 3 [(0, .ref rd), (1, .ref tk), (2, .ref t)] := hl
  change W p9 l9 e9 ({ frames := 1, cells := 0, slots := 0, locals := 12 } : Room) s9 m9 _ below9 meth9 c9 _ _ _ _ _ _
  refine lv_aload_n hx hb dX2_init_0 rfl (lv_at hl 0 rfl) ?_
  refine W.objInit hx hb hown (hts _ w_362) (hts _ w_143) (hts _ w_144) rfl (by rw [hml]; exact hl.1) rfl dX2_init_1 (Nat.le_of_ble_eq_true rfl) (Nat.le_of_ble_eq_true rfl) ?_
  refine W.eq (g2 := F0 m9 4 ls []) rfl ?_
  refine lv_aload_n hx hb dX2_init_4 rfl (lv_at hl 0 rfl) ?_
  refine lv_iconst (v := (-1)) hx hb dX2_init_5 (by decide) ?_
  refine va_put (D := D) (ci := 1) (v := .int (-1)) (ty := .int) (C := RX2) (T := TX2) (N := 6) hx hb hts in_X2 tyX2 tyX2_ok nmX2 hown hK hP hD hS 0 rfl rfl 2 (by decide) (hts _ w_365) (fun _ h9 => h9) rfl (by decide +kernel) rfl rfl (Nat.le_of_ble_eq_true rfl) dX2_init_6 (fun H locs hP7 hD7 hS7 => ?_)
  clear hP hD hS
  have hP := hP7
  have hD := hD7
  have hS := hS7
  clear hP7 hD7 hS7
  replace hP : va_P D CLS [(rd, .inr (1, [.null, .null, .int (-1), .int 0, .int 0, .int 0]))] H := hP
  replace hD : va_D A [(rd, .inr (1, [.null, .null, .int (-1), .int 0, .int 0, .int 0]))] := hD
  refine lv_aload_n hx hb dX2_init_9 rfl (lv_at hl 0 rfl) ?_
  refine lv_iconst (v := 0) hx hb dX2_init_10 (by decide) ?_
  refine va_put (D := D) (ci := 1) (v := .int 0) (ty := .int) (C := RX2) (T := TX2) (N := 6) hx hb hts in_X2 tyX2 tyX2_ok nmX2 hown hK hP hD hS 0 rfl rfl 3 (by decide) (hts _ w_366) (fun _ h9 => h9) rfl (by decide +kernel) rfl rfl (Nat.le_of_ble_eq_true rfl) dX2_init_11 (fun H locs hP7 hD7 hS7 => ?_)
  clear hP hD hS
  have hP := hP7
  have hD := hD7
  have hS := hS7
  clear hP7 hD7 hS7
  replace hP : va_P D CLS [(rd, .inr (1, [.null, .null, .int (-1), .int 0, .int 0, .int 0]))] H := hP
  replace hD : va_D A [(rd, .inr (1, [.null, .null, .int (-1), .int 0, .int 0, .int 0]))] := hD
  refine lv_aload_n hx hb dX2_init_14 rfl (lv_at hl 0 rfl) ?_
  refine lv_iconst (v := (-1)) hx hb dX2_init_15 (by decide) ?_
  refine va_put (D := D) (ci := 1) (v := .int (-1)) (ty := .int) (C := RX2) (T := TX2) (N := 6) hx hb hts in_X2 tyX2 tyX2_ok nmX2 hown hK hP hD hS 0 rfl rfl 4 (by decide) (hts _ w_367) (fun _ h9 => h9) rfl (by decide +kernel) rfl rfl (Nat.le_of_ble_eq_true rfl) dX2_init_16 (fun H locs hP7 hD7 hS7 => ?_)
  clear hP hD hS
  have hP := hP7
  have hD := hD7
  have hS := hS7
  clear hP7 hD7 hS7
  replace hP : va_P D CLS [(rd, .inr (1, [.null, .null, .int (-1), .int 0, .int (-1), .int 0]))] H := hP
  replace hD : va_D A [(rd, .inr (1, [.null, .null, .int (-1), .int 0, .int (-1), .int 0]))] := hD
  refine lv_aload_n hx hb dX2_init_19 rfl (lv_at hl 0 rfl) ?_
  refine lv_iconst (v := (-1)) hx hb dX2_init_20 (by decide) ?_
  refine va_put (D := D) (ci := 1) (v := .int (-1)) (ty := .int) (C := RX2) (T := TX2) (N := 6) hx hb hts in_X2 tyX2 tyX2_ok nmX2 hown hK hP hD hS 0 rfl rfl 5 (by decide) (hts _ w_368) (fun _ h9 => h9) rfl (by decide +kernel) rfl rfl (Nat.le_of_ble_eq_true rfl) dX2_init_21 (fun H locs hP7 hD7 hS7 => ?_)
  clear hP hD hS
  have hP := hP7
  have hD := hD7
  have hS := hS7
  clear hP7 hD7 hS7
  replace hP : va_P D CLS [(rd, .inr (1, [.null, .null, .int (-1), .int 0, .int (-1), .int (-1)]))] H := hP
  replace hD : va_D A [(rd, .inr (1, [.null, .null, .int (-1), .int 0, .int (-1), .int (-1)]))] := hD
  refine lv_aload_n hx hb dX2_init_24 rfl (lv_at hl 0 rfl) ?_
  refine lv_aload_n hx hb dX2_init_25 rfl (lv_at hl 1 rfl) ?_
  refine va_putF (D := D) (ci := 1) (v := .ref tk) (ty := .object "ChoirStalls$Tokens") (C := RX2) (T := TX2) (N := 6) hx hb hts in_X2 tyX2 tyX2_ok nmX2 hown hK hP hD hS 0 rfl rfl 0 (by decide) (hts _ w_363) (fun _ h9 => h9) rfl hin rfl (by decide +kernel) rfl rfl (Nat.le_of_ble_eq_true rfl) dX2_init_26 (fun H locs hP7 hD7 hS7 => ?_)
  clear hP hD hS
  have hP := hP7
  have hD := hD7
  have hS := hS7
  clear hP7 hD7 hS7
  replace hP : va_P D CLS [(rd, .inr (1, [.ref tk, .null, .int (-1), .int 0, .int (-1), .int (-1)]))] H := hP
  replace hD : va_D A [(rd, .inr (1, [.ref tk, .null, .int (-1), .int 0, .int (-1), .int (-1)]))] := hD
  refine lv_aload_n hx hb dX2_init_29 rfl (lv_at hl 0 rfl) ?_
  refine lv_aload_n hx hb dX2_init_30 rfl (lv_at hl 2 rfl) ?_
  refine va_put (D := D) (ci := 1) (v := .ref t) (ty := .object "ChoirStalls$Told") (C := RX2) (T := TX2) (N := 6) hx hb hts in_X2 tyX2 tyX2_ok nmX2 hown hK hP hD hS 0 rfl rfl 1 (by decide) (hts _ w_364) (fun _ h9 => h9) rfl (by decide +kernel) rfl rfl (Nat.le_of_ble_eq_true rfl) dX2_init_31 (fun H locs hP7 hD7 hS7 => ?_)
  clear hP hD hS
  have hP := hP7
  have hD := hD7
  have hS := hS7
  clear hP7 hD7 hS7
  replace hP : va_P D CLS [(rd, .inr (1, [.ref tk, .ref t, .int (-1), .int 0, .int (-1), .int (-1)]))] H := hP
  replace hD : va_D A [(rd, .inr (1, [.ref tk, .ref t, .int (-1), .int 0, .int (-1), .int (-1)]))] := hD
  have hP9 : va_P D CLS [(rd, .inr (1, [.ref tk, .ref t, .int (-1), .int 0, .int (-1), .int (-1)]))] H := by exact kSub hP [0] rfl
  have hD9 : va_D A [(rd, .inr (1, [.ref tk, .ref t, .int (-1), .int 0, .int (-1), .int (-1)]))] := by exact hD.sub [0] (by decide +kernel) rfl
  exact W.vret hx hb hr (fun t9 ht9 hW9 => ⟨⟨(), rfl, trivial, by rw [ht9]; exact hP9, va_K.moved hW9.alike hK, hD9⟩, hS.F ht9⟩) hS.2.2 dX2_init_34
theorem dX8_init_0 : decode cX8_init 0 = .ok (.aload_n 0, 1) := by decide +kernel
theorem dX8_init_1 : decode cX8_init 1 = .ok (.invokespecial 3, 3) := by decide +kernel
theorem dX8_init_4 : decode cX8_init 4 = .ok (.aload_n 0, 1) := by decide +kernel
theorem dX8_init_5 : decode cX8_init 5 = .ok (.sipush 401, 3) := by decide +kernel
theorem dX8_init_8 : decode cX8_init 8 = .ok (.anewarray 9, 3) := by decide +kernel
theorem dX8_init_11 : decode cX8_init 11 = .ok (.putfield 11, 3) := by decide +kernel
theorem dX8_init_14 : decode cX8_init 14 = .ok (.aload_n 0, 1) := by decide +kernel
theorem dX8_init_15 : decode cX8_init 15 = .ok (.sipush 401, 3) := by decide +kernel
theorem dX8_init_18 : decode cX8_init 18 = .ok (.newarray .long, 2) := by decide +kernel
theorem dX8_init_20 : decode cX8_init 20 = .ok (.putfield 17, 3) := by decide +kernel
theorem dX8_init_23 : decode cX8_init 23 = .ok (.aload_n 0, 1) := by decide +kernel
theorem dX8_init_24 : decode cX8_init 24 = .ok (.new 21, 3) := by decide +kernel
theorem dX8_init_27 : decode cX8_init 27 = .ok (.dup, 1) := by decide +kernel
theorem dX8_init_28 : decode cX8_init 28 = .ok (.sipush 401, 3) := by decide +kernel
theorem dX8_init_31 : decode cX8_init 31 = .ok (.invokespecial 23, 3) := by decide +kernel
theorem dX8_init_34 : decode cX8_init 34 = .ok (.putfield 26, 3) := by decide +kernel
theorem dX8_init_37 : decode cX8_init 37 = .ok (.aload_n 0, 1) := by decide +kernel
theorem dX8_init_38 : decode cX8_init 38 = .ok (.iconst 0, 1) := by decide +kernel
theorem dX8_init_39 : decode cX8_init 39 = .ok (.putfield 30, 3) := by decide +kernel
theorem dX8_init_42 : decode cX8_init 42 = .ok (.aload_n 0, 1) := by decide +kernel
theorem dX8_init_43 : decode cX8_init 43 = .ok (.iconst 0, 1) := by decide +kernel
theorem dX8_init_44 : decode cX8_init 44 = .ok (.putfield 34, 3) := by decide +kernel
theorem dX8_init_47 : decode cX8_init 47 = .ok (.aload_n 0, 1) := by decide +kernel
theorem dX8_init_48 : decode cX8_init 48 = .ok (.iconst 0, 1) := by decide +kernel
theorem dX8_init_49 : decode cX8_init 49 = .ok (.putfield 37, 3) := by decide +kernel
theorem dX8_init_52 : decode cX8_init 52 = .ok (.aload_n 0, 1) := by decide +kernel
theorem dX8_init_53 : decode cX8_init 53 = .ok (.lconst 0, 1) := by decide +kernel
theorem dX8_init_54 : decode cX8_init 54 = .ok (.putfield 40, 3) := by decide +kernel
theorem dX8_init_57 : decode cX8_init 57 = .ok (.aload_n 0, 1) := by decide +kernel
theorem dX8_init_58 : decode cX8_init 58 = .ok (.aload_n 1, 1) := by decide +kernel
theorem dX8_init_59 : decode cX8_init 59 = .ok (.putfield 44, 3) := by decide +kernel
theorem dX8_init_62 : decode cX8_init 62 = .ok (.return_, 1) := by decide +kernel
set_option maxHeartbeats 4000000 in
set_option maxRecDepth 100000 in
/-- Tokens(Row) -/
theorem c_X8_init (l9 : Launch) (z : Nat → Nat) (D : va_G) (g : Nat → ClassId) (tk : Nat) (tp : Nat) (sz : Nat) : Met l9 yX8_init (WS yX8_init cX8_init 2 none) ({ frames := 2, cells := 4, slots := 1204, locals := 37 }) (va_Pc [.ref tk, .ref tp] (kPre z D g [(tk, .inr (6, [.null, .null, .null, .null, .int 0, .int 0, .int 0, .long 0]))] sz)) (va_Qv (fun (u9 : (Nat → Nat)) => True) (kB D g (va_A [(tk, .inr (6, [.null, .null, .null, .null, .int 0, .int 0, .int 0, .long 0]))] sz) (fun (u9 : (Nat → Nat)) => [(tk, .inr (6, [.ref tp, .ref (u9 1), .ref (u9 2), .ref (u9 3), .int 0, .int 0, .int 0, .long 0])), (u9 1, .inl (g 2, 401, .inr (.inr (.inr (.inr (fun i9 => sgo z ((fun _ => 49) i9))))))), (u9 2, .inl (g 1, 401, .inr (.inl (fun _ => 0)))), (u9 3, .inr (4, [.ref (u9 4)])), (u9 4, .inl (g 0, 401, .inl (fun _ => 0)))])) (va_A [(tk, .inr (6, [.null, .null, .null, .null, .int 0, .int 0, .int 0, .long 0]))] sz)) 4 1204 (va_A [(tk, .inr (6, [.null, .null, .null, .null, .int 0, .int 0, .int 0, .long 0]))] sz) := by
  refine Met.ofW (cc := cX8_init) (maxL := 2) (ret := none) (by decide) rfl ?_
  intro p9 e9 s9 m9 args9 below9 meth9 c9 s₁ B hml hv
  obtain ⟨rfl, hsz, hP, hK, hD0, hZ⟩ := hv
  have hx := B.exec
  have hb := B.bytes
  have hr := B.returns
  have hts := ws_sub (atoms_spec (ws := WS yX8_init cX8_init 2 none) B.pre)
  have hown : s9.vm.findClass RX8 = some m9.cls := findClass_of_methodNamed B.named
  have hlocks := B.notSynchronized
  have hin : meth9.name = "<init>" := (name_of_methodNamed B.named B.method).1
  subst hsz
  have hD := hD0.self (sz := s9.heap.size)
  generalize hAe : va_A [(tk, .inr (6, [.null, .null, .null, .null, .int 0, .int 0, .int 0, .long 0]))] s9.heap.size = A at hD hZ ⊢
  have hA : ∀ q : Nat, s9.heap.size ≤ q → A q := fun q h => by rw [← hAe]; exact Or.inr h
  have hS : va_S A s9.heap s9.heap [] := va_S.rf
  have hP : va_P D CLS [(tk, .inr (6, [.null, .null, .null, .null, .int 0, .int 0, .int 0, .long 0]))] s9.heap := hP
  have hl := lv_entry ([.ref tk, .ref tp]) (n := 2) (Nat.le_of_ble_eq_true rfl)
  rw [lg_entry_eq]
  generalize (lg_sl ([.ref tk, .ref tp]) ++ List.replicate (2 - (lg_sl ([.ref tk, .ref tp])).length) Slot.unset).toArray = ls at hl ⊢
  have hl : lv_has ls 2 [(0, .ref tk), (1, .ref tp)] := hl
  change W p9 l9 e9 ({ frames := 2, cells := 4, slots := 1204, locals := 37 } : Room) s9 m9 _ below9 meth9 c9 _ _ _ _ _ _
  refine lv_aload_n hx hb dX8_init_0 rfl (lv_at hl 0 rfl) ?_
  refine W.objInit hx hb hown (hts _ w_329) (hts _ w_143) (hts _ w_144) rfl (by rw [hml]; exact hl.1) rfl dX8_init_1 (Nat.le_of_ble_eq_true rfl) (Nat.le_of_ble_eq_true rfl) ?_
  refine W.eq (g2 := F0 m9 4 ls []) rfl ?_
  refine lv_aload_n hx hb dX8_init_4 rfl (lv_at hl 0 rfl) ?_
  refine lv_sipush (v := 401) hx hb dX8_init_5 (by decide) ?_
  refine va_newq (N' := 401) hx hb hown (hts _ w_330) hZ.ao hK hP hD hS hA (by decide) (by decide) (by decide) (Nat.le_of_ble_eq_true rfl) (Nat.le_of_ble_eq_true rfl) dX8_init_8 (fun q_1 cA H hK9 hP hD hS => ?_)
  obtain rfl := k_clsS hK hK9
  replace hP : va_P D CLS [(tk, .inr (6, [.null, .null, .null, .null, .int 0, .int 0, .int 0, .long 0])), (q_1, .inl (g 2, 401, .inr (.inr (.inr (.inr (fun i9 => sgo z ((fun _ => 49) i9)))))))] H := hP
  replace hD : va_D A [(tk, .inr (6, [.null, .null, .null, .null, .int 0, .int 0, .int 0, .long 0])), (q_1, .inl (g 2, 401, .inr (.inr (.inr (.inr (fun i9 => sgo z ((fun _ => 49) i9)))))))] := hD
  refine va_putF (D := D) (ci := 6) (v := .ref q_1) (ty := .array (.object "ChoirStalls$Sign")) (C := RX8) (T := TX8) (N := 8) hx hb hts in_X8 tyX8 tyX8_ok nmX8 hown hK hP hD hS 0 rfl rfl 1 (by decide) (hts _ w_334) (fun _ h9 => h9) rfl hin rfl (by decide +kernel) rfl rfl (Nat.le_of_ble_eq_true rfl) dX8_init_11 (fun H locs hP7 hD7 hS7 => ?_)
  clear hP hD hS
  have hP := hP7
  have hD := hD7
  have hS := hS7
  clear hP7 hD7 hS7
  replace hP : va_P D CLS [(tk, .inr (6, [.null, .ref q_1, .null, .null, .int 0, .int 0, .int 0, .long 0])), (q_1, .inl (g 2, 401, .inr (.inr (.inr (.inr (fun i9 => sgo z ((fun _ => 49) i9)))))))] H := hP
  replace hD : va_D A [(tk, .inr (6, [.null, .ref q_1, .null, .null, .int 0, .int 0, .int 0, .long 0])), (q_1, .inl (g 2, 401, .inr (.inr (.inr (.inr (fun i9 => sgo z ((fun _ => 49) i9)))))))] := hD
  refine lv_aload_n hx hb dX8_init_14 rfl (lv_at hl 0 rfl) ?_
  refine lv_sipush (v := 401) hx hb dX8_init_15 (by decide) ?_
  refine va_newa (atype := .long) (ty := .long) (N' := 401) (a0 := (401, .inr (.inl (fun _ => 0)))) hx hb (hts _ w_183) rfl hK hP hD hS hA (fun _ => rfl) (by decide) (by decide) (by decide) (Nat.le_of_ble_eq_true rfl) (Nat.le_of_ble_eq_true rfl) dX8_init_18 (fun q_2 cA H hK9 hP hD hS => ?_)
  obtain rfl := k_clsJ hK hK9
  replace hP : va_P D CLS [(tk, .inr (6, [.null, .ref q_1, .null, .null, .int 0, .int 0, .int 0, .long 0])), (q_1, .inl (g 2, 401, .inr (.inr (.inr (.inr (fun i9 => sgo z ((fun _ => 49) i9))))))), (q_2, .inl (g 1, 401, .inr (.inl (fun _ => 0))))] H := hP
  replace hD : va_D A [(tk, .inr (6, [.null, .ref q_1, .null, .null, .int 0, .int 0, .int 0, .long 0])), (q_1, .inl (g 2, 401, .inr (.inr (.inr (.inr (fun i9 => sgo z ((fun _ => 49) i9))))))), (q_2, .inl (g 1, 401, .inr (.inl (fun _ => 0))))] := hD
  refine va_putF (D := D) (ci := 6) (v := .ref q_2) (ty := .array .long) (C := RX8) (T := TX8) (N := 8) hx hb hts in_X8 tyX8 tyX8_ok nmX8 hown hK hP hD hS 0 rfl rfl 2 (by decide) (hts _ w_335) (fun _ h9 => h9) rfl hin rfl (by decide +kernel) rfl rfl (Nat.le_of_ble_eq_true rfl) dX8_init_20 (fun H locs hP7 hD7 hS7 => ?_)
  clear hP hD hS
  have hP := hP7
  have hD := hD7
  have hS := hS7
  clear hP7 hD7 hS7
  replace hP : va_P D CLS [(tk, .inr (6, [.null, .ref q_1, .ref q_2, .null, .int 0, .int 0, .int 0, .long 0])), (q_1, .inl (g 2, 401, .inr (.inr (.inr (.inr (fun i9 => sgo z ((fun _ => 49) i9))))))), (q_2, .inl (g 1, 401, .inr (.inl (fun _ => 0))))] H := hP
  replace hD : va_D A [(tk, .inr (6, [.null, .ref q_1, .ref q_2, .null, .int 0, .int 0, .int 0, .long 0])), (q_1, .inl (g 2, 401, .inr (.inr (.inr (.inr (fun i9 => sgo z ((fun _ => 49) i9))))))), (q_2, .inl (g 1, 401, .inr (.inl (fun _ => 0))))] := hD
  refine lv_aload_n hx hb dX8_init_23 rfl (lv_at hl 0 rfl) ?_
  refine va_new (ci := 4) (fs := [.null]) (C := RX5) (T := TX5) (N := 1) hx hb hts in_X5 tyX5 tyX5_ok hown (hts _ w_331) (hts _ w_146) (hts _ w_110) hK hP hD hS hA rfl (by decide +kernel) (Nat.le_of_ble_eq_true rfl) (Nat.le_of_ble_eq_true rfl) dX8_init_24 (fun q_3 H hP7 hD7 hS7 => ?_)
  clear hP hD hS
  have hP := hP7
  have hD := hD7
  have hS := hS7
  clear hP7 hD7 hS7
  replace hP : va_P D CLS [(tk, .inr (6, [.null, .ref q_1, .ref q_2, .null, .int 0, .int 0, .int 0, .long 0])), (q_1, .inl (g 2, 401, .inr (.inr (.inr (.inr (fun i9 => sgo z ((fun _ => 49) i9))))))), (q_2, .inl (g 1, 401, .inr (.inl (fun _ => 0)))), (q_3, .inr (4, [.null]))] H := hP
  replace hD : va_D A [(tk, .inr (6, [.null, .ref q_1, .ref q_2, .null, .int 0, .int 0, .int 0, .long 0])), (q_1, .inl (g 2, 401, .inr (.inr (.inr (.inr (fun i9 => sgo z ((fun _ => 49) i9))))))), (q_2, .inl (g 1, 401, .inr (.inl (fun _ => 0)))), (q_3, .inr (4, [.null]))] := hD
  refine lv_dup hx hb dX8_init_27 rfl ?_
  refine lv_sipush (v := 401) hx hb dX8_init_28 (by decide) ?_
  refine k_v hA hP hD hS [(tk, .inr (6, [.null, .ref q_1, .ref q_2, .null, .int 0, .int 0, .int 0, .long 0])), (q_1, .inl (g 2, 401, .inr (.inr (.inr (.inr (fun i9 => sgo z ((fun _ => 49) i9))))))), (q_2, .inl (g 1, 401, .inr (.inl (fun _ => 0))))] (va_runI (As := [.int 401]) (rest := [.ref q_3, .ref tk]) ⟨hx, hb, hml, hown, hts⟩ (c_X5_init l9 z D g q_3 401 (by first | assumption | decide | omega) (Array.size H)) (cwI 1 hts gw_X5_init rfl rfl rfl (hts _ w_110) (hts _ w_332) (hts _ w_148) rfl (by decide +kernel) ⟨Nat.le_of_ble_eq_true rfl, Nat.le_of_ble_eq_true rfl⟩) ⟨kBlind, kPre.pc hK hZ hA hP hD hS [3] rfl (by decide +kernel)⟩ rfl rfl hl.1 rfl (lv_room (Nat.le_of_ble_eq_true rfl)) dX8_init_31 ⟨Nat.le_of_ble_eq_true rfl, Nat.le_of_ble_eq_true rfl⟩) [3] [0, 1, 2] rfl rfl rfl rfl (fun u_4 H locs hw_31 hP7 hD7 hS7 => ?_)
  clear hP hD hS
  have hP := hP7
  have hD := hD7
  have hS := hS7
  clear hP7 hD7 hS7
  obtain ⟨au_5, rfl⟩ : ∃ q, q = u_4 := ⟨_, rfl⟩
  try dsimp only at hw_31
  replace hP : va_P D CLS [(tk, .inr (6, [.null, .ref q_1, .ref q_2, .null, .int 0, .int 0, .int 0, .long 0])), (q_1, .inl (g 2, 401, .inr (.inr (.inr (.inr (fun i9 => sgo z ((fun _ => 49) i9))))))), (q_2, .inl (g 1, 401, .inr (.inl (fun _ => 0)))), (q_3, .inr (4, [.ref au_5])), (au_5, .inl (g 0, 401, .inl (fun _ => 0)))] H := hP
  replace hD : va_D A [(tk, .inr (6, [.null, .ref q_1, .ref q_2, .null, .int 0, .int 0, .int 0, .long 0])), (q_1, .inl (g 2, 401, .inr (.inr (.inr (.inr (fun i9 => sgo z ((fun _ => 49) i9))))))), (q_2, .inl (g 1, 401, .inr (.inl (fun _ => 0)))), (q_3, .inr (4, [.ref au_5])), (au_5, .inl (g 0, 401, .inl (fun _ => 0)))] := hD
  refine va_putF (D := D) (ci := 6) (v := .ref q_3) (ty := .object "ChoirStalls$Row") (C := RX8) (T := TX8) (N := 8) hx hb hts in_X8 tyX8 tyX8_ok nmX8 hown hK hP hD hS 0 rfl rfl 3 (by decide) (hts _ w_336) (fun _ h9 => h9) rfl hin rfl (by decide +kernel) rfl rfl (Nat.le_of_ble_eq_true rfl) dX8_init_34 (fun H locs hP7 hD7 hS7 => ?_)
  clear hP hD hS
  have hP := hP7
  have hD := hD7
  have hS := hS7
  clear hP7 hD7 hS7
  replace hP : va_P D CLS [(tk, .inr (6, [.null, .ref q_1, .ref q_2, .ref q_3, .int 0, .int 0, .int 0, .long 0])), (q_1, .inl (g 2, 401, .inr (.inr (.inr (.inr (fun i9 => sgo z ((fun _ => 49) i9))))))), (q_2, .inl (g 1, 401, .inr (.inl (fun _ => 0)))), (q_3, .inr (4, [.ref au_5])), (au_5, .inl (g 0, 401, .inl (fun _ => 0)))] H := hP
  replace hD : va_D A [(tk, .inr (6, [.null, .ref q_1, .ref q_2, .ref q_3, .int 0, .int 0, .int 0, .long 0])), (q_1, .inl (g 2, 401, .inr (.inr (.inr (.inr (fun i9 => sgo z ((fun _ => 49) i9))))))), (q_2, .inl (g 1, 401, .inr (.inl (fun _ => 0)))), (q_3, .inr (4, [.ref au_5])), (au_5, .inl (g 0, 401, .inl (fun _ => 0)))] := hD
  refine lv_aload_n hx hb dX8_init_37 rfl (lv_at hl 0 rfl) ?_
  refine lv_iconst (v := 0) hx hb dX8_init_38 (by decide) ?_
  refine va_put (D := D) (ci := 6) (v := .int 0) (ty := .int) (C := RX8) (T := TX8) (N := 8) hx hb hts in_X8 tyX8 tyX8_ok nmX8 hown hK hP hD hS 0 rfl rfl 4 (by decide) (hts _ w_337) (fun _ h9 => h9) rfl (by decide +kernel) rfl rfl (Nat.le_of_ble_eq_true rfl) dX8_init_39 (fun H locs hP7 hD7 hS7 => ?_)
  clear hP hD hS
  have hP := hP7
  have hD := hD7
  have hS := hS7
  clear hP7 hD7 hS7
  replace hP : va_P D CLS [(tk, .inr (6, [.null, .ref q_1, .ref q_2, .ref q_3, .int 0, .int 0, .int 0, .long 0])), (q_1, .inl (g 2, 401, .inr (.inr (.inr (.inr (fun i9 => sgo z ((fun _ => 49) i9))))))), (q_2, .inl (g 1, 401, .inr (.inl (fun _ => 0)))), (q_3, .inr (4, [.ref au_5])), (au_5, .inl (g 0, 401, .inl (fun _ => 0)))] H := hP
  replace hD : va_D A [(tk, .inr (6, [.null, .ref q_1, .ref q_2, .ref q_3, .int 0, .int 0, .int 0, .long 0])), (q_1, .inl (g 2, 401, .inr (.inr (.inr (.inr (fun i9 => sgo z ((fun _ => 49) i9))))))), (q_2, .inl (g 1, 401, .inr (.inl (fun _ => 0)))), (q_3, .inr (4, [.ref au_5])), (au_5, .inl (g 0, 401, .inl (fun _ => 0)))] := hD
  refine lv_aload_n hx hb dX8_init_42 rfl (lv_at hl 0 rfl) ?_
  refine lv_iconst (v := 0) hx hb dX8_init_43 (by decide) ?_
  refine va_put (D := D) (ci := 6) (v := .int 0) (ty := .int) (C := RX8) (T := TX8) (N := 8) hx hb hts in_X8 tyX8 tyX8_ok nmX8 hown hK hP hD hS 0 rfl rfl 5 (by decide) (hts _ w_339) (fun _ h9 => h9) rfl (by decide +kernel) rfl rfl (Nat.le_of_ble_eq_true rfl) dX8_init_44 (fun H locs hP7 hD7 hS7 => ?_)
  clear hP hD hS
  have hP := hP7
  have hD := hD7
  have hS := hS7
  clear hP7 hD7 hS7
  replace hP : va_P D CLS [(tk, .inr (6, [.null, .ref q_1, .ref q_2, .ref q_3, .int 0, .int 0, .int 0, .long 0])), (q_1, .inl (g 2, 401, .inr (.inr (.inr (.inr (fun i9 => sgo z ((fun _ => 49) i9))))))), (q_2, .inl (g 1, 401, .inr (.inl (fun _ => 0)))), (q_3, .inr (4, [.ref au_5])), (au_5, .inl (g 0, 401, .inl (fun _ => 0)))] H := hP
  replace hD : va_D A [(tk, .inr (6, [.null, .ref q_1, .ref q_2, .ref q_3, .int 0, .int 0, .int 0, .long 0])), (q_1, .inl (g 2, 401, .inr (.inr (.inr (.inr (fun i9 => sgo z ((fun _ => 49) i9))))))), (q_2, .inl (g 1, 401, .inr (.inl (fun _ => 0)))), (q_3, .inr (4, [.ref au_5])), (au_5, .inl (g 0, 401, .inl (fun _ => 0)))] := hD
  refine lv_aload_n hx hb dX8_init_47 rfl (lv_at hl 0 rfl) ?_
  refine lv_iconst (v := 0) hx hb dX8_init_48 (by decide) ?_
  refine va_put (D := D) (ci := 6) (v := .int 0) (ty := .int) (C := RX8) (T := TX8) (N := 8) hx hb hts in_X8 tyX8 tyX8_ok nmX8 hown hK hP hD hS 0 rfl rfl 6 (by decide) (hts _ w_340) (fun _ h9 => h9) rfl (by decide +kernel) rfl rfl (Nat.le_of_ble_eq_true rfl) dX8_init_49 (fun H locs hP7 hD7 hS7 => ?_)
  clear hP hD hS
  have hP := hP7
  have hD := hD7
  have hS := hS7
  clear hP7 hD7 hS7
  replace hP : va_P D CLS [(tk, .inr (6, [.null, .ref q_1, .ref q_2, .ref q_3, .int 0, .int 0, .int 0, .long 0])), (q_1, .inl (g 2, 401, .inr (.inr (.inr (.inr (fun i9 => sgo z ((fun _ => 49) i9))))))), (q_2, .inl (g 1, 401, .inr (.inl (fun _ => 0)))), (q_3, .inr (4, [.ref au_5])), (au_5, .inl (g 0, 401, .inl (fun _ => 0)))] H := hP
  replace hD : va_D A [(tk, .inr (6, [.null, .ref q_1, .ref q_2, .ref q_3, .int 0, .int 0, .int 0, .long 0])), (q_1, .inl (g 2, 401, .inr (.inr (.inr (.inr (fun i9 => sgo z ((fun _ => 49) i9))))))), (q_2, .inl (g 1, 401, .inr (.inl (fun _ => 0)))), (q_3, .inr (4, [.ref au_5])), (au_5, .inl (g 0, 401, .inl (fun _ => 0)))] := hD
  refine lv_aload_n hx hb dX8_init_52 rfl (lv_at hl 0 rfl) ?_
  refine lv_lconst (v := 0) hx hb dX8_init_53 (by decide) ?_
  refine va_put (D := D) (ci := 6) (v := .long 0) (ty := .long) (C := RX8) (T := TX8) (N := 8) hx hb hts in_X8 tyX8 tyX8_ok nmX8 hown hK hP hD hS 0 rfl rfl 7 (by decide) (hts _ w_341) (fun _ h9 => h9) rfl (by decide +kernel) rfl rfl (Nat.le_of_ble_eq_true rfl) dX8_init_54 (fun H locs hP7 hD7 hS7 => ?_)
  clear hP hD hS
  have hP := hP7
  have hD := hD7
  have hS := hS7
  clear hP7 hD7 hS7
  replace hP : va_P D CLS [(tk, .inr (6, [.null, .ref q_1, .ref q_2, .ref q_3, .int 0, .int 0, .int 0, .long 0])), (q_1, .inl (g 2, 401, .inr (.inr (.inr (.inr (fun i9 => sgo z ((fun _ => 49) i9))))))), (q_2, .inl (g 1, 401, .inr (.inl (fun _ => 0)))), (q_3, .inr (4, [.ref au_5])), (au_5, .inl (g 0, 401, .inl (fun _ => 0)))] H := hP
  replace hD : va_D A [(tk, .inr (6, [.null, .ref q_1, .ref q_2, .ref q_3, .int 0, .int 0, .int 0, .long 0])), (q_1, .inl (g 2, 401, .inr (.inr (.inr (.inr (fun i9 => sgo z ((fun _ => 49) i9))))))), (q_2, .inl (g 1, 401, .inr (.inl (fun _ => 0)))), (q_3, .inr (4, [.ref au_5])), (au_5, .inl (g 0, 401, .inl (fun _ => 0)))] := hD
  refine lv_aload_n hx hb dX8_init_57 rfl (lv_at hl 0 rfl) ?_
  refine lv_aload_n hx hb dX8_init_58 rfl (lv_at hl 1 rfl) ?_
  refine va_putF (D := D) (ci := 6) (v := .ref tp) (ty := .object "ChoirStalls$Row") (C := RX8) (T := TX8) (N := 8) hx hb hts in_X8 tyX8 tyX8_ok nmX8 hown hK hP hD hS 0 rfl rfl 0 (by decide) (hts _ w_333) (fun _ h9 => h9) rfl hin rfl (by decide +kernel) rfl rfl (Nat.le_of_ble_eq_true rfl) dX8_init_59 (fun H locs hP7 hD7 hS7 => ?_)
  clear hP hD hS
  have hP := hP7
  have hD := hD7
  have hS := hS7
  clear hP7 hD7 hS7
  replace hP : va_P D CLS [(tk, .inr (6, [.ref tp, .ref q_1, .ref q_2, .ref q_3, .int 0, .int 0, .int 0, .long 0])), (q_1, .inl (g 2, 401, .inr (.inr (.inr (.inr (fun i9 => sgo z ((fun _ => 49) i9))))))), (q_2, .inl (g 1, 401, .inr (.inl (fun _ => 0)))), (q_3, .inr (4, [.ref au_5])), (au_5, .inl (g 0, 401, .inl (fun _ => 0)))] H := hP
  replace hD : va_D A [(tk, .inr (6, [.ref tp, .ref q_1, .ref q_2, .ref q_3, .int 0, .int 0, .int 0, .long 0])), (q_1, .inl (g 2, 401, .inr (.inr (.inr (.inr (fun i9 => sgo z ((fun _ => 49) i9))))))), (q_2, .inl (g 1, 401, .inr (.inl (fun _ => 0)))), (q_3, .inr (4, [.ref au_5])), (au_5, .inl (g 0, 401, .inl (fun _ => 0)))] := hD
  have hP9 : va_P D CLS [(tk, .inr (6, [.ref tp, .ref q_1, .ref q_2, .ref q_3, .int 0, .int 0, .int 0, .long 0])), (q_1, .inl (g 2, 401, .inr (.inr (.inr (.inr (fun i9 => sgo z ((fun _ => 49) i9))))))), (q_2, .inl (g 1, 401, .inr (.inl (fun _ => 0)))), (q_3, .inr (4, [.ref au_5])), (au_5, .inl (g 0, 401, .inl (fun _ => 0)))] H := by exact kSub hP [0, 1, 2, 3, 4] rfl
  have hD9 : va_D A [(tk, .inr (6, [.ref tp, .ref q_1, .ref q_2, .ref q_3, .int 0, .int 0, .int 0, .long 0])), (q_1, .inl (g 2, 401, .inr (.inr (.inr (.inr (fun i9 => sgo z ((fun _ => 49) i9))))))), (q_2, .inl (g 1, 401, .inr (.inl (fun _ => 0)))), (q_3, .inr (4, [.ref au_5])), (au_5, .inl (g 0, 401, .inl (fun _ => 0)))] := by exact hD.sub [0, 1, 2, 3, 4] (by decide +kernel) rfl
  refine W.widen (k := 4) (n := 1204) (by omega) (by omega) ?_
  exact W.vret hx hb hr (fun t9 ht9 hW9 => ⟨⟨(fun k => [tk, q_1, q_2, q_3, au_5].getD k 0), rfl, trivial, by rw [ht9]; exact hP9, va_K.moved hW9.alike hK, hD9⟩, hS.F ht9⟩) hS.2.2 dX8_init_62
