theorem dX7_init_0 : decode cX7_init 0 = .ok (.aload_n 0, 1) := by decide +kernel
theorem dX7_init_1 : decode cX7_init 1 = .ok (.invokespecial 3, 3) := by decide +kernel
theorem dX7_init_4 : decode cX7_init 4 = .ok (.aload_n 0, 1) := by decide +kernel
theorem dX7_init_5 : decode cX7_init 5 = .ok (.sipush 400, 3) := by decide +kernel
theorem dX7_init_8 : decode cX7_init 8 = .ok (.anewarray 9, 3) := by decide +kernel
theorem dX7_init_11 : decode cX7_init 11 = .ok (.putfield 11, 3) := by decide +kernel
theorem dX7_init_14 : decode cX7_init 14 = .ok (.aload_n 0, 1) := by decide +kernel
theorem dX7_init_15 : decode cX7_init 15 = .ok (.new 17, 3) := by decide +kernel
theorem dX7_init_18 : decode cX7_init 18 = .ok (.dup, 1) := by decide +kernel
theorem dX7_init_19 : decode cX7_init 19 = .ok (.sipush 400, 3) := by decide +kernel
theorem dX7_init_22 : decode cX7_init 22 = .ok (.invokespecial 19, 3) := by decide +kernel
theorem dX7_init_25 : decode cX7_init 25 = .ok (.putfield 22, 3) := by decide +kernel
theorem dX7_init_28 : decode cX7_init 28 = .ok (.aload_n 0, 1) := by decide +kernel
theorem dX7_init_29 : decode cX7_init 29 = .ok (.new 17, 3) := by decide +kernel
theorem dX7_init_32 : decode cX7_init 32 = .ok (.dup, 1) := by decide +kernel
theorem dX7_init_33 : decode cX7_init 33 = .ok (.sipush 400, 3) := by decide +kernel
theorem dX7_init_36 : decode cX7_init 36 = .ok (.invokespecial 19, 3) := by decide +kernel
theorem dX7_init_39 : decode cX7_init 39 = .ok (.putfield 26, 3) := by decide +kernel
theorem dX7_init_42 : decode cX7_init 42 = .ok (.aload_n 0, 1) := by decide +kernel
theorem dX7_init_43 : decode cX7_init 43 = .ok (.iconst 0, 1) := by decide +kernel
theorem dX7_init_44 : decode cX7_init 44 = .ok (.putfield 29, 3) := by decide +kernel
theorem dX7_init_47 : decode cX7_init 47 = .ok (.return_, 1) := by decide +kernel
set_option maxHeartbeats 4000000 in
set_option maxRecDepth 100000 in
/-- Steps() -/
theorem c_X7_init (l9 : Launch) (z : Nat → Nat) (D : va_G) (g : Nat → ClassId) (sp : Nat) (sz : Nat) : Met l9 yX7_init (WS yX7_init cX7_init 1 none) ({ frames := 2, cells := 5, slots := 1202, locals := 37 }) (va_Pc [.ref sp] (kPre z D g [(sp, .inr (5, [.null, .null, .null, .int 0]))] sz)) (va_Qv (fun (u9 : Nat × Nat × Nat × Nat × Nat) => True) (kB D g (va_A [(sp, .inr (5, [.null, .null, .null, .int 0]))] sz) (fun (u9 : Nat × Nat × Nat × Nat × Nat) => [(sp, .inr (5, [.ref u9.1, .ref u9.2.1, .ref u9.2.2.2.1, .int (nI 0)])), (u9.1, .inl (g 2, 400, .inr (.inr (.inr (.inr (fun i9 => sgo z ((fun _ => 49) i9))))))), (u9.2.1, .inr (4, [.ref u9.2.2.1])), (u9.2.2.1, .inl (g 0, 400, .inl (fun _ => 0))), (u9.2.2.2.1, .inr (4, [.ref u9.2.2.2.2])), (u9.2.2.2.2, .inl (g 0, 400, .inl (fun _ => 0)))])) (va_A [(sp, .inr (5, [.null, .null, .null, .int 0]))] sz)) 5 1202 (va_A [(sp, .inr (5, [.null, .null, .null, .int 0]))] sz) := by
  refine Met.ofW (cc := cX7_init) (maxL := 1) (ret := none) (by decide) rfl ?_
  intro p9 e9 s9 m9 args9 below9 meth9 c9 s₁ B hml hv
  obtain ⟨rfl, hsz, hP, hK, hD0, hZ⟩ := hv
  have hx := B.exec
  have hb := B.bytes
  have hr := B.returns
  have hts := ws_sub (atoms_spec (ws := WS yX7_init cX7_init 1 none) B.pre)
  have hown : s9.vm.findClass RX7 = some m9.cls := findClass_of_methodNamed B.named
  have hlocks := B.notSynchronized
  have hin : meth9.name = "<init>" := (name_of_methodNamed B.named B.method).1
  subst hsz
  have hD := hD0.self (sz := s9.heap.size)
  generalize hAe : va_A [(sp, .inr (5, [.null, .null, .null, .int 0]))] s9.heap.size = A at hD hZ ⊢
  have hA : ∀ q : Nat, s9.heap.size ≤ q → A q := fun q h => by rw [← hAe]; exact Or.inr h
  have hS : va_S A s9.heap s9.heap [] := va_S.rf
  have hP : va_P D CLS [(sp, .inr (5, [.null, .null, .null, .int 0]))] s9.heap := hP
  have hl := lv_entry ([.ref sp]) (n := 1) (Nat.le_of_ble_eq_true rfl)
  rw [lg_entry_eq]
  generalize (lg_sl ([.ref sp]) ++ List.replicate (1 - (lg_sl ([.ref sp])).length) Slot.unset).toArray = ls at hl ⊢
  have hl : lv_has ls 1 [(0, .ref sp)] := hl
  change W p9 l9 e9 ({ frames := 2, cells := 5, slots := 1202, locals := 37 } : Room) s9 m9 _ below9 meth9 c9 _ _ _ _ _ _
  refine lv_aload_n hx hb dX7_init_0 rfl (lv_at hl 0 rfl) ?_
  refine W.objInit hx hb hown (hts _ w_132) (hts _ w_84) (hts _ w_85) rfl (by rw [hml]; exact hl.1) rfl dX7_init_1 (Nat.le_of_ble_eq_true rfl) (Nat.le_of_ble_eq_true rfl) ?_
  refine W.eq (g2 := F0 m9 4 ls []) rfl ?_
  refine lv_aload_n hx hb dX7_init_4 rfl (lv_at hl 0 rfl) ?_
  refine lv_sipush (v := 400) hx hb dX7_init_5 (by decide) ?_
  refine va_newq (N' := 400) hx hb hown (hts _ w_133) hZ.ao hK hP hD hS hA (by decide) (by decide) (by decide) (Nat.le_of_ble_eq_true rfl) (Nat.le_of_ble_eq_true rfl) dX7_init_8 (fun q_1 cA H hK9 hP hD hS => ?_)
  obtain rfl := k_clsS hK hK9
  replace hP : va_P D CLS [(sp, .inr (5, [.null, .null, .null, .int 0])), (q_1, .inl (g 2, 400, .inr (.inr (.inr (.inr (fun i9 => sgo z ((fun _ => 49) i9)))))))] H := hP
  replace hD : va_D A [(sp, .inr (5, [.null, .null, .null, .int 0])), (q_1, .inl (g 2, 400, .inr (.inr (.inr (.inr (fun i9 => sgo z ((fun _ => 49) i9)))))))] := hD
  refine va_putF (D := D) (ci := 5) (v := .ref q_1) (ty := .array (.object "ChoirStalls$Sign")) (C := RX7) (T := TX7) (N := 4) hx hb hts in_X7 tyX7 tyX7_ok nmX7 hown hK hP hD hS 0 rfl rfl 0 (by decide) (hts _ w_137) (fun _ h9 => h9) rfl hin rfl (by decide +kernel) rfl rfl (Nat.le_of_ble_eq_true rfl) dX7_init_11 (fun H locs hP7 hD7 hS7 => ?_)
  clear hP hD hS
  have hP := hP7
  have hD := hD7
  have hS := hS7
  clear hP7 hD7 hS7
  replace hP : va_P D CLS [(sp, .inr (5, [.ref q_1, .null, .null, .int 0])), (q_1, .inl (g 2, 400, .inr (.inr (.inr (.inr (fun i9 => sgo z ((fun _ => 49) i9)))))))] H := hP
  replace hD : va_D A [(sp, .inr (5, [.ref q_1, .null, .null, .int 0])), (q_1, .inl (g 2, 400, .inr (.inr (.inr (.inr (fun i9 => sgo z ((fun _ => 49) i9)))))))] := hD
  refine lv_aload_n hx hb dX7_init_14 rfl (lv_at hl 0 rfl) ?_
  refine va_new (ci := 4) (fs := [.null]) (C := RX5) (T := TX5) (N := 1) hx hb hts in_X5 tyX5 tyX5_ok hown (hts _ w_135) (hts _ w_87) (hts _ w_61) hK hP hD hS hA rfl (by decide +kernel) (Nat.le_of_ble_eq_true rfl) (Nat.le_of_ble_eq_true rfl) dX7_init_15 (fun q_2 H hP7 hD7 hS7 => ?_)
  clear hP hD hS
  have hP := hP7
  have hD := hD7
  have hS := hS7
  clear hP7 hD7 hS7
  replace hP : va_P D CLS [(sp, .inr (5, [.ref q_1, .null, .null, .int 0])), (q_1, .inl (g 2, 400, .inr (.inr (.inr (.inr (fun i9 => sgo z ((fun _ => 49) i9))))))), (q_2, .inr (4, [.null]))] H := hP
  replace hD : va_D A [(sp, .inr (5, [.ref q_1, .null, .null, .int 0])), (q_1, .inl (g 2, 400, .inr (.inr (.inr (.inr (fun i9 => sgo z ((fun _ => 49) i9))))))), (q_2, .inr (4, [.null]))] := hD
  refine lv_dup hx hb dX7_init_18 rfl ?_
  refine lv_sipush (v := 400) hx hb dX7_init_19 (by decide) ?_
  refine k_v hA hP hD hS [(sp, .inr (5, [.ref q_1, .null, .null, .int 0])), (q_1, .inl (g 2, 400, .inr (.inr (.inr (.inr (fun i9 => sgo z ((fun _ => 49) i9)))))))] (va_runI (As := [.int 400]) (rest := [.ref q_2, .ref sp]) ⟨hx, hb, hml, hown, hts⟩ (c_X5_init l9 z D g q_2 400 (by first | assumption | decide | omega) (Array.size H)) (cwI 1 hts gw_X5_init rfl rfl rfl (hts _ w_61) (hts _ w_136) (hts _ w_89) rfl (by decide +kernel) ⟨Nat.le_of_ble_eq_true rfl, Nat.le_of_ble_eq_true rfl⟩) ⟨kBlind, kPre.pc hK hZ hA hP hD hS [2] rfl (by decide +kernel)⟩ rfl rfl hl.1 rfl (lv_room (Nat.le_of_ble_eq_true rfl)) dX7_init_22 ⟨Nat.le_of_ble_eq_true rfl, Nat.le_of_ble_eq_true rfl⟩) [2] [0, 1] rfl rfl rfl rfl (fun u_3 H locs hw_22 hP7 hD7 hS7 => ?_)
  clear hP hD hS
  have hP := hP7
  have hD := hD7
  have hS := hS7
  clear hP7 hD7 hS7
  obtain ⟨au_4, rfl⟩ : ∃ q, q = u_3 := ⟨_, rfl⟩
  try dsimp only at hw_22
  replace hP : va_P D CLS [(sp, .inr (5, [.ref q_1, .null, .null, .int 0])), (q_1, .inl (g 2, 400, .inr (.inr (.inr (.inr (fun i9 => sgo z ((fun _ => 49) i9))))))), (q_2, .inr (4, [.ref au_4])), (au_4, .inl (g 0, 400, .inl (fun _ => 0)))] H := hP
  replace hD : va_D A [(sp, .inr (5, [.ref q_1, .null, .null, .int 0])), (q_1, .inl (g 2, 400, .inr (.inr (.inr (.inr (fun i9 => sgo z ((fun _ => 49) i9))))))), (q_2, .inr (4, [.ref au_4])), (au_4, .inl (g 0, 400, .inl (fun _ => 0)))] := hD
  refine va_putF (D := D) (ci := 5) (v := .ref q_2) (ty := .object "ChoirStalls$Row") (C := RX7) (T := TX7) (N := 4) hx hb hts in_X7 tyX7 tyX7_ok nmX7 hown hK hP hD hS 0 rfl rfl 1 (by decide) (hts _ w_138) (fun _ h9 => h9) rfl hin rfl (by decide +kernel) rfl rfl (Nat.le_of_ble_eq_true rfl) dX7_init_25 (fun H locs hP7 hD7 hS7 => ?_)
  clear hP hD hS
  have hP := hP7
  have hD := hD7
  have hS := hS7
  clear hP7 hD7 hS7
  replace hP : va_P D CLS [(sp, .inr (5, [.ref q_1, .ref q_2, .null, .int 0])), (q_1, .inl (g 2, 400, .inr (.inr (.inr (.inr (fun i9 => sgo z ((fun _ => 49) i9))))))), (q_2, .inr (4, [.ref au_4])), (au_4, .inl (g 0, 400, .inl (fun _ => 0)))] H := hP
  replace hD : va_D A [(sp, .inr (5, [.ref q_1, .ref q_2, .null, .int 0])), (q_1, .inl (g 2, 400, .inr (.inr (.inr (.inr (fun i9 => sgo z ((fun _ => 49) i9))))))), (q_2, .inr (4, [.ref au_4])), (au_4, .inl (g 0, 400, .inl (fun _ => 0)))] := hD
  refine lv_aload_n hx hb dX7_init_28 rfl (lv_at hl 0 rfl) ?_
  refine va_new (ci := 4) (fs := [.null]) (C := RX5) (T := TX5) (N := 1) hx hb hts in_X5 tyX5 tyX5_ok hown (hts _ w_135) (hts _ w_87) (hts _ w_61) hK hP hD hS hA rfl (by decide +kernel) (Nat.le_of_ble_eq_true rfl) (Nat.le_of_ble_eq_true rfl) dX7_init_29 (fun q_5 H hP7 hD7 hS7 => ?_)
  clear hP hD hS
  have hP := hP7
  have hD := hD7
  have hS := hS7
  clear hP7 hD7 hS7
  replace hP : va_P D CLS [(sp, .inr (5, [.ref q_1, .ref q_2, .null, .int 0])), (q_1, .inl (g 2, 400, .inr (.inr (.inr (.inr (fun i9 => sgo z ((fun _ => 49) i9))))))), (q_2, .inr (4, [.ref au_4])), (au_4, .inl (g 0, 400, .inl (fun _ => 0))), (q_5, .inr (4, [.null]))] H := hP
  replace hD : va_D A [(sp, .inr (5, [.ref q_1, .ref q_2, .null, .int 0])), (q_1, .inl (g 2, 400, .inr (.inr (.inr (.inr (fun i9 => sgo z ((fun _ => 49) i9))))))), (q_2, .inr (4, [.ref au_4])), (au_4, .inl (g 0, 400, .inl (fun _ => 0))), (q_5, .inr (4, [.null]))] := hD
  refine lv_dup hx hb dX7_init_32 rfl ?_
  refine lv_sipush (v := 400) hx hb dX7_init_33 (by decide) ?_
  refine k_v hA hP hD hS [(sp, .inr (5, [.ref q_1, .ref q_2, .null, .int 0])), (q_1, .inl (g 2, 400, .inr (.inr (.inr (.inr (fun i9 => sgo z ((fun _ => 49) i9))))))), (q_2, .inr (4, [.ref au_4])), (au_4, .inl (g 0, 400, .inl (fun _ => 0)))] (va_runI (As := [.int 400]) (rest := [.ref q_5, .ref sp]) ⟨hx, hb, hml, hown, hts⟩ (c_X5_init l9 z D g q_5 400 (by first | assumption | decide | omega) (Array.size H)) (cwI 1 hts gw_X5_init rfl rfl rfl (hts _ w_61) (hts _ w_136) (hts _ w_89) rfl (by decide +kernel) ⟨Nat.le_of_ble_eq_true rfl, Nat.le_of_ble_eq_true rfl⟩) ⟨kBlind, kPre.pc hK hZ hA hP hD hS [4] rfl (by decide +kernel)⟩ rfl rfl hl.1 rfl (lv_room (Nat.le_of_ble_eq_true rfl)) dX7_init_36 ⟨Nat.le_of_ble_eq_true rfl, Nat.le_of_ble_eq_true rfl⟩) [4] [0, 1, 2, 3] rfl rfl rfl rfl (fun u_6 H locs hw_36 hP7 hD7 hS7 => ?_)
  clear hP hD hS
  have hP := hP7
  have hD := hD7
  have hS := hS7
  clear hP7 hD7 hS7
  obtain ⟨au_7, rfl⟩ : ∃ q, q = u_6 := ⟨_, rfl⟩
  try dsimp only at hw_36
  replace hP : va_P D CLS [(sp, .inr (5, [.ref q_1, .ref q_2, .null, .int 0])), (q_1, .inl (g 2, 400, .inr (.inr (.inr (.inr (fun i9 => sgo z ((fun _ => 49) i9))))))), (q_2, .inr (4, [.ref au_4])), (au_4, .inl (g 0, 400, .inl (fun _ => 0))), (q_5, .inr (4, [.ref au_7])), (au_7, .inl (g 0, 400, .inl (fun _ => 0)))] H := hP
  replace hD : va_D A [(sp, .inr (5, [.ref q_1, .ref q_2, .null, .int 0])), (q_1, .inl (g 2, 400, .inr (.inr (.inr (.inr (fun i9 => sgo z ((fun _ => 49) i9))))))), (q_2, .inr (4, [.ref au_4])), (au_4, .inl (g 0, 400, .inl (fun _ => 0))), (q_5, .inr (4, [.ref au_7])), (au_7, .inl (g 0, 400, .inl (fun _ => 0)))] := hD
  refine va_putF (D := D) (ci := 5) (v := .ref q_5) (ty := .object "ChoirStalls$Row") (C := RX7) (T := TX7) (N := 4) hx hb hts in_X7 tyX7 tyX7_ok nmX7 hown hK hP hD hS 0 rfl rfl 2 (by decide) (hts _ w_140) (fun _ h9 => h9) rfl hin rfl (by decide +kernel) rfl rfl (Nat.le_of_ble_eq_true rfl) dX7_init_39 (fun H locs hP7 hD7 hS7 => ?_)
  clear hP hD hS
  have hP := hP7
  have hD := hD7
  have hS := hS7
  clear hP7 hD7 hS7
  replace hP : va_P D CLS [(sp, .inr (5, [.ref q_1, .ref q_2, .ref q_5, .int 0])), (q_1, .inl (g 2, 400, .inr (.inr (.inr (.inr (fun i9 => sgo z ((fun _ => 49) i9))))))), (q_2, .inr (4, [.ref au_4])), (au_4, .inl (g 0, 400, .inl (fun _ => 0))), (q_5, .inr (4, [.ref au_7])), (au_7, .inl (g 0, 400, .inl (fun _ => 0)))] H := hP
  replace hD : va_D A [(sp, .inr (5, [.ref q_1, .ref q_2, .ref q_5, .int 0])), (q_1, .inl (g 2, 400, .inr (.inr (.inr (.inr (fun i9 => sgo z ((fun _ => 49) i9))))))), (q_2, .inr (4, [.ref au_4])), (au_4, .inl (g 0, 400, .inl (fun _ => 0))), (q_5, .inr (4, [.ref au_7])), (au_7, .inl (g 0, 400, .inl (fun _ => 0)))] := hD
  refine lv_aload_n hx hb dX7_init_42 rfl (lv_at hl 0 rfl) ?_
  refine lv_iconst (v := 0) hx hb dX7_init_43 (by decide) ?_
  refine va_put (D := D) (ci := 5) (v := .int 0) (ty := .int) (C := RX7) (T := TX7) (N := 4) hx hb hts in_X7 tyX7 tyX7_ok nmX7 hown hK hP hD hS 0 rfl rfl 3 (by decide) (hts _ w_142) (fun _ h9 => h9) rfl (by decide +kernel) rfl rfl (Nat.le_of_ble_eq_true rfl) dX7_init_44 (fun H locs hP7 hD7 hS7 => ?_)
  clear hP hD hS
  have hP := hP7
  have hD := hD7
  have hS := hS7
  clear hP7 hD7 hS7
  replace hP : va_P D CLS [(sp, .inr (5, [.ref q_1, .ref q_2, .ref q_5, .int 0])), (q_1, .inl (g 2, 400, .inr (.inr (.inr (.inr (fun i9 => sgo z ((fun _ => 49) i9))))))), (q_2, .inr (4, [.ref au_4])), (au_4, .inl (g 0, 400, .inl (fun _ => 0))), (q_5, .inr (4, [.ref au_7])), (au_7, .inl (g 0, 400, .inl (fun _ => 0)))] H := hP
  replace hD : va_D A [(sp, .inr (5, [.ref q_1, .ref q_2, .ref q_5, .int 0])), (q_1, .inl (g 2, 400, .inr (.inr (.inr (.inr (fun i9 => sgo z ((fun _ => 49) i9))))))), (q_2, .inr (4, [.ref au_4])), (au_4, .inl (g 0, 400, .inl (fun _ => 0))), (q_5, .inr (4, [.ref au_7])), (au_7, .inl (g 0, 400, .inl (fun _ => 0)))] := hD
  have he_8 : (nI 0) = 0 := by first | rfl | exact nI_0
  have hP9 : va_P D CLS [(sp, .inr (5, [.ref q_1, .ref q_2, .ref q_5, .int (nI 0)])), (q_1, .inl (g 2, 400, .inr (.inr (.inr (.inr (fun i9 => sgo z ((fun _ => 49) i9))))))), (q_2, .inr (4, [.ref au_4])), (au_4, .inl (g 0, 400, .inl (fun _ => 0))), (q_5, .inr (4, [.ref au_7])), (au_7, .inl (g 0, 400, .inl (fun _ => 0)))] H := by rw [he_8]; exact kSub hP [0, 1, 2, 3, 4, 5] rfl
  have hD9 : va_D A [(sp, .inr (5, [.ref q_1, .ref q_2, .ref q_5, .int (nI 0)])), (q_1, .inl (g 2, 400, .inr (.inr (.inr (.inr (fun i9 => sgo z ((fun _ => 49) i9))))))), (q_2, .inr (4, [.ref au_4])), (au_4, .inl (g 0, 400, .inl (fun _ => 0))), (q_5, .inr (4, [.ref au_7])), (au_7, .inl (g 0, 400, .inl (fun _ => 0)))] := by rw [he_8]; exact hD.sub [0, 1, 2, 3, 4, 5] (by decide +kernel) rfl
  refine W.widen (k := 5) (n := 1202) (by omega) (by omega) ?_
  exact W.vret hx hb hr (fun t9 ht9 hW9 => ⟨⟨(q_1, q_2, au_4, q_5, au_7), rfl, trivial, by rw [ht9]; exact hP9, va_K.moved hW9.alike hK, hD9⟩, hS.F ht9⟩) hS.2.2 dX7_init_47
theorem dX7_add_0 : decode cX7_add 0 = .ok (.aload_n 0, 1) := by decide +kernel
theorem dX7_add_1 : decode cX7_add 1 = .ok (.getfield 29, 3) := by decide +kernel
theorem dX7_add_4 : decode cX7_add 4 = .ok (.ifCond .lt 59, 3) := by decide +kernel
theorem dX7_add_7 : decode cX7_add 7 = .ok (.aload_n 0, 1) := by decide +kernel
theorem dX7_add_8 : decode cX7_add 8 = .ok (.getfield 29, 3) := by decide +kernel
theorem dX7_add_11 : decode cX7_add 11 = .ok (.aload_n 0, 1) := by decide +kernel
theorem dX7_add_12 : decode cX7_add 12 = .ok (.getfield 11, 3) := by decide +kernel
theorem dX7_add_15 : decode cX7_add 15 = .ok (.arraylength, 1) := by decide +kernel
theorem dX7_add_16 : decode cX7_add 16 = .ok (.if_icmp .ge 47, 3) := by decide +kernel
theorem dX7_add_19 : decode cX7_add 19 = .ok (.aload_n 0, 1) := by decide +kernel
theorem dX7_add_20 : decode cX7_add 20 = .ok (.getfield 11, 3) := by decide +kernel
theorem dX7_add_23 : decode cX7_add 23 = .ok (.aload_n 0, 1) := by decide +kernel
theorem dX7_add_24 : decode cX7_add 24 = .ok (.getfield 29, 3) := by decide +kernel
theorem dX7_add_27 : decode cX7_add 27 = .ok (.aload_n 1, 1) := by decide +kernel
theorem dX7_add_28 : decode cX7_add 28 = .ok (.aastore, 1) := by decide +kernel
theorem dX7_add_29 : decode cX7_add 29 = .ok (.aload_n 0, 1) := by decide +kernel
theorem dX7_add_30 : decode cX7_add 30 = .ok (.getfield 22, 3) := by decide +kernel
theorem dX7_add_33 : decode cX7_add 33 = .ok (.aload_n 0, 1) := by decide +kernel
theorem dX7_add_34 : decode cX7_add 34 = .ok (.getfield 29, 3) := by decide +kernel
theorem dX7_add_37 : decode cX7_add 37 = .ok (.iload_n 2, 1) := by decide +kernel
theorem dX7_add_38 : decode cX7_add 38 = .ok (.invokevirtual 33, 3) := by decide +kernel
theorem dX7_add_41 : decode cX7_add 41 = .ok (.aload_n 0, 1) := by decide +kernel
theorem dX7_add_42 : decode cX7_add 42 = .ok (.getfield 26, 3) := by decide +kernel
theorem dX7_add_45 : decode cX7_add 45 = .ok (.aload_n 0, 1) := by decide +kernel
theorem dX7_add_46 : decode cX7_add 46 = .ok (.getfield 29, 3) := by decide +kernel
theorem dX7_add_49 : decode cX7_add 49 = .ok (.iload_n 3, 1) := by decide +kernel
theorem dX7_add_50 : decode cX7_add 50 = .ok (.invokevirtual 33, 3) := by decide +kernel
theorem dX7_add_53 : decode cX7_add 53 = .ok (.aload_n 0, 1) := by decide +kernel
theorem dX7_add_54 : decode cX7_add 54 = .ok (.dup, 1) := by decide +kernel
theorem dX7_add_55 : decode cX7_add 55 = .ok (.getfield 29, 3) := by decide +kernel
theorem dX7_add_58 : decode cX7_add 58 = .ok (.iconst 1, 1) := by decide +kernel
theorem dX7_add_59 : decode cX7_add 59 = .ok (.iadd, 1) := by decide +kernel
theorem dX7_add_60 : decode cX7_add 60 = .ok (.putfield 29, 3) := by decide +kernel
theorem dX7_add_63 : decode cX7_add 63 = .ok (.return_, 1) := by decide +kernel
set_option maxHeartbeats 4000000 in
set_option maxRecDepth 100000 in
/-- Steps.add -/
theorem c_X7_add (l9 : Launch) (z : Nat → Nat) (D : va_G) (g : Nat → ClassId) (sp : Nat) (ka : Nat) (fr : Nat) (fa : Nat) (sr : Nat) (sa : Nat) (k : Nat) (kq : Nat → Nat) (ff : Nat → Int32) (fs : Nat → Int32) (kd : Nat) (p1 : Int32) (p2 : Int32) (hk : k ≤ 400) (hd : kd < 49) (sz : Nat) : Met l9 yX7_add (WS yX7_add cX7_add 4 none) ({ frames := 1, cells := 0, slots := 0, locals := 22 }) (va_Pc [.ref sp, .ref (z kd), .int p1, .int p2] (kPre z D g [(sp, .inr (5, [.ref ka, .ref fr, .ref sr, .int (nI k)])), (ka, .inl (g 2, 400, .inr (.inr (.inr (.inr (fun i9 => sgo z (kq i9))))))), (fr, .inr (4, [.ref fa])), (fa, .inl (g 0, 400, .inl ff)), (sr, .inr (4, [.ref sa])), (sa, .inl (g 0, 400, .inl fs))] sz)) (va_Qv (fun (u9 : Unit) => True) (kB D g (va_A [(sp, .inr (5, [.ref ka, .ref fr, .ref sr, .int (nI k)])), (ka, .inl (g 2, 400, .inr (.inr (.inr (.inr (fun i9 => sgo z (kq i9))))))), (fr, .inr (4, [.ref fa])), (fa, .inl (g 0, 400, .inl ff)), (sr, .inr (4, [.ref sa])), (sa, .inl (g 0, 400, .inl fs))] sz) (fun (u9 : Unit) => [(sp, .inr (5, [.ref ka, .ref fr, .ref sr, .int (nI (if k < 400 then k + 1 else k))])), (ka, .inl (g 2, 400, .inr (.inr (.inr (.inr (fun i9 => sgo z ((if k < 400 then va_up kq k kd else kq) i9))))))), (fr, .inr (4, [.ref fa])), (fa, .inl (g 0, 400, .inl (if k < 400 then upd ff k p1 else ff))), (sr, .inr (4, [.ref sa])), (sa, .inl (g 0, 400, .inl (if k < 400 then upd fs k p2 else fs)))])) (va_A [(sp, .inr (5, [.ref ka, .ref fr, .ref sr, .int (nI k)])), (ka, .inl (g 2, 400, .inr (.inr (.inr (.inr (fun i9 => sgo z (kq i9))))))), (fr, .inr (4, [.ref fa])), (fa, .inl (g 0, 400, .inl ff)), (sr, .inr (4, [.ref sa])), (sa, .inl (g 0, 400, .inl fs))] sz)) 0 0 (va_A [(sp, .inr (5, [.ref ka, .ref fr, .ref sr, .int (nI k)])), (ka, .inl (g 2, 400, .inr (.inr (.inr (.inr (fun i9 => sgo z (kq i9))))))), (fr, .inr (4, [.ref fa])), (fa, .inl (g 0, 400, .inl ff)), (sr, .inr (4, [.ref sa])), (sa, .inl (g 0, 400, .inl fs))] sz) := by
  refine Met.ofW (cc := cX7_add) (maxL := 4) (ret := none) (by decide) rfl ?_
  intro p9 e9 s9 m9 args9 below9 meth9 c9 s₁ B hml hv
  obtain ⟨rfl, hsz, hP, hK, hD0, hZ⟩ := hv
  have hx := B.exec
  have hb := B.bytes
  have hr := B.returns
  have hts := ws_sub (atoms_spec (ws := WS yX7_add cX7_add 4 none) B.pre)
  have hown : s9.vm.findClass RX7 = some m9.cls := findClass_of_methodNamed B.named
  have hlocks := B.notSynchronized
  subst hsz
  have hD := hD0.self (sz := s9.heap.size)
  generalize hAe : va_A [(sp, .inr (5, [.ref ka, .ref fr, .ref sr, .int (nI k)])), (ka, .inl (g 2, 400, .inr (.inr (.inr (.inr (fun i9 => sgo z (kq i9))))))), (fr, .inr (4, [.ref fa])), (fa, .inl (g 0, 400, .inl ff)), (sr, .inr (4, [.ref sa])), (sa, .inl (g 0, 400, .inl fs))] s9.heap.size = A at hD hZ ⊢
  have hA : ∀ q : Nat, s9.heap.size ≤ q → A q := fun q h => by rw [← hAe]; exact Or.inr h
  have hS : va_S A s9.heap s9.heap [] := va_S.rf
  have hP : va_P D CLS [(sp, .inr (5, [.ref ka, .ref fr, .ref sr, .int (nI k)])), (ka, .inl (g 2, 400, .inr (.inr (.inr (.inr (fun i9 => sgo z (kq i9))))))), (fr, .inr (4, [.ref fa])), (fa, .inl (g 0, 400, .inl ff)), (sr, .inr (4, [.ref sa])), (sa, .inl (g 0, 400, .inl fs))] s9.heap := hP
  have hl := lv_entry ([.ref sp, .ref (z kd), .int p1, .int p2]) (n := 4) (Nat.le_of_ble_eq_true rfl)
  rw [lg_entry_eq]
  generalize (lg_sl ([.ref sp, .ref (z kd), .int p1, .int p2]) ++ List.replicate (4 - (lg_sl ([.ref sp, .ref (z kd), .int p1, .int p2])).length) Slot.unset).toArray = ls at hl ⊢
  have hl : lv_has ls 4 [(0, .ref sp), (1, .ref (z kd)), (2, .int p1), (3, .int p2)] := hl
  change W p9 l9 e9 ({ frames := 1, cells := 0, slots := 0, locals := 22 } : Room) s9 m9 _ below9 meth9 c9 _ _ _ _ _ _
  refine lv_aload_n hx hb dX7_add_0 rfl (lv_at hl 0 rfl) ?_
  refine va_get (D := D) (ci := 5) (v := .int (nI k)) (C := RX7) (T := TX7) (N := 4) hx hb hts in_X7 hown hK hP 0 rfl rfl 3 (by decide) (hts _ w_142) (fun _ h9 => h9) rfl dX7_add_1 ?_
  refine lv_if_lt (tgt := 63) hx hb dX7_add_4 (by decide) (fun c_4 => ?_) (fun c_4 => ?_)
  · skip
    exact absurd c_4 (nI_pos (by omega))
  · skip
    refine lv_aload_n hx hb dX7_add_7 rfl (lv_at hl 0 rfl) ?_
    refine va_get (D := D) (ci := 5) (v := .int (nI k)) (C := RX7) (T := TX7) (N := 4) hx hb hts in_X7 hown hK hP 0 rfl rfl 3 (by decide) (hts _ w_142) (fun _ h9 => h9) rfl dX7_add_8 ?_
    refine lv_aload_n hx hb dX7_add_11 rfl (lv_at hl 0 rfl) ?_
    refine va_get (D := D) (ci := 5) (v := .ref ka) (C := RX7) (T := TX7) (N := 4) hx hb hts in_X7 hown hK hP 0 rfl rfl 0 (by decide) (hts _ w_137) (fun _ h9 => h9) rfl dX7_add_12 ?_
    refine va_alen (v := 400) hx hb hK hP 1 2 rfl rfl rfl dX7_add_15 ?_
    refine lv_icmp_ge (tgt := 63) hx hb dX7_add_16 (by decide) (fun c_16 => ?_) (fun c_16 => ?_)
    · skip
      have c_16 : 400 ≤ k := (nI_leI (a := 400) (b := k) (by omega) (by omega)).mp c_16
      have he_1 : (nI (if k < 400 then k + 1 else k)) = (nI k) := by first | rw [if_pos (show k < 400 by omega)] | rw [if_neg (show ¬ k < 400 by omega)]
      have he_2 : (if k < 400 then va_up kq k kd else kq) = kq := by first | rw [if_pos (show k < 400 by omega)] | rw [if_neg (show ¬ k < 400 by omega)]
      have he_3 : (if k < 400 then upd ff k p1 else ff) = ff := by first | rw [if_pos (show k < 400 by omega)] | rw [if_neg (show ¬ k < 400 by omega)]
      have he_4 : (if k < 400 then upd fs k p2 else fs) = fs := by first | rw [if_pos (show k < 400 by omega)] | rw [if_neg (show ¬ k < 400 by omega)]
      have hP9 : va_P D CLS [(sp, .inr (5, [.ref ka, .ref fr, .ref sr, .int (nI (if k < 400 then k + 1 else k))])), (ka, .inl (g 2, 400, .inr (.inr (.inr (.inr (fun i9 => sgo z ((if k < 400 then va_up kq k kd else kq) i9))))))), (fr, .inr (4, [.ref fa])), (fa, .inl (g 0, 400, .inl (if k < 400 then upd ff k p1 else ff))), (sr, .inr (4, [.ref sa])), (sa, .inl (g 0, 400, .inl (if k < 400 then upd fs k p2 else fs)))] s9.heap := by rw [he_1, he_2, he_3, he_4]; exact kSub hP [0, 1, 2, 3, 4, 5] rfl
      have hD9 : va_D A [(sp, .inr (5, [.ref ka, .ref fr, .ref sr, .int (nI (if k < 400 then k + 1 else k))])), (ka, .inl (g 2, 400, .inr (.inr (.inr (.inr (fun i9 => sgo z ((if k < 400 then va_up kq k kd else kq) i9))))))), (fr, .inr (4, [.ref fa])), (fa, .inl (g 0, 400, .inl (if k < 400 then upd ff k p1 else ff))), (sr, .inr (4, [.ref sa])), (sa, .inl (g 0, 400, .inl (if k < 400 then upd fs k p2 else fs)))] := by rw [he_1, he_2, he_3, he_4]; exact hD.sub [0, 1, 2, 3, 4, 5] (by decide +kernel) rfl
      exact W.vret hx hb hr (fun t9 ht9 hW9 => ⟨⟨(), rfl, trivial, by rw [ht9]; exact hP9, va_K.moved hW9.alike hK, hD9⟩, hS.F ht9⟩) hS.2.2 dX7_add_63
    · skip
      have c_16 : ¬ 400 ≤ k := fun h => c_16 ((nI_leI (a := 400) (b := k) (by omega) (by omega)).mpr h)
      refine lv_aload_n hx hb dX7_add_19 rfl (lv_at hl 0 rfl) ?_
      refine va_get (D := D) (ci := 5) (v := .ref ka) (C := RX7) (T := TX7) (N := 4) hx hb hts in_X7 hown hK hP 0 rfl rfl 0 (by decide) (hts _ w_137) (fun _ h9 => h9) rfl dX7_add_20 ?_
      refine lv_aload_n hx hb dX7_add_23 rfl (lv_at hl 0 rfl) ?_
      refine va_get (D := D) (ci := 5) (v := .int (nI k)) (C := RX7) (T := TX7) (N := 4) hx hb hts in_X7 hown hK hP 0 rfl rfl 3 (by decide) (hts _ w_142) (fun _ h9 => h9) rfl dX7_add_24 ?_
      refine lv_aload_n hx hb dX7_add_27 rfl (lv_at hl 1 rfl) ?_
      refine k_sastN hx hb hZ hK hP hD hS 1 2 (by assumption) rfl rfl (by omega) (by first | decide | omega) dX7_add_28 (fun H locs hP7 hD7 hS7 => ?_)
      clear hP hD hS
      have hP := hP7
      have hD := hD7
      have hS := hS7
      clear hP7 hD7 hS7
      replace hP : va_P D CLS [(sp, .inr (5, [.ref ka, .ref fr, .ref sr, .int (nI k)])), (ka, .inl (g 2, 400, .inr (.inr (.inr (.inr (fun i9 => sgo z ((va_up kq k kd) i9))))))), (fr, .inr (4, [.ref fa])), (fa, .inl (g 0, 400, .inl ff)), (sr, .inr (4, [.ref sa])), (sa, .inl (g 0, 400, .inl fs))] H := hP
      replace hD : va_D A [(sp, .inr (5, [.ref ka, .ref fr, .ref sr, .int (nI k)])), (ka, .inl (g 2, 400, .inr (.inr (.inr (.inr (fun i9 => sgo z ((va_up kq k kd) i9))))))), (fr, .inr (4, [.ref fa])), (fa, .inl (g 0, 400, .inl ff)), (sr, .inr (4, [.ref sa])), (sa, .inl (g 0, 400, .inl fs))] := hD
      refine lv_aload_n hx hb dX7_add_29 rfl (lv_at hl 0 rfl) ?_
      refine va_get (D := D) (ci := 5) (v := .ref fr) (C := RX7) (T := TX7) (N := 4) hx hb hts in_X7 hown hK hP 0 rfl rfl 1 (by decide) (hts _ w_138) (fun _ h9 => h9) rfl dX7_add_30 ?_
      refine lv_aload_n hx hb dX7_add_33 rfl (lv_at hl 0 rfl) ?_
      refine va_get (D := D) (ci := 5) (v := .int (nI k)) (C := RX7) (T := TX7) (N := 4) hx hb hts in_X7 hown hK hP 0 rfl rfl 3 (by decide) (hts _ w_142) (fun _ h9 => h9) rfl dX7_add_34 ?_
      refine lv_iload_n hx hb dX7_add_37 rfl (lv_at hl 2 rfl) ?_
      refine k_v hA hP hD hS [(sp, .inr (5, [.ref ka, .ref fr, .ref sr, .int (nI k)])), (ka, .inl (g 2, 400, .inr (.inr (.inr (.inr (fun i9 => sgo z ((va_up kq k kd) i9))))))), (sr, .inr (4, [.ref sa])), (sa, .inl (g 0, 400, .inl fs))] (va_runV (As := [.int (nI k), .int p1]) (rest := []) ⟨hx, hb, hml, hown, hts⟩ (c_X5_put l9 z D g fr fa 400 ff (nI k) p1 (by first | assumption | decide | omega) (Array.size H)) (cwV 2 hts gv_X7_33 rfl rfl rfl (by decide +kernel) ⟨Nat.le_of_ble_eq_true rfl, Nat.le_of_ble_eq_true rfl⟩) ⟨kBlind, va_recv hK hP (ci := 4) (q0 := 2) rfl rfl, kPre.pc hK hZ hA hP hD hS [2, 3] rfl (by decide +kernel)⟩ rfl rfl hl.1 rfl (lv_room (Nat.le_of_ble_eq_true rfl)) dX7_add_38 ⟨Nat.le_of_ble_eq_true rfl, Nat.le_of_ble_eq_true rfl⟩) [2, 3] [0, 1, 4, 5] rfl rfl rfl rfl (fun u_5 H locs hw_38 hP7 hD7 hS7 => ?_)
      clear hP hD hS
      have hP := hP7
      have hD := hD7
      have hS := hS7
      clear hP7 hD7 hS7
      replace hP : va_P D CLS [(sp, .inr (5, [.ref ka, .ref fr, .ref sr, .int (nI k)])), (ka, .inl (g 2, 400, .inr (.inr (.inr (.inr (fun i9 => sgo z ((va_up kq k kd) i9))))))), (sr, .inr (4, [.ref sa])), (sa, .inl (g 0, 400, .inl fs)), (fr, .inr (4, [.ref fa])), (fa, .inl (g 0, 400, .inl (rput 400 ff (nI k) p1)))] H := hP
      replace hD : va_D A [(sp, .inr (5, [.ref ka, .ref fr, .ref sr, .int (nI k)])), (ka, .inl (g 2, 400, .inr (.inr (.inr (.inr (fun i9 => sgo z ((va_up kq k kd) i9))))))), (sr, .inr (4, [.ref sa])), (sa, .inl (g 0, 400, .inl fs)), (fr, .inr (4, [.ref fa])), (fa, .inl (g 0, 400, .inl (rput 400 ff (nI k) p1)))] := hD
      rw [rput_nI (n := 400) (f := ff) (k := k) (x := p1) (by omega) (by omega)] at hP hD
      refine lv_aload_n hx hb dX7_add_41 rfl (lv_at hl 0 rfl) ?_
      refine va_get (D := D) (ci := 5) (v := .ref sr) (C := RX7) (T := TX7) (N := 4) hx hb hts in_X7 hown hK hP 0 rfl rfl 2 (by decide) (hts _ w_140) (fun _ h9 => h9) rfl dX7_add_42 ?_
      refine lv_aload_n hx hb dX7_add_45 rfl (lv_at hl 0 rfl) ?_
      refine va_get (D := D) (ci := 5) (v := .int (nI k)) (C := RX7) (T := TX7) (N := 4) hx hb hts in_X7 hown hK hP 0 rfl rfl 3 (by decide) (hts _ w_142) (fun _ h9 => h9) rfl dX7_add_46 ?_
      refine lv_iload_n hx hb dX7_add_49 rfl (lv_at hl 3 rfl) ?_
      refine k_v hA hP hD hS [(sp, .inr (5, [.ref ka, .ref fr, .ref sr, .int (nI k)])), (ka, .inl (g 2, 400, .inr (.inr (.inr (.inr (fun i9 => sgo z ((va_up kq k kd) i9))))))), (fr, .inr (4, [.ref fa])), (fa, .inl (g 0, 400, .inl (upd ff k p1)))] (va_runV (As := [.int (nI k), .int p2]) (rest := []) ⟨hx, hb, hml, hown, hts⟩ (c_X5_put l9 z D g sr sa 400 fs (nI k) p2 (by first | assumption | decide | omega) (Array.size H)) (cwV 2 hts gv_X7_33 rfl rfl rfl (by decide +kernel) ⟨Nat.le_of_ble_eq_true rfl, Nat.le_of_ble_eq_true rfl⟩) ⟨kBlind, va_recv hK hP (ci := 4) (q0 := 2) rfl rfl, kPre.pc hK hZ hA hP hD hS [2, 3] rfl (by decide +kernel)⟩ rfl rfl hl.1 rfl (lv_room (Nat.le_of_ble_eq_true rfl)) dX7_add_50 ⟨Nat.le_of_ble_eq_true rfl, Nat.le_of_ble_eq_true rfl⟩) [2, 3] [0, 1, 4, 5] rfl rfl rfl rfl (fun u_6 H locs hw_50 hP7 hD7 hS7 => ?_)
      clear hP hD hS
      have hP := hP7
      have hD := hD7
      have hS := hS7
      clear hP7 hD7 hS7
      replace hP : va_P D CLS [(sp, .inr (5, [.ref ka, .ref fr, .ref sr, .int (nI k)])), (ka, .inl (g 2, 400, .inr (.inr (.inr (.inr (fun i9 => sgo z ((va_up kq k kd) i9))))))), (fr, .inr (4, [.ref fa])), (fa, .inl (g 0, 400, .inl (upd ff k p1))), (sr, .inr (4, [.ref sa])), (sa, .inl (g 0, 400, .inl (rput 400 fs (nI k) p2)))] H := hP
      replace hD : va_D A [(sp, .inr (5, [.ref ka, .ref fr, .ref sr, .int (nI k)])), (ka, .inl (g 2, 400, .inr (.inr (.inr (.inr (fun i9 => sgo z ((va_up kq k kd) i9))))))), (fr, .inr (4, [.ref fa])), (fa, .inl (g 0, 400, .inl (upd ff k p1))), (sr, .inr (4, [.ref sa])), (sa, .inl (g 0, 400, .inl (rput 400 fs (nI k) p2)))] := hD
      rw [rput_nI (n := 400) (f := fs) (k := k) (x := p2) (by omega) (by omega)] at hP hD
      refine lv_aload_n hx hb dX7_add_53 rfl (lv_at hl 0 rfl) ?_
      refine lv_dup hx hb dX7_add_54 rfl ?_
      refine va_get (D := D) (ci := 5) (v := .int (nI k)) (C := RX7) (T := TX7) (N := 4) hx hb hts in_X7 hown hK hP 0 rfl rfl 3 (by decide) (hts _ w_142) (fun _ h9 => h9) rfl dX7_add_55 ?_
      refine lv_iconst (v := 1) hx hb dX7_add_58 (by decide) ?_
      refine k_inc hx hb dX7_add_59 ?_
      refine va_put (D := D) (ci := 5) (v := .int (nI (k + 1))) (ty := .int) (C := RX7) (T := TX7) (N := 4) hx hb hts in_X7 tyX7 tyX7_ok nmX7 hown hK hP hD hS 0 rfl rfl 3 (by decide) (hts _ w_142) (fun _ h9 => h9) rfl (by decide +kernel) rfl rfl (Nat.le_of_ble_eq_true rfl) dX7_add_60 (fun H locs hP7 hD7 hS7 => ?_)
      clear hP hD hS
      have hP := hP7
      have hD := hD7
      have hS := hS7
      clear hP7 hD7 hS7
      replace hP : va_P D CLS [(sp, .inr (5, [.ref ka, .ref fr, .ref sr, .int (nI (k + 1))])), (ka, .inl (g 2, 400, .inr (.inr (.inr (.inr (fun i9 => sgo z ((va_up kq k kd) i9))))))), (fr, .inr (4, [.ref fa])), (fa, .inl (g 0, 400, .inl (upd ff k p1))), (sr, .inr (4, [.ref sa])), (sa, .inl (g 0, 400, .inl (upd fs k p2)))] H := hP
      replace hD : va_D A [(sp, .inr (5, [.ref ka, .ref fr, .ref sr, .int (nI (k + 1))])), (ka, .inl (g 2, 400, .inr (.inr (.inr (.inr (fun i9 => sgo z ((va_up kq k kd) i9))))))), (fr, .inr (4, [.ref fa])), (fa, .inl (g 0, 400, .inl (upd ff k p1))), (sr, .inr (4, [.ref sa])), (sa, .inl (g 0, 400, .inl (upd fs k p2)))] := hD
      have he_7 : (nI (if k < 400 then k + 1 else k)) = (nI (k + 1)) := by first | rw [if_pos (show k < 400 by omega)] | rw [if_neg (show ¬ k < 400 by omega)]
      have he_8 : (if k < 400 then va_up kq k kd else kq) = (va_up kq k kd) := by first | rw [if_pos (show k < 400 by omega)] | rw [if_neg (show ¬ k < 400 by omega)]
      have he_9 : (if k < 400 then upd ff k p1 else ff) = (upd ff k p1) := by first | rw [if_pos (show k < 400 by omega)] | rw [if_neg (show ¬ k < 400 by omega)]
      have he_10 : (if k < 400 then upd fs k p2 else fs) = (upd fs k p2) := by first | rw [if_pos (show k < 400 by omega)] | rw [if_neg (show ¬ k < 400 by omega)]
      have hP9 : va_P D CLS [(sp, .inr (5, [.ref ka, .ref fr, .ref sr, .int (nI (if k < 400 then k + 1 else k))])), (ka, .inl (g 2, 400, .inr (.inr (.inr (.inr (fun i9 => sgo z ((if k < 400 then va_up kq k kd else kq) i9))))))), (fr, .inr (4, [.ref fa])), (fa, .inl (g 0, 400, .inl (if k < 400 then upd ff k p1 else ff))), (sr, .inr (4, [.ref sa])), (sa, .inl (g 0, 400, .inl (if k < 400 then upd fs k p2 else fs)))] H := by rw [he_7, he_8, he_9, he_10]; exact kSub hP [0, 1, 2, 3, 4, 5] rfl
      have hD9 : va_D A [(sp, .inr (5, [.ref ka, .ref fr, .ref sr, .int (nI (if k < 400 then k + 1 else k))])), (ka, .inl (g 2, 400, .inr (.inr (.inr (.inr (fun i9 => sgo z ((if k < 400 then va_up kq k kd else kq) i9))))))), (fr, .inr (4, [.ref fa])), (fa, .inl (g 0, 400, .inl (if k < 400 then upd ff k p1 else ff))), (sr, .inr (4, [.ref sa])), (sa, .inl (g 0, 400, .inl (if k < 400 then upd fs k p2 else fs)))] := by rw [he_7, he_8, he_9, he_10]; exact hD.sub [0, 1, 2, 3, 4, 5] (by decide +kernel) rfl
      exact W.vret hx hb hr (fun t9 ht9 hW9 => ⟨⟨(), rfl, trivial, by rw [ht9]; exact hP9, va_K.moved hW9.alike hK, hD9⟩, hS.F ht9⟩) hS.2.2 dX7_add_63
theorem dX7_kindAt_0 : decode cX7_kindAt 0 = .ok (.iload_n 1, 1) := by decide +kernel
theorem dX7_kindAt_1 : decode cX7_kindAt 1 = .ok (.ifCond .lt 21, 3) := by decide +kernel
theorem dX7_kindAt_4 : decode cX7_kindAt 4 = .ok (.iload_n 1, 1) := by decide +kernel
theorem dX7_kindAt_5 : decode cX7_kindAt 5 = .ok (.aload_n 0, 1) := by decide +kernel
theorem dX7_kindAt_6 : decode cX7_kindAt 6 = .ok (.getfield 11, 3) := by decide +kernel
theorem dX7_kindAt_9 : decode cX7_kindAt 9 = .ok (.arraylength, 1) := by decide +kernel
theorem dX7_kindAt_10 : decode cX7_kindAt 10 = .ok (.if_icmp .ge 12, 3) := by decide +kernel
theorem dX7_kindAt_13 : decode cX7_kindAt 13 = .ok (.aload_n 0, 1) := by decide +kernel
theorem dX7_kindAt_14 : decode cX7_kindAt 14 = .ok (.getfield 11, 3) := by decide +kernel
theorem dX7_kindAt_17 : decode cX7_kindAt 17 = .ok (.iload_n 1, 1) := by decide +kernel
theorem dX7_kindAt_18 : decode cX7_kindAt 18 = .ok (.aaload, 1) := by decide +kernel
theorem dX7_kindAt_19 : decode cX7_kindAt 19 = .ok (.goto 4, 3) := by decide +kernel
theorem dX7_kindAt_22 : decode cX7_kindAt 22 = .ok (.aconst_null, 1) := by decide +kernel
theorem dX7_kindAt_23 : decode cX7_kindAt 23 = .ok (.astore_n 2, 1) := by decide +kernel
theorem dX7_kindAt_24 : decode cX7_kindAt 24 = .ok (.aload_n 2, 1) := by decide +kernel
theorem dX7_kindAt_25 : decode cX7_kindAt 25 = .ok (.ifnonnull 9, 3) := by decide +kernel
theorem dX7_kindAt_28 : decode cX7_kindAt 28 = .ok (.getstatic 37, 3) := by decide +kernel
theorem dX7_kindAt_31 : decode cX7_kindAt 31 = .ok (.goto 4, 3) := by decide +kernel
theorem dX7_kindAt_34 : decode cX7_kindAt 34 = .ok (.aload_n 2, 1) := by decide +kernel
theorem dX7_kindAt_35 : decode cX7_kindAt 35 = .ok (.areturn, 1) := by decide +kernel
set_option maxHeartbeats 4000000 in
set_option maxRecDepth 100000 in
/-- Steps.kindAt -/
theorem c_X7_kindAt (l9 : Launch) (z : Nat → Nat) (D : va_G) (g : Nat → ClassId) (sp : Nat) (ka : Nat) (fr : Nat) (fa : Nat) (sr : Nat) (sa : Nat) (k : Nat) (kq : Nat → Nat) (ff : Nat → Int32) (fs : Nat → Int32) (p0 : Int32) (sz : Nat) : Met l9 yX7_kindAt (WS yX7_kindAt cX7_kindAt 3 (some (.object "ChoirStalls$Sign"))) ({ frames := 0, cells := 0, slots := 0, locals := 0 }) (va_Pc [.ref sp, .int p0] (kPre z D g [(sp, .inr (5, [.ref ka, .ref fr, .ref sr, .int (nI k)])), (ka, .inl (g 2, 400, .inr (.inr (.inr (.inr (fun i9 => sgo z (kq i9))))))), (fr, .inr (4, [.ref fa])), (fa, .inl (g 0, 400, .inl ff)), (sr, .inr (4, [.ref sa])), (sa, .inl (g 0, 400, .inl fs))] sz)) (va_Qq (fun (r9 : Option Nat) (u9 : Unit) => r9 = some (z (skind kq p0))) (kB D g (va_A [(sp, .inr (5, [.ref ka, .ref fr, .ref sr, .int (nI k)])), (ka, .inl (g 2, 400, .inr (.inr (.inr (.inr (fun i9 => sgo z (kq i9))))))), (fr, .inr (4, [.ref fa])), (fa, .inl (g 0, 400, .inl ff)), (sr, .inr (4, [.ref sa])), (sa, .inl (g 0, 400, .inl fs))] sz) (fun (u9 : Unit) => [(sp, .inr (5, [.ref ka, .ref fr, .ref sr, .int (nI k)])), (ka, .inl (g 2, 400, .inr (.inr (.inr (.inr (fun i9 => sgo z (kq i9))))))), (fr, .inr (4, [.ref fa])), (fa, .inl (g 0, 400, .inl ff)), (sr, .inr (4, [.ref sa])), (sa, .inl (g 0, 400, .inl fs))])) (va_A [(sp, .inr (5, [.ref ka, .ref fr, .ref sr, .int (nI k)])), (ka, .inl (g 2, 400, .inr (.inr (.inr (.inr (fun i9 => sgo z (kq i9))))))), (fr, .inr (4, [.ref fa])), (fa, .inl (g 0, 400, .inl ff)), (sr, .inr (4, [.ref sa])), (sa, .inl (g 0, 400, .inl fs))] sz)) 0 0 (va_A [(sp, .inr (5, [.ref ka, .ref fr, .ref sr, .int (nI k)])), (ka, .inl (g 2, 400, .inr (.inr (.inr (.inr (fun i9 => sgo z (kq i9))))))), (fr, .inr (4, [.ref fa])), (fa, .inl (g 0, 400, .inl ff)), (sr, .inr (4, [.ref sa])), (sa, .inl (g 0, 400, .inl fs))] sz) := by
  refine Met.ofW (cc := cX7_kindAt) (maxL := 3) (ret := (some (.object "ChoirStalls$Sign"))) (by decide) rfl ?_
  intro p9 e9 s9 m9 args9 below9 meth9 c9 s₁ B hml hv
  obtain ⟨rfl, hsz, hP, hK, hD0, hZ⟩ := hv
  have hx := B.exec
  have hb := B.bytes
  have hr := B.returns
  have hts := ws_sub (atoms_spec (ws := WS yX7_kindAt cX7_kindAt 3 (some (.object "ChoirStalls$Sign"))) B.pre)
  have hown : s9.vm.findClass RX7 = some m9.cls := findClass_of_methodNamed B.named
  have hlocks := B.notSynchronized
  subst hsz
  have hD := hD0.self (sz := s9.heap.size)
  generalize hAe : va_A [(sp, .inr (5, [.ref ka, .ref fr, .ref sr, .int (nI k)])), (ka, .inl (g 2, 400, .inr (.inr (.inr (.inr (fun i9 => sgo z (kq i9))))))), (fr, .inr (4, [.ref fa])), (fa, .inl (g 0, 400, .inl ff)), (sr, .inr (4, [.ref sa])), (sa, .inl (g 0, 400, .inl fs))] s9.heap.size = A at hD hZ ⊢
  have hA : ∀ q : Nat, s9.heap.size ≤ q → A q := fun q h => by rw [← hAe]; exact Or.inr h
  have hS : va_S A s9.heap s9.heap [] := va_S.rf
  have hP : va_P D CLS [(sp, .inr (5, [.ref ka, .ref fr, .ref sr, .int (nI k)])), (ka, .inl (g 2, 400, .inr (.inr (.inr (.inr (fun i9 => sgo z (kq i9))))))), (fr, .inr (4, [.ref fa])), (fa, .inl (g 0, 400, .inl ff)), (sr, .inr (4, [.ref sa])), (sa, .inl (g 0, 400, .inl fs))] s9.heap := hP
  have hl := lv_entry ([.ref sp, .int p0]) (n := 3) (Nat.le_of_ble_eq_true rfl)
  rw [lg_entry_eq]
  generalize (lg_sl ([.ref sp, .int p0]) ++ List.replicate (3 - (lg_sl ([.ref sp, .int p0])).length) Slot.unset).toArray = ls at hl ⊢
  have hl : lv_has ls 3 [(0, .ref sp), (1, .int p0)] := hl
  change W p9 l9 e9 ({ frames := 0, cells := 0, slots := 0, locals := 0 } : Room) s9 m9 _ below9 meth9 c9 _ _ _ _ _ _
  refine lv_iload_n hx hb dX7_kindAt_0 rfl (lv_at hl 1 rfl) ?_
  refine lv_if_lt (tgt := 22) hx hb dX7_kindAt_1 (by decide) (fun c_1 => ?_) (fun c_1 => ?_)
  · skip
    refine lv_null hx hb dX7_kindAt_22 ?_
    refine lv_astore_nN (lv' := [(2, .null), (0, .ref sp), (1, .int p0)]) hx hb dX7_kindAt_23 rfl hl (by decide) rfl (fun ls hl => ?_)
    refine lv_aload_nN hx hb dX7_kindAt_24 rfl (lv_at hl 0 rfl) ?_
    refine lv_ifnonnullN hx hb dX7_kindAt_25 ?_
    refine va_gets (n := "BAD") hx hb (hZ.en.1 1 (by decide)).1 hS hown (hts _ w_569) (fun _ h9 => h9) dX7_kindAt_28 ?_
    refine lv_goto (tgt := 35) hx hb dX7_kindAt_31 (by decide) ?_
    have hP9 : va_P D CLS [(sp, .inr (5, [.ref ka, .ref fr, .ref sr, .int (nI k)])), (ka, .inl (g 2, 400, .inr (.inr (.inr (.inr (fun i9 => sgo z (kq i9))))))), (fr, .inr (4, [.ref fa])), (fa, .inl (g 0, 400, .inl ff)), (sr, .inr (4, [.ref sa])), (sa, .inl (g 0, 400, .inl fs))] s9.heap := by exact kSub hP [0, 1, 2, 3, 4, 5] rfl
    have hD9 : va_D A [(sp, .inr (5, [.ref ka, .ref fr, .ref sr, .int (nI k)])), (ka, .inl (g 2, 400, .inr (.inr (.inr (.inr (fun i9 => sgo z (kq i9))))))), (fr, .inr (4, [.ref fa])), (fa, .inl (g 0, 400, .inl ff)), (sr, .inr (4, [.ref sa])), (sa, .inl (g 0, 400, .inl fs))] := by exact hD.sub [0, 1, 2, 3, 4, 5] (by decide +kernel) rfl
    have hr9 : some (z 1) = some (z (skind kq p0)) := by congr 2; first | exact skind_lo c_1 | exact skind_hi c_10 | exact skind_ok (row_in (n := 400) c_1 c_10 (by decide)) k_18 | exact skind_no (row_in (n := 400) c_1 c_10 (by decide)) k_18
    exact W.aret (v := va_rf (some (z 1))) hx hb hr (Or.inl ⟨_, rfl⟩) (va_rf_or _) (fun t9 ht9 hW9 => ⟨⟨some (z 1), (), rfl, hr9, by rw [ht9]; exact hP9, va_K.moved hW9.alike hK, hD9⟩, hS.F ht9⟩) hS.2.2 dX7_kindAt_35
  · skip
    refine lv_iload_n hx hb dX7_kindAt_4 rfl (lv_at hl 1 rfl) ?_
    refine lv_aload_n hx hb dX7_kindAt_5 rfl (lv_at hl 0 rfl) ?_
    refine va_get (D := D) (ci := 5) (v := .ref ka) (C := RX7) (T := TX7) (N := 4) hx hb hts in_X7 hown hK hP 0 rfl rfl 0 (by decide) (hts _ w_137) (fun _ h9 => h9) rfl dX7_kindAt_6 ?_
    refine va_alen (v := 400) hx hb hK hP 1 2 rfl rfl rfl dX7_kindAt_9 ?_
    refine lv_icmp_ge (tgt := 22) hx hb dX7_kindAt_10 (by decide) (fun c_10 => ?_) (fun c_10 => ?_)
    · skip
      refine lv_null hx hb dX7_kindAt_22 ?_
      refine lv_astore_nN (lv' := [(2, .null), (0, .ref sp), (1, .int p0)]) hx hb dX7_kindAt_23 rfl hl (by decide) rfl (fun ls hl => ?_)
      refine lv_aload_nN hx hb dX7_kindAt_24 rfl (lv_at hl 0 rfl) ?_
      refine lv_ifnonnullN hx hb dX7_kindAt_25 ?_
      refine va_gets (n := "BAD") hx hb (hZ.en.1 1 (by decide)).1 hS hown (hts _ w_569) (fun _ h9 => h9) dX7_kindAt_28 ?_
      refine lv_goto (tgt := 35) hx hb dX7_kindAt_31 (by decide) ?_
      have hP9 : va_P D CLS [(sp, .inr (5, [.ref ka, .ref fr, .ref sr, .int (nI k)])), (ka, .inl (g 2, 400, .inr (.inr (.inr (.inr (fun i9 => sgo z (kq i9))))))), (fr, .inr (4, [.ref fa])), (fa, .inl (g 0, 400, .inl ff)), (sr, .inr (4, [.ref sa])), (sa, .inl (g 0, 400, .inl fs))] s9.heap := by exact kSub hP [0, 1, 2, 3, 4, 5] rfl
      have hD9 : va_D A [(sp, .inr (5, [.ref ka, .ref fr, .ref sr, .int (nI k)])), (ka, .inl (g 2, 400, .inr (.inr (.inr (.inr (fun i9 => sgo z (kq i9))))))), (fr, .inr (4, [.ref fa])), (fa, .inl (g 0, 400, .inl ff)), (sr, .inr (4, [.ref sa])), (sa, .inl (g 0, 400, .inl fs))] := by exact hD.sub [0, 1, 2, 3, 4, 5] (by decide +kernel) rfl
      have hr9 : some (z 1) = some (z (skind kq p0)) := by congr 2; first | exact skind_lo c_1 | exact skind_hi c_10 | exact skind_ok (row_in (n := 400) c_1 c_10 (by decide)) k_18 | exact skind_no (row_in (n := 400) c_1 c_10 (by decide)) k_18
      exact W.aret (v := va_rf (some (z 1))) hx hb hr (Or.inl ⟨_, rfl⟩) (va_rf_or _) (fun t9 ht9 hW9 => ⟨⟨some (z 1), (), rfl, hr9, by rw [ht9]; exact hP9, va_K.moved hW9.alike hK, hD9⟩, hS.F ht9⟩) hS.2.2 dX7_kindAt_35
    · skip
      refine lv_aload_n hx hb dX7_kindAt_13 rfl (lv_at hl 0 rfl) ?_
      refine va_get (D := D) (ci := 5) (v := .ref ka) (C := RX7) (T := TX7) (N := 4) hx hb hts in_X7 hown hK hP 0 rfl rfl 0 (by decide) (hts _ w_137) (fun _ h9 => h9) rfl dX7_kindAt_14 ?_
      refine lv_iload_n hx hb dX7_kindAt_17 rfl (lv_at hl 1 rfl) ?_
      refine k_sald hx hb hK hP 1 2 rfl rfl (row_in (n := 400) c_1 c_10 (by decide)) dX7_kindAt_18 (fun k_18 => ?_) (fun k_18 => ?_)
      · skip
        refine lv_goto (tgt := 23) hx hb dX7_kindAt_19 (by decide) ?_
        refine lv_astore_n (lv' := [(2, .ref (z (kq p0.toNatClampNeg))), (0, .ref sp), (1, .int p0)]) hx hb dX7_kindAt_23 rfl hl (by decide) rfl (fun ls hl => ?_)
        refine lv_aload_n hx hb dX7_kindAt_24 rfl (lv_at hl 0 rfl) ?_
        refine lv_ifnonnull (tgt := 34) hx hb dX7_kindAt_25 (by decide) ?_
        refine lv_aload_n hx hb dX7_kindAt_34 rfl (lv_at hl 0 rfl) ?_
        have hP9 : va_P D CLS [(sp, .inr (5, [.ref ka, .ref fr, .ref sr, .int (nI k)])), (ka, .inl (g 2, 400, .inr (.inr (.inr (.inr (fun i9 => sgo z (kq i9))))))), (fr, .inr (4, [.ref fa])), (fa, .inl (g 0, 400, .inl ff)), (sr, .inr (4, [.ref sa])), (sa, .inl (g 0, 400, .inl fs))] s9.heap := by exact kSub hP [0, 1, 2, 3, 4, 5] rfl
        have hD9 : va_D A [(sp, .inr (5, [.ref ka, .ref fr, .ref sr, .int (nI k)])), (ka, .inl (g 2, 400, .inr (.inr (.inr (.inr (fun i9 => sgo z (kq i9))))))), (fr, .inr (4, [.ref fa])), (fa, .inl (g 0, 400, .inl ff)), (sr, .inr (4, [.ref sa])), (sa, .inl (g 0, 400, .inl fs))] := by exact hD.sub [0, 1, 2, 3, 4, 5] (by decide +kernel) rfl
        have hr9 : some (z (kq p0.toNatClampNeg)) = some (z (skind kq p0)) := by congr 2; first | exact skind_lo c_1 | exact skind_hi c_10 | exact skind_ok (row_in (n := 400) c_1 c_10 (by decide)) k_18 | exact skind_no (row_in (n := 400) c_1 c_10 (by decide)) k_18
        exact W.aret (v := va_rf (some (z (kq p0.toNatClampNeg)))) hx hb hr (Or.inl ⟨_, rfl⟩) (va_rf_or _) (fun t9 ht9 hW9 => ⟨⟨some (z (kq p0.toNatClampNeg)), (), rfl, hr9, by rw [ht9]; exact hP9, va_K.moved hW9.alike hK, hD9⟩, hS.F ht9⟩) hS.2.2 dX7_kindAt_35
      · skip
        refine lv_goto (tgt := 23) hx hb dX7_kindAt_19 (by decide) ?_
        refine lv_astore_nN (lv' := [(2, .null), (0, .ref sp), (1, .int p0)]) hx hb dX7_kindAt_23 rfl hl (by decide) rfl (fun ls hl => ?_)
        refine lv_aload_nN hx hb dX7_kindAt_24 rfl (lv_at hl 0 rfl) ?_
        refine lv_ifnonnullN hx hb dX7_kindAt_25 ?_
        refine va_gets (n := "BAD") hx hb (hZ.en.1 1 (by decide)).1 hS hown (hts _ w_569) (fun _ h9 => h9) dX7_kindAt_28 ?_
        refine lv_goto (tgt := 35) hx hb dX7_kindAt_31 (by decide) ?_
        have hP9 : va_P D CLS [(sp, .inr (5, [.ref ka, .ref fr, .ref sr, .int (nI k)])), (ka, .inl (g 2, 400, .inr (.inr (.inr (.inr (fun i9 => sgo z (kq i9))))))), (fr, .inr (4, [.ref fa])), (fa, .inl (g 0, 400, .inl ff)), (sr, .inr (4, [.ref sa])), (sa, .inl (g 0, 400, .inl fs))] s9.heap := by exact kSub hP [0, 1, 2, 3, 4, 5] rfl
        have hD9 : va_D A [(sp, .inr (5, [.ref ka, .ref fr, .ref sr, .int (nI k)])), (ka, .inl (g 2, 400, .inr (.inr (.inr (.inr (fun i9 => sgo z (kq i9))))))), (fr, .inr (4, [.ref fa])), (fa, .inl (g 0, 400, .inl ff)), (sr, .inr (4, [.ref sa])), (sa, .inl (g 0, 400, .inl fs))] := by exact hD.sub [0, 1, 2, 3, 4, 5] (by decide +kernel) rfl
        have hr9 : some (z 1) = some (z (skind kq p0)) := by congr 2; first | exact skind_lo c_1 | exact skind_hi c_10 | exact skind_ok (row_in (n := 400) c_1 c_10 (by decide)) k_18 | exact skind_no (row_in (n := 400) c_1 c_10 (by decide)) k_18
        exact W.aret (v := va_rf (some (z 1))) hx hb hr (Or.inl ⟨_, rfl⟩) (va_rf_or _) (fun t9 ht9 hW9 => ⟨⟨some (z 1), (), rfl, hr9, by rw [ht9]; exact hP9, va_K.moved hW9.alike hK, hD9⟩, hS.F ht9⟩) hS.2.2 dX7_kindAt_35
theorem dX8_isLetter_0 : decode cX8_isLetter 0 = .ok (.iload_n 0, 1) := by decide +kernel
theorem dX8_isLetter_1 : decode cX8_isLetter 1 = .ok (.bipush 97, 2) := by decide +kernel
theorem dX8_isLetter_3 : decode cX8_isLetter 3 = .ok (.if_icmp .lt 13, 3) := by decide +kernel
theorem dX8_isLetter_6 : decode cX8_isLetter 6 = .ok (.iload_n 0, 1) := by decide +kernel
theorem dX8_isLetter_7 : decode cX8_isLetter 7 = .ok (.bipush 122, 2) := by decide +kernel
theorem dX8_isLetter_9 : decode cX8_isLetter 9 = .ok (.if_icmp .gt 7, 3) := by decide +kernel
theorem dX8_isLetter_12 : decode cX8_isLetter 12 = .ok (.iconst 1, 1) := by decide +kernel
theorem dX8_isLetter_13 : decode cX8_isLetter 13 = .ok (.goto 4, 3) := by decide +kernel
theorem dX8_isLetter_16 : decode cX8_isLetter 16 = .ok (.iconst 0, 1) := by decide +kernel
theorem dX8_isLetter_17 : decode cX8_isLetter 17 = .ok (.ireturn, 1) := by decide +kernel
set_option maxHeartbeats 4000000 in
set_option maxRecDepth 100000 in
/-- Tokens.isLetter -/
theorem c_X8_isLetter (l9 : Launch) (z : Nat → Nat) (D : va_G) (g : Nat → ClassId) (p0 : Int32) (sz : Nat) : Met l9 yX8_isLetter (WS yX8_isLetter cX8_isLetter 1 (some .boolean)) ({ frames := 0, cells := 0, slots := 0, locals := 0 }) (va_Pc [.int p0] (kPre z D g [] sz)) (va_Qi (fun (r9 : Int32) (u9 : Unit) => r9 = bI (isL p0)) (kB D g (va_A [] sz) (fun (u9 : Unit) => [])) (va_A [] sz)) 0 0 (va_A [] sz) := by
  refine Met.ofW (cc := cX8_isLetter) (maxL := 1) (ret := (some .boolean)) (by decide) rfl ?_
  intro p9 e9 s9 m9 args9 below9 meth9 c9 s₁ B hml hv
  obtain ⟨rfl, hsz, hP, hK, hD0, hZ⟩ := hv
  have hx := B.exec
  have hb := B.bytes
  have hr := B.returns
  have hts := ws_sub (atoms_spec (ws := WS yX8_isLetter cX8_isLetter 1 (some .boolean)) B.pre)
  have hown : s9.vm.findClass RX8 = some m9.cls := findClass_of_methodNamed B.named
  have hlocks := B.notSynchronized
  subst hsz
  have hD := hD0.self (sz := s9.heap.size)
  generalize hAe : va_A [] s9.heap.size = A at hD hZ ⊢
  have hA : ∀ q : Nat, s9.heap.size ≤ q → A q := fun q h => by rw [← hAe]; exact Or.inr h
  have hS : va_S A s9.heap s9.heap [] := va_S.rf
  have hP : va_P D CLS [] s9.heap := hP
  have hl := lv_entry ([.int p0]) (n := 1) (Nat.le_of_ble_eq_true rfl)
  rw [lg_entry_eq]
  generalize (lg_sl ([.int p0]) ++ List.replicate (1 - (lg_sl ([.int p0])).length) Slot.unset).toArray = ls at hl ⊢
  have hl : lv_has ls 1 [(0, .int p0)] := hl
  change W p9 l9 e9 ({ frames := 0, cells := 0, slots := 0, locals := 0 } : Room) s9 m9 _ below9 meth9 c9 _ _ _ _ _ _
  refine lv_iload_n hx hb dX8_isLetter_0 rfl (lv_at hl 0 rfl) ?_
  refine lv_bipush (v := 97) hx hb dX8_isLetter_1 (by decide) ?_
  refine lv_icmp_lt (tgt := 16) hx hb dX8_isLetter_3 (by decide) (fun c_3 => ?_) (fun c_3 => ?_)
  · skip
    refine lv_iconst (v := 0) hx hb dX8_isLetter_16 (by decide) ?_
    have hP9 : va_P D CLS [] s9.heap := by exact kSub hP [] rfl
    have hD9 : va_D A [] := by exact hD.sub [] (by decide +kernel) rfl
    have hr9 : 0 = (bI (isL p0)) := by first | (rw [show isL p0 = true from decide_eq_true ⟨Int32.not_lt.mp c_3, Int32.not_lt.mp c_9⟩]; rfl) | (rw [show isL p0 = false from decide_eq_false (fun h => absurd h.1 (Int32.not_le.mpr c_3))]; rfl) | (rw [show isL p0 = false from decide_eq_false (fun h => absurd h.2 (Int32.not_le.mpr c_9))]; rfl)
    exact W.zret (v := 0) hx hb hr (by first | exact k_nb0 | exact k_nb1 | exact k_nbI _ | simp) (fun t9 ht9 hW9 => ⟨⟨0, (), rfl, hr9, by rw [ht9]; exact hP9, va_K.moved hW9.alike hK, hD9⟩, hS.F ht9⟩) hS.2.2 dX8_isLetter_17
  · skip
    refine lv_iload_n hx hb dX8_isLetter_6 rfl (lv_at hl 0 rfl) ?_
    refine lv_bipush (v := 122) hx hb dX8_isLetter_7 (by decide) ?_
    refine lv_icmp_gt (tgt := 16) hx hb dX8_isLetter_9 (by decide) (fun c_9 => ?_) (fun c_9 => ?_)
    · skip
      refine lv_iconst (v := 0) hx hb dX8_isLetter_16 (by decide) ?_
      have hP9 : va_P D CLS [] s9.heap := by exact kSub hP [] rfl
      have hD9 : va_D A [] := by exact hD.sub [] (by decide +kernel) rfl
      have hr9 : 0 = (bI (isL p0)) := by first | (rw [show isL p0 = true from decide_eq_true ⟨Int32.not_lt.mp c_3, Int32.not_lt.mp c_9⟩]; rfl) | (rw [show isL p0 = false from decide_eq_false (fun h => absurd h.1 (Int32.not_le.mpr c_3))]; rfl) | (rw [show isL p0 = false from decide_eq_false (fun h => absurd h.2 (Int32.not_le.mpr c_9))]; rfl)
      exact W.zret (v := 0) hx hb hr (by first | exact k_nb0 | exact k_nb1 | exact k_nbI _ | simp) (fun t9 ht9 hW9 => ⟨⟨0, (), rfl, hr9, by rw [ht9]; exact hP9, va_K.moved hW9.alike hK, hD9⟩, hS.F ht9⟩) hS.2.2 dX8_isLetter_17
    · skip
      refine lv_iconst (v := 1) hx hb dX8_isLetter_12 (by decide) ?_
      refine lv_goto (tgt := 17) hx hb dX8_isLetter_13 (by decide) ?_
      have hP9 : va_P D CLS [] s9.heap := by exact kSub hP [] rfl
      have hD9 : va_D A [] := by exact hD.sub [] (by decide +kernel) rfl
      have hr9 : 1 = (bI (isL p0)) := by first | (rw [show isL p0 = true from decide_eq_true ⟨Int32.not_lt.mp c_3, Int32.not_lt.mp c_9⟩]; rfl) | (rw [show isL p0 = false from decide_eq_false (fun h => absurd h.1 (Int32.not_le.mpr c_3))]; rfl) | (rw [show isL p0 = false from decide_eq_false (fun h => absurd h.2 (Int32.not_le.mpr c_9))]; rfl)
      exact W.zret (v := 1) hx hb hr (by first | exact k_nb0 | exact k_nb1 | exact k_nbI _ | simp) (fun t9 ht9 hW9 => ⟨⟨1, (), rfl, hr9, by rw [ht9]; exact hP9, va_K.moved hW9.alike hK, hD9⟩, hS.F ht9⟩) hS.2.2 dX8_isLetter_17
theorem dX8_isDigit_0 : decode cX8_isDigit 0 = .ok (.iload_n 0, 1) := by decide +kernel
theorem dX8_isDigit_1 : decode cX8_isDigit 1 = .ok (.bipush 48, 2) := by decide +kernel
theorem dX8_isDigit_3 : decode cX8_isDigit 3 = .ok (.if_icmp .lt 13, 3) := by decide +kernel
theorem dX8_isDigit_6 : decode cX8_isDigit 6 = .ok (.iload_n 0, 1) := by decide +kernel
theorem dX8_isDigit_7 : decode cX8_isDigit 7 = .ok (.bipush 57, 2) := by decide +kernel
theorem dX8_isDigit_9 : decode cX8_isDigit 9 = .ok (.if_icmp .gt 7, 3) := by decide +kernel
theorem dX8_isDigit_12 : decode cX8_isDigit 12 = .ok (.iconst 1, 1) := by decide +kernel
theorem dX8_isDigit_13 : decode cX8_isDigit 13 = .ok (.goto 4, 3) := by decide +kernel
theorem dX8_isDigit_16 : decode cX8_isDigit 16 = .ok (.iconst 0, 1) := by decide +kernel
theorem dX8_isDigit_17 : decode cX8_isDigit 17 = .ok (.ireturn, 1) := by decide +kernel
set_option maxHeartbeats 4000000 in
set_option maxRecDepth 100000 in
/-- Tokens.isDigit -/
theorem c_X8_isDigit (l9 : Launch) (z : Nat → Nat) (D : va_G) (g : Nat → ClassId) (p0 : Int32) (sz : Nat) : Met l9 yX8_isDigit (WS yX8_isDigit cX8_isDigit 1 (some .boolean)) ({ frames := 0, cells := 0, slots := 0, locals := 0 }) (va_Pc [.int p0] (kPre z D g [] sz)) (va_Qi (fun (r9 : Int32) (u9 : Unit) => r9 = bI (isD p0)) (kB D g (va_A [] sz) (fun (u9 : Unit) => [])) (va_A [] sz)) 0 0 (va_A [] sz) := by
  refine Met.ofW (cc := cX8_isDigit) (maxL := 1) (ret := (some .boolean)) (by decide) rfl ?_
  intro p9 e9 s9 m9 args9 below9 meth9 c9 s₁ B hml hv
  obtain ⟨rfl, hsz, hP, hK, hD0, hZ⟩ := hv
  have hx := B.exec
  have hb := B.bytes
  have hr := B.returns
  have hts := ws_sub (atoms_spec (ws := WS yX8_isDigit cX8_isDigit 1 (some .boolean)) B.pre)
  have hown : s9.vm.findClass RX8 = some m9.cls := findClass_of_methodNamed B.named
  have hlocks := B.notSynchronized
  subst hsz
  have hD := hD0.self (sz := s9.heap.size)
  generalize hAe : va_A [] s9.heap.size = A at hD hZ ⊢
  have hA : ∀ q : Nat, s9.heap.size ≤ q → A q := fun q h => by rw [← hAe]; exact Or.inr h
  have hS : va_S A s9.heap s9.heap [] := va_S.rf
  have hP : va_P D CLS [] s9.heap := hP
  have hl := lv_entry ([.int p0]) (n := 1) (Nat.le_of_ble_eq_true rfl)
  rw [lg_entry_eq]
  generalize (lg_sl ([.int p0]) ++ List.replicate (1 - (lg_sl ([.int p0])).length) Slot.unset).toArray = ls at hl ⊢
  have hl : lv_has ls 1 [(0, .int p0)] := hl
  change W p9 l9 e9 ({ frames := 0, cells := 0, slots := 0, locals := 0 } : Room) s9 m9 _ below9 meth9 c9 _ _ _ _ _ _
  refine lv_iload_n hx hb dX8_isDigit_0 rfl (lv_at hl 0 rfl) ?_
  refine lv_bipush (v := 48) hx hb dX8_isDigit_1 (by decide) ?_
  refine lv_icmp_lt (tgt := 16) hx hb dX8_isDigit_3 (by decide) (fun c_3 => ?_) (fun c_3 => ?_)
  · skip
    refine lv_iconst (v := 0) hx hb dX8_isDigit_16 (by decide) ?_
    have hP9 : va_P D CLS [] s9.heap := by exact kSub hP [] rfl
    have hD9 : va_D A [] := by exact hD.sub [] (by decide +kernel) rfl
    have hr9 : 0 = (bI (isD p0)) := by first | (rw [show isD p0 = true from decide_eq_true ⟨Int32.not_lt.mp c_3, Int32.not_lt.mp c_9⟩]; rfl) | (rw [show isD p0 = false from decide_eq_false (fun h => absurd h.1 (Int32.not_le.mpr c_3))]; rfl) | (rw [show isD p0 = false from decide_eq_false (fun h => absurd h.2 (Int32.not_le.mpr c_9))]; rfl)
    exact W.zret (v := 0) hx hb hr (by first | exact k_nb0 | exact k_nb1 | exact k_nbI _ | simp) (fun t9 ht9 hW9 => ⟨⟨0, (), rfl, hr9, by rw [ht9]; exact hP9, va_K.moved hW9.alike hK, hD9⟩, hS.F ht9⟩) hS.2.2 dX8_isDigit_17
  · skip
    refine lv_iload_n hx hb dX8_isDigit_6 rfl (lv_at hl 0 rfl) ?_
    refine lv_bipush (v := 57) hx hb dX8_isDigit_7 (by decide) ?_
    refine lv_icmp_gt (tgt := 16) hx hb dX8_isDigit_9 (by decide) (fun c_9 => ?_) (fun c_9 => ?_)
    · skip
      refine lv_iconst (v := 0) hx hb dX8_isDigit_16 (by decide) ?_
      have hP9 : va_P D CLS [] s9.heap := by exact kSub hP [] rfl
      have hD9 : va_D A [] := by exact hD.sub [] (by decide +kernel) rfl
      have hr9 : 0 = (bI (isD p0)) := by first | (rw [show isD p0 = true from decide_eq_true ⟨Int32.not_lt.mp c_3, Int32.not_lt.mp c_9⟩]; rfl) | (rw [show isD p0 = false from decide_eq_false (fun h => absurd h.1 (Int32.not_le.mpr c_3))]; rfl) | (rw [show isD p0 = false from decide_eq_false (fun h => absurd h.2 (Int32.not_le.mpr c_9))]; rfl)
      exact W.zret (v := 0) hx hb hr (by first | exact k_nb0 | exact k_nb1 | exact k_nbI _ | simp) (fun t9 ht9 hW9 => ⟨⟨0, (), rfl, hr9, by rw [ht9]; exact hP9, va_K.moved hW9.alike hK, hD9⟩, hS.F ht9⟩) hS.2.2 dX8_isDigit_17
    · skip
      refine lv_iconst (v := 1) hx hb dX8_isDigit_12 (by decide) ?_
      refine lv_goto (tgt := 17) hx hb dX8_isDigit_13 (by decide) ?_
      have hP9 : va_P D CLS [] s9.heap := by exact kSub hP [] rfl
      have hD9 : va_D A [] := by exact hD.sub [] (by decide +kernel) rfl
      have hr9 : 1 = (bI (isD p0)) := by first | (rw [show isD p0 = true from decide_eq_true ⟨Int32.not_lt.mp c_3, Int32.not_lt.mp c_9⟩]; rfl) | (rw [show isD p0 = false from decide_eq_false (fun h => absurd h.1 (Int32.not_le.mpr c_3))]; rfl) | (rw [show isD p0 = false from decide_eq_false (fun h => absurd h.2 (Int32.not_le.mpr c_9))]; rfl)
      exact W.zret (v := 1) hx hb hr (by first | exact k_nb0 | exact k_nb1 | exact k_nbI _ | simp) (fun t9 ht9 hW9 => ⟨⟨1, (), rfl, hr9, by rw [ht9]; exact hP9, va_K.moved hW9.alike hK, hD9⟩, hS.F ht9⟩) hS.2.2 dX8_isDigit_17
theorem dX8_sign_0 : decode cX8_sign 0 = .ok (.aload_n 0, 1) := by decide +kernel
theorem dX8_sign_1 : decode cX8_sign 1 = .ok (.getfield 30, 3) := by decide +kernel
theorem dX8_sign_4 : decode cX8_sign 4 = .ok (.ifCond .lt 27, 3) := by decide +kernel
theorem dX8_sign_7 : decode cX8_sign 7 = .ok (.aload_n 0, 1) := by decide +kernel
theorem dX8_sign_8 : decode cX8_sign 8 = .ok (.getfield 30, 3) := by decide +kernel
theorem dX8_sign_11 : decode cX8_sign 11 = .ok (.aload_n 0, 1) := by decide +kernel
theorem dX8_sign_12 : decode cX8_sign 12 = .ok (.getfield 11, 3) := by decide +kernel
theorem dX8_sign_15 : decode cX8_sign 15 = .ok (.arraylength, 1) := by decide +kernel
theorem dX8_sign_16 : decode cX8_sign 16 = .ok (.if_icmp .ge 15, 3) := by decide +kernel
theorem dX8_sign_19 : decode cX8_sign 19 = .ok (.aload_n 0, 1) := by decide +kernel
theorem dX8_sign_20 : decode cX8_sign 20 = .ok (.getfield 11, 3) := by decide +kernel
theorem dX8_sign_23 : decode cX8_sign 23 = .ok (.aload_n 0, 1) := by decide +kernel
theorem dX8_sign_24 : decode cX8_sign 24 = .ok (.getfield 30, 3) := by decide +kernel
theorem dX8_sign_27 : decode cX8_sign 27 = .ok (.aaload, 1) := by decide +kernel
theorem dX8_sign_28 : decode cX8_sign 28 = .ok (.goto 4, 3) := by decide +kernel
theorem dX8_sign_31 : decode cX8_sign 31 = .ok (.aconst_null, 1) := by decide +kernel
theorem dX8_sign_32 : decode cX8_sign 32 = .ok (.astore_n 1, 1) := by decide +kernel
theorem dX8_sign_33 : decode cX8_sign 33 = .ok (.aload_n 1, 1) := by decide +kernel
theorem dX8_sign_34 : decode cX8_sign 34 = .ok (.ifnonnull 9, 3) := by decide +kernel
theorem dX8_sign_37 : decode cX8_sign 37 = .ok (.getstatic 47, 3) := by decide +kernel
theorem dX8_sign_40 : decode cX8_sign 40 = .ok (.goto 4, 3) := by decide +kernel
theorem dX8_sign_43 : decode cX8_sign 43 = .ok (.aload_n 1, 1) := by decide +kernel
theorem dX8_sign_44 : decode cX8_sign 44 = .ok (.areturn, 1) := by decide +kernel
set_option maxHeartbeats 4000000 in
set_option maxRecDepth 100000 in
/-- Tokens.sign -/
theorem c_X8_sign (l9 : Launch) (z : Nat → Nat) (D : va_G) (g : Nat → ClassId) (tk : Nat) (xa : Nat → Nat) (tp : Nat) (fi : Int32) (n : Nat) (p : Nat) (v : Int64) (sq : Nat → Nat) (sv : Nat → Int64) (spl : Nat → Int32) (sz : Nat) : Met l9 yX8_sign (WS yX8_sign cX8_sign 2 (some (.object "ChoirStalls$Sign"))) ({ frames := 0, cells := 0, slots := 0, locals := 0 }) (va_Pc [.ref tk] (kPre z D g [(tk, .inr (6, [.ref tp, .ref (xa 1), .ref (xa 2), .ref (xa 3), .int fi, .int (nI n), .int (nI p), .long v])), (xa 1, .inl (g 2, 401, .inr (.inr (.inr (.inr (fun i9 => sgo z (sq i9))))))), (xa 2, .inl (g 1, 401, .inr (.inl sv))), (xa 3, .inr (4, [.ref (xa 4)])), (xa 4, .inl (g 0, 401, .inl spl))] sz)) (va_Qq (fun (r9 : Option Nat) (u9 : Unit) => r9 = some (z (tSg sq fi))) (kB D g (va_A [(tk, .inr (6, [.ref tp, .ref (xa 1), .ref (xa 2), .ref (xa 3), .int fi, .int (nI n), .int (nI p), .long v])), (xa 1, .inl (g 2, 401, .inr (.inr (.inr (.inr (fun i9 => sgo z (sq i9))))))), (xa 2, .inl (g 1, 401, .inr (.inl sv))), (xa 3, .inr (4, [.ref (xa 4)])), (xa 4, .inl (g 0, 401, .inl spl))] sz) (fun (u9 : Unit) => [(tk, .inr (6, [.ref tp, .ref (xa 1), .ref (xa 2), .ref (xa 3), .int fi, .int (nI n), .int (nI p), .long v])), (xa 1, .inl (g 2, 401, .inr (.inr (.inr (.inr (fun i9 => sgo z (sq i9))))))), (xa 2, .inl (g 1, 401, .inr (.inl sv))), (xa 3, .inr (4, [.ref (xa 4)])), (xa 4, .inl (g 0, 401, .inl spl))])) (va_A [(tk, .inr (6, [.ref tp, .ref (xa 1), .ref (xa 2), .ref (xa 3), .int fi, .int (nI n), .int (nI p), .long v])), (xa 1, .inl (g 2, 401, .inr (.inr (.inr (.inr (fun i9 => sgo z (sq i9))))))), (xa 2, .inl (g 1, 401, .inr (.inl sv))), (xa 3, .inr (4, [.ref (xa 4)])), (xa 4, .inl (g 0, 401, .inl spl))] sz)) 0 0 (va_A [(tk, .inr (6, [.ref tp, .ref (xa 1), .ref (xa 2), .ref (xa 3), .int fi, .int (nI n), .int (nI p), .long v])), (xa 1, .inl (g 2, 401, .inr (.inr (.inr (.inr (fun i9 => sgo z (sq i9))))))), (xa 2, .inl (g 1, 401, .inr (.inl sv))), (xa 3, .inr (4, [.ref (xa 4)])), (xa 4, .inl (g 0, 401, .inl spl))] sz) := by
  refine Met.ofW (cc := cX8_sign) (maxL := 2) (ret := (some (.object "ChoirStalls$Sign"))) (by decide) rfl ?_
  intro p9 e9 s9 m9 args9 below9 meth9 c9 s₁ B hml hv
  obtain ⟨rfl, hsz, hP, hK, hD0, hZ⟩ := hv
  have hx := B.exec
  have hb := B.bytes
  have hr := B.returns
  have hts := ws_sub (atoms_spec (ws := WS yX8_sign cX8_sign 2 (some (.object "ChoirStalls$Sign"))) B.pre)
  have hown : s9.vm.findClass RX8 = some m9.cls := findClass_of_methodNamed B.named
  have hlocks := B.notSynchronized
  subst hsz
  have hD := hD0.self (sz := s9.heap.size)
  generalize hAe : va_A [(tk, .inr (6, [.ref tp, .ref (xa 1), .ref (xa 2), .ref (xa 3), .int fi, .int (nI n), .int (nI p), .long v])), (xa 1, .inl (g 2, 401, .inr (.inr (.inr (.inr (fun i9 => sgo z (sq i9))))))), (xa 2, .inl (g 1, 401, .inr (.inl sv))), (xa 3, .inr (4, [.ref (xa 4)])), (xa 4, .inl (g 0, 401, .inl spl))] s9.heap.size = A at hD hZ ⊢
  have hA : ∀ q : Nat, s9.heap.size ≤ q → A q := fun q h => by rw [← hAe]; exact Or.inr h
  have hS : va_S A s9.heap s9.heap [] := va_S.rf
  have hP : va_P D CLS [(tk, .inr (6, [.ref tp, .ref (xa 1), .ref (xa 2), .ref (xa 3), .int fi, .int (nI n), .int (nI p), .long v])), (xa 1, .inl (g 2, 401, .inr (.inr (.inr (.inr (fun i9 => sgo z (sq i9))))))), (xa 2, .inl (g 1, 401, .inr (.inl sv))), (xa 3, .inr (4, [.ref (xa 4)])), (xa 4, .inl (g 0, 401, .inl spl))] s9.heap := hP
  have hl := lv_entry ([.ref tk]) (n := 2) (Nat.le_of_ble_eq_true rfl)
  rw [lg_entry_eq]
  generalize (lg_sl ([.ref tk]) ++ List.replicate (2 - (lg_sl ([.ref tk])).length) Slot.unset).toArray = ls at hl ⊢
  have hl : lv_has ls 2 [(0, .ref tk)] := hl
  change W p9 l9 e9 ({ frames := 0, cells := 0, slots := 0, locals := 0 } : Room) s9 m9 _ below9 meth9 c9 _ _ _ _ _ _
  refine lv_aload_n hx hb dX8_sign_0 rfl (lv_at hl 0 rfl) ?_
  refine va_get (D := D) (ci := 6) (v := .int fi) (C := RX8) (T := TX8) (N := 8) hx hb hts in_X8 hown hK hP 0 rfl rfl 4 (by decide) (hts _ w_278) (fun _ h9 => h9) rfl dX8_sign_1 ?_
  refine lv_if_lt (tgt := 31) hx hb dX8_sign_4 (by decide) (fun c_4 => ?_) (fun c_4 => ?_)
  · skip
    refine lv_null hx hb dX8_sign_31 ?_
    refine lv_astore_nN (lv' := [(1, .null), (0, .ref tk)]) hx hb dX8_sign_32 rfl hl (by decide) rfl (fun ls hl => ?_)
    refine lv_aload_nN hx hb dX8_sign_33 rfl (lv_at hl 0 rfl) ?_
    refine lv_ifnonnullN hx hb dX8_sign_34 ?_
    refine va_gets (n := "BAD") hx hb (hZ.en.1 1 (by decide)).1 hS hown (hts _ w_962) (fun _ h9 => h9) dX8_sign_37 ?_
    refine lv_goto (tgt := 44) hx hb dX8_sign_40 (by decide) ?_
    have hP9 : va_P D CLS [(tk, .inr (6, [.ref tp, .ref (xa 1), .ref (xa 2), .ref (xa 3), .int fi, .int (nI n), .int (nI p), .long v])), (xa 1, .inl (g 2, 401, .inr (.inr (.inr (.inr (fun i9 => sgo z (sq i9))))))), (xa 2, .inl (g 1, 401, .inr (.inl sv))), (xa 3, .inr (4, [.ref (xa 4)])), (xa 4, .inl (g 0, 401, .inl spl))] s9.heap := by exact kSub hP [0, 1, 2, 3, 4] rfl
    have hD9 : va_D A [(tk, .inr (6, [.ref tp, .ref (xa 1), .ref (xa 2), .ref (xa 3), .int fi, .int (nI n), .int (nI p), .long v])), (xa 1, .inl (g 2, 401, .inr (.inr (.inr (.inr (fun i9 => sgo z (sq i9))))))), (xa 2, .inl (g 1, 401, .inr (.inl sv))), (xa 3, .inr (4, [.ref (xa 4)])), (xa 4, .inl (g 0, 401, .inl spl))] := by exact hD.sub [0, 1, 2, 3, 4] (by decide +kernel) rfl
    have hr9 : some (z 1) = some (z (tSg sq fi)) := by congr 2; first | exact tSg_lo c_4 | exact tSg_hi c_16 | exact tSg_ok (row_in (n := 401) c_4 c_16 (by decide)) k_27 | exact tSg_no (row_in (n := 401) c_4 c_16 (by decide)) k_27
    exact W.aret (v := va_rf (some (z 1))) hx hb hr (Or.inl ⟨_, rfl⟩) (va_rf_or _) (fun t9 ht9 hW9 => ⟨⟨some (z 1), (), rfl, hr9, by rw [ht9]; exact hP9, va_K.moved hW9.alike hK, hD9⟩, hS.F ht9⟩) hS.2.2 dX8_sign_44
  · skip
    refine lv_aload_n hx hb dX8_sign_7 rfl (lv_at hl 0 rfl) ?_
    refine va_get (D := D) (ci := 6) (v := .int fi) (C := RX8) (T := TX8) (N := 8) hx hb hts in_X8 hown hK hP 0 rfl rfl 4 (by decide) (hts _ w_278) (fun _ h9 => h9) rfl dX8_sign_8 ?_
    refine lv_aload_n hx hb dX8_sign_11 rfl (lv_at hl 0 rfl) ?_
    refine va_get (D := D) (ci := 6) (v := .ref (xa 1)) (C := RX8) (T := TX8) (N := 8) hx hb hts in_X8 hown hK hP 0 rfl rfl 1 (by decide) (hts _ w_275) (fun _ h9 => h9) rfl dX8_sign_12 ?_
    refine va_alen (v := 401) hx hb hK hP 1 2 rfl rfl rfl dX8_sign_15 ?_
    refine lv_icmp_ge (tgt := 31) hx hb dX8_sign_16 (by decide) (fun c_16 => ?_) (fun c_16 => ?_)
    · skip
      refine lv_null hx hb dX8_sign_31 ?_
      refine lv_astore_nN (lv' := [(1, .null), (0, .ref tk)]) hx hb dX8_sign_32 rfl hl (by decide) rfl (fun ls hl => ?_)
      refine lv_aload_nN hx hb dX8_sign_33 rfl (lv_at hl 0 rfl) ?_
      refine lv_ifnonnullN hx hb dX8_sign_34 ?_
      refine va_gets (n := "BAD") hx hb (hZ.en.1 1 (by decide)).1 hS hown (hts _ w_962) (fun _ h9 => h9) dX8_sign_37 ?_
      refine lv_goto (tgt := 44) hx hb dX8_sign_40 (by decide) ?_
      have hP9 : va_P D CLS [(tk, .inr (6, [.ref tp, .ref (xa 1), .ref (xa 2), .ref (xa 3), .int fi, .int (nI n), .int (nI p), .long v])), (xa 1, .inl (g 2, 401, .inr (.inr (.inr (.inr (fun i9 => sgo z (sq i9))))))), (xa 2, .inl (g 1, 401, .inr (.inl sv))), (xa 3, .inr (4, [.ref (xa 4)])), (xa 4, .inl (g 0, 401, .inl spl))] s9.heap := by exact kSub hP [0, 1, 2, 3, 4] rfl
      have hD9 : va_D A [(tk, .inr (6, [.ref tp, .ref (xa 1), .ref (xa 2), .ref (xa 3), .int fi, .int (nI n), .int (nI p), .long v])), (xa 1, .inl (g 2, 401, .inr (.inr (.inr (.inr (fun i9 => sgo z (sq i9))))))), (xa 2, .inl (g 1, 401, .inr (.inl sv))), (xa 3, .inr (4, [.ref (xa 4)])), (xa 4, .inl (g 0, 401, .inl spl))] := by exact hD.sub [0, 1, 2, 3, 4] (by decide +kernel) rfl
      have hr9 : some (z 1) = some (z (tSg sq fi)) := by congr 2; first | exact tSg_lo c_4 | exact tSg_hi c_16 | exact tSg_ok (row_in (n := 401) c_4 c_16 (by decide)) k_27 | exact tSg_no (row_in (n := 401) c_4 c_16 (by decide)) k_27
      exact W.aret (v := va_rf (some (z 1))) hx hb hr (Or.inl ⟨_, rfl⟩) (va_rf_or _) (fun t9 ht9 hW9 => ⟨⟨some (z 1), (), rfl, hr9, by rw [ht9]; exact hP9, va_K.moved hW9.alike hK, hD9⟩, hS.F ht9⟩) hS.2.2 dX8_sign_44
    · skip
      refine lv_aload_n hx hb dX8_sign_19 rfl (lv_at hl 0 rfl) ?_
      refine va_get (D := D) (ci := 6) (v := .ref (xa 1)) (C := RX8) (T := TX8) (N := 8) hx hb hts in_X8 hown hK hP 0 rfl rfl 1 (by decide) (hts _ w_275) (fun _ h9 => h9) rfl dX8_sign_20 ?_
      refine lv_aload_n hx hb dX8_sign_23 rfl (lv_at hl 0 rfl) ?_
      refine va_get (D := D) (ci := 6) (v := .int fi) (C := RX8) (T := TX8) (N := 8) hx hb hts in_X8 hown hK hP 0 rfl rfl 4 (by decide) (hts _ w_278) (fun _ h9 => h9) rfl dX8_sign_24 ?_
      refine k_sald hx hb hK hP 1 2 rfl rfl (row_in (n := 401) c_4 c_16 (by decide)) dX8_sign_27 (fun k_27 => ?_) (fun k_27 => ?_)
      · skip
        refine lv_goto (tgt := 32) hx hb dX8_sign_28 (by decide) ?_
        refine lv_astore_n (lv' := [(1, .ref (z (sq fi.toNatClampNeg))), (0, .ref tk)]) hx hb dX8_sign_32 rfl hl (by decide) rfl (fun ls hl => ?_)
        refine lv_aload_n hx hb dX8_sign_33 rfl (lv_at hl 0 rfl) ?_
        refine lv_ifnonnull (tgt := 43) hx hb dX8_sign_34 (by decide) ?_
        refine lv_aload_n hx hb dX8_sign_43 rfl (lv_at hl 0 rfl) ?_
        have hP9 : va_P D CLS [(tk, .inr (6, [.ref tp, .ref (xa 1), .ref (xa 2), .ref (xa 3), .int fi, .int (nI n), .int (nI p), .long v])), (xa 1, .inl (g 2, 401, .inr (.inr (.inr (.inr (fun i9 => sgo z (sq i9))))))), (xa 2, .inl (g 1, 401, .inr (.inl sv))), (xa 3, .inr (4, [.ref (xa 4)])), (xa 4, .inl (g 0, 401, .inl spl))] s9.heap := by exact kSub hP [0, 1, 2, 3, 4] rfl
        have hD9 : va_D A [(tk, .inr (6, [.ref tp, .ref (xa 1), .ref (xa 2), .ref (xa 3), .int fi, .int (nI n), .int (nI p), .long v])), (xa 1, .inl (g 2, 401, .inr (.inr (.inr (.inr (fun i9 => sgo z (sq i9))))))), (xa 2, .inl (g 1, 401, .inr (.inl sv))), (xa 3, .inr (4, [.ref (xa 4)])), (xa 4, .inl (g 0, 401, .inl spl))] := by exact hD.sub [0, 1, 2, 3, 4] (by decide +kernel) rfl
        have hr9 : some (z (sq fi.toNatClampNeg)) = some (z (tSg sq fi)) := by congr 2; first | exact tSg_lo c_4 | exact tSg_hi c_16 | exact tSg_ok (row_in (n := 401) c_4 c_16 (by decide)) k_27 | exact tSg_no (row_in (n := 401) c_4 c_16 (by decide)) k_27
        exact W.aret (v := va_rf (some (z (sq fi.toNatClampNeg)))) hx hb hr (Or.inl ⟨_, rfl⟩) (va_rf_or _) (fun t9 ht9 hW9 => ⟨⟨some (z (sq fi.toNatClampNeg)), (), rfl, hr9, by rw [ht9]; exact hP9, va_K.moved hW9.alike hK, hD9⟩, hS.F ht9⟩) hS.2.2 dX8_sign_44
      · skip
        refine lv_goto (tgt := 32) hx hb dX8_sign_28 (by decide) ?_
        refine lv_astore_nN (lv' := [(1, .null), (0, .ref tk)]) hx hb dX8_sign_32 rfl hl (by decide) rfl (fun ls hl => ?_)
        refine lv_aload_nN hx hb dX8_sign_33 rfl (lv_at hl 0 rfl) ?_
        refine lv_ifnonnullN hx hb dX8_sign_34 ?_
        refine va_gets (n := "BAD") hx hb (hZ.en.1 1 (by decide)).1 hS hown (hts _ w_962) (fun _ h9 => h9) dX8_sign_37 ?_
        refine lv_goto (tgt := 44) hx hb dX8_sign_40 (by decide) ?_
        have hP9 : va_P D CLS [(tk, .inr (6, [.ref tp, .ref (xa 1), .ref (xa 2), .ref (xa 3), .int fi, .int (nI n), .int (nI p), .long v])), (xa 1, .inl (g 2, 401, .inr (.inr (.inr (.inr (fun i9 => sgo z (sq i9))))))), (xa 2, .inl (g 1, 401, .inr (.inl sv))), (xa 3, .inr (4, [.ref (xa 4)])), (xa 4, .inl (g 0, 401, .inl spl))] s9.heap := by exact kSub hP [0, 1, 2, 3, 4] rfl
        have hD9 : va_D A [(tk, .inr (6, [.ref tp, .ref (xa 1), .ref (xa 2), .ref (xa 3), .int fi, .int (nI n), .int (nI p), .long v])), (xa 1, .inl (g 2, 401, .inr (.inr (.inr (.inr (fun i9 => sgo z (sq i9))))))), (xa 2, .inl (g 1, 401, .inr (.inl sv))), (xa 3, .inr (4, [.ref (xa 4)])), (xa 4, .inl (g 0, 401, .inl spl))] := by exact hD.sub [0, 1, 2, 3, 4] (by decide +kernel) rfl
        have hr9 : some (z 1) = some (z (tSg sq fi)) := by congr 2; first | exact tSg_lo c_4 | exact tSg_hi c_16 | exact tSg_ok (row_in (n := 401) c_4 c_16 (by decide)) k_27 | exact tSg_no (row_in (n := 401) c_4 c_16 (by decide)) k_27
        exact W.aret (v := va_rf (some (z 1))) hx hb hr (Or.inl ⟨_, rfl⟩) (va_rf_or _) (fun t9 ht9 hW9 => ⟨⟨some (z 1), (), rfl, hr9, by rw [ht9]; exact hP9, va_K.moved hW9.alike hK, hD9⟩, hS.F ht9⟩) hS.2.2 dX8_sign_44
theorem dX8_value_0 : decode cX8_value 0 = .ok (.aload_n 0, 1) := by decide +kernel
theorem dX8_value_1 : decode cX8_value 1 = .ok (.getfield 30, 3) := by decide +kernel
theorem dX8_value_4 : decode cX8_value 4 = .ok (.ifCond .lt 27, 3) := by decide +kernel
theorem dX8_value_7 : decode cX8_value 7 = .ok (.aload_n 0, 1) := by decide +kernel
theorem dX8_value_8 : decode cX8_value 8 = .ok (.getfield 30, 3) := by decide +kernel
theorem dX8_value_11 : decode cX8_value 11 = .ok (.aload_n 0, 1) := by decide +kernel
theorem dX8_value_12 : decode cX8_value 12 = .ok (.getfield 17, 3) := by decide +kernel
theorem dX8_value_15 : decode cX8_value 15 = .ok (.arraylength, 1) := by decide +kernel
theorem dX8_value_16 : decode cX8_value 16 = .ok (.if_icmp .ge 15, 3) := by decide +kernel
theorem dX8_value_19 : decode cX8_value 19 = .ok (.aload_n 0, 1) := by decide +kernel
theorem dX8_value_20 : decode cX8_value 20 = .ok (.getfield 17, 3) := by decide +kernel
theorem dX8_value_23 : decode cX8_value 23 = .ok (.aload_n 0, 1) := by decide +kernel
theorem dX8_value_24 : decode cX8_value 24 = .ok (.getfield 30, 3) := by decide +kernel
theorem dX8_value_27 : decode cX8_value 27 = .ok (.laload, 1) := by decide +kernel
theorem dX8_value_28 : decode cX8_value 28 = .ok (.goto 4, 3) := by decide +kernel
theorem dX8_value_31 : decode cX8_value 31 = .ok (.lconst 0, 1) := by decide +kernel
theorem dX8_value_32 : decode cX8_value 32 = .ok (.lreturn, 1) := by decide +kernel
set_option maxHeartbeats 4000000 in
set_option maxRecDepth 100000 in
/-- Tokens.value -/
theorem c_X8_value (l9 : Launch) (z : Nat → Nat) (D : va_G) (g : Nat → ClassId) (tk : Nat) (xa : Nat → Nat) (tp : Nat) (fi : Int32) (n : Nat) (p : Nat) (v : Int64) (sq : Nat → Nat) (sv : Nat → Int64) (spl : Nat → Int32) (sz : Nat) : Met l9 yX8_value (WS yX8_value cX8_value 1 (some .long)) ({ frames := 0, cells := 0, slots := 0, locals := 0 }) (va_Pc [.ref tk] (kPre z D g [(tk, .inr (6, [.ref tp, .ref (xa 1), .ref (xa 2), .ref (xa 3), .int fi, .int (nI n), .int (nI p), .long v])), (xa 1, .inl (g 2, 401, .inr (.inr (.inr (.inr (fun i9 => sgo z (sq i9))))))), (xa 2, .inl (g 1, 401, .inr (.inl sv))), (xa 3, .inr (4, [.ref (xa 4)])), (xa 4, .inl (g 0, 401, .inl spl))] sz)) (va_Ql (fun (r9 : Int64) (u9 : Unit) => r9 = tVl sv fi) (kB D g (va_A [(tk, .inr (6, [.ref tp, .ref (xa 1), .ref (xa 2), .ref (xa 3), .int fi, .int (nI n), .int (nI p), .long v])), (xa 1, .inl (g 2, 401, .inr (.inr (.inr (.inr (fun i9 => sgo z (sq i9))))))), (xa 2, .inl (g 1, 401, .inr (.inl sv))), (xa 3, .inr (4, [.ref (xa 4)])), (xa 4, .inl (g 0, 401, .inl spl))] sz) (fun (u9 : Unit) => [(tk, .inr (6, [.ref tp, .ref (xa 1), .ref (xa 2), .ref (xa 3), .int fi, .int (nI n), .int (nI p), .long v])), (xa 1, .inl (g 2, 401, .inr (.inr (.inr (.inr (fun i9 => sgo z (sq i9))))))), (xa 2, .inl (g 1, 401, .inr (.inl sv))), (xa 3, .inr (4, [.ref (xa 4)])), (xa 4, .inl (g 0, 401, .inl spl))])) (va_A [(tk, .inr (6, [.ref tp, .ref (xa 1), .ref (xa 2), .ref (xa 3), .int fi, .int (nI n), .int (nI p), .long v])), (xa 1, .inl (g 2, 401, .inr (.inr (.inr (.inr (fun i9 => sgo z (sq i9))))))), (xa 2, .inl (g 1, 401, .inr (.inl sv))), (xa 3, .inr (4, [.ref (xa 4)])), (xa 4, .inl (g 0, 401, .inl spl))] sz)) 0 0 (va_A [(tk, .inr (6, [.ref tp, .ref (xa 1), .ref (xa 2), .ref (xa 3), .int fi, .int (nI n), .int (nI p), .long v])), (xa 1, .inl (g 2, 401, .inr (.inr (.inr (.inr (fun i9 => sgo z (sq i9))))))), (xa 2, .inl (g 1, 401, .inr (.inl sv))), (xa 3, .inr (4, [.ref (xa 4)])), (xa 4, .inl (g 0, 401, .inl spl))] sz) := by
  refine Met.ofW (cc := cX8_value) (maxL := 1) (ret := (some .long)) (by decide) rfl ?_
  intro p9 e9 s9 m9 args9 below9 meth9 c9 s₁ B hml hv
  obtain ⟨rfl, hsz, hP, hK, hD0, hZ⟩ := hv
  have hx := B.exec
  have hb := B.bytes
  have hr := B.returns
  have hts := ws_sub (atoms_spec (ws := WS yX8_value cX8_value 1 (some .long)) B.pre)
  have hown : s9.vm.findClass RX8 = some m9.cls := findClass_of_methodNamed B.named
  have hlocks := B.notSynchronized
  subst hsz
  have hD := hD0.self (sz := s9.heap.size)
  generalize hAe : va_A [(tk, .inr (6, [.ref tp, .ref (xa 1), .ref (xa 2), .ref (xa 3), .int fi, .int (nI n), .int (nI p), .long v])), (xa 1, .inl (g 2, 401, .inr (.inr (.inr (.inr (fun i9 => sgo z (sq i9))))))), (xa 2, .inl (g 1, 401, .inr (.inl sv))), (xa 3, .inr (4, [.ref (xa 4)])), (xa 4, .inl (g 0, 401, .inl spl))] s9.heap.size = A at hD hZ ⊢
  have hA : ∀ q : Nat, s9.heap.size ≤ q → A q := fun q h => by rw [← hAe]; exact Or.inr h
  have hS : va_S A s9.heap s9.heap [] := va_S.rf
  have hP : va_P D CLS [(tk, .inr (6, [.ref tp, .ref (xa 1), .ref (xa 2), .ref (xa 3), .int fi, .int (nI n), .int (nI p), .long v])), (xa 1, .inl (g 2, 401, .inr (.inr (.inr (.inr (fun i9 => sgo z (sq i9))))))), (xa 2, .inl (g 1, 401, .inr (.inl sv))), (xa 3, .inr (4, [.ref (xa 4)])), (xa 4, .inl (g 0, 401, .inl spl))] s9.heap := hP
  have hl := lv_entry ([.ref tk]) (n := 1) (Nat.le_of_ble_eq_true rfl)
  rw [lg_entry_eq]
  generalize (lg_sl ([.ref tk]) ++ List.replicate (1 - (lg_sl ([.ref tk])).length) Slot.unset).toArray = ls at hl ⊢
  have hl : lv_has ls 1 [(0, .ref tk)] := hl
  change W p9 l9 e9 ({ frames := 0, cells := 0, slots := 0, locals := 0 } : Room) s9 m9 _ below9 meth9 c9 _ _ _ _ _ _
  refine lv_aload_n hx hb dX8_value_0 rfl (lv_at hl 0 rfl) ?_
  refine va_get (D := D) (ci := 6) (v := .int fi) (C := RX8) (T := TX8) (N := 8) hx hb hts in_X8 hown hK hP 0 rfl rfl 4 (by decide) (hts _ w_278) (fun _ h9 => h9) rfl dX8_value_1 ?_
  refine lv_if_lt (tgt := 31) hx hb dX8_value_4 (by decide) (fun c_4 => ?_) (fun c_4 => ?_)
  · skip
    refine lv_lconst (v := 0) hx hb dX8_value_31 (by decide) ?_
    have hP9 : va_P D CLS [(tk, .inr (6, [.ref tp, .ref (xa 1), .ref (xa 2), .ref (xa 3), .int fi, .int (nI n), .int (nI p), .long v])), (xa 1, .inl (g 2, 401, .inr (.inr (.inr (.inr (fun i9 => sgo z (sq i9))))))), (xa 2, .inl (g 1, 401, .inr (.inl sv))), (xa 3, .inr (4, [.ref (xa 4)])), (xa 4, .inl (g 0, 401, .inl spl))] s9.heap := by exact kSub hP [0, 1, 2, 3, 4] rfl
    have hD9 : va_D A [(tk, .inr (6, [.ref tp, .ref (xa 1), .ref (xa 2), .ref (xa 3), .int fi, .int (nI n), .int (nI p), .long v])), (xa 1, .inl (g 2, 401, .inr (.inr (.inr (.inr (fun i9 => sgo z (sq i9))))))), (xa 2, .inl (g 1, 401, .inr (.inl sv))), (xa 3, .inr (4, [.ref (xa 4)])), (xa 4, .inl (g 0, 401, .inl spl))] := by exact hD.sub [0, 1, 2, 3, 4] (by decide +kernel) rfl
    have hr9 : 0 = (tVl sv fi) := by first | exact tVl_lo c_4 | exact tVl_hi c_16 | exact tVl_ok (row_in (n := 401) c_4 c_16 (by decide))
    exact W.lret (v := 0) hx hb hr (fun t9 ht9 hW9 => ⟨⟨0, (), rfl, hr9, by rw [ht9]; exact hP9, va_K.moved hW9.alike hK, hD9⟩, hS.F ht9⟩) hS.2.2 dX8_value_32
  · skip
    refine lv_aload_n hx hb dX8_value_7 rfl (lv_at hl 0 rfl) ?_
    refine va_get (D := D) (ci := 6) (v := .int fi) (C := RX8) (T := TX8) (N := 8) hx hb hts in_X8 hown hK hP 0 rfl rfl 4 (by decide) (hts _ w_278) (fun _ h9 => h9) rfl dX8_value_8 ?_
    refine lv_aload_n hx hb dX8_value_11 rfl (lv_at hl 0 rfl) ?_
    refine va_get (D := D) (ci := 6) (v := .ref (xa 2)) (C := RX8) (T := TX8) (N := 8) hx hb hts in_X8 hown hK hP 0 rfl rfl 2 (by decide) (hts _ w_276) (fun _ h9 => h9) rfl dX8_value_12 ?_
    refine va_alen (v := 401) hx hb hK hP 2 1 rfl rfl rfl dX8_value_15 ?_
    refine lv_icmp_ge (tgt := 31) hx hb dX8_value_16 (by decide) (fun c_16 => ?_) (fun c_16 => ?_)
    · skip
      refine lv_lconst (v := 0) hx hb dX8_value_31 (by decide) ?_
      have hP9 : va_P D CLS [(tk, .inr (6, [.ref tp, .ref (xa 1), .ref (xa 2), .ref (xa 3), .int fi, .int (nI n), .int (nI p), .long v])), (xa 1, .inl (g 2, 401, .inr (.inr (.inr (.inr (fun i9 => sgo z (sq i9))))))), (xa 2, .inl (g 1, 401, .inr (.inl sv))), (xa 3, .inr (4, [.ref (xa 4)])), (xa 4, .inl (g 0, 401, .inl spl))] s9.heap := by exact kSub hP [0, 1, 2, 3, 4] rfl
      have hD9 : va_D A [(tk, .inr (6, [.ref tp, .ref (xa 1), .ref (xa 2), .ref (xa 3), .int fi, .int (nI n), .int (nI p), .long v])), (xa 1, .inl (g 2, 401, .inr (.inr (.inr (.inr (fun i9 => sgo z (sq i9))))))), (xa 2, .inl (g 1, 401, .inr (.inl sv))), (xa 3, .inr (4, [.ref (xa 4)])), (xa 4, .inl (g 0, 401, .inl spl))] := by exact hD.sub [0, 1, 2, 3, 4] (by decide +kernel) rfl
      have hr9 : 0 = (tVl sv fi) := by first | exact tVl_lo c_4 | exact tVl_hi c_16 | exact tVl_ok (row_in (n := 401) c_4 c_16 (by decide))
      exact W.lret (v := 0) hx hb hr (fun t9 ht9 hW9 => ⟨⟨0, (), rfl, hr9, by rw [ht9]; exact hP9, va_K.moved hW9.alike hK, hD9⟩, hS.F ht9⟩) hS.2.2 dX8_value_32
    · skip
      refine lv_aload_n hx hb dX8_value_19 rfl (lv_at hl 0 rfl) ?_
      refine va_get (D := D) (ci := 6) (v := .ref (xa 2)) (C := RX8) (T := TX8) (N := 8) hx hb hts in_X8 hown hK hP 0 rfl rfl 2 (by decide) (hts _ w_276) (fun _ h9 => h9) rfl dX8_value_20 ?_
      refine lv_aload_n hx hb dX8_value_23 rfl (lv_at hl 0 rfl) ?_
      refine va_get (D := D) (ci := 6) (v := .int fi) (C := RX8) (T := TX8) (N := 8) hx hb hts in_X8 hown hK hP 0 rfl rfl 4 (by decide) (hts _ w_278) (fun _ h9 => h9) rfl dX8_value_24 ?_
      refine va_lald hx hb hK hP 2 1 rfl rfl (row_in (n := 401) c_4 c_16 (by decide)) dX8_value_27 ?_
      refine lv_goto (tgt := 32) hx hb dX8_value_28 (by decide) ?_
      have hP9 : va_P D CLS [(tk, .inr (6, [.ref tp, .ref (xa 1), .ref (xa 2), .ref (xa 3), .int fi, .int (nI n), .int (nI p), .long v])), (xa 1, .inl (g 2, 401, .inr (.inr (.inr (.inr (fun i9 => sgo z (sq i9))))))), (xa 2, .inl (g 1, 401, .inr (.inl sv))), (xa 3, .inr (4, [.ref (xa 4)])), (xa 4, .inl (g 0, 401, .inl spl))] s9.heap := by exact kSub hP [0, 1, 2, 3, 4] rfl
      have hD9 : va_D A [(tk, .inr (6, [.ref tp, .ref (xa 1), .ref (xa 2), .ref (xa 3), .int fi, .int (nI n), .int (nI p), .long v])), (xa 1, .inl (g 2, 401, .inr (.inr (.inr (.inr (fun i9 => sgo z (sq i9))))))), (xa 2, .inl (g 1, 401, .inr (.inl sv))), (xa 3, .inr (4, [.ref (xa 4)])), (xa 4, .inl (g 0, 401, .inl spl))] := by exact hD.sub [0, 1, 2, 3, 4] (by decide +kernel) rfl
      have hr9 : (sv fi.toNatClampNeg) = (tVl sv fi) := by first | exact tVl_lo c_4 | exact tVl_hi c_16 | exact tVl_ok (row_in (n := 401) c_4 c_16 (by decide))
      exact W.lret (v := sv fi.toNatClampNeg) hx hb hr (fun t9 ht9 hW9 => ⟨⟨sv fi.toNatClampNeg, (), rfl, hr9, by rw [ht9]; exact hP9, va_K.moved hW9.alike hK, hD9⟩, hS.F ht9⟩) hS.2.2 dX8_value_32
theorem dX8_placeOf_0 : decode cX8_placeOf 0 = .ok (.aload_n 0, 1) := by decide +kernel
theorem dX8_placeOf_1 : decode cX8_placeOf 1 = .ok (.getfield 26, 3) := by decide +kernel
theorem dX8_placeOf_4 : decode cX8_placeOf 4 = .ok (.iload_n 1, 1) := by decide +kernel
theorem dX8_placeOf_5 : decode cX8_placeOf 5 = .ok (.invokevirtual 51, 3) := by decide +kernel
theorem dX8_placeOf_8 : decode cX8_placeOf 8 = .ok (.ireturn, 1) := by decide +kernel
set_option maxHeartbeats 4000000 in
set_option maxRecDepth 100000 in
/-- Tokens.placeOf -/
theorem c_X8_placeOf (l9 : Launch) (z : Nat → Nat) (D : va_G) (g : Nat → ClassId) (tk : Nat) (xa : Nat → Nat) (tp : Nat) (fi : Int32) (n : Nat) (p : Nat) (v : Int64) (sq : Nat → Nat) (sv : Nat → Int64) (spl : Nat → Int32) (p0 : Int32) (sz : Nat) : Met l9 yX8_placeOf (WS yX8_placeOf cX8_placeOf 2 (some .int)) ({ frames := 1, cells := 0, slots := 0, locals := 21 }) (va_Pc [.ref tk, .int p0] (kPre z D g [(tk, .inr (6, [.ref tp, .ref (xa 1), .ref (xa 2), .ref (xa 3), .int fi, .int (nI n), .int (nI p), .long v])), (xa 1, .inl (g 2, 401, .inr (.inr (.inr (.inr (fun i9 => sgo z (sq i9))))))), (xa 2, .inl (g 1, 401, .inr (.inl sv))), (xa 3, .inr (4, [.ref (xa 4)])), (xa 4, .inl (g 0, 401, .inl spl))] sz)) (va_Qi (fun (r9 : Int32) (u9 : Unit) => r9 = rat 401 spl p0) (kB D g (va_A [(tk, .inr (6, [.ref tp, .ref (xa 1), .ref (xa 2), .ref (xa 3), .int fi, .int (nI n), .int (nI p), .long v])), (xa 1, .inl (g 2, 401, .inr (.inr (.inr (.inr (fun i9 => sgo z (sq i9))))))), (xa 2, .inl (g 1, 401, .inr (.inl sv))), (xa 3, .inr (4, [.ref (xa 4)])), (xa 4, .inl (g 0, 401, .inl spl))] sz) (fun (u9 : Unit) => [(tk, .inr (6, [.ref tp, .ref (xa 1), .ref (xa 2), .ref (xa 3), .int fi, .int (nI n), .int (nI p), .long v])), (xa 1, .inl (g 2, 401, .inr (.inr (.inr (.inr (fun i9 => sgo z (sq i9))))))), (xa 2, .inl (g 1, 401, .inr (.inl sv))), (xa 3, .inr (4, [.ref (xa 4)])), (xa 4, .inl (g 0, 401, .inl spl))])) (va_A [(tk, .inr (6, [.ref tp, .ref (xa 1), .ref (xa 2), .ref (xa 3), .int fi, .int (nI n), .int (nI p), .long v])), (xa 1, .inl (g 2, 401, .inr (.inr (.inr (.inr (fun i9 => sgo z (sq i9))))))), (xa 2, .inl (g 1, 401, .inr (.inl sv))), (xa 3, .inr (4, [.ref (xa 4)])), (xa 4, .inl (g 0, 401, .inl spl))] sz)) 0 0 (va_A [(tk, .inr (6, [.ref tp, .ref (xa 1), .ref (xa 2), .ref (xa 3), .int fi, .int (nI n), .int (nI p), .long v])), (xa 1, .inl (g 2, 401, .inr (.inr (.inr (.inr (fun i9 => sgo z (sq i9))))))), (xa 2, .inl (g 1, 401, .inr (.inl sv))), (xa 3, .inr (4, [.ref (xa 4)])), (xa 4, .inl (g 0, 401, .inl spl))] sz) := by
  refine Met.ofW (cc := cX8_placeOf) (maxL := 2) (ret := (some .int)) (by decide) rfl ?_
  intro p9 e9 s9 m9 args9 below9 meth9 c9 s₁ B hml hv
  obtain ⟨rfl, hsz, hP, hK, hD0, hZ⟩ := hv
  have hx := B.exec
  have hb := B.bytes
  have hr := B.returns
  have hts := ws_sub (atoms_spec (ws := WS yX8_placeOf cX8_placeOf 2 (some .int)) B.pre)
  have hown : s9.vm.findClass RX8 = some m9.cls := findClass_of_methodNamed B.named
  have hlocks := B.notSynchronized
  subst hsz
  have hD := hD0.self (sz := s9.heap.size)
  generalize hAe : va_A [(tk, .inr (6, [.ref tp, .ref (xa 1), .ref (xa 2), .ref (xa 3), .int fi, .int (nI n), .int (nI p), .long v])), (xa 1, .inl (g 2, 401, .inr (.inr (.inr (.inr (fun i9 => sgo z (sq i9))))))), (xa 2, .inl (g 1, 401, .inr (.inl sv))), (xa 3, .inr (4, [.ref (xa 4)])), (xa 4, .inl (g 0, 401, .inl spl))] s9.heap.size = A at hD hZ ⊢
  have hA : ∀ q : Nat, s9.heap.size ≤ q → A q := fun q h => by rw [← hAe]; exact Or.inr h
  have hS : va_S A s9.heap s9.heap [] := va_S.rf
  have hP : va_P D CLS [(tk, .inr (6, [.ref tp, .ref (xa 1), .ref (xa 2), .ref (xa 3), .int fi, .int (nI n), .int (nI p), .long v])), (xa 1, .inl (g 2, 401, .inr (.inr (.inr (.inr (fun i9 => sgo z (sq i9))))))), (xa 2, .inl (g 1, 401, .inr (.inl sv))), (xa 3, .inr (4, [.ref (xa 4)])), (xa 4, .inl (g 0, 401, .inl spl))] s9.heap := hP
  have hl := lv_entry ([.ref tk, .int p0]) (n := 2) (Nat.le_of_ble_eq_true rfl)
  rw [lg_entry_eq]
  generalize (lg_sl ([.ref tk, .int p0]) ++ List.replicate (2 - (lg_sl ([.ref tk, .int p0])).length) Slot.unset).toArray = ls at hl ⊢
  have hl : lv_has ls 2 [(0, .ref tk), (1, .int p0)] := hl
  change W p9 l9 e9 ({ frames := 1, cells := 0, slots := 0, locals := 21 } : Room) s9 m9 _ below9 meth9 c9 _ _ _ _ _ _
  refine lv_aload_n hx hb dX8_placeOf_0 rfl (lv_at hl 0 rfl) ?_
  refine va_get (D := D) (ci := 6) (v := .ref (xa 3)) (C := RX8) (T := TX8) (N := 8) hx hb hts in_X8 hown hK hP 0 rfl rfl 3 (by decide) (hts _ w_277) (fun _ h9 => h9) rfl dX8_placeOf_1 ?_
  refine lv_iload_n hx hb dX8_placeOf_4 rfl (lv_at hl 1 rfl) ?_
  refine k_i hA hP hD hS [(tk, .inr (6, [.ref tp, .ref (xa 1), .ref (xa 2), .ref (xa 3), .int fi, .int (nI n), .int (nI p), .long v])), (xa 1, .inl (g 2, 401, .inr (.inr (.inr (.inr (fun i9 => sgo z (sq i9))))))), (xa 2, .inl (g 1, 401, .inr (.inl sv)))] (va_runV (As := [.int p0]) (rest := []) ⟨hx, hb, hml, hown, hts⟩ (c_X5_at l9 z D g (xa 3) (xa 4) 401 spl p0 (by first | assumption | decide | omega) (Array.size s9.heap)) (cwV 1 hts gv_X8_51 rfl rfl rfl (by decide +kernel) ⟨Nat.le_of_ble_eq_true rfl, Nat.le_of_ble_eq_true rfl⟩) ⟨kBlind, va_recv hK hP (ci := 4) (q0 := 3) rfl rfl, kPre.pc hK hZ hA hP hD hS [3, 4] rfl (by decide +kernel)⟩ rfl rfl hl.1 rfl (lv_room (Nat.le_of_ble_eq_true rfl)) dX8_placeOf_5 ⟨Nat.le_of_ble_eq_true rfl, Nat.le_of_ble_eq_true rfl⟩) [3, 4] [0, 1, 2] rfl rfl rfl rfl (fun r_5 u_1 H locs hw_5 hP7 hD7 hS7 => ?_)
  clear hP hD hS
  have hP := hP7
  have hD := hD7
  have hS := hS7
  clear hP7 hD7 hS7
  obtain rfl := hw_5
  replace hP : va_P D CLS [(tk, .inr (6, [.ref tp, .ref (xa 1), .ref (xa 2), .ref (xa 3), .int fi, .int (nI n), .int (nI p), .long v])), (xa 1, .inl (g 2, 401, .inr (.inr (.inr (.inr (fun i9 => sgo z (sq i9))))))), (xa 2, .inl (g 1, 401, .inr (.inl sv))), (xa 3, .inr (4, [.ref (xa 4)])), (xa 4, .inl (g 0, 401, .inl spl))] H := hP
  replace hD : va_D A [(tk, .inr (6, [.ref tp, .ref (xa 1), .ref (xa 2), .ref (xa 3), .int fi, .int (nI n), .int (nI p), .long v])), (xa 1, .inl (g 2, 401, .inr (.inr (.inr (.inr (fun i9 => sgo z (sq i9))))))), (xa 2, .inl (g 1, 401, .inr (.inl sv))), (xa 3, .inr (4, [.ref (xa 4)])), (xa 4, .inl (g 0, 401, .inl spl))] := hD
  have hP9 : va_P D CLS [(tk, .inr (6, [.ref tp, .ref (xa 1), .ref (xa 2), .ref (xa 3), .int fi, .int (nI n), .int (nI p), .long v])), (xa 1, .inl (g 2, 401, .inr (.inr (.inr (.inr (fun i9 => sgo z (sq i9))))))), (xa 2, .inl (g 1, 401, .inr (.inl sv))), (xa 3, .inr (4, [.ref (xa 4)])), (xa 4, .inl (g 0, 401, .inl spl))] H := by exact kSub hP [0, 1, 2, 3, 4] rfl
  have hD9 : va_D A [(tk, .inr (6, [.ref tp, .ref (xa 1), .ref (xa 2), .ref (xa 3), .int fi, .int (nI n), .int (nI p), .long v])), (xa 1, .inl (g 2, 401, .inr (.inr (.inr (.inr (fun i9 => sgo z (sq i9))))))), (xa 2, .inl (g 1, 401, .inr (.inl sv))), (xa 3, .inr (4, [.ref (xa 4)])), (xa 4, .inl (g 0, 401, .inl spl))] := by exact hD.sub [0, 1, 2, 3, 4] (by decide +kernel) rfl
  have hr9 : (rat 401 spl p0) = (rat 401 spl p0) := by rfl
  exact W.iret (v := rat 401 spl p0) hx hb hr (fun t9 ht9 hW9 => ⟨⟨rat 401 spl p0, (), rfl, hr9, by rw [ht9]; exact hP9, va_K.moved hW9.alike hK, hD9⟩, hS.F ht9⟩) hS.2.2 dX8_placeOf_8
theorem dX8_step_0 : decode cX8_step 0 = .ok (.aload_n 0, 1) := by decide +kernel
theorem dX8_step_1 : decode cX8_step 1 = .ok (.dup, 1) := by decide +kernel
theorem dX8_step_2 : decode cX8_step 2 = .ok (.getfield 30, 3) := by decide +kernel
theorem dX8_step_5 : decode cX8_step 5 = .ok (.iconst 1, 1) := by decide +kernel
theorem dX8_step_6 : decode cX8_step 6 = .ok (.iadd, 1) := by decide +kernel
theorem dX8_step_7 : decode cX8_step 7 = .ok (.putfield 30, 3) := by decide +kernel
theorem dX8_step_10 : decode cX8_step 10 = .ok (.return_, 1) := by decide +kernel
set_option maxHeartbeats 4000000 in
set_option maxRecDepth 100000 in
/-- Tokens.step -/
theorem c_X8_step (l9 : Launch) (z : Nat → Nat) (D : va_G) (g : Nat → ClassId) (tk : Nat) (xa : Nat → Nat) (tp : Nat) (fi : Int32) (n : Nat) (p : Nat) (v : Int64) (sz : Nat) : Met l9 yX8_step (WS yX8_step cX8_step 1 none) ({ frames := 0, cells := 0, slots := 0, locals := 0 }) (va_Pc [.ref tk] (kPre z D g [(tk, .inr (6, [.ref tp, .ref (xa 1), .ref (xa 2), .ref (xa 3), .int fi, .int (nI n), .int (nI p), .long v]))] sz)) (va_Qv (fun (u9 : Unit) => True) (kB D g (va_A [(tk, .inr (6, [.ref tp, .ref (xa 1), .ref (xa 2), .ref (xa 3), .int fi, .int (nI n), .int (nI p), .long v]))] sz) (fun (u9 : Unit) => [(tk, .inr (6, [.ref tp, .ref (xa 1), .ref (xa 2), .ref (xa 3), .int (fi + 1), .int (nI n), .int (nI p), .long v]))])) (va_A [(tk, .inr (6, [.ref tp, .ref (xa 1), .ref (xa 2), .ref (xa 3), .int fi, .int (nI n), .int (nI p), .long v]))] sz)) 0 0 (va_A [(tk, .inr (6, [.ref tp, .ref (xa 1), .ref (xa 2), .ref (xa 3), .int fi, .int (nI n), .int (nI p), .long v]))] sz) := by
  refine Met.ofW (cc := cX8_step) (maxL := 1) (ret := none) (by decide) rfl ?_
  intro p9 e9 s9 m9 args9 below9 meth9 c9 s₁ B hml hv
  obtain ⟨rfl, hsz, hP, hK, hD0, hZ⟩ := hv
  have hx := B.exec
  have hb := B.bytes
  have hr := B.returns
  have hts := ws_sub (atoms_spec (ws := WS yX8_step cX8_step 1 none) B.pre)
  have hown : s9.vm.findClass RX8 = some m9.cls := findClass_of_methodNamed B.named
  have hlocks := B.notSynchronized
  subst hsz
  have hD := hD0.self (sz := s9.heap.size)
  generalize hAe : va_A [(tk, .inr (6, [.ref tp, .ref (xa 1), .ref (xa 2), .ref (xa 3), .int fi, .int (nI n), .int (nI p), .long v]))] s9.heap.size = A at hD hZ ⊢
  have hA : ∀ q : Nat, s9.heap.size ≤ q → A q := fun q h => by rw [← hAe]; exact Or.inr h
  have hS : va_S A s9.heap s9.heap [] := va_S.rf
  have hP : va_P D CLS [(tk, .inr (6, [.ref tp, .ref (xa 1), .ref (xa 2), .ref (xa 3), .int fi, .int (nI n), .int (nI p), .long v]))] s9.heap := hP
  have hl := lv_entry ([.ref tk]) (n := 1) (Nat.le_of_ble_eq_true rfl)
  rw [lg_entry_eq]
  generalize (lg_sl ([.ref tk]) ++ List.replicate (1 - (lg_sl ([.ref tk])).length) Slot.unset).toArray = ls at hl ⊢
  have hl : lv_has ls 1 [(0, .ref tk)] := hl
  change W p9 l9 e9 ({ frames := 0, cells := 0, slots := 0, locals := 0 } : Room) s9 m9 _ below9 meth9 c9 _ _ _ _ _ _
  refine lv_aload_n hx hb dX8_step_0 rfl (lv_at hl 0 rfl) ?_
  refine lv_dup hx hb dX8_step_1 rfl ?_
  refine va_get (D := D) (ci := 6) (v := .int fi) (C := RX8) (T := TX8) (N := 8) hx hb hts in_X8 hown hK hP 0 rfl rfl 4 (by decide) (hts _ w_278) (fun _ h9 => h9) rfl dX8_step_2 ?_
  refine lv_iconst (v := 1) hx hb dX8_step_5 (by decide) ?_
  refine lv_iadd hx hb dX8_step_6 ?_
  refine va_put (D := D) (ci := 6) (v := .int (fi + 1)) (ty := .int) (C := RX8) (T := TX8) (N := 8) hx hb hts in_X8 tyX8 tyX8_ok nmX8 hown hK hP hD hS 0 rfl rfl 4 (by decide) (hts _ w_278) (fun _ h9 => h9) rfl (by decide +kernel) rfl rfl (Nat.le_of_ble_eq_true rfl) dX8_step_7 (fun H locs hP7 hD7 hS7 => ?_)
  clear hP hD hS
  have hP := hP7
  have hD := hD7
  have hS := hS7
  clear hP7 hD7 hS7
  replace hP : va_P D CLS [(tk, .inr (6, [.ref tp, .ref (xa 1), .ref (xa 2), .ref (xa 3), .int (fi + 1), .int (nI n), .int (nI p), .long v]))] H := hP
  replace hD : va_D A [(tk, .inr (6, [.ref tp, .ref (xa 1), .ref (xa 2), .ref (xa 3), .int (fi + 1), .int (nI n), .int (nI p), .long v]))] := hD
  have hP9 : va_P D CLS [(tk, .inr (6, [.ref tp, .ref (xa 1), .ref (xa 2), .ref (xa 3), .int (fi + 1), .int (nI n), .int (nI p), .long v]))] H := by exact kSub hP [0] rfl
  have hD9 : va_D A [(tk, .inr (6, [.ref tp, .ref (xa 1), .ref (xa 2), .ref (xa 3), .int (fi + 1), .int (nI n), .int (nI p), .long v]))] := by exact hD.sub [0] (by decide +kernel) rfl
  exact W.vret hx hb hr (fun t9 ht9 hW9 => ⟨⟨(), rfl, trivial, by rw [ht9]; exact hP9, va_K.moved hW9.alike hK, hD9⟩, hS.F ht9⟩) hS.2.2 dX8_step_10
theorem dX8_skipBlanks_0 : decode cX8_skipBlanks 0 = .ok (.aload_n 0, 1) := by decide +kernel
theorem dX8_skipBlanks_1 : decode cX8_skipBlanks 1 = .ok (.getfield 37, 3) := by decide +kernel
theorem dX8_skipBlanks_4 : decode cX8_skipBlanks 4 = .ok (.aload_n 0, 1) := by decide +kernel
theorem dX8_skipBlanks_5 : decode cX8_skipBlanks 5 = .ok (.getfield 34, 3) := by decide +kernel
theorem dX8_skipBlanks_8 : decode cX8_skipBlanks 8 = .ok (.if_icmp .ge 48, 3) := by decide +kernel
theorem dX8_skipBlanks_11 : decode cX8_skipBlanks 11 = .ok (.aload_n 0, 1) := by decide +kernel
theorem dX8_skipBlanks_12 : decode cX8_skipBlanks 12 = .ok (.getfield 44, 3) := by decide +kernel
theorem dX8_skipBlanks_15 : decode cX8_skipBlanks 15 = .ok (.aload_n 0, 1) := by decide +kernel
theorem dX8_skipBlanks_16 : decode cX8_skipBlanks 16 = .ok (.getfield 37, 3) := by decide +kernel
theorem dX8_skipBlanks_19 : decode cX8_skipBlanks 19 = .ok (.invokevirtual 51, 3) := by decide +kernel
theorem dX8_skipBlanks_22 : decode cX8_skipBlanks 22 = .ok (.bipush 32, 2) := by decide +kernel
theorem dX8_skipBlanks_24 : decode cX8_skipBlanks 24 = .ok (.if_icmp .eq 19, 3) := by decide +kernel
theorem dX8_skipBlanks_27 : decode cX8_skipBlanks 27 = .ok (.aload_n 0, 1) := by decide +kernel
theorem dX8_skipBlanks_28 : decode cX8_skipBlanks 28 = .ok (.getfield 44, 3) := by decide +kernel
theorem dX8_skipBlanks_31 : decode cX8_skipBlanks 31 = .ok (.aload_n 0, 1) := by decide +kernel
theorem dX8_skipBlanks_32 : decode cX8_skipBlanks 32 = .ok (.getfield 37, 3) := by decide +kernel
theorem dX8_skipBlanks_35 : decode cX8_skipBlanks 35 = .ok (.invokevirtual 51, 3) := by decide +kernel
theorem dX8_skipBlanks_38 : decode cX8_skipBlanks 38 = .ok (.bipush 10, 2) := by decide +kernel
theorem dX8_skipBlanks_40 : decode cX8_skipBlanks 40 = .ok (.if_icmp .ne 16, 3) := by decide +kernel
theorem dX8_skipBlanks_43 : decode cX8_skipBlanks 43 = .ok (.aload_n 0, 1) := by decide +kernel
theorem dX8_skipBlanks_44 : decode cX8_skipBlanks 44 = .ok (.dup, 1) := by decide +kernel
theorem dX8_skipBlanks_45 : decode cX8_skipBlanks 45 = .ok (.getfield 37, 3) := by decide +kernel
theorem dX8_skipBlanks_48 : decode cX8_skipBlanks 48 = .ok (.iconst 1, 1) := by decide +kernel
theorem dX8_skipBlanks_49 : decode cX8_skipBlanks 49 = .ok (.iadd, 1) := by decide +kernel
theorem dX8_skipBlanks_50 : decode cX8_skipBlanks 50 = .ok (.putfield 37, 3) := by decide +kernel
theorem dX8_skipBlanks_53 : decode cX8_skipBlanks 53 = .ok (.goto (-53), 3) := by decide +kernel
theorem dX8_skipBlanks_56 : decode cX8_skipBlanks 56 = .ok (.return_, 1) := by decide +kernel
set_option maxHeartbeats 4000000 in
set_option maxRecDepth 100000 in
/-- Tokens.skipBlanks -/
theorem c_X8_skipBlanks (l9 : Launch) (z : Nat → Nat) (D : va_G) (g : Nat → ClassId) (tk : Nat) (xa : Nat → Nat) (tp : Nat) (tpa : Nat) (tf : Nat → Int32) (fi : Int32) (n : Nat) (p : Nat) (v : Int64) (hp : p ≤ n) (hn : n ≤ 2000) (sz : Nat) : Met l9 yX8_skipBlanks (WS yX8_skipBlanks cX8_skipBlanks 1 none) ({ frames := 1, cells := 0, slots := 0, locals := 21 }) (va_Pc [.ref tk] (kPre z D g [(tk, .inr (6, [.ref tp, .ref (xa 1), .ref (xa 2), .ref (xa 3), .int fi, .int (nI n), .int (nI p), .long v])), (tp, .inr (4, [.ref tpa])), (tpa, .inl (g 0, 2000, .inl tf))] sz)) (va_Qv (fun (u9 : Unit) => True) (kB D g (va_A [(tk, .inr (6, [.ref tp, .ref (xa 1), .ref (xa 2), .ref (xa 3), .int fi, .int (nI n), .int (nI p), .long v])), (tp, .inr (4, [.ref tpa])), (tpa, .inl (g 0, 2000, .inl tf))] sz) (fun (u9 : Unit) => [(tk, .inr (6, [.ref tp, .ref (xa 1), .ref (xa 2), .ref (xa 3), .int fi, .int (nI n), .int (nI (skp tf n p)), .long v])), (tp, .inr (4, [.ref tpa])), (tpa, .inl (g 0, 2000, .inl tf))])) (va_A [(tk, .inr (6, [.ref tp, .ref (xa 1), .ref (xa 2), .ref (xa 3), .int fi, .int (nI n), .int (nI p), .long v])), (tp, .inr (4, [.ref tpa])), (tpa, .inl (g 0, 2000, .inl tf))] sz)) 0 0 (va_A [(tk, .inr (6, [.ref tp, .ref (xa 1), .ref (xa 2), .ref (xa 3), .int fi, .int (nI n), .int (nI p), .long v])), (tp, .inr (4, [.ref tpa])), (tpa, .inl (g 0, 2000, .inl tf))] sz) := by
  refine Met.ofW (cc := cX8_skipBlanks) (maxL := 1) (ret := none) (by decide) rfl ?_
  intro p9 e9 s9 m9 args9 below9 meth9 c9 s₁ B hml hv
  obtain ⟨rfl, hsz, hP, hK, hD0, hZ⟩ := hv
  have hx := B.exec
  have hb := B.bytes
  have hr := B.returns
  have hts := ws_sub (atoms_spec (ws := WS yX8_skipBlanks cX8_skipBlanks 1 none) B.pre)
  have hown : s9.vm.findClass RX8 = some m9.cls := findClass_of_methodNamed B.named
  have hlocks := B.notSynchronized
  subst hsz
  have hD := hD0.self (sz := s9.heap.size)
  generalize hAe : va_A [(tk, .inr (6, [.ref tp, .ref (xa 1), .ref (xa 2), .ref (xa 3), .int fi, .int (nI n), .int (nI p), .long v])), (tp, .inr (4, [.ref tpa])), (tpa, .inl (g 0, 2000, .inl tf))] s9.heap.size = A at hD hZ ⊢
  have hA : ∀ q : Nat, s9.heap.size ≤ q → A q := fun q h => by rw [← hAe]; exact Or.inr h
  have hS : va_S A s9.heap s9.heap [] := va_S.rf
  have hP : va_P D CLS [(tk, .inr (6, [.ref tp, .ref (xa 1), .ref (xa 2), .ref (xa 3), .int fi, .int (nI n), .int (nI p), .long v])), (tp, .inr (4, [.ref tpa])), (tpa, .inl (g 0, 2000, .inl tf))] s9.heap := hP
  have hl := lv_entry ([.ref tk]) (n := 1) (Nat.le_of_ble_eq_true rfl)
  rw [lg_entry_eq]
  generalize (lg_sl ([.ref tk]) ++ List.replicate (1 - (lg_sl ([.ref tk])).length) Slot.unset).toArray = ls at hl ⊢
  have hl : lv_has ls 1 [(0, .ref tk)] := hl
  change W p9 l9 e9 ({ frames := 1, cells := 0, slots := 0, locals := 21 } : Room) s9 m9 _ below9 meth9 c9 _ _ _ _ _ _
  have loop_0 : ∀ (n9 : Nat) (i : Nat), n9 > n - i → (i ≤ n) → (skp tf n i = skp tf n p) → ∀ (H : Heap) (locs : List Loc), va_P D CLS [(tk, .inr (6, [.ref tp, .ref (xa 1), .ref (xa 2), .ref (xa 3), .int fi, .int (nI n), .int (nI i), .long v])), (tp, .inr (4, [.ref tpa])), (tpa, .inl (g 0, 2000, .inl tf))] H → va_D A [(tk, .inr (6, [.ref tp, .ref (xa 1), .ref (xa 2), .ref (xa 3), .int fi, .int (nI n), .int (nI i), .long v])), (tp, .inr (4, [.ref tpa])), (tpa, .inl (g 0, 2000, .inl tf))] → va_S A s9.heap H locs → ∀ (ls : Array Slot), lv_has ls 1 [(0, .ref tk)] → W p9 l9 e9 ({ frames := 1, cells := 0, slots := 0, locals := 21 } : Room) s9 m9 ([.ref tk] : List Value).toArray below9 meth9 c9 H locs 0 0 (MQ below9 (va_Qv (fun (u9 : Unit) => True) (kB D g A (fun (u9 : Unit) => [(tk, .inr (6, [.ref tp, .ref (xa 1), .ref (xa 2), .ref (xa 3), .int fi, .int (nI n), .int (nI (skp tf n p)), .long v])), (tp, .inr (4, [.ref tpa])), (tpa, .inl (g 0, 2000, .inl tf))])) A) ([.ref tk] : List Value).toArray s9 0 0 A) (F0 m9 0 ls []) := by
    intro n9
    induction n9 with
    | zero => intro i hm9; exact absurd hm9 (by omega)
    | succ n9 ih_0 =>
      intro i hm9 hi hs H locs hP hD hS ls hl
      refine lv_aload_n hx hb dX8_skipBlanks_0 rfl (lv_at hl 0 rfl) ?_
      refine va_get (D := D) (ci := 6) (v := .int (nI i)) (C := RX8) (T := TX8) (N := 8) hx hb hts in_X8 hown hK hP 0 rfl rfl 6 (by decide) (hts _ w_281) (fun _ h9 => h9) rfl dX8_skipBlanks_1 ?_
      refine lv_aload_n hx hb dX8_skipBlanks_4 rfl (lv_at hl 0 rfl) ?_
      refine va_get (D := D) (ci := 6) (v := .int (nI n)) (C := RX8) (T := TX8) (N := 8) hx hb hts in_X8 hown hK hP 0 rfl rfl 5 (by decide) (hts _ w_280) (fun _ h9 => h9) rfl dX8_skipBlanks_5 ?_
      refine lv_icmp_ge (tgt := 56) hx hb dX8_skipBlanks_8 (by decide) (fun c_8 => ?_) (fun c_8 => ?_)
      · skip
        have c_8 : n ≤ i := (nI_leI (a := n) (b := i) (by omega) (by omega)).mp c_8
        have he_1 : (nI (skp tf n p)) = (nI i) := by rw [← hs]; first | rw [skp_end (by omega)] | rw [skp_stop (by omega) (decide_eq_false (by rintro (h | h); exact c_24 h; exact c_40 h))]
        have hP9 : va_P D CLS [(tk, .inr (6, [.ref tp, .ref (xa 1), .ref (xa 2), .ref (xa 3), .int fi, .int (nI n), .int (nI (skp tf n p)), .long v])), (tp, .inr (4, [.ref tpa])), (tpa, .inl (g 0, 2000, .inl tf))] H := by rw [he_1]; exact kSub hP [0, 1, 2] rfl
        have hD9 : va_D A [(tk, .inr (6, [.ref tp, .ref (xa 1), .ref (xa 2), .ref (xa 3), .int fi, .int (nI n), .int (nI (skp tf n p)), .long v])), (tp, .inr (4, [.ref tpa])), (tpa, .inl (g 0, 2000, .inl tf))] := by rw [he_1]; exact hD.sub [0, 1, 2] (by decide +kernel) rfl
        exact W.vret hx hb hr (fun t9 ht9 hW9 => ⟨⟨(), rfl, trivial, by rw [ht9]; exact hP9, va_K.moved hW9.alike hK, hD9⟩, hS.F ht9⟩) hS.2.2 dX8_skipBlanks_56
      · skip
        have c_8 : ¬ n ≤ i := fun h => c_8 ((nI_leI (a := n) (b := i) (by omega) (by omega)).mpr h)
        refine lv_aload_n hx hb dX8_skipBlanks_11 rfl (lv_at hl 0 rfl) ?_
        refine va_get (D := D) (ci := 6) (v := .ref tp) (C := RX8) (T := TX8) (N := 8) hx hb hts in_X8 hown hK hP 0 rfl rfl 0 (by decide) (hts _ w_274) (fun _ h9 => h9) rfl dX8_skipBlanks_12 ?_
        refine lv_aload_n hx hb dX8_skipBlanks_15 rfl (lv_at hl 0 rfl) ?_
        refine va_get (D := D) (ci := 6) (v := .int (nI i)) (C := RX8) (T := TX8) (N := 8) hx hb hts in_X8 hown hK hP 0 rfl rfl 6 (by decide) (hts _ w_281) (fun _ h9 => h9) rfl dX8_skipBlanks_16 ?_
        refine k_i hA hP hD hS [(tk, .inr (6, [.ref tp, .ref (xa 1), .ref (xa 2), .ref (xa 3), .int fi, .int (nI n), .int (nI i), .long v]))] (va_runV (As := [.int (nI i)]) (rest := []) ⟨hx, hb, hml, hown, hts⟩ (c_X5_at l9 z D g tp tpa 2000 tf (nI i) (by first | assumption | decide | omega) (Array.size H)) (cwV 1 hts gv_X8_51 rfl rfl rfl (by decide +kernel) ⟨Nat.le_of_ble_eq_true rfl, Nat.le_of_ble_eq_true rfl⟩) ⟨kBlind, va_recv hK hP (ci := 4) (q0 := 1) rfl rfl, kPre.pc hK hZ hA hP hD hS [1, 2] rfl (by decide +kernel)⟩ rfl rfl hl.1 rfl (lv_room (Nat.le_of_ble_eq_true rfl)) dX8_skipBlanks_19 ⟨Nat.le_of_ble_eq_true rfl, Nat.le_of_ble_eq_true rfl⟩) [1, 2] [0] rfl rfl rfl rfl (fun r_19 u_2 H locs hw_19 hP7 hD7 hS7 => ?_)
        clear hP hD hS
        have hP := hP7
        have hD := hD7
        have hS := hS7
        clear hP7 hD7 hS7
        obtain rfl := hw_19
        replace hP : va_P D CLS [(tk, .inr (6, [.ref tp, .ref (xa 1), .ref (xa 2), .ref (xa 3), .int fi, .int (nI n), .int (nI i), .long v])), (tp, .inr (4, [.ref tpa])), (tpa, .inl (g 0, 2000, .inl tf))] H := hP
        replace hD : va_D A [(tk, .inr (6, [.ref tp, .ref (xa 1), .ref (xa 2), .ref (xa 3), .int fi, .int (nI n), .int (nI i), .long v])), (tp, .inr (4, [.ref tpa])), (tpa, .inl (g 0, 2000, .inl tf))] := hD
        refine k_topi (show (rat 2000 tf (nI i)) = (tf i) from rat_nI (by omega) (by omega)) ?_
        refine lv_bipush (v := 32) hx hb dX8_skipBlanks_22 (by decide) ?_
        refine lv_icmp_eq (tgt := 43) hx hb dX8_skipBlanks_24 (by decide) (fun c_24 => ?_) (fun c_24 => ?_)
        · skip
          refine lv_aload_n hx hb dX8_skipBlanks_43 rfl (lv_at hl 0 rfl) ?_
          refine lv_dup hx hb dX8_skipBlanks_44 rfl ?_
          refine va_get (D := D) (ci := 6) (v := .int (nI i)) (C := RX8) (T := TX8) (N := 8) hx hb hts in_X8 hown hK hP 0 rfl rfl 6 (by decide) (hts _ w_281) (fun _ h9 => h9) rfl dX8_skipBlanks_45 ?_
          refine lv_iconst (v := 1) hx hb dX8_skipBlanks_48 (by decide) ?_
          refine k_inc hx hb dX8_skipBlanks_49 ?_
          refine va_put (D := D) (ci := 6) (v := .int (nI (i + 1))) (ty := .int) (C := RX8) (T := TX8) (N := 8) hx hb hts in_X8 tyX8 tyX8_ok nmX8 hown hK hP hD hS 0 rfl rfl 6 (by decide) (hts _ w_281) (fun _ h9 => h9) rfl (by decide +kernel) rfl rfl (Nat.le_of_ble_eq_true rfl) dX8_skipBlanks_50 (fun H locs hP7 hD7 hS7 => ?_)
          clear hP hD hS
          have hP := hP7
          have hD := hD7
          have hS := hS7
          clear hP7 hD7 hS7
          replace hP : va_P D CLS [(tk, .inr (6, [.ref tp, .ref (xa 1), .ref (xa 2), .ref (xa 3), .int fi, .int (nI n), .int (nI (i + 1)), .long v])), (tp, .inr (4, [.ref tpa])), (tpa, .inl (g 0, 2000, .inl tf))] H := hP
          replace hD : va_D A [(tk, .inr (6, [.ref tp, .ref (xa 1), .ref (xa 2), .ref (xa 3), .int fi, .int (nI n), .int (nI (i + 1)), .long v])), (tp, .inr (4, [.ref tpa])), (tpa, .inl (g 0, 2000, .inl tf))] := hD
          refine lv_goto (tgt := 0) hx hb dX8_skipBlanks_53 (by decide) ?_
          exact ih_0  (i + 1) (by omega) (by omega) (by rw [← hs]; exact (skp_go (by omega) (decide_eq_true (by first | exact Or.inl c_24 | exact Or.inr c_40))).symm) _ _ (kSub hP [0, 1, 2] rfl) (hD.sub [0, 1, 2] (by decide +kernel) rfl) hS ls (lv_sub hl [0] rfl)
        · skip
          refine lv_aload_n hx hb dX8_skipBlanks_27 rfl (lv_at hl 0 rfl) ?_
          refine va_get (D := D) (ci := 6) (v := .ref tp) (C := RX8) (T := TX8) (N := 8) hx hb hts in_X8 hown hK hP 0 rfl rfl 0 (by decide) (hts _ w_274) (fun _ h9 => h9) rfl dX8_skipBlanks_28 ?_
          refine lv_aload_n hx hb dX8_skipBlanks_31 rfl (lv_at hl 0 rfl) ?_
          refine va_get (D := D) (ci := 6) (v := .int (nI i)) (C := RX8) (T := TX8) (N := 8) hx hb hts in_X8 hown hK hP 0 rfl rfl 6 (by decide) (hts _ w_281) (fun _ h9 => h9) rfl dX8_skipBlanks_32 ?_
          refine k_i hA hP hD hS [(tk, .inr (6, [.ref tp, .ref (xa 1), .ref (xa 2), .ref (xa 3), .int fi, .int (nI n), .int (nI i), .long v]))] (va_runV (As := [.int (nI i)]) (rest := []) ⟨hx, hb, hml, hown, hts⟩ (c_X5_at l9 z D g tp tpa 2000 tf (nI i) (by first | assumption | decide | omega) (Array.size H)) (cwV 1 hts gv_X8_51 rfl rfl rfl (by decide +kernel) ⟨Nat.le_of_ble_eq_true rfl, Nat.le_of_ble_eq_true rfl⟩) ⟨kBlind, va_recv hK hP (ci := 4) (q0 := 1) rfl rfl, kPre.pc hK hZ hA hP hD hS [1, 2] rfl (by decide +kernel)⟩ rfl rfl hl.1 rfl (lv_room (Nat.le_of_ble_eq_true rfl)) dX8_skipBlanks_35 ⟨Nat.le_of_ble_eq_true rfl, Nat.le_of_ble_eq_true rfl⟩) [1, 2] [0] rfl rfl rfl rfl (fun r_35 u_3 H locs hw_35 hP7 hD7 hS7 => ?_)
          clear hP hD hS
          have hP := hP7
          have hD := hD7
          have hS := hS7
          clear hP7 hD7 hS7
          obtain rfl := hw_35
          replace hP : va_P D CLS [(tk, .inr (6, [.ref tp, .ref (xa 1), .ref (xa 2), .ref (xa 3), .int fi, .int (nI n), .int (nI i), .long v])), (tp, .inr (4, [.ref tpa])), (tpa, .inl (g 0, 2000, .inl tf))] H := hP
          replace hD : va_D A [(tk, .inr (6, [.ref tp, .ref (xa 1), .ref (xa 2), .ref (xa 3), .int fi, .int (nI n), .int (nI i), .long v])), (tp, .inr (4, [.ref tpa])), (tpa, .inl (g 0, 2000, .inl tf))] := hD
          refine k_topi (show (rat 2000 tf (nI i)) = (tf i) from rat_nI (by omega) (by omega)) ?_
          refine lv_bipush (v := 10) hx hb dX8_skipBlanks_38 (by decide) ?_
          refine lv_icmp_ne (tgt := 56) hx hb dX8_skipBlanks_40 (by decide) (fun c_40 => ?_) (fun c_40 => ?_)
          · skip
            have he_4 : (nI (skp tf n p)) = (nI i) := by rw [← hs]; first | rw [skp_end (by omega)] | rw [skp_stop (by omega) (decide_eq_false (by rintro (h | h); exact c_24 h; exact c_40 h))]
            have hP9 : va_P D CLS [(tk, .inr (6, [.ref tp, .ref (xa 1), .ref (xa 2), .ref (xa 3), .int fi, .int (nI n), .int (nI (skp tf n p)), .long v])), (tp, .inr (4, [.ref tpa])), (tpa, .inl (g 0, 2000, .inl tf))] H := by rw [he_4]; exact kSub hP [0, 1, 2] rfl
            have hD9 : va_D A [(tk, .inr (6, [.ref tp, .ref (xa 1), .ref (xa 2), .ref (xa 3), .int fi, .int (nI n), .int (nI (skp tf n p)), .long v])), (tp, .inr (4, [.ref tpa])), (tpa, .inl (g 0, 2000, .inl tf))] := by rw [he_4]; exact hD.sub [0, 1, 2] (by decide +kernel) rfl
            exact W.vret hx hb hr (fun t9 ht9 hW9 => ⟨⟨(), rfl, trivial, by rw [ht9]; exact hP9, va_K.moved hW9.alike hK, hD9⟩, hS.F ht9⟩) hS.2.2 dX8_skipBlanks_56
          · skip
            refine lv_aload_n hx hb dX8_skipBlanks_43 rfl (lv_at hl 0 rfl) ?_
            refine lv_dup hx hb dX8_skipBlanks_44 rfl ?_
            refine va_get (D := D) (ci := 6) (v := .int (nI i)) (C := RX8) (T := TX8) (N := 8) hx hb hts in_X8 hown hK hP 0 rfl rfl 6 (by decide) (hts _ w_281) (fun _ h9 => h9) rfl dX8_skipBlanks_45 ?_
            refine lv_iconst (v := 1) hx hb dX8_skipBlanks_48 (by decide) ?_
            refine k_inc hx hb dX8_skipBlanks_49 ?_
            refine va_put (D := D) (ci := 6) (v := .int (nI (i + 1))) (ty := .int) (C := RX8) (T := TX8) (N := 8) hx hb hts in_X8 tyX8 tyX8_ok nmX8 hown hK hP hD hS 0 rfl rfl 6 (by decide) (hts _ w_281) (fun _ h9 => h9) rfl (by decide +kernel) rfl rfl (Nat.le_of_ble_eq_true rfl) dX8_skipBlanks_50 (fun H locs hP7 hD7 hS7 => ?_)
            clear hP hD hS
            have hP := hP7
            have hD := hD7
            have hS := hS7
            clear hP7 hD7 hS7
            replace hP : va_P D CLS [(tk, .inr (6, [.ref tp, .ref (xa 1), .ref (xa 2), .ref (xa 3), .int fi, .int (nI n), .int (nI (i + 1)), .long v])), (tp, .inr (4, [.ref tpa])), (tpa, .inl (g 0, 2000, .inl tf))] H := hP
            replace hD : va_D A [(tk, .inr (6, [.ref tp, .ref (xa 1), .ref (xa 2), .ref (xa 3), .int fi, .int (nI n), .int (nI (i + 1)), .long v])), (tp, .inr (4, [.ref tpa])), (tpa, .inl (g 0, 2000, .inl tf))] := hD
            refine lv_goto (tgt := 0) hx hb dX8_skipBlanks_53 (by decide) ?_
            exact ih_0  (i + 1) (by omega) (by omega) (by rw [← hs]; exact (skp_go (by omega) (decide_eq_true (by first | exact Or.inl c_24 | exact Or.inr c_40))).symm) _ _ (kSub hP [0, 1, 2] rfl) (hD.sub [0, 1, 2] (by decide +kernel) rfl) hS ls (lv_sub hl [0] rfl)
  exact loop_0 (n - p + 1) p (by omega) hp rfl _ _ (kSub hP [0, 1, 2] rfl) (hD.sub [0, 1, 2] (by decide +kernel) rfl) hS ls (lv_sub hl [0] rfl)
theorem dX8_skipEqual_0 : decode cX8_skipEqual 0 = .ok (.aload_n 0, 1) := by decide +kernel
theorem dX8_skipEqual_1 : decode cX8_skipEqual 1 = .ok (.getfield 37, 3) := by decide +kernel
theorem dX8_skipEqual_4 : decode cX8_skipEqual 4 = .ok (.aload_n 0, 1) := by decide +kernel
theorem dX8_skipEqual_5 : decode cX8_skipEqual 5 = .ok (.getfield 34, 3) := by decide +kernel
theorem dX8_skipEqual_8 : decode cX8_skipEqual 8 = .ok (.if_icmp .ge 23, 3) := by decide +kernel
theorem dX8_skipEqual_11 : decode cX8_skipEqual 11 = .ok (.aload_n 0, 1) := by decide +kernel
theorem dX8_skipEqual_12 : decode cX8_skipEqual 12 = .ok (.getfield 44, 3) := by decide +kernel
theorem dX8_skipEqual_15 : decode cX8_skipEqual 15 = .ok (.aload_n 0, 1) := by decide +kernel
theorem dX8_skipEqual_16 : decode cX8_skipEqual 16 = .ok (.getfield 37, 3) := by decide +kernel
theorem dX8_skipEqual_19 : decode cX8_skipEqual 19 = .ok (.invokevirtual 51, 3) := by decide +kernel
theorem dX8_skipEqual_22 : decode cX8_skipEqual 22 = .ok (.bipush 61, 2) := by decide +kernel
theorem dX8_skipEqual_24 : decode cX8_skipEqual 24 = .ok (.if_icmp .ne 7, 3) := by decide +kernel
theorem dX8_skipEqual_27 : decode cX8_skipEqual 27 = .ok (.iconst 1, 1) := by decide +kernel
theorem dX8_skipEqual_28 : decode cX8_skipEqual 28 = .ok (.goto 4, 3) := by decide +kernel
theorem dX8_skipEqual_31 : decode cX8_skipEqual 31 = .ok (.iconst 0, 1) := by decide +kernel
theorem dX8_skipEqual_32 : decode cX8_skipEqual 32 = .ok (.istore_n 1, 1) := by decide +kernel
theorem dX8_skipEqual_33 : decode cX8_skipEqual 33 = .ok (.iload_n 1, 1) := by decide +kernel
theorem dX8_skipEqual_34 : decode cX8_skipEqual 34 = .ok (.ifCond .eq 13, 3) := by decide +kernel
theorem dX8_skipEqual_37 : decode cX8_skipEqual 37 = .ok (.aload_n 0, 1) := by decide +kernel
theorem dX8_skipEqual_38 : decode cX8_skipEqual 38 = .ok (.dup, 1) := by decide +kernel
theorem dX8_skipEqual_39 : decode cX8_skipEqual 39 = .ok (.getfield 37, 3) := by decide +kernel
theorem dX8_skipEqual_42 : decode cX8_skipEqual 42 = .ok (.iconst 1, 1) := by decide +kernel
theorem dX8_skipEqual_43 : decode cX8_skipEqual 43 = .ok (.iadd, 1) := by decide +kernel
theorem dX8_skipEqual_44 : decode cX8_skipEqual 44 = .ok (.putfield 37, 3) := by decide +kernel
theorem dX8_skipEqual_47 : decode cX8_skipEqual 47 = .ok (.iload_n 1, 1) := by decide +kernel
theorem dX8_skipEqual_48 : decode cX8_skipEqual 48 = .ok (.ireturn, 1) := by decide +kernel
set_option maxHeartbeats 4000000 in
set_option maxRecDepth 100000 in
/-- Tokens.skipEqual -/
theorem c_X8_skipEqual (l9 : Launch) (z : Nat → Nat) (D : va_G) (g : Nat → ClassId) (tk : Nat) (xa : Nat → Nat) (tp : Nat) (tpa : Nat) (tf : Nat → Int32) (fi : Int32) (n : Nat) (p : Nat) (v : Int64) (hp : p < 100000) (hn : n ≤ 2000) (sz : Nat) : Met l9 yX8_skipEqual (WS yX8_skipEqual cX8_skipEqual 2 (some .boolean)) ({ frames := 1, cells := 0, slots := 0, locals := 21 }) (va_Pc [.ref tk] (kPre z D g [(tk, .inr (6, [.ref tp, .ref (xa 1), .ref (xa 2), .ref (xa 3), .int fi, .int (nI n), .int (nI p), .long v])), (tp, .inr (4, [.ref tpa])), (tpa, .inl (g 0, 2000, .inl tf))] sz)) (va_Qi (fun (r9 : Int32) (u9 : Unit) => r9 = bI (isE tf n p)) (kB D g (va_A [(tk, .inr (6, [.ref tp, .ref (xa 1), .ref (xa 2), .ref (xa 3), .int fi, .int (nI n), .int (nI p), .long v])), (tp, .inr (4, [.ref tpa])), (tpa, .inl (g 0, 2000, .inl tf))] sz) (fun (u9 : Unit) => [(tk, .inr (6, [.ref tp, .ref (xa 1), .ref (xa 2), .ref (xa 3), .int fi, .int (nI n), .int (nI (if isE tf n p = true then p + 1 else p)), .long v])), (tp, .inr (4, [.ref tpa])), (tpa, .inl (g 0, 2000, .inl tf))])) (va_A [(tk, .inr (6, [.ref tp, .ref (xa 1), .ref (xa 2), .ref (xa 3), .int fi, .int (nI n), .int (nI p), .long v])), (tp, .inr (4, [.ref tpa])), (tpa, .inl (g 0, 2000, .inl tf))] sz)) 0 0 (va_A [(tk, .inr (6, [.ref tp, .ref (xa 1), .ref (xa 2), .ref (xa 3), .int fi, .int (nI n), .int (nI p), .long v])), (tp, .inr (4, [.ref tpa])), (tpa, .inl (g 0, 2000, .inl tf))] sz) := by
  refine Met.ofW (cc := cX8_skipEqual) (maxL := 2) (ret := (some .boolean)) (by decide) rfl ?_
  intro p9 e9 s9 m9 args9 below9 meth9 c9 s₁ B hml hv
  obtain ⟨rfl, hsz, hP, hK, hD0, hZ⟩ := hv
  have hx := B.exec
  have hb := B.bytes
  have hr := B.returns
  have hts := ws_sub (atoms_spec (ws := WS yX8_skipEqual cX8_skipEqual 2 (some .boolean)) B.pre)
  have hown : s9.vm.findClass RX8 = some m9.cls := findClass_of_methodNamed B.named
  have hlocks := B.notSynchronized
  subst hsz
  have hD := hD0.self (sz := s9.heap.size)
  generalize hAe : va_A [(tk, .inr (6, [.ref tp, .ref (xa 1), .ref (xa 2), .ref (xa 3), .int fi, .int (nI n), .int (nI p), .long v])), (tp, .inr (4, [.ref tpa])), (tpa, .inl (g 0, 2000, .inl tf))] s9.heap.size = A at hD hZ ⊢
  have hA : ∀ q : Nat, s9.heap.size ≤ q → A q := fun q h => by rw [← hAe]; exact Or.inr h
  have hS : va_S A s9.heap s9.heap [] := va_S.rf
  have hP : va_P D CLS [(tk, .inr (6, [.ref tp, .ref (xa 1), .ref (xa 2), .ref (xa 3), .int fi, .int (nI n), .int (nI p), .long v])), (tp, .inr (4, [.ref tpa])), (tpa, .inl (g 0, 2000, .inl tf))] s9.heap := hP
  have hl := lv_entry ([.ref tk]) (n := 2) (Nat.le_of_ble_eq_true rfl)
  rw [lg_entry_eq]
  generalize (lg_sl ([.ref tk]) ++ List.replicate (2 - (lg_sl ([.ref tk])).length) Slot.unset).toArray = ls at hl ⊢
  have hl : lv_has ls 2 [(0, .ref tk)] := hl
  change W p9 l9 e9 ({ frames := 1, cells := 0, slots := 0, locals := 21 } : Room) s9 m9 _ below9 meth9 c9 _ _ _ _ _ _
  refine lv_aload_n hx hb dX8_skipEqual_0 rfl (lv_at hl 0 rfl) ?_
  refine va_get (D := D) (ci := 6) (v := .int (nI p)) (C := RX8) (T := TX8) (N := 8) hx hb hts in_X8 hown hK hP 0 rfl rfl 6 (by decide) (hts _ w_281) (fun _ h9 => h9) rfl dX8_skipEqual_1 ?_
  refine lv_aload_n hx hb dX8_skipEqual_4 rfl (lv_at hl 0 rfl) ?_
  refine va_get (D := D) (ci := 6) (v := .int (nI n)) (C := RX8) (T := TX8) (N := 8) hx hb hts in_X8 hown hK hP 0 rfl rfl 5 (by decide) (hts _ w_280) (fun _ h9 => h9) rfl dX8_skipEqual_5 ?_
  refine lv_icmp_ge (tgt := 31) hx hb dX8_skipEqual_8 (by decide) (fun c_8 => ?_) (fun c_8 => ?_)
  · skip
    have c_8 : n ≤ p := (nI_leI (a := n) (b := p) (by omega) (by omega)).mp c_8
    refine lv_iconst (v := 0) hx hb dX8_skipEqual_31 (by decide) ?_
    refine lv_istore_n (lv' := [(1, .int 0), (0, .ref tk)]) hx hb dX8_skipEqual_32 rfl hl (by decide) rfl (fun ls hl => ?_)
    refine lv_iload_n hx hb dX8_skipEqual_33 rfl (lv_at hl 0 rfl) ?_
    refine lv_if_eq (tgt := 47) hx hb dX8_skipEqual_34 (by decide) (fun c_34 => ?_) (fun c_34 => ?_)
    · skip
      first | skip
      refine lv_iload_n hx hb dX8_skipEqual_47 rfl (lv_at hl 0 rfl) ?_
      have he_1 : (nI (if isE tf n p = true then p + 1 else p)) = (nI p) := by first | (rw [if_pos (show isE tf n p = true from decide_eq_true ⟨by omega, c_24⟩)]) | (rw [if_neg]; intro h; have h2 := of_decide_eq_true h; first | omega | exact c_24 h2.2)
      have hP9 : va_P D CLS [(tk, .inr (6, [.ref tp, .ref (xa 1), .ref (xa 2), .ref (xa 3), .int fi, .int (nI n), .int (nI (if isE tf n p = true then p + 1 else p)), .long v])), (tp, .inr (4, [.ref tpa])), (tpa, .inl (g 0, 2000, .inl tf))] s9.heap := by rw [he_1]; exact kSub hP [0, 1, 2] rfl
      have hD9 : va_D A [(tk, .inr (6, [.ref tp, .ref (xa 1), .ref (xa 2), .ref (xa 3), .int fi, .int (nI n), .int (nI (if isE tf n p = true then p + 1 else p)), .long v])), (tp, .inr (4, [.ref tpa])), (tpa, .inl (g 0, 2000, .inl tf))] := by rw [he_1]; exact hD.sub [0, 1, 2] (by decide +kernel) rfl
      have hr9 : 0 = (bI (isE tf n p)) := by first | (rw [show isE tf n p = true from decide_eq_true ⟨by omega, c_24⟩]; rfl) | (rw [show isE tf n p = false from decide_eq_false (fun h => by first | omega | exact c_24 h.2)]; rfl)
      exact W.zret (v := 0) hx hb hr (by first | exact k_nb0 | exact k_nb1 | exact k_nbI _ | simp) (fun t9 ht9 hW9 => ⟨⟨0, (), rfl, hr9, by rw [ht9]; exact hP9, va_K.moved hW9.alike hK, hD9⟩, hS.F ht9⟩) hS.2.2 dX8_skipEqual_48
    · skip
      exact absurd c_34 (by decide)
  · skip
    have c_8 : ¬ n ≤ p := fun h => c_8 ((nI_leI (a := n) (b := p) (by omega) (by omega)).mpr h)
    refine lv_aload_n hx hb dX8_skipEqual_11 rfl (lv_at hl 0 rfl) ?_
    refine va_get (D := D) (ci := 6) (v := .ref tp) (C := RX8) (T := TX8) (N := 8) hx hb hts in_X8 hown hK hP 0 rfl rfl 0 (by decide) (hts _ w_274) (fun _ h9 => h9) rfl dX8_skipEqual_12 ?_
    refine lv_aload_n hx hb dX8_skipEqual_15 rfl (lv_at hl 0 rfl) ?_
    refine va_get (D := D) (ci := 6) (v := .int (nI p)) (C := RX8) (T := TX8) (N := 8) hx hb hts in_X8 hown hK hP 0 rfl rfl 6 (by decide) (hts _ w_281) (fun _ h9 => h9) rfl dX8_skipEqual_16 ?_
    refine k_i hA hP hD hS [(tk, .inr (6, [.ref tp, .ref (xa 1), .ref (xa 2), .ref (xa 3), .int fi, .int (nI n), .int (nI p), .long v]))] (va_runV (As := [.int (nI p)]) (rest := []) ⟨hx, hb, hml, hown, hts⟩ (c_X5_at l9 z D g tp tpa 2000 tf (nI p) (by first | assumption | decide | omega) (Array.size s9.heap)) (cwV 1 hts gv_X8_51 rfl rfl rfl (by decide +kernel) ⟨Nat.le_of_ble_eq_true rfl, Nat.le_of_ble_eq_true rfl⟩) ⟨kBlind, va_recv hK hP (ci := 4) (q0 := 1) rfl rfl, kPre.pc hK hZ hA hP hD hS [1, 2] rfl (by decide +kernel)⟩ rfl rfl hl.1 rfl (lv_room (Nat.le_of_ble_eq_true rfl)) dX8_skipEqual_19 ⟨Nat.le_of_ble_eq_true rfl, Nat.le_of_ble_eq_true rfl⟩) [1, 2] [0] rfl rfl rfl rfl (fun r_19 u_2 H locs hw_19 hP7 hD7 hS7 => ?_)
    clear hP hD hS
    have hP := hP7
    have hD := hD7
    have hS := hS7
    clear hP7 hD7 hS7
    obtain rfl := hw_19
    replace hP : va_P D CLS [(tk, .inr (6, [.ref tp, .ref (xa 1), .ref (xa 2), .ref (xa 3), .int fi, .int (nI n), .int (nI p), .long v])), (tp, .inr (4, [.ref tpa])), (tpa, .inl (g 0, 2000, .inl tf))] H := hP
    replace hD : va_D A [(tk, .inr (6, [.ref tp, .ref (xa 1), .ref (xa 2), .ref (xa 3), .int fi, .int (nI n), .int (nI p), .long v])), (tp, .inr (4, [.ref tpa])), (tpa, .inl (g 0, 2000, .inl tf))] := hD
    refine k_topi (show (rat 2000 tf (nI p)) = (tf p) from rat_nI (by omega) (by omega)) ?_
    refine lv_bipush (v := 61) hx hb dX8_skipEqual_22 (by decide) ?_
    refine lv_icmp_ne (tgt := 31) hx hb dX8_skipEqual_24 (by decide) (fun c_24 => ?_) (fun c_24 => ?_)
    · skip
      refine lv_iconst (v := 0) hx hb dX8_skipEqual_31 (by decide) ?_
      refine lv_istore_n (lv' := [(1, .int 0), (0, .ref tk)]) hx hb dX8_skipEqual_32 rfl hl (by decide) rfl (fun ls hl => ?_)
      refine lv_iload_n hx hb dX8_skipEqual_33 rfl (lv_at hl 0 rfl) ?_
      refine lv_if_eq (tgt := 47) hx hb dX8_skipEqual_34 (by decide) (fun c_34 => ?_) (fun c_34 => ?_)
      · skip
        first | skip
        refine lv_iload_n hx hb dX8_skipEqual_47 rfl (lv_at hl 0 rfl) ?_
        have he_3 : (nI (if isE tf n p = true then p + 1 else p)) = (nI p) := by first | (rw [if_pos (show isE tf n p = true from decide_eq_true ⟨by omega, c_24⟩)]) | (rw [if_neg]; intro h; have h2 := of_decide_eq_true h; first | omega | exact c_24 h2.2)
        have hP9 : va_P D CLS [(tk, .inr (6, [.ref tp, .ref (xa 1), .ref (xa 2), .ref (xa 3), .int fi, .int (nI n), .int (nI (if isE tf n p = true then p + 1 else p)), .long v])), (tp, .inr (4, [.ref tpa])), (tpa, .inl (g 0, 2000, .inl tf))] H := by rw [he_3]; exact kSub hP [0, 1, 2] rfl
        have hD9 : va_D A [(tk, .inr (6, [.ref tp, .ref (xa 1), .ref (xa 2), .ref (xa 3), .int fi, .int (nI n), .int (nI (if isE tf n p = true then p + 1 else p)), .long v])), (tp, .inr (4, [.ref tpa])), (tpa, .inl (g 0, 2000, .inl tf))] := by rw [he_3]; exact hD.sub [0, 1, 2] (by decide +kernel) rfl
        have hr9 : 0 = (bI (isE tf n p)) := by first | (rw [show isE tf n p = true from decide_eq_true ⟨by omega, c_24⟩]; rfl) | (rw [show isE tf n p = false from decide_eq_false (fun h => by first | omega | exact c_24 h.2)]; rfl)
        exact W.zret (v := 0) hx hb hr (by first | exact k_nb0 | exact k_nb1 | exact k_nbI _ | simp) (fun t9 ht9 hW9 => ⟨⟨0, (), rfl, hr9, by rw [ht9]; exact hP9, va_K.moved hW9.alike hK, hD9⟩, hS.F ht9⟩) hS.2.2 dX8_skipEqual_48
      · skip
        exact absurd c_34 (by decide)
    · skip
      refine lv_iconst (v := 1) hx hb dX8_skipEqual_27 (by decide) ?_
      refine lv_goto (tgt := 32) hx hb dX8_skipEqual_28 (by decide) ?_
      refine lv_istore_n (lv' := [(1, .int 1), (0, .ref tk)]) hx hb dX8_skipEqual_32 rfl hl (by decide) rfl (fun ls hl => ?_)
      refine lv_iload_n hx hb dX8_skipEqual_33 rfl (lv_at hl 0 rfl) ?_
      refine lv_if_eq (tgt := 47) hx hb dX8_skipEqual_34 (by decide) (fun c_34 => ?_) (fun c_34 => ?_)
      · skip
        exact absurd c_34 (by decide)
      · skip
        first | skip
        refine lv_aload_n hx hb dX8_skipEqual_37 rfl (lv_at hl 1 rfl) ?_
        refine lv_dup hx hb dX8_skipEqual_38 rfl ?_
        refine va_get (D := D) (ci := 6) (v := .int (nI p)) (C := RX8) (T := TX8) (N := 8) hx hb hts in_X8 hown hK hP 0 rfl rfl 6 (by decide) (hts _ w_281) (fun _ h9 => h9) rfl dX8_skipEqual_39 ?_
        refine lv_iconst (v := 1) hx hb dX8_skipEqual_42 (by decide) ?_
        refine k_inc hx hb dX8_skipEqual_43 ?_
        refine va_put (D := D) (ci := 6) (v := .int (nI (p + 1))) (ty := .int) (C := RX8) (T := TX8) (N := 8) hx hb hts in_X8 tyX8 tyX8_ok nmX8 hown hK hP hD hS 0 rfl rfl 6 (by decide) (hts _ w_281) (fun _ h9 => h9) rfl (by decide +kernel) rfl rfl (Nat.le_of_ble_eq_true rfl) dX8_skipEqual_44 (fun H locs hP7 hD7 hS7 => ?_)
        clear hP hD hS
        have hP := hP7
        have hD := hD7
        have hS := hS7
        clear hP7 hD7 hS7
        replace hP : va_P D CLS [(tk, .inr (6, [.ref tp, .ref (xa 1), .ref (xa 2), .ref (xa 3), .int fi, .int (nI n), .int (nI (p + 1)), .long v])), (tp, .inr (4, [.ref tpa])), (tpa, .inl (g 0, 2000, .inl tf))] H := hP
        replace hD : va_D A [(tk, .inr (6, [.ref tp, .ref (xa 1), .ref (xa 2), .ref (xa 3), .int fi, .int (nI n), .int (nI (p + 1)), .long v])), (tp, .inr (4, [.ref tpa])), (tpa, .inl (g 0, 2000, .inl tf))] := hD
        refine lv_iload_n hx hb dX8_skipEqual_47 rfl (lv_at hl 0 rfl) ?_
        have he_4 : (nI (if isE tf n p = true then p + 1 else p)) = (nI (p + 1)) := by first | (rw [if_pos (show isE tf n p = true from decide_eq_true ⟨by omega, c_24⟩)]) | (rw [if_neg]; intro h; have h2 := of_decide_eq_true h; first | omega | exact c_24 h2.2)
        have hP9 : va_P D CLS [(tk, .inr (6, [.ref tp, .ref (xa 1), .ref (xa 2), .ref (xa 3), .int fi, .int (nI n), .int (nI (if isE tf n p = true then p + 1 else p)), .long v])), (tp, .inr (4, [.ref tpa])), (tpa, .inl (g 0, 2000, .inl tf))] H := by rw [he_4]; exact kSub hP [0, 1, 2] rfl
        have hD9 : va_D A [(tk, .inr (6, [.ref tp, .ref (xa 1), .ref (xa 2), .ref (xa 3), .int fi, .int (nI n), .int (nI (if isE tf n p = true then p + 1 else p)), .long v])), (tp, .inr (4, [.ref tpa])), (tpa, .inl (g 0, 2000, .inl tf))] := by rw [he_4]; exact hD.sub [0, 1, 2] (by decide +kernel) rfl
        have hr9 : 1 = (bI (isE tf n p)) := by first | (rw [show isE tf n p = true from decide_eq_true ⟨by omega, c_24⟩]; rfl) | (rw [show isE tf n p = false from decide_eq_false (fun h => by first | omega | exact c_24 h.2)]; rfl)
        exact W.zret (v := 1) hx hb hr (by first | exact k_nb0 | exact k_nb1 | exact k_nbI _ | simp) (fun t9 ht9 hW9 => ⟨⟨1, (), rfl, hr9, by rw [ht9]; exact hP9, va_K.moved hW9.alike hK, hD9⟩, hS.F ht9⟩) hS.2.2 dX8_skipEqual_48
theorem dX8_nextWord_0 : decode cX8_nextWord 0 = .ok (.aload_n 0, 1) := by decide +kernel
theorem dX8_nextWord_1 : decode cX8_nextWord 1 = .ok (.getfield 37, 3) := by decide +kernel
theorem dX8_nextWord_4 : decode cX8_nextWord 4 = .ok (.istore_n 1, 1) := by decide +kernel
theorem dX8_nextWord_5 : decode cX8_nextWord 5 = .ok (.aload_n 0, 1) := by decide +kernel
theorem dX8_nextWord_6 : decode cX8_nextWord 6 = .ok (.getfield 37, 3) := by decide +kernel
theorem dX8_nextWord_9 : decode cX8_nextWord 9 = .ok (.aload_n 0, 1) := by decide +kernel
theorem dX8_nextWord_10 : decode cX8_nextWord 10 = .ok (.getfield 34, 3) := by decide +kernel
theorem dX8_nextWord_13 : decode cX8_nextWord 13 = .ok (.if_icmp .ge 72, 3) := by decide +kernel
theorem dX8_nextWord_16 : decode cX8_nextWord 16 = .ok (.aload_n 0, 1) := by decide +kernel
theorem dX8_nextWord_17 : decode cX8_nextWord 17 = .ok (.getfield 44, 3) := by decide +kernel
theorem dX8_nextWord_20 : decode cX8_nextWord 20 = .ok (.aload_n 0, 1) := by decide +kernel
theorem dX8_nextWord_21 : decode cX8_nextWord 21 = .ok (.getfield 37, 3) := by decide +kernel
theorem dX8_nextWord_24 : decode cX8_nextWord 24 = .ok (.invokevirtual 51, 3) := by decide +kernel
theorem dX8_nextWord_27 : decode cX8_nextWord 27 = .ok (.invokestatic 69, 3) := by decide +kernel
theorem dX8_nextWord_30 : decode cX8_nextWord 30 = .ok (.ifCond .ne 20, 3) := by decide +kernel
theorem dX8_nextWord_33 : decode cX8_nextWord 33 = .ok (.aload_n 0, 1) := by decide +kernel
theorem dX8_nextWord_34 : decode cX8_nextWord 34 = .ok (.getfield 44, 3) := by decide +kernel
theorem dX8_nextWord_37 : decode cX8_nextWord 37 = .ok (.aload_n 0, 1) := by decide +kernel
theorem dX8_nextWord_38 : decode cX8_nextWord 38 = .ok (.getfield 37, 3) := by decide +kernel
theorem dX8_nextWord_41 : decode cX8_nextWord 41 = .ok (.invokevirtual 51, 3) := by decide +kernel
theorem dX8_nextWord_44 : decode cX8_nextWord 44 = .ok (.invokestatic 76, 3) := by decide +kernel
theorem dX8_nextWord_47 : decode cX8_nextWord 47 = .ok (.ifCond .eq 38, 3) := by decide +kernel
theorem dX8_nextWord_50 : decode cX8_nextWord 50 = .ok (.aload_n 0, 1) := by decide +kernel
theorem dX8_nextWord_51 : decode cX8_nextWord 51 = .ok (.aload_n 0, 1) := by decide +kernel
theorem dX8_nextWord_52 : decode cX8_nextWord 52 = .ok (.getfield 40, 3) := by decide +kernel
theorem dX8_nextWord_55 : decode cX8_nextWord 55 = .ok (.aload_n 0, 1) := by decide +kernel
theorem dX8_nextWord_56 : decode cX8_nextWord 56 = .ok (.getfield 44, 3) := by decide +kernel
theorem dX8_nextWord_59 : decode cX8_nextWord 59 = .ok (.aload_n 0, 1) := by decide +kernel
theorem dX8_nextWord_60 : decode cX8_nextWord 60 = .ok (.getfield 37, 3) := by decide +kernel
theorem dX8_nextWord_63 : decode cX8_nextWord 63 = .ok (.invokevirtual 51, 3) := by decide +kernel
theorem dX8_nextWord_66 : decode cX8_nextWord 66 = .ok (.invokestatic 86, 3) := by decide +kernel
theorem dX8_nextWord_69 : decode cX8_nextWord 69 = .ok (.putfield 40, 3) := by decide +kernel
theorem dX8_nextWord_72 : decode cX8_nextWord 72 = .ok (.aload_n 0, 1) := by decide +kernel
theorem dX8_nextWord_73 : decode cX8_nextWord 73 = .ok (.dup, 1) := by decide +kernel
theorem dX8_nextWord_74 : decode cX8_nextWord 74 = .ok (.getfield 37, 3) := by decide +kernel
theorem dX8_nextWord_77 : decode cX8_nextWord 77 = .ok (.iconst 1, 1) := by decide +kernel
theorem dX8_nextWord_78 : decode cX8_nextWord 78 = .ok (.iadd, 1) := by decide +kernel
theorem dX8_nextWord_79 : decode cX8_nextWord 79 = .ok (.putfield 37, 3) := by decide +kernel
theorem dX8_nextWord_82 : decode cX8_nextWord 82 = .ok (.goto (-77), 3) := by decide +kernel
theorem dX8_nextWord_85 : decode cX8_nextWord 85 = .ok (.aload_n 0, 1) := by decide +kernel
theorem dX8_nextWord_86 : decode cX8_nextWord 86 = .ok (.getfield 37, 3) := by decide +kernel
theorem dX8_nextWord_89 : decode cX8_nextWord 89 = .ok (.iload_n 1, 1) := by decide +kernel
theorem dX8_nextWord_90 : decode cX8_nextWord 90 = .ok (.isub, 1) := by decide +kernel
theorem dX8_nextWord_91 : decode cX8_nextWord 91 = .ok (.bipush 10, 2) := by decide +kernel
theorem dX8_nextWord_93 : decode cX8_nextWord 93 = .ok (.if_icmp .le 9, 3) := by decide +kernel
theorem dX8_nextWord_96 : decode cX8_nextWord 96 = .ok (.getstatic 47, 3) := by decide +kernel
theorem dX8_nextWord_99 : decode cX8_nextWord 99 = .ok (.goto 10, 3) := by decide +kernel
theorem dX8_nextWord_102 : decode cX8_nextWord 102 = .ok (.aload_n 0, 1) := by decide +kernel
theorem dX8_nextWord_103 : decode cX8_nextWord 103 = .ok (.getfield 40, 3) := by decide +kernel
theorem dX8_nextWord_106 : decode cX8_nextWord 106 = .ok (.invokestatic 90, 3) := by decide +kernel
theorem dX8_nextWord_109 : decode cX8_nextWord 109 = .ok (.areturn, 1) := by decide +kernel
set_option maxHeartbeats 4000000 in
set_option maxRecDepth 100000 in
/-- Tokens.nextWord -/
theorem c_X8_nextWord (l9 : Launch) (z : Nat → Nat) (D : va_G) (g : Nat → ClassId) (tk : Nat) (xa : Nat → Nat) (tp : Nat) (tpa : Nat) (tf : Nat → Int32) (fi : Int32) (n : Nat) (p : Nat) (v : Int64) (hp : p ≤ n) (hn : n ≤ 2000) (sz : Nat) : Met l9 yX8_nextWord (WS yX8_nextWord cX8_nextWord 2 (some (.object "ChoirStalls$Sign"))) ({ frames := 1, cells := 0, slots := 0, locals := 22 }) (va_Pc [.ref tk] (kPre z D g [(tk, .inr (6, [.ref tp, .ref (xa 1), .ref (xa 2), .ref (xa 3), .int fi, .int (nI n), .int (nI p), .long v])), (tp, .inr (4, [.ref tpa])), (tpa, .inl (g 0, 2000, .inl tf))] sz)) (va_Qq (fun (r9 : Option Nat) (u9 : Unit) => r9 = some (z (sg (if 10 < (wdp tf n p v).1 - p then 1 else sword (wdp tf n p v).2)))) (kB D g (va_A [(tk, .inr (6, [.ref tp, .ref (xa 1), .ref (xa 2), .ref (xa 3), .int fi, .int (nI n), .int (nI p), .long v])), (tp, .inr (4, [.ref tpa])), (tpa, .inl (g 0, 2000, .inl tf))] sz) (fun (u9 : Unit) => [(tk, .inr (6, [.ref tp, .ref (xa 1), .ref (xa 2), .ref (xa 3), .int fi, .int (nI n), .int (nI ((wdp tf n p v).1)), .long ((wdp tf n p v).2)])), (tp, .inr (4, [.ref tpa])), (tpa, .inl (g 0, 2000, .inl tf))])) (va_A [(tk, .inr (6, [.ref tp, .ref (xa 1), .ref (xa 2), .ref (xa 3), .int fi, .int (nI n), .int (nI p), .long v])), (tp, .inr (4, [.ref tpa])), (tpa, .inl (g 0, 2000, .inl tf))] sz)) 0 0 (va_A [(tk, .inr (6, [.ref tp, .ref (xa 1), .ref (xa 2), .ref (xa 3), .int fi, .int (nI n), .int (nI p), .long v])), (tp, .inr (4, [.ref tpa])), (tpa, .inl (g 0, 2000, .inl tf))] sz) := by
  refine Met.ofW (cc := cX8_nextWord) (maxL := 2) (ret := (some (.object "ChoirStalls$Sign"))) (by decide) rfl ?_
  intro p9 e9 s9 m9 args9 below9 meth9 c9 s₁ B hml hv
  obtain ⟨rfl, hsz, hP, hK, hD0, hZ⟩ := hv
  have hx := B.exec
  have hb := B.bytes
  have hr := B.returns
  have hts := ws_sub (atoms_spec (ws := WS yX8_nextWord cX8_nextWord 2 (some (.object "ChoirStalls$Sign"))) B.pre)
  have hown : s9.vm.findClass RX8 = some m9.cls := findClass_of_methodNamed B.named
  have hlocks := B.notSynchronized
  subst hsz
  have hD := hD0.self (sz := s9.heap.size)
  generalize hAe : va_A [(tk, .inr (6, [.ref tp, .ref (xa 1), .ref (xa 2), .ref (xa 3), .int fi, .int (nI n), .int (nI p), .long v])), (tp, .inr (4, [.ref tpa])), (tpa, .inl (g 0, 2000, .inl tf))] s9.heap.size = A at hD hZ ⊢
  have hA : ∀ q : Nat, s9.heap.size ≤ q → A q := fun q h => by rw [← hAe]; exact Or.inr h
  have hS : va_S A s9.heap s9.heap [] := va_S.rf
  have hP : va_P D CLS [(tk, .inr (6, [.ref tp, .ref (xa 1), .ref (xa 2), .ref (xa 3), .int fi, .int (nI n), .int (nI p), .long v])), (tp, .inr (4, [.ref tpa])), (tpa, .inl (g 0, 2000, .inl tf))] s9.heap := hP
  have hl := lv_entry ([.ref tk]) (n := 2) (Nat.le_of_ble_eq_true rfl)
  rw [lg_entry_eq]
  generalize (lg_sl ([.ref tk]) ++ List.replicate (2 - (lg_sl ([.ref tk])).length) Slot.unset).toArray = ls at hl ⊢
  have hl : lv_has ls 2 [(0, .ref tk)] := hl
  change W p9 l9 e9 ({ frames := 1, cells := 0, slots := 0, locals := 22 } : Room) s9 m9 _ below9 meth9 c9 _ _ _ _ _ _
  refine lv_aload_n hx hb dX8_nextWord_0 rfl (lv_at hl 0 rfl) ?_
  refine va_get (D := D) (ci := 6) (v := .int (nI p)) (C := RX8) (T := TX8) (N := 8) hx hb hts in_X8 hown hK hP 0 rfl rfl 6 (by decide) (hts _ w_281) (fun _ h9 => h9) rfl dX8_nextWord_1 ?_
  refine lv_istore_n (lv' := [(1, .int (nI p)), (0, .ref tk)]) hx hb dX8_nextWord_4 rfl hl (by decide) rfl (fun ls hl => ?_)
  have loop_5 : ∀ (n9 : Nat) (i : Nat) (w : Int64), n9 > n - i → (i ≤ n) → (p ≤ i) → (wdp tf n i w = wdp tf n p v) → ∀ (H : Heap) (locs : List Loc), va_P D CLS [(tk, .inr (6, [.ref tp, .ref (xa 1), .ref (xa 2), .ref (xa 3), .int fi, .int (nI n), .int (nI i), .long w])), (tp, .inr (4, [.ref tpa])), (tpa, .inl (g 0, 2000, .inl tf))] H → va_D A [(tk, .inr (6, [.ref tp, .ref (xa 1), .ref (xa 2), .ref (xa 3), .int fi, .int (nI n), .int (nI i), .long w])), (tp, .inr (4, [.ref tpa])), (tpa, .inl (g 0, 2000, .inl tf))] → va_S A s9.heap H locs → ∀ (ls : Array Slot), lv_has ls 2 [(0, .ref tk), (1, .int (nI p))] → W p9 l9 e9 ({ frames := 1, cells := 0, slots := 0, locals := 22 } : Room) s9 m9 ([.ref tk] : List Value).toArray below9 meth9 c9 H locs 0 0 (MQ below9 (va_Qq (fun (r9 : Option Nat) (u9 : Unit) => r9 = some (z (sg (if 10 < (wdp tf n p v).1 - p then 1 else sword (wdp tf n p v).2)))) (kB D g A (fun (u9 : Unit) => [(tk, .inr (6, [.ref tp, .ref (xa 1), .ref (xa 2), .ref (xa 3), .int fi, .int (nI n), .int (nI ((wdp tf n p v).1)), .long ((wdp tf n p v).2)])), (tp, .inr (4, [.ref tpa])), (tpa, .inl (g 0, 2000, .inl tf))])) A) ([.ref tk] : List Value).toArray s9 0 0 A) (F0 m9 5 ls []) := by
    intro n9
    induction n9 with
    | zero => intro i w hm9; exact absurd hm9 (by omega)
    | succ n9 ih_5 =>
      intro i w hm9 hi hpi hs H locs hP hD hS ls hl
      refine lv_aload_n hx hb dX8_nextWord_5 rfl (lv_at hl 0 rfl) ?_
      refine va_get (D := D) (ci := 6) (v := .int (nI i)) (C := RX8) (T := TX8) (N := 8) hx hb hts in_X8 hown hK hP 0 rfl rfl 6 (by decide) (hts _ w_281) (fun _ h9 => h9) rfl dX8_nextWord_6 ?_
      refine lv_aload_n hx hb dX8_nextWord_9 rfl (lv_at hl 0 rfl) ?_
      refine va_get (D := D) (ci := 6) (v := .int (nI n)) (C := RX8) (T := TX8) (N := 8) hx hb hts in_X8 hown hK hP 0 rfl rfl 5 (by decide) (hts _ w_280) (fun _ h9 => h9) rfl dX8_nextWord_10 ?_
      refine lv_icmp_ge (tgt := 85) hx hb dX8_nextWord_13 (by decide) (fun c_13 => ?_) (fun c_13 => ?_)
      · skip
        have c_13 : n ≤ i := (nI_leI (a := n) (b := i) (by omega) (by omega)).mp c_13
        have he : wdp tf n p v = (i, w) := by rw [← hs]; first | exact wdp_end (by omega) | exact wdp_stop (by omega) (by rw [c_30, c_47]; decide)
        refine lv_aload_n hx hb dX8_nextWord_85 rfl (lv_at hl 0 rfl) ?_
        refine va_get (D := D) (ci := 6) (v := .int (nI i)) (C := RX8) (T := TX8) (N := 8) hx hb hts in_X8 hown hK hP 0 rfl rfl 6 (by decide) (hts _ w_281) (fun _ h9 => h9) rfl dX8_nextWord_86 ?_
        refine lv_iload_n hx hb dX8_nextWord_89 rfl (lv_at hl 1 rfl) ?_
        refine lv_isub hx hb dX8_nextWord_90 ?_
        refine k_topi (show ((nI i) - (nI p)) = (nI (i - p)) from pk_sub hpi) ?_
        refine lv_bipush (v := 10) hx hb dX8_nextWord_91 (by decide) ?_
        refine lv_icmp_le (tgt := 102) hx hb dX8_nextWord_93 (by decide) (fun c_93 => ?_) (fun c_93 => ?_)
        · skip
          have c_93 : (i - p) ≤ 10 := (nI_leI (a := (i - p)) (b := 10) (by omega) (by omega)).mp c_93
          refine lv_aload_n hx hb dX8_nextWord_102 rfl (lv_at hl 0 rfl) ?_
          refine va_get (D := D) (ci := 6) (v := .long w) (C := RX8) (T := TX8) (N := 8) hx hb hts in_X8 hown hK hP 0 rfl rfl 7 (by decide) (hts _ w_282) (fun _ h9 => h9) rfl dX8_nextWord_103 ?_
          refine k_q hA hP hD hS [(tk, .inr (6, [.ref tp, .ref (xa 1), .ref (xa 2), .ref (xa 3), .int fi, .int (nI n), .int (nI i), .long w])), (tp, .inr (4, [.ref tpa])), (tpa, .inl (g 0, 2000, .inl tf))] (va_runS (As := [.long w]) (rest := []) ⟨hx, hb, hml, hown, hts⟩ (c_X6_ofWord l9 z D g w  (Array.size H)) (va_cwS 1 hts gs_X8_90 rfl rfl rfl (by decide +kernel) ⟨Nat.le_of_ble_eq_true rfl, Nat.le_of_ble_eq_true rfl⟩) ⟨kBlind, kPre.pc hK hZ hA hP hD hS [] rfl (by decide +kernel)⟩ rfl rfl hl.1 rfl (lv_room (Nat.le_of_ble_eq_true rfl)) dX8_nextWord_106 ⟨Nat.le_of_ble_eq_true rfl, Nat.le_of_ble_eq_true rfl⟩) [] [0, 1, 2] rfl rfl rfl rfl (fun r_106 u_1 H locs hw_106 hP7 hD7 hS7 => ?_)
          clear hP hD hS
          have hP := hP7
          have hD := hD7
          have hS := hS7
          clear hP7 hD7 hS7
          obtain rfl := hw_106
          replace hP : va_P D CLS [(tk, .inr (6, [.ref tp, .ref (xa 1), .ref (xa 2), .ref (xa 3), .int fi, .int (nI n), .int (nI i), .long w])), (tp, .inr (4, [.ref tpa])), (tpa, .inl (g 0, 2000, .inl tf))] H := hP
          replace hD : va_D A [(tk, .inr (6, [.ref tp, .ref (xa 1), .ref (xa 2), .ref (xa 3), .int fi, .int (nI n), .int (nI i), .long w])), (tp, .inr (4, [.ref tpa])), (tpa, .inl (g 0, 2000, .inl tf))] := hD
          have he_2 : (nI ((wdp tf n p v).1)) = (nI i) := by rw [he]
          have he_3 : ((wdp tf n p v).2) = w := by rw [he]
          have hP9 : va_P D CLS [(tk, .inr (6, [.ref tp, .ref (xa 1), .ref (xa 2), .ref (xa 3), .int fi, .int (nI n), .int (nI ((wdp tf n p v).1)), .long ((wdp tf n p v).2)])), (tp, .inr (4, [.ref tpa])), (tpa, .inl (g 0, 2000, .inl tf))] H := by rw [he_2, he_3]; exact kSub hP [0, 1, 2] rfl
          have hD9 : va_D A [(tk, .inr (6, [.ref tp, .ref (xa 1), .ref (xa 2), .ref (xa 3), .int fi, .int (nI n), .int (nI ((wdp tf n p v).1)), .long ((wdp tf n p v).2)])), (tp, .inr (4, [.ref tpa])), (tpa, .inl (g 0, 2000, .inl tf))] := by rw [he_2, he_3]; exact hD.sub [0, 1, 2] (by decide +kernel) rfl
          have hr9 : some (z (sword w)) = some (z (sg (if 10 < (wdp tf n p v).1 - p then 1 else sword (wdp tf n p v).2))) := by rw [he]; first | (rw [if_pos (show 10 < (i, w).1 - p by show 10 < i - p; omega)]; rfl) | (rw [if_neg (show ¬ 10 < (i, w).1 - p by show ¬ 10 < i - p; omega)]; congr 2; exact (sg_of (sg_lt _)).symm)
          exact W.aret (v := va_rf (some (z (sword w)))) hx hb hr (Or.inl ⟨_, rfl⟩) (va_rf_or _) (fun t9 ht9 hW9 => ⟨⟨some (z (sword w)), (), rfl, hr9, by rw [ht9]; exact hP9, va_K.moved hW9.alike hK, hD9⟩, hS.F ht9⟩) hS.2.2 dX8_nextWord_109
        · skip
          have c_93 : ¬ (i - p) ≤ 10 := fun h => c_93 ((nI_leI (a := (i - p)) (b := 10) (by omega) (by omega)).mpr h)
          refine va_gets (n := "BAD") hx hb (hZ.en.1 1 (by decide)).1 hS hown (hts _ w_962) (fun _ h9 => h9) dX8_nextWord_96 ?_
          refine lv_goto (tgt := 109) hx hb dX8_nextWord_99 (by decide) ?_
          have he_4 : (nI ((wdp tf n p v).1)) = (nI i) := by rw [he]
          have he_5 : ((wdp tf n p v).2) = w := by rw [he]
          have hP9 : va_P D CLS [(tk, .inr (6, [.ref tp, .ref (xa 1), .ref (xa 2), .ref (xa 3), .int fi, .int (nI n), .int (nI ((wdp tf n p v).1)), .long ((wdp tf n p v).2)])), (tp, .inr (4, [.ref tpa])), (tpa, .inl (g 0, 2000, .inl tf))] H := by rw [he_4, he_5]; exact kSub hP [0, 1, 2] rfl
          have hD9 : va_D A [(tk, .inr (6, [.ref tp, .ref (xa 1), .ref (xa 2), .ref (xa 3), .int fi, .int (nI n), .int (nI ((wdp tf n p v).1)), .long ((wdp tf n p v).2)])), (tp, .inr (4, [.ref tpa])), (tpa, .inl (g 0, 2000, .inl tf))] := by rw [he_4, he_5]; exact hD.sub [0, 1, 2] (by decide +kernel) rfl
          have hr9 : some (z 1) = some (z (sg (if 10 < (wdp tf n p v).1 - p then 1 else sword (wdp tf n p v).2))) := by rw [he]; first | (rw [if_pos (show 10 < (i, w).1 - p by show 10 < i - p; omega)]; rfl) | (rw [if_neg (show ¬ 10 < (i, w).1 - p by show ¬ 10 < i - p; omega)]; congr 2; exact (sg_of (sg_lt _)).symm)
          exact W.aret (v := va_rf (some (z 1))) hx hb hr (Or.inl ⟨_, rfl⟩) (va_rf_or _) (fun t9 ht9 hW9 => ⟨⟨some (z 1), (), rfl, hr9, by rw [ht9]; exact hP9, va_K.moved hW9.alike hK, hD9⟩, hS.F ht9⟩) hS.2.2 dX8_nextWord_109
      · skip
        have c_13 : ¬ n ≤ i := fun h => c_13 ((nI_leI (a := n) (b := i) (by omega) (by omega)).mpr h)
        refine lv_aload_n hx hb dX8_nextWord_16 rfl (lv_at hl 0 rfl) ?_
        refine va_get (D := D) (ci := 6) (v := .ref tp) (C := RX8) (T := TX8) (N := 8) hx hb hts in_X8 hown hK hP 0 rfl rfl 0 (by decide) (hts _ w_274) (fun _ h9 => h9) rfl dX8_nextWord_17 ?_
        refine lv_aload_n hx hb dX8_nextWord_20 rfl (lv_at hl 0 rfl) ?_
        refine va_get (D := D) (ci := 6) (v := .int (nI i)) (C := RX8) (T := TX8) (N := 8) hx hb hts in_X8 hown hK hP 0 rfl rfl 6 (by decide) (hts _ w_281) (fun _ h9 => h9) rfl dX8_nextWord_21 ?_
        refine k_i hA hP hD hS [(tk, .inr (6, [.ref tp, .ref (xa 1), .ref (xa 2), .ref (xa 3), .int fi, .int (nI n), .int (nI i), .long w]))] (va_runV (As := [.int (nI i)]) (rest := []) ⟨hx, hb, hml, hown, hts⟩ (c_X5_at l9 z D g tp tpa 2000 tf (nI i) (by first | assumption | decide | omega) (Array.size H)) (cwV 1 hts gv_X8_51 rfl rfl rfl (by decide +kernel) ⟨Nat.le_of_ble_eq_true rfl, Nat.le_of_ble_eq_true rfl⟩) ⟨kBlind, va_recv hK hP (ci := 4) (q0 := 1) rfl rfl, kPre.pc hK hZ hA hP hD hS [1, 2] rfl (by decide +kernel)⟩ rfl rfl hl.1 rfl (lv_room (Nat.le_of_ble_eq_true rfl)) dX8_nextWord_24 ⟨Nat.le_of_ble_eq_true rfl, Nat.le_of_ble_eq_true rfl⟩) [1, 2] [0] rfl rfl rfl rfl (fun r_24 u_6 H locs hw_24 hP7 hD7 hS7 => ?_)
        clear hP hD hS
        have hP := hP7
        have hD := hD7
        have hS := hS7
        clear hP7 hD7 hS7
        obtain rfl := hw_24
        replace hP : va_P D CLS [(tk, .inr (6, [.ref tp, .ref (xa 1), .ref (xa 2), .ref (xa 3), .int fi, .int (nI n), .int (nI i), .long w])), (tp, .inr (4, [.ref tpa])), (tpa, .inl (g 0, 2000, .inl tf))] H := hP
        replace hD : va_D A [(tk, .inr (6, [.ref tp, .ref (xa 1), .ref (xa 2), .ref (xa 3), .int fi, .int (nI n), .int (nI i), .long w])), (tp, .inr (4, [.ref tpa])), (tpa, .inl (g 0, 2000, .inl tf))] := hD
        refine k_topi (show (rat 2000 tf (nI i)) = (tf i) from rat_nI (by omega) (by omega)) ?_
        refine k_i hA hP hD hS [(tk, .inr (6, [.ref tp, .ref (xa 1), .ref (xa 2), .ref (xa 3), .int fi, .int (nI n), .int (nI i), .long w])), (tp, .inr (4, [.ref tpa])), (tpa, .inl (g 0, 2000, .inl tf))] (va_runS (As := [.int (tf i)]) (rest := []) ⟨hx, hb, hml, hown, hts⟩ (c_X8_isLetter l9 z D g (tf i)  (Array.size H)) (va_cwS 1 hts gs_X8_69 rfl rfl rfl (by decide +kernel) ⟨Nat.le_of_ble_eq_true rfl, Nat.le_of_ble_eq_true rfl⟩) ⟨kBlind, kPre.pc hK hZ hA hP hD hS [] rfl (by decide +kernel)⟩ rfl rfl hl.1 rfl (lv_room (Nat.le_of_ble_eq_true rfl)) dX8_nextWord_27 ⟨Nat.le_of_ble_eq_true rfl, Nat.le_of_ble_eq_true rfl⟩) [] [0, 1, 2] rfl rfl rfl rfl (fun r_27 u_7 H locs hw_27 hP7 hD7 hS7 => ?_)
        clear hP hD hS
        have hP := hP7
        have hD := hD7
        have hS := hS7
        clear hP7 hD7 hS7
        obtain rfl := hw_27
        replace hP : va_P D CLS [(tk, .inr (6, [.ref tp, .ref (xa 1), .ref (xa 2), .ref (xa 3), .int fi, .int (nI n), .int (nI i), .long w])), (tp, .inr (4, [.ref tpa])), (tpa, .inl (g 0, 2000, .inl tf))] H := hP
        replace hD : va_D A [(tk, .inr (6, [.ref tp, .ref (xa 1), .ref (xa 2), .ref (xa 3), .int fi, .int (nI n), .int (nI i), .long w])), (tp, .inr (4, [.ref tpa])), (tpa, .inl (g 0, 2000, .inl tf))] := hD
        refine lv_if_ne (tgt := 50) hx hb dX8_nextWord_30 (by decide) (fun c_30 => ?_) (fun c_30 => ?_)
        · skip
          have c_30 := bI_1.mp c_30
          refine lv_aload_n hx hb dX8_nextWord_50 rfl (lv_at hl 0 rfl) ?_
          refine lv_aload_n hx hb dX8_nextWord_51 rfl (lv_at hl 0 rfl) ?_
          refine va_get (D := D) (ci := 6) (v := .long w) (C := RX8) (T := TX8) (N := 8) hx hb hts in_X8 hown hK hP 0 rfl rfl 7 (by decide) (hts _ w_282) (fun _ h9 => h9) rfl dX8_nextWord_52 ?_
          refine lv_aload_n hx hb dX8_nextWord_55 rfl (lv_at hl 0 rfl) ?_
          refine va_get (D := D) (ci := 6) (v := .ref tp) (C := RX8) (T := TX8) (N := 8) hx hb hts in_X8 hown hK hP 0 rfl rfl 0 (by decide) (hts _ w_274) (fun _ h9 => h9) rfl dX8_nextWord_56 ?_
          refine lv_aload_n hx hb dX8_nextWord_59 rfl (lv_at hl 0 rfl) ?_
          refine va_get (D := D) (ci := 6) (v := .int (nI i)) (C := RX8) (T := TX8) (N := 8) hx hb hts in_X8 hown hK hP 0 rfl rfl 6 (by decide) (hts _ w_281) (fun _ h9 => h9) rfl dX8_nextWord_60 ?_
          refine k_i hA hP hD hS [(tk, .inr (6, [.ref tp, .ref (xa 1), .ref (xa 2), .ref (xa 3), .int fi, .int (nI n), .int (nI i), .long w]))] (va_runV (As := [.int (nI i)]) (rest := [.long w, .ref tk]) ⟨hx, hb, hml, hown, hts⟩ (c_X5_at l9 z D g tp tpa 2000 tf (nI i) (by first | assumption | decide | omega) (Array.size H)) (cwV 1 hts gv_X8_51 rfl rfl rfl (by decide +kernel) ⟨Nat.le_of_ble_eq_true rfl, Nat.le_of_ble_eq_true rfl⟩) ⟨kBlind, va_recv hK hP (ci := 4) (q0 := 1) rfl rfl, kPre.pc hK hZ hA hP hD hS [1, 2] rfl (by decide +kernel)⟩ rfl rfl hl.1 rfl (lv_room (Nat.le_of_ble_eq_true rfl)) dX8_nextWord_63 ⟨Nat.le_of_ble_eq_true rfl, Nat.le_of_ble_eq_true rfl⟩) [1, 2] [0] rfl rfl rfl rfl (fun r_63 u_8 H locs hw_63 hP7 hD7 hS7 => ?_)
          clear hP hD hS
          have hP := hP7
          have hD := hD7
          have hS := hS7
          clear hP7 hD7 hS7
          obtain rfl := hw_63
          replace hP : va_P D CLS [(tk, .inr (6, [.ref tp, .ref (xa 1), .ref (xa 2), .ref (xa 3), .int fi, .int (nI n), .int (nI i), .long w])), (tp, .inr (4, [.ref tpa])), (tpa, .inl (g 0, 2000, .inl tf))] H := hP
          replace hD : va_D A [(tk, .inr (6, [.ref tp, .ref (xa 1), .ref (xa 2), .ref (xa 3), .int fi, .int (nI n), .int (nI i), .long w])), (tp, .inr (4, [.ref tpa])), (tpa, .inl (g 0, 2000, .inl tf))] := hD
          refine k_topi (show (rat 2000 tf (nI i)) = (tf i) from rat_nI (by omega) (by omega)) ?_
          refine k_l hA hP hD hS [(tk, .inr (6, [.ref tp, .ref (xa 1), .ref (xa 2), .ref (xa 3), .int fi, .int (nI n), .int (nI i), .long w])), (tp, .inr (4, [.ref tpa])), (tpa, .inl (g 0, 2000, .inl tf))] (va_runS (As := [.long w, .int (tf i)]) (rest := [.ref tk]) ⟨hx, hb, hml, hown, hts⟩ (c_X6_longer l9 z D g w (tf i)  (Array.size H)) (va_cwS 2 hts gs_X8_86 rfl rfl rfl (by decide +kernel) ⟨Nat.le_of_ble_eq_true rfl, Nat.le_of_ble_eq_true rfl⟩) ⟨kBlind, kPre.pc hK hZ hA hP hD hS [] rfl (by decide +kernel)⟩ rfl rfl hl.1 rfl (lv_room (Nat.le_of_ble_eq_true rfl)) dX8_nextWord_66 ⟨Nat.le_of_ble_eq_true rfl, Nat.le_of_ble_eq_true rfl⟩) [] [0, 1, 2] rfl rfl rfl rfl (fun r_66 u_9 H locs hw_66 hP7 hD7 hS7 => ?_)
          clear hP hD hS
          have hP := hP7
          have hD := hD7
          have hS := hS7
          clear hP7 hD7 hS7
          obtain rfl := hw_66
          replace hP : va_P D CLS [(tk, .inr (6, [.ref tp, .ref (xa 1), .ref (xa 2), .ref (xa 3), .int fi, .int (nI n), .int (nI i), .long w])), (tp, .inr (4, [.ref tpa])), (tpa, .inl (g 0, 2000, .inl tf))] H := hP
          replace hD : va_D A [(tk, .inr (6, [.ref tp, .ref (xa 1), .ref (xa 2), .ref (xa 3), .int fi, .int (nI n), .int (nI i), .long w])), (tp, .inr (4, [.ref tpa])), (tpa, .inl (g 0, 2000, .inl tf))] := hD
          refine va_put (D := D) (ci := 6) (v := .long (lgr w (tf i))) (ty := .long) (C := RX8) (T := TX8) (N := 8) hx hb hts in_X8 tyX8 tyX8_ok nmX8 hown hK hP hD hS 0 rfl rfl 7 (by decide) (hts _ w_282) (fun _ h9 => h9) rfl (by decide +kernel) rfl rfl (Nat.le_of_ble_eq_true rfl) dX8_nextWord_69 (fun H locs hP7 hD7 hS7 => ?_)
          clear hP hD hS
          have hP := hP7
          have hD := hD7
          have hS := hS7
          clear hP7 hD7 hS7
          replace hP : va_P D CLS [(tk, .inr (6, [.ref tp, .ref (xa 1), .ref (xa 2), .ref (xa 3), .int fi, .int (nI n), .int (nI i), .long (lgr w (tf i))])), (tp, .inr (4, [.ref tpa])), (tpa, .inl (g 0, 2000, .inl tf))] H := hP
          replace hD : va_D A [(tk, .inr (6, [.ref tp, .ref (xa 1), .ref (xa 2), .ref (xa 3), .int fi, .int (nI n), .int (nI i), .long (lgr w (tf i))])), (tp, .inr (4, [.ref tpa])), (tpa, .inl (g 0, 2000, .inl tf))] := hD
          refine lv_aload_n hx hb dX8_nextWord_72 rfl (lv_at hl 0 rfl) ?_
          refine lv_dup hx hb dX8_nextWord_73 rfl ?_
          refine va_get (D := D) (ci := 6) (v := .int (nI i)) (C := RX8) (T := TX8) (N := 8) hx hb hts in_X8 hown hK hP 0 rfl rfl 6 (by decide) (hts _ w_281) (fun _ h9 => h9) rfl dX8_nextWord_74 ?_
          refine lv_iconst (v := 1) hx hb dX8_nextWord_77 (by decide) ?_
          refine k_inc hx hb dX8_nextWord_78 ?_
          refine va_put (D := D) (ci := 6) (v := .int (nI (i + 1))) (ty := .int) (C := RX8) (T := TX8) (N := 8) hx hb hts in_X8 tyX8 tyX8_ok nmX8 hown hK hP hD hS 0 rfl rfl 6 (by decide) (hts _ w_281) (fun _ h9 => h9) rfl (by decide +kernel) rfl rfl (Nat.le_of_ble_eq_true rfl) dX8_nextWord_79 (fun H locs hP7 hD7 hS7 => ?_)
          clear hP hD hS
          have hP := hP7
          have hD := hD7
          have hS := hS7
          clear hP7 hD7 hS7
          replace hP : va_P D CLS [(tk, .inr (6, [.ref tp, .ref (xa 1), .ref (xa 2), .ref (xa 3), .int fi, .int (nI n), .int (nI (i + 1)), .long (lgr w (tf i))])), (tp, .inr (4, [.ref tpa])), (tpa, .inl (g 0, 2000, .inl tf))] H := hP
          replace hD : va_D A [(tk, .inr (6, [.ref tp, .ref (xa 1), .ref (xa 2), .ref (xa 3), .int fi, .int (nI n), .int (nI (i + 1)), .long (lgr w (tf i))])), (tp, .inr (4, [.ref tpa])), (tpa, .inl (g 0, 2000, .inl tf))] := hD
          refine lv_goto (tgt := 5) hx hb dX8_nextWord_82 (by decide) ?_
          exact ih_5  (i + 1) (lgr w (tf i)) (by omega) (by omega) (by omega) (by rw [← hs]; exact (wdp_go (by omega) (by first | (rw [c_30]; rfl) | (rw [c_47]; exact Bool.or_true _))).symm) _ _ (kSub hP [0, 1, 2] rfl) (hD.sub [0, 1, 2] (by decide +kernel) rfl) hS ls (lv_sub hl [0, 1] rfl)
        · skip
          have c_30 := bI_0.mp c_30
          refine lv_aload_n hx hb dX8_nextWord_33 rfl (lv_at hl 0 rfl) ?_
          refine va_get (D := D) (ci := 6) (v := .ref tp) (C := RX8) (T := TX8) (N := 8) hx hb hts in_X8 hown hK hP 0 rfl rfl 0 (by decide) (hts _ w_274) (fun _ h9 => h9) rfl dX8_nextWord_34 ?_
          refine lv_aload_n hx hb dX8_nextWord_37 rfl (lv_at hl 0 rfl) ?_
          refine va_get (D := D) (ci := 6) (v := .int (nI i)) (C := RX8) (T := TX8) (N := 8) hx hb hts in_X8 hown hK hP 0 rfl rfl 6 (by decide) (hts _ w_281) (fun _ h9 => h9) rfl dX8_nextWord_38 ?_
          refine k_i hA hP hD hS [(tk, .inr (6, [.ref tp, .ref (xa 1), .ref (xa 2), .ref (xa 3), .int fi, .int (nI n), .int (nI i), .long w]))] (va_runV (As := [.int (nI i)]) (rest := []) ⟨hx, hb, hml, hown, hts⟩ (c_X5_at l9 z D g tp tpa 2000 tf (nI i) (by first | assumption | decide | omega) (Array.size H)) (cwV 1 hts gv_X8_51 rfl rfl rfl (by decide +kernel) ⟨Nat.le_of_ble_eq_true rfl, Nat.le_of_ble_eq_true rfl⟩) ⟨kBlind, va_recv hK hP (ci := 4) (q0 := 1) rfl rfl, kPre.pc hK hZ hA hP hD hS [1, 2] rfl (by decide +kernel)⟩ rfl rfl hl.1 rfl (lv_room (Nat.le_of_ble_eq_true rfl)) dX8_nextWord_41 ⟨Nat.le_of_ble_eq_true rfl, Nat.le_of_ble_eq_true rfl⟩) [1, 2] [0] rfl rfl rfl rfl (fun r_41 u_10 H locs hw_41 hP7 hD7 hS7 => ?_)
          clear hP hD hS
          have hP := hP7
          have hD := hD7
          have hS := hS7
          clear hP7 hD7 hS7
          obtain rfl := hw_41
          replace hP : va_P D CLS [(tk, .inr (6, [.ref tp, .ref (xa 1), .ref (xa 2), .ref (xa 3), .int fi, .int (nI n), .int (nI i), .long w])), (tp, .inr (4, [.ref tpa])), (tpa, .inl (g 0, 2000, .inl tf))] H := hP
          replace hD : va_D A [(tk, .inr (6, [.ref tp, .ref (xa 1), .ref (xa 2), .ref (xa 3), .int fi, .int (nI n), .int (nI i), .long w])), (tp, .inr (4, [.ref tpa])), (tpa, .inl (g 0, 2000, .inl tf))] := hD
          refine k_topi (show (rat 2000 tf (nI i)) = (tf i) from rat_nI (by omega) (by omega)) ?_
          refine k_i hA hP hD hS [(tk, .inr (6, [.ref tp, .ref (xa 1), .ref (xa 2), .ref (xa 3), .int fi, .int (nI n), .int (nI i), .long w])), (tp, .inr (4, [.ref tpa])), (tpa, .inl (g 0, 2000, .inl tf))] (va_runS (As := [.int (tf i)]) (rest := []) ⟨hx, hb, hml, hown, hts⟩ (c_X8_isDigit l9 z D g (tf i)  (Array.size H)) (va_cwS 1 hts gs_X8_76 rfl rfl rfl (by decide +kernel) ⟨Nat.le_of_ble_eq_true rfl, Nat.le_of_ble_eq_true rfl⟩) ⟨kBlind, kPre.pc hK hZ hA hP hD hS [] rfl (by decide +kernel)⟩ rfl rfl hl.1 rfl (lv_room (Nat.le_of_ble_eq_true rfl)) dX8_nextWord_44 ⟨Nat.le_of_ble_eq_true rfl, Nat.le_of_ble_eq_true rfl⟩) [] [0, 1, 2] rfl rfl rfl rfl (fun r_44 u_11 H locs hw_44 hP7 hD7 hS7 => ?_)
          clear hP hD hS
          have hP := hP7
          have hD := hD7
          have hS := hS7
          clear hP7 hD7 hS7
          obtain rfl := hw_44
          replace hP : va_P D CLS [(tk, .inr (6, [.ref tp, .ref (xa 1), .ref (xa 2), .ref (xa 3), .int fi, .int (nI n), .int (nI i), .long w])), (tp, .inr (4, [.ref tpa])), (tpa, .inl (g 0, 2000, .inl tf))] H := hP
          replace hD : va_D A [(tk, .inr (6, [.ref tp, .ref (xa 1), .ref (xa 2), .ref (xa 3), .int fi, .int (nI n), .int (nI i), .long w])), (tp, .inr (4, [.ref tpa])), (tpa, .inl (g 0, 2000, .inl tf))] := hD
          refine lv_if_eq (tgt := 85) hx hb dX8_nextWord_47 (by decide) (fun c_47 => ?_) (fun c_47 => ?_)
          · skip
            have c_47 := bI_0.mp c_47
            have he : wdp tf n p v = (i, w) := by rw [← hs]; first | exact wdp_end (by omega) | exact wdp_stop (by omega) (by rw [c_30, c_47]; decide)
            refine lv_aload_n hx hb dX8_nextWord_85 rfl (lv_at hl 0 rfl) ?_
            refine va_get (D := D) (ci := 6) (v := .int (nI i)) (C := RX8) (T := TX8) (N := 8) hx hb hts in_X8 hown hK hP 0 rfl rfl 6 (by decide) (hts _ w_281) (fun _ h9 => h9) rfl dX8_nextWord_86 ?_
            refine lv_iload_n hx hb dX8_nextWord_89 rfl (lv_at hl 1 rfl) ?_
            refine lv_isub hx hb dX8_nextWord_90 ?_
            refine k_topi (show ((nI i) - (nI p)) = (nI (i - p)) from pk_sub hpi) ?_
            refine lv_bipush (v := 10) hx hb dX8_nextWord_91 (by decide) ?_
            refine lv_icmp_le (tgt := 102) hx hb dX8_nextWord_93 (by decide) (fun c_93 => ?_) (fun c_93 => ?_)
            · skip
              have c_93 : (i - p) ≤ 10 := (nI_leI (a := (i - p)) (b := 10) (by omega) (by omega)).mp c_93
              refine lv_aload_n hx hb dX8_nextWord_102 rfl (lv_at hl 0 rfl) ?_
              refine va_get (D := D) (ci := 6) (v := .long w) (C := RX8) (T := TX8) (N := 8) hx hb hts in_X8 hown hK hP 0 rfl rfl 7 (by decide) (hts _ w_282) (fun _ h9 => h9) rfl dX8_nextWord_103 ?_
              refine k_q hA hP hD hS [(tk, .inr (6, [.ref tp, .ref (xa 1), .ref (xa 2), .ref (xa 3), .int fi, .int (nI n), .int (nI i), .long w])), (tp, .inr (4, [.ref tpa])), (tpa, .inl (g 0, 2000, .inl tf))] (va_runS (As := [.long w]) (rest := []) ⟨hx, hb, hml, hown, hts⟩ (c_X6_ofWord l9 z D g w  (Array.size H)) (va_cwS 1 hts gs_X8_90 rfl rfl rfl (by decide +kernel) ⟨Nat.le_of_ble_eq_true rfl, Nat.le_of_ble_eq_true rfl⟩) ⟨kBlind, kPre.pc hK hZ hA hP hD hS [] rfl (by decide +kernel)⟩ rfl rfl hl.1 rfl (lv_room (Nat.le_of_ble_eq_true rfl)) dX8_nextWord_106 ⟨Nat.le_of_ble_eq_true rfl, Nat.le_of_ble_eq_true rfl⟩) [] [0, 1, 2] rfl rfl rfl rfl (fun r_106 u_12 H locs hw_106 hP7 hD7 hS7 => ?_)
              clear hP hD hS
              have hP := hP7
              have hD := hD7
              have hS := hS7
              clear hP7 hD7 hS7
              obtain rfl := hw_106
              replace hP : va_P D CLS [(tk, .inr (6, [.ref tp, .ref (xa 1), .ref (xa 2), .ref (xa 3), .int fi, .int (nI n), .int (nI i), .long w])), (tp, .inr (4, [.ref tpa])), (tpa, .inl (g 0, 2000, .inl tf))] H := hP
              replace hD : va_D A [(tk, .inr (6, [.ref tp, .ref (xa 1), .ref (xa 2), .ref (xa 3), .int fi, .int (nI n), .int (nI i), .long w])), (tp, .inr (4, [.ref tpa])), (tpa, .inl (g 0, 2000, .inl tf))] := hD
              have he_13 : (nI ((wdp tf n p v).1)) = (nI i) := by rw [he]
              have he_14 : ((wdp tf n p v).2) = w := by rw [he]
              have hP9 : va_P D CLS [(tk, .inr (6, [.ref tp, .ref (xa 1), .ref (xa 2), .ref (xa 3), .int fi, .int (nI n), .int (nI ((wdp tf n p v).1)), .long ((wdp tf n p v).2)])), (tp, .inr (4, [.ref tpa])), (tpa, .inl (g 0, 2000, .inl tf))] H := by rw [he_13, he_14]; exact kSub hP [0, 1, 2] rfl
              have hD9 : va_D A [(tk, .inr (6, [.ref tp, .ref (xa 1), .ref (xa 2), .ref (xa 3), .int fi, .int (nI n), .int (nI ((wdp tf n p v).1)), .long ((wdp tf n p v).2)])), (tp, .inr (4, [.ref tpa])), (tpa, .inl (g 0, 2000, .inl tf))] := by rw [he_13, he_14]; exact hD.sub [0, 1, 2] (by decide +kernel) rfl
              have hr9 : some (z (sword w)) = some (z (sg (if 10 < (wdp tf n p v).1 - p then 1 else sword (wdp tf n p v).2))) := by rw [he]; first | (rw [if_pos (show 10 < (i, w).1 - p by show 10 < i - p; omega)]; rfl) | (rw [if_neg (show ¬ 10 < (i, w).1 - p by show ¬ 10 < i - p; omega)]; congr 2; exact (sg_of (sg_lt _)).symm)
              exact W.aret (v := va_rf (some (z (sword w)))) hx hb hr (Or.inl ⟨_, rfl⟩) (va_rf_or _) (fun t9 ht9 hW9 => ⟨⟨some (z (sword w)), (), rfl, hr9, by rw [ht9]; exact hP9, va_K.moved hW9.alike hK, hD9⟩, hS.F ht9⟩) hS.2.2 dX8_nextWord_109
            · skip
              have c_93 : ¬ (i - p) ≤ 10 := fun h => c_93 ((nI_leI (a := (i - p)) (b := 10) (by omega) (by omega)).mpr h)
              refine va_gets (n := "BAD") hx hb (hZ.en.1 1 (by decide)).1 hS hown (hts _ w_962) (fun _ h9 => h9) dX8_nextWord_96 ?_
              refine lv_goto (tgt := 109) hx hb dX8_nextWord_99 (by decide) ?_
              have he_15 : (nI ((wdp tf n p v).1)) = (nI i) := by rw [he]
              have he_16 : ((wdp tf n p v).2) = w := by rw [he]
              have hP9 : va_P D CLS [(tk, .inr (6, [.ref tp, .ref (xa 1), .ref (xa 2), .ref (xa 3), .int fi, .int (nI n), .int (nI ((wdp tf n p v).1)), .long ((wdp tf n p v).2)])), (tp, .inr (4, [.ref tpa])), (tpa, .inl (g 0, 2000, .inl tf))] H := by rw [he_15, he_16]; exact kSub hP [0, 1, 2] rfl
              have hD9 : va_D A [(tk, .inr (6, [.ref tp, .ref (xa 1), .ref (xa 2), .ref (xa 3), .int fi, .int (nI n), .int (nI ((wdp tf n p v).1)), .long ((wdp tf n p v).2)])), (tp, .inr (4, [.ref tpa])), (tpa, .inl (g 0, 2000, .inl tf))] := by rw [he_15, he_16]; exact hD.sub [0, 1, 2] (by decide +kernel) rfl
              have hr9 : some (z 1) = some (z (sg (if 10 < (wdp tf n p v).1 - p then 1 else sword (wdp tf n p v).2))) := by rw [he]; first | (rw [if_pos (show 10 < (i, w).1 - p by show 10 < i - p; omega)]; rfl) | (rw [if_neg (show ¬ 10 < (i, w).1 - p by show ¬ 10 < i - p; omega)]; congr 2; exact (sg_of (sg_lt _)).symm)
              exact W.aret (v := va_rf (some (z 1))) hx hb hr (Or.inl ⟨_, rfl⟩) (va_rf_or _) (fun t9 ht9 hW9 => ⟨⟨some (z 1), (), rfl, hr9, by rw [ht9]; exact hP9, va_K.moved hW9.alike hK, hD9⟩, hS.F ht9⟩) hS.2.2 dX8_nextWord_109
          · skip
            have c_47 := bI_1.mp c_47
            refine lv_aload_n hx hb dX8_nextWord_50 rfl (lv_at hl 0 rfl) ?_
            refine lv_aload_n hx hb dX8_nextWord_51 rfl (lv_at hl 0 rfl) ?_
            refine va_get (D := D) (ci := 6) (v := .long w) (C := RX8) (T := TX8) (N := 8) hx hb hts in_X8 hown hK hP 0 rfl rfl 7 (by decide) (hts _ w_282) (fun _ h9 => h9) rfl dX8_nextWord_52 ?_
            refine lv_aload_n hx hb dX8_nextWord_55 rfl (lv_at hl 0 rfl) ?_
            refine va_get (D := D) (ci := 6) (v := .ref tp) (C := RX8) (T := TX8) (N := 8) hx hb hts in_X8 hown hK hP 0 rfl rfl 0 (by decide) (hts _ w_274) (fun _ h9 => h9) rfl dX8_nextWord_56 ?_
            refine lv_aload_n hx hb dX8_nextWord_59 rfl (lv_at hl 0 rfl) ?_
            refine va_get (D := D) (ci := 6) (v := .int (nI i)) (C := RX8) (T := TX8) (N := 8) hx hb hts in_X8 hown hK hP 0 rfl rfl 6 (by decide) (hts _ w_281) (fun _ h9 => h9) rfl dX8_nextWord_60 ?_
            refine k_i hA hP hD hS [(tk, .inr (6, [.ref tp, .ref (xa 1), .ref (xa 2), .ref (xa 3), .int fi, .int (nI n), .int (nI i), .long w]))] (va_runV (As := [.int (nI i)]) (rest := [.long w, .ref tk]) ⟨hx, hb, hml, hown, hts⟩ (c_X5_at l9 z D g tp tpa 2000 tf (nI i) (by first | assumption | decide | omega) (Array.size H)) (cwV 1 hts gv_X8_51 rfl rfl rfl (by decide +kernel) ⟨Nat.le_of_ble_eq_true rfl, Nat.le_of_ble_eq_true rfl⟩) ⟨kBlind, va_recv hK hP (ci := 4) (q0 := 1) rfl rfl, kPre.pc hK hZ hA hP hD hS [1, 2] rfl (by decide +kernel)⟩ rfl rfl hl.1 rfl (lv_room (Nat.le_of_ble_eq_true rfl)) dX8_nextWord_63 ⟨Nat.le_of_ble_eq_true rfl, Nat.le_of_ble_eq_true rfl⟩) [1, 2] [0] rfl rfl rfl rfl (fun r_63 u_17 H locs hw_63 hP7 hD7 hS7 => ?_)
            clear hP hD hS
            have hP := hP7
            have hD := hD7
            have hS := hS7
            clear hP7 hD7 hS7
            obtain rfl := hw_63
            replace hP : va_P D CLS [(tk, .inr (6, [.ref tp, .ref (xa 1), .ref (xa 2), .ref (xa 3), .int fi, .int (nI n), .int (nI i), .long w])), (tp, .inr (4, [.ref tpa])), (tpa, .inl (g 0, 2000, .inl tf))] H := hP
            replace hD : va_D A [(tk, .inr (6, [.ref tp, .ref (xa 1), .ref (xa 2), .ref (xa 3), .int fi, .int (nI n), .int (nI i), .long w])), (tp, .inr (4, [.ref tpa])), (tpa, .inl (g 0, 2000, .inl tf))] := hD
            refine k_topi (show (rat 2000 tf (nI i)) = (tf i) from rat_nI (by omega) (by omega)) ?_
            refine k_l hA hP hD hS [(tk, .inr (6, [.ref tp, .ref (xa 1), .ref (xa 2), .ref (xa 3), .int fi, .int (nI n), .int (nI i), .long w])), (tp, .inr (4, [.ref tpa])), (tpa, .inl (g 0, 2000, .inl tf))] (va_runS (As := [.long w, .int (tf i)]) (rest := [.ref tk]) ⟨hx, hb, hml, hown, hts⟩ (c_X6_longer l9 z D g w (tf i)  (Array.size H)) (va_cwS 2 hts gs_X8_86 rfl rfl rfl (by decide +kernel) ⟨Nat.le_of_ble_eq_true rfl, Nat.le_of_ble_eq_true rfl⟩) ⟨kBlind, kPre.pc hK hZ hA hP hD hS [] rfl (by decide +kernel)⟩ rfl rfl hl.1 rfl (lv_room (Nat.le_of_ble_eq_true rfl)) dX8_nextWord_66 ⟨Nat.le_of_ble_eq_true rfl, Nat.le_of_ble_eq_true rfl⟩) [] [0, 1, 2] rfl rfl rfl rfl (fun r_66 u_18 H locs hw_66 hP7 hD7 hS7 => ?_)
            clear hP hD hS
            have hP := hP7
            have hD := hD7
            have hS := hS7
            clear hP7 hD7 hS7
            obtain rfl := hw_66
            replace hP : va_P D CLS [(tk, .inr (6, [.ref tp, .ref (xa 1), .ref (xa 2), .ref (xa 3), .int fi, .int (nI n), .int (nI i), .long w])), (tp, .inr (4, [.ref tpa])), (tpa, .inl (g 0, 2000, .inl tf))] H := hP
            replace hD : va_D A [(tk, .inr (6, [.ref tp, .ref (xa 1), .ref (xa 2), .ref (xa 3), .int fi, .int (nI n), .int (nI i), .long w])), (tp, .inr (4, [.ref tpa])), (tpa, .inl (g 0, 2000, .inl tf))] := hD
            refine va_put (D := D) (ci := 6) (v := .long (lgr w (tf i))) (ty := .long) (C := RX8) (T := TX8) (N := 8) hx hb hts in_X8 tyX8 tyX8_ok nmX8 hown hK hP hD hS 0 rfl rfl 7 (by decide) (hts _ w_282) (fun _ h9 => h9) rfl (by decide +kernel) rfl rfl (Nat.le_of_ble_eq_true rfl) dX8_nextWord_69 (fun H locs hP7 hD7 hS7 => ?_)
            clear hP hD hS
            have hP := hP7
            have hD := hD7
            have hS := hS7
            clear hP7 hD7 hS7
            replace hP : va_P D CLS [(tk, .inr (6, [.ref tp, .ref (xa 1), .ref (xa 2), .ref (xa 3), .int fi, .int (nI n), .int (nI i), .long (lgr w (tf i))])), (tp, .inr (4, [.ref tpa])), (tpa, .inl (g 0, 2000, .inl tf))] H := hP
            replace hD : va_D A [(tk, .inr (6, [.ref tp, .ref (xa 1), .ref (xa 2), .ref (xa 3), .int fi, .int (nI n), .int (nI i), .long (lgr w (tf i))])), (tp, .inr (4, [.ref tpa])), (tpa, .inl (g 0, 2000, .inl tf))] := hD
            refine lv_aload_n hx hb dX8_nextWord_72 rfl (lv_at hl 0 rfl) ?_
            refine lv_dup hx hb dX8_nextWord_73 rfl ?_
            refine va_get (D := D) (ci := 6) (v := .int (nI i)) (C := RX8) (T := TX8) (N := 8) hx hb hts in_X8 hown hK hP 0 rfl rfl 6 (by decide) (hts _ w_281) (fun _ h9 => h9) rfl dX8_nextWord_74 ?_
            refine lv_iconst (v := 1) hx hb dX8_nextWord_77 (by decide) ?_
            refine k_inc hx hb dX8_nextWord_78 ?_
            refine va_put (D := D) (ci := 6) (v := .int (nI (i + 1))) (ty := .int) (C := RX8) (T := TX8) (N := 8) hx hb hts in_X8 tyX8 tyX8_ok nmX8 hown hK hP hD hS 0 rfl rfl 6 (by decide) (hts _ w_281) (fun _ h9 => h9) rfl (by decide +kernel) rfl rfl (Nat.le_of_ble_eq_true rfl) dX8_nextWord_79 (fun H locs hP7 hD7 hS7 => ?_)
            clear hP hD hS
            have hP := hP7
            have hD := hD7
            have hS := hS7
            clear hP7 hD7 hS7
            replace hP : va_P D CLS [(tk, .inr (6, [.ref tp, .ref (xa 1), .ref (xa 2), .ref (xa 3), .int fi, .int (nI n), .int (nI (i + 1)), .long (lgr w (tf i))])), (tp, .inr (4, [.ref tpa])), (tpa, .inl (g 0, 2000, .inl tf))] H := hP
            replace hD : va_D A [(tk, .inr (6, [.ref tp, .ref (xa 1), .ref (xa 2), .ref (xa 3), .int fi, .int (nI n), .int (nI (i + 1)), .long (lgr w (tf i))])), (tp, .inr (4, [.ref tpa])), (tpa, .inl (g 0, 2000, .inl tf))] := hD
            refine lv_goto (tgt := 5) hx hb dX8_nextWord_82 (by decide) ?_
            exact ih_5  (i + 1) (lgr w (tf i)) (by omega) (by omega) (by omega) (by rw [← hs]; exact (wdp_go (by omega) (by first | (rw [c_30]; rfl) | (rw [c_47]; exact Bool.or_true _))).symm) _ _ (kSub hP [0, 1, 2] rfl) (hD.sub [0, 1, 2] (by decide +kernel) rfl) hS ls (lv_sub hl [0, 1] rfl)
  exact loop_5 (n - p + 1) p v (by omega) hp (Nat.le_refl _) rfl _ _ (kSub hP [0, 1, 2] rfl) (hD.sub [0, 1, 2] (by decide +kernel) rfl) hS ls (lv_sub hl [1, 0] rfl)
theorem dX8_nextNumber_0 : decode cX8_nextNumber 0 = .ok (.aload_n 0, 1) := by decide +kernel
theorem dX8_nextNumber_1 : decode cX8_nextNumber 1 = .ok (.getfield 37, 3) := by decide +kernel
theorem dX8_nextNumber_4 : decode cX8_nextNumber 4 = .ok (.istore_n 1, 1) := by decide +kernel
theorem dX8_nextNumber_5 : decode cX8_nextNumber 5 = .ok (.aload_n 0, 1) := by decide +kernel
theorem dX8_nextNumber_6 : decode cX8_nextNumber 6 = .ok (.getfield 37, 3) := by decide +kernel
theorem dX8_nextNumber_9 : decode cX8_nextNumber 9 = .ok (.aload_n 0, 1) := by decide +kernel
theorem dX8_nextNumber_10 : decode cX8_nextNumber 10 = .ok (.getfield 34, 3) := by decide +kernel
theorem dX8_nextNumber_13 : decode cX8_nextNumber 13 = .ok (.if_icmp .ge 62, 3) := by decide +kernel
theorem dX8_nextNumber_16 : decode cX8_nextNumber 16 = .ok (.aload_n 0, 1) := by decide +kernel
theorem dX8_nextNumber_17 : decode cX8_nextNumber 17 = .ok (.getfield 44, 3) := by decide +kernel
theorem dX8_nextNumber_20 : decode cX8_nextNumber 20 = .ok (.aload_n 0, 1) := by decide +kernel
theorem dX8_nextNumber_21 : decode cX8_nextNumber 21 = .ok (.getfield 37, 3) := by decide +kernel
theorem dX8_nextNumber_24 : decode cX8_nextNumber 24 = .ok (.invokevirtual 51, 3) := by decide +kernel
theorem dX8_nextNumber_27 : decode cX8_nextNumber 27 = .ok (.invokestatic 76, 3) := by decide +kernel
theorem dX8_nextNumber_30 : decode cX8_nextNumber 30 = .ok (.ifCond .eq 45, 3) := by decide +kernel
theorem dX8_nextNumber_33 : decode cX8_nextNumber 33 = .ok (.aload_n 0, 1) := by decide +kernel
theorem dX8_nextNumber_34 : decode cX8_nextNumber 34 = .ok (.aload_n 0, 1) := by decide +kernel
theorem dX8_nextNumber_35 : decode cX8_nextNumber 35 = .ok (.getfield 40, 3) := by decide +kernel
theorem dX8_nextNumber_38 : decode cX8_nextNumber 38 = .ok (.ldc2_w 94, 3) := by decide +kernel
theorem dX8_nextNumber_41 : decode cX8_nextNumber 41 = .ok (.lmul, 1) := by decide +kernel
theorem dX8_nextNumber_42 : decode cX8_nextNumber 42 = .ok (.aload_n 0, 1) := by decide +kernel
theorem dX8_nextNumber_43 : decode cX8_nextNumber 43 = .ok (.getfield 44, 3) := by decide +kernel
theorem dX8_nextNumber_46 : decode cX8_nextNumber 46 = .ok (.aload_n 0, 1) := by decide +kernel
theorem dX8_nextNumber_47 : decode cX8_nextNumber 47 = .ok (.getfield 37, 3) := by decide +kernel
theorem dX8_nextNumber_50 : decode cX8_nextNumber 50 = .ok (.invokevirtual 51, 3) := by decide +kernel
theorem dX8_nextNumber_53 : decode cX8_nextNumber 53 = .ok (.i2l, 1) := by decide +kernel
theorem dX8_nextNumber_54 : decode cX8_nextNumber 54 = .ok (.ladd, 1) := by decide +kernel
theorem dX8_nextNumber_55 : decode cX8_nextNumber 55 = .ok (.ldc2_w 96, 3) := by decide +kernel
theorem dX8_nextNumber_58 : decode cX8_nextNumber 58 = .ok (.lsub, 1) := by decide +kernel
theorem dX8_nextNumber_59 : decode cX8_nextNumber 59 = .ok (.putfield 40, 3) := by decide +kernel
theorem dX8_nextNumber_62 : decode cX8_nextNumber 62 = .ok (.aload_n 0, 1) := by decide +kernel
theorem dX8_nextNumber_63 : decode cX8_nextNumber 63 = .ok (.dup, 1) := by decide +kernel
theorem dX8_nextNumber_64 : decode cX8_nextNumber 64 = .ok (.getfield 37, 3) := by decide +kernel
theorem dX8_nextNumber_67 : decode cX8_nextNumber 67 = .ok (.iconst 1, 1) := by decide +kernel
theorem dX8_nextNumber_68 : decode cX8_nextNumber 68 = .ok (.iadd, 1) := by decide +kernel
theorem dX8_nextNumber_69 : decode cX8_nextNumber 69 = .ok (.putfield 37, 3) := by decide +kernel
theorem dX8_nextNumber_72 : decode cX8_nextNumber 72 = .ok (.goto (-67), 3) := by decide +kernel
theorem dX8_nextNumber_75 : decode cX8_nextNumber 75 = .ok (.aload_n 0, 1) := by decide +kernel
theorem dX8_nextNumber_76 : decode cX8_nextNumber 76 = .ok (.getfield 37, 3) := by decide +kernel
theorem dX8_nextNumber_79 : decode cX8_nextNumber 79 = .ok (.iload_n 1, 1) := by decide +kernel
theorem dX8_nextNumber_80 : decode cX8_nextNumber 80 = .ok (.isub, 1) := by decide +kernel
theorem dX8_nextNumber_81 : decode cX8_nextNumber 81 = .ok (.bipush 6, 2) := by decide +kernel
theorem dX8_nextNumber_83 : decode cX8_nextNumber 83 = .ok (.if_icmp .le 9, 3) := by decide +kernel
theorem dX8_nextNumber_86 : decode cX8_nextNumber 86 = .ok (.getstatic 47, 3) := by decide +kernel
theorem dX8_nextNumber_89 : decode cX8_nextNumber 89 = .ok (.goto 6, 3) := by decide +kernel
theorem dX8_nextNumber_92 : decode cX8_nextNumber 92 = .ok (.getstatic 98, 3) := by decide +kernel
theorem dX8_nextNumber_95 : decode cX8_nextNumber 95 = .ok (.areturn, 1) := by decide +kernel
set_option maxHeartbeats 4000000 in
set_option maxRecDepth 100000 in
/-- Tokens.nextNumber -/
theorem c_X8_nextNumber (l9 : Launch) (z : Nat → Nat) (D : va_G) (g : Nat → ClassId) (tk : Nat) (xa : Nat → Nat) (tp : Nat) (tpa : Nat) (tf : Nat → Int32) (fi : Int32) (n : Nat) (p : Nat) (v : Int64) (hp : p ≤ n) (hn : n ≤ 2000) (sz : Nat) : Met l9 yX8_nextNumber (WS yX8_nextNumber cX8_nextNumber 2 (some (.object "ChoirStalls$Sign"))) ({ frames := 1, cells := 0, slots := 0, locals := 21 }) (va_Pc [.ref tk] (kPre z D g [(tk, .inr (6, [.ref tp, .ref (xa 1), .ref (xa 2), .ref (xa 3), .int fi, .int (nI n), .int (nI p), .long v])), (tp, .inr (4, [.ref tpa])), (tpa, .inl (g 0, 2000, .inl tf))] sz)) (va_Qq (fun (r9 : Option Nat) (u9 : Unit) => r9 = some (z (sg (if 6 < (nbp tf n p v).1 - p then 1 else 3)))) (kB D g (va_A [(tk, .inr (6, [.ref tp, .ref (xa 1), .ref (xa 2), .ref (xa 3), .int fi, .int (nI n), .int (nI p), .long v])), (tp, .inr (4, [.ref tpa])), (tpa, .inl (g 0, 2000, .inl tf))] sz) (fun (u9 : Unit) => [(tk, .inr (6, [.ref tp, .ref (xa 1), .ref (xa 2), .ref (xa 3), .int fi, .int (nI n), .int (nI ((nbp tf n p v).1)), .long ((nbp tf n p v).2)])), (tp, .inr (4, [.ref tpa])), (tpa, .inl (g 0, 2000, .inl tf))])) (va_A [(tk, .inr (6, [.ref tp, .ref (xa 1), .ref (xa 2), .ref (xa 3), .int fi, .int (nI n), .int (nI p), .long v])), (tp, .inr (4, [.ref tpa])), (tpa, .inl (g 0, 2000, .inl tf))] sz)) 0 0 (va_A [(tk, .inr (6, [.ref tp, .ref (xa 1), .ref (xa 2), .ref (xa 3), .int fi, .int (nI n), .int (nI p), .long v])), (tp, .inr (4, [.ref tpa])), (tpa, .inl (g 0, 2000, .inl tf))] sz) := by
  refine Met.ofW (cc := cX8_nextNumber) (maxL := 2) (ret := (some (.object "ChoirStalls$Sign"))) (by decide) rfl ?_
  intro p9 e9 s9 m9 args9 below9 meth9 c9 s₁ B hml hv
  obtain ⟨rfl, hsz, hP, hK, hD0, hZ⟩ := hv
  have hx := B.exec
  have hb := B.bytes
  have hr := B.returns
  have hts := ws_sub (atoms_spec (ws := WS yX8_nextNumber cX8_nextNumber 2 (some (.object "ChoirStalls$Sign"))) B.pre)
  have hown : s9.vm.findClass RX8 = some m9.cls := findClass_of_methodNamed B.named
  have hlocks := B.notSynchronized
  subst hsz
  have hD := hD0.self (sz := s9.heap.size)
  generalize hAe : va_A [(tk, .inr (6, [.ref tp, .ref (xa 1), .ref (xa 2), .ref (xa 3), .int fi, .int (nI n), .int (nI p), .long v])), (tp, .inr (4, [.ref tpa])), (tpa, .inl (g 0, 2000, .inl tf))] s9.heap.size = A at hD hZ ⊢
  have hA : ∀ q : Nat, s9.heap.size ≤ q → A q := fun q h => by rw [← hAe]; exact Or.inr h
  have hS : va_S A s9.heap s9.heap [] := va_S.rf
  have hP : va_P D CLS [(tk, .inr (6, [.ref tp, .ref (xa 1), .ref (xa 2), .ref (xa 3), .int fi, .int (nI n), .int (nI p), .long v])), (tp, .inr (4, [.ref tpa])), (tpa, .inl (g 0, 2000, .inl tf))] s9.heap := hP
  have hl := lv_entry ([.ref tk]) (n := 2) (Nat.le_of_ble_eq_true rfl)
  rw [lg_entry_eq]
  generalize (lg_sl ([.ref tk]) ++ List.replicate (2 - (lg_sl ([.ref tk])).length) Slot.unset).toArray = ls at hl ⊢
  have hl : lv_has ls 2 [(0, .ref tk)] := hl
  change W p9 l9 e9 ({ frames := 1, cells := 0, slots := 0, locals := 21 } : Room) s9 m9 _ below9 meth9 c9 _ _ _ _ _ _
  refine lv_aload_n hx hb dX8_nextNumber_0 rfl (lv_at hl 0 rfl) ?_
  refine va_get (D := D) (ci := 6) (v := .int (nI p)) (C := RX8) (T := TX8) (N := 8) hx hb hts in_X8 hown hK hP 0 rfl rfl 6 (by decide) (hts _ w_281) (fun _ h9 => h9) rfl dX8_nextNumber_1 ?_
  refine lv_istore_n (lv' := [(1, .int (nI p)), (0, .ref tk)]) hx hb dX8_nextNumber_4 rfl hl (by decide) rfl (fun ls hl => ?_)
  have loop_5 : ∀ (n9 : Nat) (i : Nat) (w : Int64), n9 > n - i → (i ≤ n) → (p ≤ i) → (nbp tf n i w = nbp tf n p v) → ∀ (H : Heap) (locs : List Loc), va_P D CLS [(tk, .inr (6, [.ref tp, .ref (xa 1), .ref (xa 2), .ref (xa 3), .int fi, .int (nI n), .int (nI i), .long w])), (tp, .inr (4, [.ref tpa])), (tpa, .inl (g 0, 2000, .inl tf))] H → va_D A [(tk, .inr (6, [.ref tp, .ref (xa 1), .ref (xa 2), .ref (xa 3), .int fi, .int (nI n), .int (nI i), .long w])), (tp, .inr (4, [.ref tpa])), (tpa, .inl (g 0, 2000, .inl tf))] → va_S A s9.heap H locs → ∀ (ls : Array Slot), lv_has ls 2 [(0, .ref tk), (1, .int (nI p))] → W p9 l9 e9 ({ frames := 1, cells := 0, slots := 0, locals := 21 } : Room) s9 m9 ([.ref tk] : List Value).toArray below9 meth9 c9 H locs 0 0 (MQ below9 (va_Qq (fun (r9 : Option Nat) (u9 : Unit) => r9 = some (z (sg (if 6 < (nbp tf n p v).1 - p then 1 else 3)))) (kB D g A (fun (u9 : Unit) => [(tk, .inr (6, [.ref tp, .ref (xa 1), .ref (xa 2), .ref (xa 3), .int fi, .int (nI n), .int (nI ((nbp tf n p v).1)), .long ((nbp tf n p v).2)])), (tp, .inr (4, [.ref tpa])), (tpa, .inl (g 0, 2000, .inl tf))])) A) ([.ref tk] : List Value).toArray s9 0 0 A) (F0 m9 5 ls []) := by
    intro n9
    induction n9 with
    | zero => intro i w hm9; exact absurd hm9 (by omega)
    | succ n9 ih_5 =>
      intro i w hm9 hi hpi hs H locs hP hD hS ls hl
      refine lv_aload_n hx hb dX8_nextNumber_5 rfl (lv_at hl 0 rfl) ?_
      refine va_get (D := D) (ci := 6) (v := .int (nI i)) (C := RX8) (T := TX8) (N := 8) hx hb hts in_X8 hown hK hP 0 rfl rfl 6 (by decide) (hts _ w_281) (fun _ h9 => h9) rfl dX8_nextNumber_6 ?_
      refine lv_aload_n hx hb dX8_nextNumber_9 rfl (lv_at hl 0 rfl) ?_
      refine va_get (D := D) (ci := 6) (v := .int (nI n)) (C := RX8) (T := TX8) (N := 8) hx hb hts in_X8 hown hK hP 0 rfl rfl 5 (by decide) (hts _ w_280) (fun _ h9 => h9) rfl dX8_nextNumber_10 ?_
      refine lv_icmp_ge (tgt := 75) hx hb dX8_nextNumber_13 (by decide) (fun c_13 => ?_) (fun c_13 => ?_)
      · skip
        have c_13 : n ≤ i := (nI_leI (a := n) (b := i) (by omega) (by omega)).mp c_13
        have he : nbp tf n p v = (i, w) := by rw [← hs]; first | exact nbp_end (by omega) | exact nbp_stop (by omega) c_30
        refine lv_aload_n hx hb dX8_nextNumber_75 rfl (lv_at hl 0 rfl) ?_
        refine va_get (D := D) (ci := 6) (v := .int (nI i)) (C := RX8) (T := TX8) (N := 8) hx hb hts in_X8 hown hK hP 0 rfl rfl 6 (by decide) (hts _ w_281) (fun _ h9 => h9) rfl dX8_nextNumber_76 ?_
        refine lv_iload_n hx hb dX8_nextNumber_79 rfl (lv_at hl 1 rfl) ?_
        refine lv_isub hx hb dX8_nextNumber_80 ?_
        refine k_topi (show ((nI i) - (nI p)) = (nI (i - p)) from pk_sub hpi) ?_
        refine lv_bipush (v := 6) hx hb dX8_nextNumber_81 (by decide) ?_
        refine lv_icmp_le (tgt := 92) hx hb dX8_nextNumber_83 (by decide) (fun c_83 => ?_) (fun c_83 => ?_)
        · skip
          have c_83 : (i - p) ≤ 6 := (nI_leI (a := (i - p)) (b := 6) (by omega) (by omega)).mp c_83
          refine va_gets (n := "NUMBER") hx hb (hZ.en.1 3 (by decide)).1 hS hown (hts _ w_976) (fun _ h9 => h9) dX8_nextNumber_92 ?_
          have he_1 : (nI ((nbp tf n p v).1)) = (nI i) := by rw [he]
          have he_2 : ((nbp tf n p v).2) = w := by rw [he]
          have hP9 : va_P D CLS [(tk, .inr (6, [.ref tp, .ref (xa 1), .ref (xa 2), .ref (xa 3), .int fi, .int (nI n), .int (nI ((nbp tf n p v).1)), .long ((nbp tf n p v).2)])), (tp, .inr (4, [.ref tpa])), (tpa, .inl (g 0, 2000, .inl tf))] H := by rw [he_1, he_2]; exact kSub hP [0, 1, 2] rfl
          have hD9 : va_D A [(tk, .inr (6, [.ref tp, .ref (xa 1), .ref (xa 2), .ref (xa 3), .int fi, .int (nI n), .int (nI ((nbp tf n p v).1)), .long ((nbp tf n p v).2)])), (tp, .inr (4, [.ref tpa])), (tpa, .inl (g 0, 2000, .inl tf))] := by rw [he_1, he_2]; exact hD.sub [0, 1, 2] (by decide +kernel) rfl
          have hr9 : some (z 3) = some (z (sg (if 6 < (nbp tf n p v).1 - p then 1 else 3))) := by rw [he]; first | (rw [if_pos (show 6 < (i, w).1 - p by show 6 < i - p; omega)]; rfl) | (rw [if_neg (show ¬ 6 < (i, w).1 - p by show ¬ 6 < i - p; omega)]; rfl)
          exact W.aret (v := va_rf (some (z 3))) hx hb hr (Or.inl ⟨_, rfl⟩) (va_rf_or _) (fun t9 ht9 hW9 => ⟨⟨some (z 3), (), rfl, hr9, by rw [ht9]; exact hP9, va_K.moved hW9.alike hK, hD9⟩, hS.F ht9⟩) hS.2.2 dX8_nextNumber_95
        · skip
          have c_83 : ¬ (i - p) ≤ 6 := fun h => c_83 ((nI_leI (a := (i - p)) (b := 6) (by omega) (by omega)).mpr h)
          refine va_gets (n := "BAD") hx hb (hZ.en.1 1 (by decide)).1 hS hown (hts _ w_962) (fun _ h9 => h9) dX8_nextNumber_86 ?_
          refine lv_goto (tgt := 95) hx hb dX8_nextNumber_89 (by decide) ?_
          have he_3 : (nI ((nbp tf n p v).1)) = (nI i) := by rw [he]
          have he_4 : ((nbp tf n p v).2) = w := by rw [he]
          have hP9 : va_P D CLS [(tk, .inr (6, [.ref tp, .ref (xa 1), .ref (xa 2), .ref (xa 3), .int fi, .int (nI n), .int (nI ((nbp tf n p v).1)), .long ((nbp tf n p v).2)])), (tp, .inr (4, [.ref tpa])), (tpa, .inl (g 0, 2000, .inl tf))] H := by rw [he_3, he_4]; exact kSub hP [0, 1, 2] rfl
          have hD9 : va_D A [(tk, .inr (6, [.ref tp, .ref (xa 1), .ref (xa 2), .ref (xa 3), .int fi, .int (nI n), .int (nI ((nbp tf n p v).1)), .long ((nbp tf n p v).2)])), (tp, .inr (4, [.ref tpa])), (tpa, .inl (g 0, 2000, .inl tf))] := by rw [he_3, he_4]; exact hD.sub [0, 1, 2] (by decide +kernel) rfl
          have hr9 : some (z 1) = some (z (sg (if 6 < (nbp tf n p v).1 - p then 1 else 3))) := by rw [he]; first | (rw [if_pos (show 6 < (i, w).1 - p by show 6 < i - p; omega)]; rfl) | (rw [if_neg (show ¬ 6 < (i, w).1 - p by show ¬ 6 < i - p; omega)]; rfl)
          exact W.aret (v := va_rf (some (z 1))) hx hb hr (Or.inl ⟨_, rfl⟩) (va_rf_or _) (fun t9 ht9 hW9 => ⟨⟨some (z 1), (), rfl, hr9, by rw [ht9]; exact hP9, va_K.moved hW9.alike hK, hD9⟩, hS.F ht9⟩) hS.2.2 dX8_nextNumber_95
      · skip
        have c_13 : ¬ n ≤ i := fun h => c_13 ((nI_leI (a := n) (b := i) (by omega) (by omega)).mpr h)
        refine lv_aload_n hx hb dX8_nextNumber_16 rfl (lv_at hl 0 rfl) ?_
        refine va_get (D := D) (ci := 6) (v := .ref tp) (C := RX8) (T := TX8) (N := 8) hx hb hts in_X8 hown hK hP 0 rfl rfl 0 (by decide) (hts _ w_274) (fun _ h9 => h9) rfl dX8_nextNumber_17 ?_
        refine lv_aload_n hx hb dX8_nextNumber_20 rfl (lv_at hl 0 rfl) ?_
        refine va_get (D := D) (ci := 6) (v := .int (nI i)) (C := RX8) (T := TX8) (N := 8) hx hb hts in_X8 hown hK hP 0 rfl rfl 6 (by decide) (hts _ w_281) (fun _ h9 => h9) rfl dX8_nextNumber_21 ?_
        refine k_i hA hP hD hS [(tk, .inr (6, [.ref tp, .ref (xa 1), .ref (xa 2), .ref (xa 3), .int fi, .int (nI n), .int (nI i), .long w]))] (va_runV (As := [.int (nI i)]) (rest := []) ⟨hx, hb, hml, hown, hts⟩ (c_X5_at l9 z D g tp tpa 2000 tf (nI i) (by first | assumption | decide | omega) (Array.size H)) (cwV 1 hts gv_X8_51 rfl rfl rfl (by decide +kernel) ⟨Nat.le_of_ble_eq_true rfl, Nat.le_of_ble_eq_true rfl⟩) ⟨kBlind, va_recv hK hP (ci := 4) (q0 := 1) rfl rfl, kPre.pc hK hZ hA hP hD hS [1, 2] rfl (by decide +kernel)⟩ rfl rfl hl.1 rfl (lv_room (Nat.le_of_ble_eq_true rfl)) dX8_nextNumber_24 ⟨Nat.le_of_ble_eq_true rfl, Nat.le_of_ble_eq_true rfl⟩) [1, 2] [0] rfl rfl rfl rfl (fun r_24 u_5 H locs hw_24 hP7 hD7 hS7 => ?_)
        clear hP hD hS
        have hP := hP7
        have hD := hD7
        have hS := hS7
        clear hP7 hD7 hS7
        obtain rfl := hw_24
        replace hP : va_P D CLS [(tk, .inr (6, [.ref tp, .ref (xa 1), .ref (xa 2), .ref (xa 3), .int fi, .int (nI n), .int (nI i), .long w])), (tp, .inr (4, [.ref tpa])), (tpa, .inl (g 0, 2000, .inl tf))] H := hP
        replace hD : va_D A [(tk, .inr (6, [.ref tp, .ref (xa 1), .ref (xa 2), .ref (xa 3), .int fi, .int (nI n), .int (nI i), .long w])), (tp, .inr (4, [.ref tpa])), (tpa, .inl (g 0, 2000, .inl tf))] := hD
        refine k_topi (show (rat 2000 tf (nI i)) = (tf i) from rat_nI (by omega) (by omega)) ?_
        refine k_i hA hP hD hS [(tk, .inr (6, [.ref tp, .ref (xa 1), .ref (xa 2), .ref (xa 3), .int fi, .int (nI n), .int (nI i), .long w])), (tp, .inr (4, [.ref tpa])), (tpa, .inl (g 0, 2000, .inl tf))] (va_runS (As := [.int (tf i)]) (rest := []) ⟨hx, hb, hml, hown, hts⟩ (c_X8_isDigit l9 z D g (tf i)  (Array.size H)) (va_cwS 1 hts gs_X8_76 rfl rfl rfl (by decide +kernel) ⟨Nat.le_of_ble_eq_true rfl, Nat.le_of_ble_eq_true rfl⟩) ⟨kBlind, kPre.pc hK hZ hA hP hD hS [] rfl (by decide +kernel)⟩ rfl rfl hl.1 rfl (lv_room (Nat.le_of_ble_eq_true rfl)) dX8_nextNumber_27 ⟨Nat.le_of_ble_eq_true rfl, Nat.le_of_ble_eq_true rfl⟩) [] [0, 1, 2] rfl rfl rfl rfl (fun r_27 u_6 H locs hw_27 hP7 hD7 hS7 => ?_)
        clear hP hD hS
        have hP := hP7
        have hD := hD7
        have hS := hS7
        clear hP7 hD7 hS7
        obtain rfl := hw_27
        replace hP : va_P D CLS [(tk, .inr (6, [.ref tp, .ref (xa 1), .ref (xa 2), .ref (xa 3), .int fi, .int (nI n), .int (nI i), .long w])), (tp, .inr (4, [.ref tpa])), (tpa, .inl (g 0, 2000, .inl tf))] H := hP
        replace hD : va_D A [(tk, .inr (6, [.ref tp, .ref (xa 1), .ref (xa 2), .ref (xa 3), .int fi, .int (nI n), .int (nI i), .long w])), (tp, .inr (4, [.ref tpa])), (tpa, .inl (g 0, 2000, .inl tf))] := hD
        refine lv_if_eq (tgt := 75) hx hb dX8_nextNumber_30 (by decide) (fun c_30 => ?_) (fun c_30 => ?_)
        · skip
          have c_30 := bI_0.mp c_30
          have he : nbp tf n p v = (i, w) := by rw [← hs]; first | exact nbp_end (by omega) | exact nbp_stop (by omega) c_30
          refine lv_aload_n hx hb dX8_nextNumber_75 rfl (lv_at hl 0 rfl) ?_
          refine va_get (D := D) (ci := 6) (v := .int (nI i)) (C := RX8) (T := TX8) (N := 8) hx hb hts in_X8 hown hK hP 0 rfl rfl 6 (by decide) (hts _ w_281) (fun _ h9 => h9) rfl dX8_nextNumber_76 ?_
          refine lv_iload_n hx hb dX8_nextNumber_79 rfl (lv_at hl 1 rfl) ?_
          refine lv_isub hx hb dX8_nextNumber_80 ?_
          refine k_topi (show ((nI i) - (nI p)) = (nI (i - p)) from pk_sub hpi) ?_
          refine lv_bipush (v := 6) hx hb dX8_nextNumber_81 (by decide) ?_
          refine lv_icmp_le (tgt := 92) hx hb dX8_nextNumber_83 (by decide) (fun c_83 => ?_) (fun c_83 => ?_)
          · skip
            have c_83 : (i - p) ≤ 6 := (nI_leI (a := (i - p)) (b := 6) (by omega) (by omega)).mp c_83
            refine va_gets (n := "NUMBER") hx hb (hZ.en.1 3 (by decide)).1 hS hown (hts _ w_976) (fun _ h9 => h9) dX8_nextNumber_92 ?_
            have he_7 : (nI ((nbp tf n p v).1)) = (nI i) := by rw [he]
            have he_8 : ((nbp tf n p v).2) = w := by rw [he]
            have hP9 : va_P D CLS [(tk, .inr (6, [.ref tp, .ref (xa 1), .ref (xa 2), .ref (xa 3), .int fi, .int (nI n), .int (nI ((nbp tf n p v).1)), .long ((nbp tf n p v).2)])), (tp, .inr (4, [.ref tpa])), (tpa, .inl (g 0, 2000, .inl tf))] H := by rw [he_7, he_8]; exact kSub hP [0, 1, 2] rfl
            have hD9 : va_D A [(tk, .inr (6, [.ref tp, .ref (xa 1), .ref (xa 2), .ref (xa 3), .int fi, .int (nI n), .int (nI ((nbp tf n p v).1)), .long ((nbp tf n p v).2)])), (tp, .inr (4, [.ref tpa])), (tpa, .inl (g 0, 2000, .inl tf))] := by rw [he_7, he_8]; exact hD.sub [0, 1, 2] (by decide +kernel) rfl
            have hr9 : some (z 3) = some (z (sg (if 6 < (nbp tf n p v).1 - p then 1 else 3))) := by rw [he]; first | (rw [if_pos (show 6 < (i, w).1 - p by show 6 < i - p; omega)]; rfl) | (rw [if_neg (show ¬ 6 < (i, w).1 - p by show ¬ 6 < i - p; omega)]; rfl)
            exact W.aret (v := va_rf (some (z 3))) hx hb hr (Or.inl ⟨_, rfl⟩) (va_rf_or _) (fun t9 ht9 hW9 => ⟨⟨some (z 3), (), rfl, hr9, by rw [ht9]; exact hP9, va_K.moved hW9.alike hK, hD9⟩, hS.F ht9⟩) hS.2.2 dX8_nextNumber_95
          · skip
            have c_83 : ¬ (i - p) ≤ 6 := fun h => c_83 ((nI_leI (a := (i - p)) (b := 6) (by omega) (by omega)).mpr h)
            refine va_gets (n := "BAD") hx hb (hZ.en.1 1 (by decide)).1 hS hown (hts _ w_962) (fun _ h9 => h9) dX8_nextNumber_86 ?_
            refine lv_goto (tgt := 95) hx hb dX8_nextNumber_89 (by decide) ?_
            have he_9 : (nI ((nbp tf n p v).1)) = (nI i) := by rw [he]
            have he_10 : ((nbp tf n p v).2) = w := by rw [he]
            have hP9 : va_P D CLS [(tk, .inr (6, [.ref tp, .ref (xa 1), .ref (xa 2), .ref (xa 3), .int fi, .int (nI n), .int (nI ((nbp tf n p v).1)), .long ((nbp tf n p v).2)])), (tp, .inr (4, [.ref tpa])), (tpa, .inl (g 0, 2000, .inl tf))] H := by rw [he_9, he_10]; exact kSub hP [0, 1, 2] rfl
            have hD9 : va_D A [(tk, .inr (6, [.ref tp, .ref (xa 1), .ref (xa 2), .ref (xa 3), .int fi, .int (nI n), .int (nI ((nbp tf n p v).1)), .long ((nbp tf n p v).2)])), (tp, .inr (4, [.ref tpa])), (tpa, .inl (g 0, 2000, .inl tf))] := by rw [he_9, he_10]; exact hD.sub [0, 1, 2] (by decide +kernel) rfl
            have hr9 : some (z 1) = some (z (sg (if 6 < (nbp tf n p v).1 - p then 1 else 3))) := by rw [he]; first | (rw [if_pos (show 6 < (i, w).1 - p by show 6 < i - p; omega)]; rfl) | (rw [if_neg (show ¬ 6 < (i, w).1 - p by show ¬ 6 < i - p; omega)]; rfl)
            exact W.aret (v := va_rf (some (z 1))) hx hb hr (Or.inl ⟨_, rfl⟩) (va_rf_or _) (fun t9 ht9 hW9 => ⟨⟨some (z 1), (), rfl, hr9, by rw [ht9]; exact hP9, va_K.moved hW9.alike hK, hD9⟩, hS.F ht9⟩) hS.2.2 dX8_nextNumber_95
        · skip
          have c_30 := bI_1.mp c_30
          refine lv_aload_n hx hb dX8_nextNumber_33 rfl (lv_at hl 0 rfl) ?_
          refine lv_aload_n hx hb dX8_nextNumber_34 rfl (lv_at hl 0 rfl) ?_
          refine va_get (D := D) (ci := 6) (v := .long w) (C := RX8) (T := TX8) (N := 8) hx hb hts in_X8 hown hK hP 0 rfl rfl 7 (by decide) (hts _ w_282) (fun _ h9 => h9) rfl dX8_nextNumber_35 ?_
          refine lv_ldc2 (own := RX8) (v := 10) hx hb hown (hts _ w_974) dX8_nextNumber_38 ?_
          refine lv_lmul hx hb dX8_nextNumber_41 ?_
          refine lv_aload_n hx hb dX8_nextNumber_42 rfl (lv_at hl 0 rfl) ?_
          refine va_get (D := D) (ci := 6) (v := .ref tp) (C := RX8) (T := TX8) (N := 8) hx hb hts in_X8 hown hK hP 0 rfl rfl 0 (by decide) (hts _ w_274) (fun _ h9 => h9) rfl dX8_nextNumber_43 ?_
          refine lv_aload_n hx hb dX8_nextNumber_46 rfl (lv_at hl 0 rfl) ?_
          refine va_get (D := D) (ci := 6) (v := .int (nI i)) (C := RX8) (T := TX8) (N := 8) hx hb hts in_X8 hown hK hP 0 rfl rfl 6 (by decide) (hts _ w_281) (fun _ h9 => h9) rfl dX8_nextNumber_47 ?_
          refine k_i hA hP hD hS [(tk, .inr (6, [.ref tp, .ref (xa 1), .ref (xa 2), .ref (xa 3), .int fi, .int (nI n), .int (nI i), .long w]))] (va_runV (As := [.int (nI i)]) (rest := [.long (w * 10), .ref tk]) ⟨hx, hb, hml, hown, hts⟩ (c_X5_at l9 z D g tp tpa 2000 tf (nI i) (by first | assumption | decide | omega) (Array.size H)) (cwV 1 hts gv_X8_51 rfl rfl rfl (by decide +kernel) ⟨Nat.le_of_ble_eq_true rfl, Nat.le_of_ble_eq_true rfl⟩) ⟨kBlind, va_recv hK hP (ci := 4) (q0 := 1) rfl rfl, kPre.pc hK hZ hA hP hD hS [1, 2] rfl (by decide +kernel)⟩ rfl rfl hl.1 rfl (lv_room (Nat.le_of_ble_eq_true rfl)) dX8_nextNumber_50 ⟨Nat.le_of_ble_eq_true rfl, Nat.le_of_ble_eq_true rfl⟩) [1, 2] [0] rfl rfl rfl rfl (fun r_50 u_11 H locs hw_50 hP7 hD7 hS7 => ?_)
          clear hP hD hS
          have hP := hP7
          have hD := hD7
          have hS := hS7
          clear hP7 hD7 hS7
          obtain rfl := hw_50
          replace hP : va_P D CLS [(tk, .inr (6, [.ref tp, .ref (xa 1), .ref (xa 2), .ref (xa 3), .int fi, .int (nI n), .int (nI i), .long w])), (tp, .inr (4, [.ref tpa])), (tpa, .inl (g 0, 2000, .inl tf))] H := hP
          replace hD : va_D A [(tk, .inr (6, [.ref tp, .ref (xa 1), .ref (xa 2), .ref (xa 3), .int fi, .int (nI n), .int (nI i), .long w])), (tp, .inr (4, [.ref tpa])), (tpa, .inl (g 0, 2000, .inl tf))] := hD
          refine k_topi (show (rat 2000 tf (nI i)) = (tf i) from rat_nI (by omega) (by omega)) ?_
          refine lv_i2l hx hb dX8_nextNumber_53 rfl ?_
          refine lv_ladd hx hb dX8_nextNumber_54 ?_
          refine lv_ldc2 (own := RX8) (v := 48) hx hb hown (hts _ w_975) dX8_nextNumber_55 ?_
          refine lv_lsub hx hb dX8_nextNumber_58 ?_
          refine va_put (D := D) (ci := 6) (v := .long (((w * 10) + ((tf i).toInt64)) - 48)) (ty := .long) (C := RX8) (T := TX8) (N := 8) hx hb hts in_X8 tyX8 tyX8_ok nmX8 hown hK hP hD hS 0 rfl rfl 7 (by decide) (hts _ w_282) (fun _ h9 => h9) rfl (by decide +kernel) rfl rfl (Nat.le_of_ble_eq_true rfl) dX8_nextNumber_59 (fun H locs hP7 hD7 hS7 => ?_)
          clear hP hD hS
          have hP := hP7
          have hD := hD7
          have hS := hS7
          clear hP7 hD7 hS7
          replace hP : va_P D CLS [(tk, .inr (6, [.ref tp, .ref (xa 1), .ref (xa 2), .ref (xa 3), .int fi, .int (nI n), .int (nI i), .long (((w * 10) + ((tf i).toInt64)) - 48)])), (tp, .inr (4, [.ref tpa])), (tpa, .inl (g 0, 2000, .inl tf))] H := hP
          replace hD : va_D A [(tk, .inr (6, [.ref tp, .ref (xa 1), .ref (xa 2), .ref (xa 3), .int fi, .int (nI n), .int (nI i), .long (((w * 10) + ((tf i).toInt64)) - 48)])), (tp, .inr (4, [.ref tpa])), (tpa, .inl (g 0, 2000, .inl tf))] := hD
          refine lv_aload_n hx hb dX8_nextNumber_62 rfl (lv_at hl 0 rfl) ?_
          refine lv_dup hx hb dX8_nextNumber_63 rfl ?_
          refine va_get (D := D) (ci := 6) (v := .int (nI i)) (C := RX8) (T := TX8) (N := 8) hx hb hts in_X8 hown hK hP 0 rfl rfl 6 (by decide) (hts _ w_281) (fun _ h9 => h9) rfl dX8_nextNumber_64 ?_
          refine lv_iconst (v := 1) hx hb dX8_nextNumber_67 (by decide) ?_
          refine k_inc hx hb dX8_nextNumber_68 ?_
          refine va_put (D := D) (ci := 6) (v := .int (nI (i + 1))) (ty := .int) (C := RX8) (T := TX8) (N := 8) hx hb hts in_X8 tyX8 tyX8_ok nmX8 hown hK hP hD hS 0 rfl rfl 6 (by decide) (hts _ w_281) (fun _ h9 => h9) rfl (by decide +kernel) rfl rfl (Nat.le_of_ble_eq_true rfl) dX8_nextNumber_69 (fun H locs hP7 hD7 hS7 => ?_)
          clear hP hD hS
          have hP := hP7
          have hD := hD7
          have hS := hS7
          clear hP7 hD7 hS7
          replace hP : va_P D CLS [(tk, .inr (6, [.ref tp, .ref (xa 1), .ref (xa 2), .ref (xa 3), .int fi, .int (nI n), .int (nI (i + 1)), .long (((w * 10) + ((tf i).toInt64)) - 48)])), (tp, .inr (4, [.ref tpa])), (tpa, .inl (g 0, 2000, .inl tf))] H := hP
          replace hD : va_D A [(tk, .inr (6, [.ref tp, .ref (xa 1), .ref (xa 2), .ref (xa 3), .int fi, .int (nI n), .int (nI (i + 1)), .long (((w * 10) + ((tf i).toInt64)) - 48)])), (tp, .inr (4, [.ref tpa])), (tpa, .inl (g 0, 2000, .inl tf))] := hD
          refine lv_goto (tgt := 5) hx hb dX8_nextNumber_72 (by decide) ?_
          exact ih_5  (i + 1) (dig w (tf i)) (by omega) (by omega) (by omega) (by rw [← hs]; exact (nbp_go (by omega) c_30).symm) _ _ (kSub hP [0, 1, 2] rfl) (hD.sub [0, 1, 2] (by decide +kernel) rfl) hS ls (lv_sub hl [0, 1] rfl)
  exact loop_5 (n - p + 1) p v (by omega) hp (Nat.le_refl _) rfl _ _ (kSub hP [0, 1, 2] rfl) (hD.sub [0, 1, 2] (by decide +kernel) rfl) hS ls (lv_sub hl [1, 0] rfl)
theorem dX8_nextSymbol_0 : decode cX8_nextSymbol 0 = .ok (.aload_n 0, 1) := by decide +kernel
theorem dX8_nextSymbol_1 : decode cX8_nextSymbol 1 = .ok (.dup, 1) := by decide +kernel
theorem dX8_nextSymbol_2 : decode cX8_nextSymbol 2 = .ok (.getfield 37, 3) := by decide +kernel
theorem dX8_nextSymbol_5 : decode cX8_nextSymbol 5 = .ok (.iconst 1, 1) := by decide +kernel
theorem dX8_nextSymbol_6 : decode cX8_nextSymbol 6 = .ok (.iadd, 1) := by decide +kernel
theorem dX8_nextSymbol_7 : decode cX8_nextSymbol 7 = .ok (.putfield 37, 3) := by decide +kernel
theorem dX8_nextSymbol_10 : decode cX8_nextSymbol 10 = .ok (.iload_n 1, 1) := by decide +kernel
theorem dX8_nextSymbol_11 : decode cX8_nextSymbol 11 = .ok (.tableswitch 307 40 93 #[229, 233, 261, 253, 249, 257, 307, 265, 307, 307, 307, 307, 307, 307, 307, 307, 307, 307, 307, 245, 273, 269, 290, 307, 307, 307, 307, 307, 307, 307, 307, 307, 307, 307, 307, 307, 307, 307, 307, 307, 307, 307, 307, 307, 307, 307, 307, 307, 307, 307, 307, 237, 307, 241], 229) := by decide +kernel
theorem dX8_nextSymbol_240 : decode cX8_nextSymbol 240 = .ok (.getstatic 101, 3) := by decide +kernel
theorem dX8_nextSymbol_243 : decode cX8_nextSymbol 243 = .ok (.areturn, 1) := by decide +kernel
theorem dX8_nextSymbol_244 : decode cX8_nextSymbol 244 = .ok (.getstatic 104, 3) := by decide +kernel
theorem dX8_nextSymbol_247 : decode cX8_nextSymbol 247 = .ok (.areturn, 1) := by decide +kernel
theorem dX8_nextSymbol_248 : decode cX8_nextSymbol 248 = .ok (.getstatic 107, 3) := by decide +kernel
theorem dX8_nextSymbol_251 : decode cX8_nextSymbol 251 = .ok (.areturn, 1) := by decide +kernel
theorem dX8_nextSymbol_252 : decode cX8_nextSymbol 252 = .ok (.getstatic 110, 3) := by decide +kernel
theorem dX8_nextSymbol_255 : decode cX8_nextSymbol 255 = .ok (.areturn, 1) := by decide +kernel
theorem dX8_nextSymbol_256 : decode cX8_nextSymbol 256 = .ok (.getstatic 113, 3) := by decide +kernel
theorem dX8_nextSymbol_259 : decode cX8_nextSymbol 259 = .ok (.areturn, 1) := by decide +kernel
theorem dX8_nextSymbol_260 : decode cX8_nextSymbol 260 = .ok (.getstatic 116, 3) := by decide +kernel
theorem dX8_nextSymbol_263 : decode cX8_nextSymbol 263 = .ok (.areturn, 1) := by decide +kernel
theorem dX8_nextSymbol_264 : decode cX8_nextSymbol 264 = .ok (.getstatic 119, 3) := by decide +kernel
theorem dX8_nextSymbol_267 : decode cX8_nextSymbol 267 = .ok (.areturn, 1) := by decide +kernel
theorem dX8_nextSymbol_268 : decode cX8_nextSymbol 268 = .ok (.getstatic 122, 3) := by decide +kernel
theorem dX8_nextSymbol_271 : decode cX8_nextSymbol 271 = .ok (.areturn, 1) := by decide +kernel
theorem dX8_nextSymbol_272 : decode cX8_nextSymbol 272 = .ok (.getstatic 125, 3) := by decide +kernel
theorem dX8_nextSymbol_275 : decode cX8_nextSymbol 275 = .ok (.areturn, 1) := by decide +kernel
theorem dX8_nextSymbol_276 : decode cX8_nextSymbol 276 = .ok (.getstatic 128, 3) := by decide +kernel
theorem dX8_nextSymbol_279 : decode cX8_nextSymbol 279 = .ok (.areturn, 1) := by decide +kernel
theorem dX8_nextSymbol_280 : decode cX8_nextSymbol 280 = .ok (.getstatic 131, 3) := by decide +kernel
theorem dX8_nextSymbol_283 : decode cX8_nextSymbol 283 = .ok (.areturn, 1) := by decide +kernel
theorem dX8_nextSymbol_284 : decode cX8_nextSymbol 284 = .ok (.aload_n 0, 1) := by decide +kernel
theorem dX8_nextSymbol_285 : decode cX8_nextSymbol 285 = .ok (.invokevirtual 134, 3) := by decide +kernel
theorem dX8_nextSymbol_288 : decode cX8_nextSymbol 288 = .ok (.ifCond .eq 9, 3) := by decide +kernel
theorem dX8_nextSymbol_291 : decode cX8_nextSymbol 291 = .ok (.getstatic 138, 3) := by decide +kernel
theorem dX8_nextSymbol_294 : decode cX8_nextSymbol 294 = .ok (.goto 6, 3) := by decide +kernel
theorem dX8_nextSymbol_297 : decode cX8_nextSymbol 297 = .ok (.getstatic 141, 3) := by decide +kernel
theorem dX8_nextSymbol_300 : decode cX8_nextSymbol 300 = .ok (.areturn, 1) := by decide +kernel
theorem dX8_nextSymbol_301 : decode cX8_nextSymbol 301 = .ok (.aload_n 0, 1) := by decide +kernel
theorem dX8_nextSymbol_302 : decode cX8_nextSymbol 302 = .ok (.invokevirtual 134, 3) := by decide +kernel
theorem dX8_nextSymbol_305 : decode cX8_nextSymbol 305 = .ok (.ifCond .eq 9, 3) := by decide +kernel
theorem dX8_nextSymbol_308 : decode cX8_nextSymbol 308 = .ok (.getstatic 144, 3) := by decide +kernel
theorem dX8_nextSymbol_311 : decode cX8_nextSymbol 311 = .ok (.goto 6, 3) := by decide +kernel
theorem dX8_nextSymbol_314 : decode cX8_nextSymbol 314 = .ok (.getstatic 147, 3) := by decide +kernel
theorem dX8_nextSymbol_317 : decode cX8_nextSymbol 317 = .ok (.areturn, 1) := by decide +kernel
theorem dX8_nextSymbol_318 : decode cX8_nextSymbol 318 = .ok (.getstatic 47, 3) := by decide +kernel
theorem dX8_nextSymbol_321 : decode cX8_nextSymbol 321 = .ok (.areturn, 1) := by decide +kernel
set_option maxHeartbeats 4000000 in
set_option maxRecDepth 100000 in
/-- Tokens.nextSymbol -/
theorem c_X8_nextSymbol (l9 : Launch) (z : Nat → Nat) (D : va_G) (g : Nat → ClassId) (tk : Nat) (xa : Nat → Nat) (tp : Nat) (tpa : Nat) (tf : Nat → Int32) (fi : Int32) (n : Nat) (p : Nat) (v : Int64) (p0 : Int32) (hp : p < n) (hn : n ≤ 2000) (sz : Nat) : Met l9 yX8_nextSymbol (WS yX8_nextSymbol cX8_nextSymbol 2 (some (.object "ChoirStalls$Sign"))) ({ frames := 2, cells := 0, slots := 0, locals := 42 }) (va_Pc [.ref tk, .int p0] (kPre z D g [(tk, .inr (6, [.ref tp, .ref (xa 1), .ref (xa 2), .ref (xa 3), .int fi, .int (nI n), .int (nI p), .long v])), (tp, .inr (4, [.ref tpa])), (tpa, .inl (g 0, 2000, .inl tf))] sz)) (va_Qq (fun (r9 : Option Nat) (u9 : Unit) => r9 = some (z (sg (symS p0 (isE tf n (p + 1)))))) (kB D g (va_A [(tk, .inr (6, [.ref tp, .ref (xa 1), .ref (xa 2), .ref (xa 3), .int fi, .int (nI n), .int (nI p), .long v])), (tp, .inr (4, [.ref tpa])), (tpa, .inl (g 0, 2000, .inl tf))] sz) (fun (u9 : Unit) => [(tk, .inr (6, [.ref tp, .ref (xa 1), .ref (xa 2), .ref (xa 3), .int fi, .int (nI n), .int (nI (p + symL p0 (isE tf n (p + 1)))), .long v])), (tp, .inr (4, [.ref tpa])), (tpa, .inl (g 0, 2000, .inl tf))])) (va_A [(tk, .inr (6, [.ref tp, .ref (xa 1), .ref (xa 2), .ref (xa 3), .int fi, .int (nI n), .int (nI p), .long v])), (tp, .inr (4, [.ref tpa])), (tpa, .inl (g 0, 2000, .inl tf))] sz)) 0 0 (va_A [(tk, .inr (6, [.ref tp, .ref (xa 1), .ref (xa 2), .ref (xa 3), .int fi, .int (nI n), .int (nI p), .long v])), (tp, .inr (4, [.ref tpa])), (tpa, .inl (g 0, 2000, .inl tf))] sz) := by
  refine Met.ofW (cc := cX8_nextSymbol) (maxL := 2) (ret := (some (.object "ChoirStalls$Sign"))) (by decide) rfl ?_
  intro p9 e9 s9 m9 args9 below9 meth9 c9 s₁ B hml hv
  obtain ⟨rfl, hsz, hP, hK, hD0, hZ⟩ := hv
  have hx := B.exec
  have hb := B.bytes
  have hr := B.returns
  have hts := ws_sub (atoms_spec (ws := WS yX8_nextSymbol cX8_nextSymbol 2 (some (.object "ChoirStalls$Sign"))) B.pre)
  have hown : s9.vm.findClass RX8 = some m9.cls := findClass_of_methodNamed B.named
  have hlocks := B.notSynchronized
  subst hsz
  have hD := hD0.self (sz := s9.heap.size)
  generalize hAe : va_A [(tk, .inr (6, [.ref tp, .ref (xa 1), .ref (xa 2), .ref (xa 3), .int fi, .int (nI n), .int (nI p), .long v])), (tp, .inr (4, [.ref tpa])), (tpa, .inl (g 0, 2000, .inl tf))] s9.heap.size = A at hD hZ ⊢
  have hA : ∀ q : Nat, s9.heap.size ≤ q → A q := fun q h => by rw [← hAe]; exact Or.inr h
  have hS : va_S A s9.heap s9.heap [] := va_S.rf
  have hP : va_P D CLS [(tk, .inr (6, [.ref tp, .ref (xa 1), .ref (xa 2), .ref (xa 3), .int fi, .int (nI n), .int (nI p), .long v])), (tp, .inr (4, [.ref tpa])), (tpa, .inl (g 0, 2000, .inl tf))] s9.heap := hP
  have hl := lv_entry ([.ref tk, .int p0]) (n := 2) (Nat.le_of_ble_eq_true rfl)
  rw [lg_entry_eq]
  generalize (lg_sl ([.ref tk, .int p0]) ++ List.replicate (2 - (lg_sl ([.ref tk, .int p0])).length) Slot.unset).toArray = ls at hl ⊢
  have hl : lv_has ls 2 [(0, .ref tk), (1, .int p0)] := hl
  change W p9 l9 e9 ({ frames := 2, cells := 0, slots := 0, locals := 42 } : Room) s9 m9 _ below9 meth9 c9 _ _ _ _ _ _
  refine lv_aload_n hx hb dX8_nextSymbol_0 rfl (lv_at hl 0 rfl) ?_
  refine lv_dup hx hb dX8_nextSymbol_1 rfl ?_
  refine va_get (D := D) (ci := 6) (v := .int (nI p)) (C := RX8) (T := TX8) (N := 8) hx hb hts in_X8 hown hK hP 0 rfl rfl 6 (by decide) (hts _ w_281) (fun _ h9 => h9) rfl dX8_nextSymbol_2 ?_
  refine lv_iconst (v := 1) hx hb dX8_nextSymbol_5 (by decide) ?_
  refine k_inc hx hb dX8_nextSymbol_6 ?_
  refine va_put (D := D) (ci := 6) (v := .int (nI (p + 1))) (ty := .int) (C := RX8) (T := TX8) (N := 8) hx hb hts in_X8 tyX8 tyX8_ok nmX8 hown hK hP hD hS 0 rfl rfl 6 (by decide) (hts _ w_281) (fun _ h9 => h9) rfl (by decide +kernel) rfl rfl (Nat.le_of_ble_eq_true rfl) dX8_nextSymbol_7 (fun H locs hP7 hD7 hS7 => ?_)
  clear hP hD hS
  have hP := hP7
  have hD := hD7
  have hS := hS7
  clear hP7 hD7 hS7
  replace hP : va_P D CLS [(tk, .inr (6, [.ref tp, .ref (xa 1), .ref (xa 2), .ref (xa 3), .int fi, .int (nI n), .int (nI (p + 1)), .long v])), (tp, .inr (4, [.ref tpa])), (tpa, .inl (g 0, 2000, .inl tf))] H := hP
  replace hD : va_D A [(tk, .inr (6, [.ref tp, .ref (xa 1), .ref (xa 2), .ref (xa 3), .int fi, .int (nI n), .int (nI (p + 1)), .long v])), (tp, .inr (4, [.ref tpa])), (tpa, .inl (g 0, 2000, .inl tf))] := hD
  refine lv_iload_n hx hb dX8_nextSymbol_10 rfl (lv_at hl 1 rfl) ?_
  by_cases c_11_40 : p0 = 40
  · skip
    refine lv_tableIn (off := 229) (tgt := 240) hx hb dX8_nextSymbol_11 (by rw [c_11_40]; decide) (by rw [c_11_40]; decide) (by rw [c_11_40]; rfl) (by decide) ?_
    refine va_gets (n := "OPEN") hx hb (hZ.en.1 5 (by decide)).1 hS hown (hts _ w_982) (fun _ h9 => h9) dX8_nextSymbol_240 ?_
    have he_1 : (nI (p + symL p0 (isE tf n (p + 1)))) = (nI (p + 1)) := by first | (have hq := c_288; simp [symL, *]; done) | (have hq := c_305; simp [symL, *]; done) | (simp [symL, *]; done)
    have hP9 : va_P D CLS [(tk, .inr (6, [.ref tp, .ref (xa 1), .ref (xa 2), .ref (xa 3), .int fi, .int (nI n), .int (nI (p + symL p0 (isE tf n (p + 1)))), .long v])), (tp, .inr (4, [.ref tpa])), (tpa, .inl (g 0, 2000, .inl tf))] H := by rw [he_1]; exact kSub hP [0, 1, 2] rfl
    have hD9 : va_D A [(tk, .inr (6, [.ref tp, .ref (xa 1), .ref (xa 2), .ref (xa 3), .int fi, .int (nI n), .int (nI (p + symL p0 (isE tf n (p + 1)))), .long v])), (tp, .inr (4, [.ref tpa])), (tpa, .inl (g 0, 2000, .inl tf))] := by rw [he_1]; exact hD.sub [0, 1, 2] (by decide +kernel) rfl
    have hr9 : some (z 5) = some (z (sg (symS p0 (isE tf n (p + 1))))) := by first | (have hq := c_288; simp [symS, sg, *]; done) | (have hq := c_305; simp [symS, sg, *]; done) | (simp [symS, sg, *]; done)
    exact W.aret (v := va_rf (some (z 5))) hx hb hr (Or.inl ⟨_, rfl⟩) (va_rf_or _) (fun t9 ht9 hW9 => ⟨⟨some (z 5), (), rfl, hr9, by rw [ht9]; exact hP9, va_K.moved hW9.alike hK, hD9⟩, hS.F ht9⟩) hS.2.2 dX8_nextSymbol_243
  · skip
    by_cases c_11_41 : p0 = 41
    · skip
      refine lv_tableIn (off := 233) (tgt := 244) hx hb dX8_nextSymbol_11 (by rw [c_11_41]; decide) (by rw [c_11_41]; decide) (by rw [c_11_41]; rfl) (by decide) ?_
      refine va_gets (n := "CLOSE") hx hb (hZ.en.1 6 (by decide)).1 hS hown (hts _ w_984) (fun _ h9 => h9) dX8_nextSymbol_244 ?_
      have he_2 : (nI (p + symL p0 (isE tf n (p + 1)))) = (nI (p + 1)) := by first | (have hq := c_288; simp [symL, *]; done) | (have hq := c_305; simp [symL, *]; done) | (simp [symL, *]; done)
      have hP9 : va_P D CLS [(tk, .inr (6, [.ref tp, .ref (xa 1), .ref (xa 2), .ref (xa 3), .int fi, .int (nI n), .int (nI (p + symL p0 (isE tf n (p + 1)))), .long v])), (tp, .inr (4, [.ref tpa])), (tpa, .inl (g 0, 2000, .inl tf))] H := by rw [he_2]; exact kSub hP [0, 1, 2] rfl
      have hD9 : va_D A [(tk, .inr (6, [.ref tp, .ref (xa 1), .ref (xa 2), .ref (xa 3), .int fi, .int (nI n), .int (nI (p + symL p0 (isE tf n (p + 1)))), .long v])), (tp, .inr (4, [.ref tpa])), (tpa, .inl (g 0, 2000, .inl tf))] := by rw [he_2]; exact hD.sub [0, 1, 2] (by decide +kernel) rfl
      have hr9 : some (z 6) = some (z (sg (symS p0 (isE tf n (p + 1))))) := by first | (have hq := c_288; simp [symS, sg, *]; done) | (have hq := c_305; simp [symS, sg, *]; done) | (simp [symS, sg, *]; done)
      exact W.aret (v := va_rf (some (z 6))) hx hb hr (Or.inl ⟨_, rfl⟩) (va_rf_or _) (fun t9 ht9 hW9 => ⟨⟨some (z 6), (), rfl, hr9, by rw [ht9]; exact hP9, va_K.moved hW9.alike hK, hD9⟩, hS.F ht9⟩) hS.2.2 dX8_nextSymbol_247
    · skip
      by_cases c_11_42 : p0 = 42
      · skip
        refine lv_tableIn (off := 261) (tgt := 272) hx hb dX8_nextSymbol_11 (by rw [c_11_42]; decide) (by rw [c_11_42]; decide) (by rw [c_11_42]; rfl) (by decide) ?_
        refine va_gets (n := "TIMES") hx hb (hZ.en.1 13 (by decide)).1 hS hown (hts _ w_998) (fun _ h9 => h9) dX8_nextSymbol_272 ?_
        have he_3 : (nI (p + symL p0 (isE tf n (p + 1)))) = (nI (p + 1)) := by first | (have hq := c_288; simp [symL, *]; done) | (have hq := c_305; simp [symL, *]; done) | (simp [symL, *]; done)
        have hP9 : va_P D CLS [(tk, .inr (6, [.ref tp, .ref (xa 1), .ref (xa 2), .ref (xa 3), .int fi, .int (nI n), .int (nI (p + symL p0 (isE tf n (p + 1)))), .long v])), (tp, .inr (4, [.ref tpa])), (tpa, .inl (g 0, 2000, .inl tf))] H := by rw [he_3]; exact kSub hP [0, 1, 2] rfl
        have hD9 : va_D A [(tk, .inr (6, [.ref tp, .ref (xa 1), .ref (xa 2), .ref (xa 3), .int fi, .int (nI n), .int (nI (p + symL p0 (isE tf n (p + 1)))), .long v])), (tp, .inr (4, [.ref tpa])), (tpa, .inl (g 0, 2000, .inl tf))] := by rw [he_3]; exact hD.sub [0, 1, 2] (by decide +kernel) rfl
        have hr9 : some (z 13) = some (z (sg (symS p0 (isE tf n (p + 1))))) := by first | (have hq := c_288; simp [symS, sg, *]; done) | (have hq := c_305; simp [symS, sg, *]; done) | (simp [symS, sg, *]; done)
        exact W.aret (v := va_rf (some (z 13))) hx hb hr (Or.inl ⟨_, rfl⟩) (va_rf_or _) (fun t9 ht9 hW9 => ⟨⟨some (z 13), (), rfl, hr9, by rw [ht9]; exact hP9, va_K.moved hW9.alike hK, hD9⟩, hS.F ht9⟩) hS.2.2 dX8_nextSymbol_275
      · skip
        by_cases c_11_43 : p0 = 43
        · skip
          refine lv_tableIn (off := 253) (tgt := 264) hx hb dX8_nextSymbol_11 (by rw [c_11_43]; decide) (by rw [c_11_43]; decide) (by rw [c_11_43]; rfl) (by decide) ?_
          refine va_gets (n := "PLUS") hx hb (hZ.en.1 11 (by decide)).1 hS hown (hts _ w_994) (fun _ h9 => h9) dX8_nextSymbol_264 ?_
          have he_4 : (nI (p + symL p0 (isE tf n (p + 1)))) = (nI (p + 1)) := by first | (have hq := c_288; simp [symL, *]; done) | (have hq := c_305; simp [symL, *]; done) | (simp [symL, *]; done)
          have hP9 : va_P D CLS [(tk, .inr (6, [.ref tp, .ref (xa 1), .ref (xa 2), .ref (xa 3), .int fi, .int (nI n), .int (nI (p + symL p0 (isE tf n (p + 1)))), .long v])), (tp, .inr (4, [.ref tpa])), (tpa, .inl (g 0, 2000, .inl tf))] H := by rw [he_4]; exact kSub hP [0, 1, 2] rfl
          have hD9 : va_D A [(tk, .inr (6, [.ref tp, .ref (xa 1), .ref (xa 2), .ref (xa 3), .int fi, .int (nI n), .int (nI (p + symL p0 (isE tf n (p + 1)))), .long v])), (tp, .inr (4, [.ref tpa])), (tpa, .inl (g 0, 2000, .inl tf))] := by rw [he_4]; exact hD.sub [0, 1, 2] (by decide +kernel) rfl
          have hr9 : some (z 11) = some (z (sg (symS p0 (isE tf n (p + 1))))) := by first | (have hq := c_288; simp [symS, sg, *]; done) | (have hq := c_305; simp [symS, sg, *]; done) | (simp [symS, sg, *]; done)
          exact W.aret (v := va_rf (some (z 11))) hx hb hr (Or.inl ⟨_, rfl⟩) (va_rf_or _) (fun t9 ht9 hW9 => ⟨⟨some (z 11), (), rfl, hr9, by rw [ht9]; exact hP9, va_K.moved hW9.alike hK, hD9⟩, hS.F ht9⟩) hS.2.2 dX8_nextSymbol_267
        · skip
          by_cases c_11_44 : p0 = 44
          · skip
            refine lv_tableIn (off := 249) (tgt := 260) hx hb dX8_nextSymbol_11 (by rw [c_11_44]; decide) (by rw [c_11_44]; decide) (by rw [c_11_44]; rfl) (by decide) ?_
            refine va_gets (n := "COMMA") hx hb (hZ.en.1 10 (by decide)).1 hS hown (hts _ w_992) (fun _ h9 => h9) dX8_nextSymbol_260 ?_
            have he_5 : (nI (p + symL p0 (isE tf n (p + 1)))) = (nI (p + 1)) := by first | (have hq := c_288; simp [symL, *]; done) | (have hq := c_305; simp [symL, *]; done) | (simp [symL, *]; done)
            have hP9 : va_P D CLS [(tk, .inr (6, [.ref tp, .ref (xa 1), .ref (xa 2), .ref (xa 3), .int fi, .int (nI n), .int (nI (p + symL p0 (isE tf n (p + 1)))), .long v])), (tp, .inr (4, [.ref tpa])), (tpa, .inl (g 0, 2000, .inl tf))] H := by rw [he_5]; exact kSub hP [0, 1, 2] rfl
            have hD9 : va_D A [(tk, .inr (6, [.ref tp, .ref (xa 1), .ref (xa 2), .ref (xa 3), .int fi, .int (nI n), .int (nI (p + symL p0 (isE tf n (p + 1)))), .long v])), (tp, .inr (4, [.ref tpa])), (tpa, .inl (g 0, 2000, .inl tf))] := by rw [he_5]; exact hD.sub [0, 1, 2] (by decide +kernel) rfl
            have hr9 : some (z 10) = some (z (sg (symS p0 (isE tf n (p + 1))))) := by first | (have hq := c_288; simp [symS, sg, *]; done) | (have hq := c_305; simp [symS, sg, *]; done) | (simp [symS, sg, *]; done)
            exact W.aret (v := va_rf (some (z 10))) hx hb hr (Or.inl ⟨_, rfl⟩) (va_rf_or _) (fun t9 ht9 hW9 => ⟨⟨some (z 10), (), rfl, hr9, by rw [ht9]; exact hP9, va_K.moved hW9.alike hK, hD9⟩, hS.F ht9⟩) hS.2.2 dX8_nextSymbol_263
          · skip
            by_cases c_11_45 : p0 = 45
            · skip
              refine lv_tableIn (off := 257) (tgt := 268) hx hb dX8_nextSymbol_11 (by rw [c_11_45]; decide) (by rw [c_11_45]; decide) (by rw [c_11_45]; rfl) (by decide) ?_
              refine va_gets (n := "MINUS") hx hb (hZ.en.1 12 (by decide)).1 hS hown (hts _ w_996) (fun _ h9 => h9) dX8_nextSymbol_268 ?_
              have he_6 : (nI (p + symL p0 (isE tf n (p + 1)))) = (nI (p + 1)) := by first | (have hq := c_288; simp [symL, *]; done) | (have hq := c_305; simp [symL, *]; done) | (simp [symL, *]; done)
              have hP9 : va_P D CLS [(tk, .inr (6, [.ref tp, .ref (xa 1), .ref (xa 2), .ref (xa 3), .int fi, .int (nI n), .int (nI (p + symL p0 (isE tf n (p + 1)))), .long v])), (tp, .inr (4, [.ref tpa])), (tpa, .inl (g 0, 2000, .inl tf))] H := by rw [he_6]; exact kSub hP [0, 1, 2] rfl
              have hD9 : va_D A [(tk, .inr (6, [.ref tp, .ref (xa 1), .ref (xa 2), .ref (xa 3), .int fi, .int (nI n), .int (nI (p + symL p0 (isE tf n (p + 1)))), .long v])), (tp, .inr (4, [.ref tpa])), (tpa, .inl (g 0, 2000, .inl tf))] := by rw [he_6]; exact hD.sub [0, 1, 2] (by decide +kernel) rfl
              have hr9 : some (z 12) = some (z (sg (symS p0 (isE tf n (p + 1))))) := by first | (have hq := c_288; simp [symS, sg, *]; done) | (have hq := c_305; simp [symS, sg, *]; done) | (simp [symS, sg, *]; done)
              exact W.aret (v := va_rf (some (z 12))) hx hb hr (Or.inl ⟨_, rfl⟩) (va_rf_or _) (fun t9 ht9 hW9 => ⟨⟨some (z 12), (), rfl, hr9, by rw [ht9]; exact hP9, va_K.moved hW9.alike hK, hD9⟩, hS.F ht9⟩) hS.2.2 dX8_nextSymbol_271
            · skip
              by_cases c_11_47 : p0 = 47
              · skip
                refine lv_tableIn (off := 265) (tgt := 276) hx hb dX8_nextSymbol_11 (by rw [c_11_47]; decide) (by rw [c_11_47]; decide) (by rw [c_11_47]; rfl) (by decide) ?_
                refine va_gets (n := "DIVIDE") hx hb (hZ.en.1 14 (by decide)).1 hS hown (hts _ w_1000) (fun _ h9 => h9) dX8_nextSymbol_276 ?_
                have he_7 : (nI (p + symL p0 (isE tf n (p + 1)))) = (nI (p + 1)) := by first | (have hq := c_288; simp [symL, *]; done) | (have hq := c_305; simp [symL, *]; done) | (simp [symL, *]; done)
                have hP9 : va_P D CLS [(tk, .inr (6, [.ref tp, .ref (xa 1), .ref (xa 2), .ref (xa 3), .int fi, .int (nI n), .int (nI (p + symL p0 (isE tf n (p + 1)))), .long v])), (tp, .inr (4, [.ref tpa])), (tpa, .inl (g 0, 2000, .inl tf))] H := by rw [he_7]; exact kSub hP [0, 1, 2] rfl
                have hD9 : va_D A [(tk, .inr (6, [.ref tp, .ref (xa 1), .ref (xa 2), .ref (xa 3), .int fi, .int (nI n), .int (nI (p + symL p0 (isE tf n (p + 1)))), .long v])), (tp, .inr (4, [.ref tpa])), (tpa, .inl (g 0, 2000, .inl tf))] := by rw [he_7]; exact hD.sub [0, 1, 2] (by decide +kernel) rfl
                have hr9 : some (z 14) = some (z (sg (symS p0 (isE tf n (p + 1))))) := by first | (have hq := c_288; simp [symS, sg, *]; done) | (have hq := c_305; simp [symS, sg, *]; done) | (simp [symS, sg, *]; done)
                exact W.aret (v := va_rf (some (z 14))) hx hb hr (Or.inl ⟨_, rfl⟩) (va_rf_or _) (fun t9 ht9 hW9 => ⟨⟨some (z 14), (), rfl, hr9, by rw [ht9]; exact hP9, va_K.moved hW9.alike hK, hD9⟩, hS.F ht9⟩) hS.2.2 dX8_nextSymbol_279
              · skip
                by_cases c_11_59 : p0 = 59
                · skip
                  refine lv_tableIn (off := 245) (tgt := 256) hx hb dX8_nextSymbol_11 (by rw [c_11_59]; decide) (by rw [c_11_59]; decide) (by rw [c_11_59]; rfl) (by decide) ?_
                  refine va_gets (n := "SEMICOLON") hx hb (hZ.en.1 9 (by decide)).1 hS hown (hts _ w_990) (fun _ h9 => h9) dX8_nextSymbol_256 ?_
                  have he_8 : (nI (p + symL p0 (isE tf n (p + 1)))) = (nI (p + 1)) := by first | (have hq := c_288; simp [symL, *]; done) | (have hq := c_305; simp [symL, *]; done) | (simp [symL, *]; done)
                  have hP9 : va_P D CLS [(tk, .inr (6, [.ref tp, .ref (xa 1), .ref (xa 2), .ref (xa 3), .int fi, .int (nI n), .int (nI (p + symL p0 (isE tf n (p + 1)))), .long v])), (tp, .inr (4, [.ref tpa])), (tpa, .inl (g 0, 2000, .inl tf))] H := by rw [he_8]; exact kSub hP [0, 1, 2] rfl
                  have hD9 : va_D A [(tk, .inr (6, [.ref tp, .ref (xa 1), .ref (xa 2), .ref (xa 3), .int fi, .int (nI n), .int (nI (p + symL p0 (isE tf n (p + 1)))), .long v])), (tp, .inr (4, [.ref tpa])), (tpa, .inl (g 0, 2000, .inl tf))] := by rw [he_8]; exact hD.sub [0, 1, 2] (by decide +kernel) rfl
                  have hr9 : some (z 9) = some (z (sg (symS p0 (isE tf n (p + 1))))) := by first | (have hq := c_288; simp [symS, sg, *]; done) | (have hq := c_305; simp [symS, sg, *]; done) | (simp [symS, sg, *]; done)
                  exact W.aret (v := va_rf (some (z 9))) hx hb hr (Or.inl ⟨_, rfl⟩) (va_rf_or _) (fun t9 ht9 hW9 => ⟨⟨some (z 9), (), rfl, hr9, by rw [ht9]; exact hP9, va_K.moved hW9.alike hK, hD9⟩, hS.F ht9⟩) hS.2.2 dX8_nextSymbol_259
                · skip
                  by_cases c_11_60 : p0 = 60
                  · skip
                    refine lv_tableIn (off := 273) (tgt := 284) hx hb dX8_nextSymbol_11 (by rw [c_11_60]; decide) (by rw [c_11_60]; decide) (by rw [c_11_60]; rfl) (by decide) ?_
                    refine lv_aload_n hx hb dX8_nextSymbol_284 rfl (lv_at hl 0 rfl) ?_
                    refine k_i hA hP hD hS [] (va_runV (As := []) (rest := []) ⟨hx, hb, hml, hown, hts⟩ (c_X8_skipEqual l9 z D g tk xa tp tpa tf fi n (p + 1) v (by first | assumption | decide | omega) (by first | assumption | decide | omega) (Array.size H)) (cwV 0 hts gv_X8_134 rfl rfl rfl (by decide +kernel) ⟨Nat.le_of_ble_eq_true rfl, Nat.le_of_ble_eq_true rfl⟩) ⟨kBlind, va_recv hK hP (ci := 6) (q0 := 0) rfl rfl, kPre.pc hK hZ hA hP hD hS [0, 1, 2] rfl (by decide +kernel)⟩ rfl rfl hl.1 rfl (lv_room (Nat.le_of_ble_eq_true rfl)) dX8_nextSymbol_285 ⟨Nat.le_of_ble_eq_true rfl, Nat.le_of_ble_eq_true rfl⟩) [0, 1, 2] [] rfl rfl rfl rfl (fun r_285 u_9 H locs hw_285 hP7 hD7 hS7 => ?_)
                    clear hP hD hS
                    have hP := hP7
                    have hD := hD7
                    have hS := hS7
                    clear hP7 hD7 hS7
                    obtain rfl := hw_285
                    replace hP : va_P D CLS [(tk, .inr (6, [.ref tp, .ref (xa 1), .ref (xa 2), .ref (xa 3), .int fi, .int (nI n), .int (nI (if isE tf n (p + 1) = true then (p + 1) + 1 else (p + 1))), .long v])), (tp, .inr (4, [.ref tpa])), (tpa, .inl (g 0, 2000, .inl tf))] H := hP
                    replace hD : va_D A [(tk, .inr (6, [.ref tp, .ref (xa 1), .ref (xa 2), .ref (xa 3), .int fi, .int (nI n), .int (nI (if isE tf n (p + 1) = true then (p + 1) + 1 else (p + 1))), .long v])), (tp, .inr (4, [.ref tpa])), (tpa, .inl (g 0, 2000, .inl tf))] := hD
                    refine lv_if_eq (tgt := 297) hx hb dX8_nextSymbol_288 (by decide) (fun c_288 => ?_) (fun c_288 => ?_)
                    · skip
                      have c_288 := bI_0.mp c_288
                      refine va_gets (n := "LESS") hx hb (hZ.en.1 15 (by decide)).1 hS hown (hts _ w_1010) (fun _ h9 => h9) dX8_nextSymbol_297 ?_
                      have he_10 : (nI (p + symL p0 (isE tf n (p + 1)))) = (nI (if isE tf n (p + 1) = true then (p + 1) + 1 else (p + 1))) := by first | (have hq := c_288; simp [symL, *]; done) | (have hq := c_305; simp [symL, *]; done) | (simp [symL, *]; done)
                      have hP9 : va_P D CLS [(tk, .inr (6, [.ref tp, .ref (xa 1), .ref (xa 2), .ref (xa 3), .int fi, .int (nI n), .int (nI (p + symL p0 (isE tf n (p + 1)))), .long v])), (tp, .inr (4, [.ref tpa])), (tpa, .inl (g 0, 2000, .inl tf))] H := by rw [he_10]; exact kSub hP [0, 1, 2] rfl
                      have hD9 : va_D A [(tk, .inr (6, [.ref tp, .ref (xa 1), .ref (xa 2), .ref (xa 3), .int fi, .int (nI n), .int (nI (p + symL p0 (isE tf n (p + 1)))), .long v])), (tp, .inr (4, [.ref tpa])), (tpa, .inl (g 0, 2000, .inl tf))] := by rw [he_10]; exact hD.sub [0, 1, 2] (by decide +kernel) rfl
                      have hr9 : some (z 15) = some (z (sg (symS p0 (isE tf n (p + 1))))) := by first | (have hq := c_288; simp [symS, sg, *]; done) | (have hq := c_305; simp [symS, sg, *]; done) | (simp [symS, sg, *]; done)
                      exact W.aret (v := va_rf (some (z 15))) hx hb hr (Or.inl ⟨_, rfl⟩) (va_rf_or _) (fun t9 ht9 hW9 => ⟨⟨some (z 15), (), rfl, hr9, by rw [ht9]; exact hP9, va_K.moved hW9.alike hK, hD9⟩, hS.F ht9⟩) hS.2.2 dX8_nextSymbol_300
                    · skip
                      have c_288 := bI_1.mp c_288
                      refine va_gets (n := "AT_MOST") hx hb (hZ.en.1 18 (by decide)).1 hS hown (hts _ w_1008) (fun _ h9 => h9) dX8_nextSymbol_291 ?_
                      refine lv_goto (tgt := 300) hx hb dX8_nextSymbol_294 (by decide) ?_
                      have he_11 : (nI (p + symL p0 (isE tf n (p + 1)))) = (nI (if isE tf n (p + 1) = true then (p + 1) + 1 else (p + 1))) := by first | (have hq := c_288; simp [symL, *]; done) | (have hq := c_305; simp [symL, *]; done) | (simp [symL, *]; done)
                      have hP9 : va_P D CLS [(tk, .inr (6, [.ref tp, .ref (xa 1), .ref (xa 2), .ref (xa 3), .int fi, .int (nI n), .int (nI (p + symL p0 (isE tf n (p + 1)))), .long v])), (tp, .inr (4, [.ref tpa])), (tpa, .inl (g 0, 2000, .inl tf))] H := by rw [he_11]; exact kSub hP [0, 1, 2] rfl
                      have hD9 : va_D A [(tk, .inr (6, [.ref tp, .ref (xa 1), .ref (xa 2), .ref (xa 3), .int fi, .int (nI n), .int (nI (p + symL p0 (isE tf n (p + 1)))), .long v])), (tp, .inr (4, [.ref tpa])), (tpa, .inl (g 0, 2000, .inl tf))] := by rw [he_11]; exact hD.sub [0, 1, 2] (by decide +kernel) rfl
                      have hr9 : some (z 18) = some (z (sg (symS p0 (isE tf n (p + 1))))) := by first | (have hq := c_288; simp [symS, sg, *]; done) | (have hq := c_305; simp [symS, sg, *]; done) | (simp [symS, sg, *]; done)
                      exact W.aret (v := va_rf (some (z 18))) hx hb hr (Or.inl ⟨_, rfl⟩) (va_rf_or _) (fun t9 ht9 hW9 => ⟨⟨some (z 18), (), rfl, hr9, by rw [ht9]; exact hP9, va_K.moved hW9.alike hK, hD9⟩, hS.F ht9⟩) hS.2.2 dX8_nextSymbol_300
                  · skip
                    by_cases c_11_61 : p0 = 61
                    · skip
                      refine lv_tableIn (off := 269) (tgt := 280) hx hb dX8_nextSymbol_11 (by rw [c_11_61]; decide) (by rw [c_11_61]; decide) (by rw [c_11_61]; rfl) (by decide) ?_
                      refine va_gets (n := "EQUAL") hx hb (hZ.en.1 17 (by decide)).1 hS hown (hts _ w_1002) (fun _ h9 => h9) dX8_nextSymbol_280 ?_
                      have he_12 : (nI (p + symL p0 (isE tf n (p + 1)))) = (nI (p + 1)) := by first | (have hq := c_288; simp [symL, *]; done) | (have hq := c_305; simp [symL, *]; done) | (simp [symL, *]; done)
                      have hP9 : va_P D CLS [(tk, .inr (6, [.ref tp, .ref (xa 1), .ref (xa 2), .ref (xa 3), .int fi, .int (nI n), .int (nI (p + symL p0 (isE tf n (p + 1)))), .long v])), (tp, .inr (4, [.ref tpa])), (tpa, .inl (g 0, 2000, .inl tf))] H := by rw [he_12]; exact kSub hP [0, 1, 2] rfl
                      have hD9 : va_D A [(tk, .inr (6, [.ref tp, .ref (xa 1), .ref (xa 2), .ref (xa 3), .int fi, .int (nI n), .int (nI (p + symL p0 (isE tf n (p + 1)))), .long v])), (tp, .inr (4, [.ref tpa])), (tpa, .inl (g 0, 2000, .inl tf))] := by rw [he_12]; exact hD.sub [0, 1, 2] (by decide +kernel) rfl
                      have hr9 : some (z 17) = some (z (sg (symS p0 (isE tf n (p + 1))))) := by first | (have hq := c_288; simp [symS, sg, *]; done) | (have hq := c_305; simp [symS, sg, *]; done) | (simp [symS, sg, *]; done)
                      exact W.aret (v := va_rf (some (z 17))) hx hb hr (Or.inl ⟨_, rfl⟩) (va_rf_or _) (fun t9 ht9 hW9 => ⟨⟨some (z 17), (), rfl, hr9, by rw [ht9]; exact hP9, va_K.moved hW9.alike hK, hD9⟩, hS.F ht9⟩) hS.2.2 dX8_nextSymbol_283
                    · skip
                      by_cases c_11_62 : p0 = 62
                      · skip
                        refine lv_tableIn (off := 290) (tgt := 301) hx hb dX8_nextSymbol_11 (by rw [c_11_62]; decide) (by rw [c_11_62]; decide) (by rw [c_11_62]; rfl) (by decide) ?_
                        refine lv_aload_n hx hb dX8_nextSymbol_301 rfl (lv_at hl 0 rfl) ?_
                        refine k_i hA hP hD hS [] (va_runV (As := []) (rest := []) ⟨hx, hb, hml, hown, hts⟩ (c_X8_skipEqual l9 z D g tk xa tp tpa tf fi n (p + 1) v (by first | assumption | decide | omega) (by first | assumption | decide | omega) (Array.size H)) (cwV 0 hts gv_X8_134 rfl rfl rfl (by decide +kernel) ⟨Nat.le_of_ble_eq_true rfl, Nat.le_of_ble_eq_true rfl⟩) ⟨kBlind, va_recv hK hP (ci := 6) (q0 := 0) rfl rfl, kPre.pc hK hZ hA hP hD hS [0, 1, 2] rfl (by decide +kernel)⟩ rfl rfl hl.1 rfl (lv_room (Nat.le_of_ble_eq_true rfl)) dX8_nextSymbol_302 ⟨Nat.le_of_ble_eq_true rfl, Nat.le_of_ble_eq_true rfl⟩) [0, 1, 2] [] rfl rfl rfl rfl (fun r_302 u_13 H locs hw_302 hP7 hD7 hS7 => ?_)
                        clear hP hD hS
                        have hP := hP7
                        have hD := hD7
                        have hS := hS7
                        clear hP7 hD7 hS7
                        obtain rfl := hw_302
                        replace hP : va_P D CLS [(tk, .inr (6, [.ref tp, .ref (xa 1), .ref (xa 2), .ref (xa 3), .int fi, .int (nI n), .int (nI (if isE tf n (p + 1) = true then (p + 1) + 1 else (p + 1))), .long v])), (tp, .inr (4, [.ref tpa])), (tpa, .inl (g 0, 2000, .inl tf))] H := hP
                        replace hD : va_D A [(tk, .inr (6, [.ref tp, .ref (xa 1), .ref (xa 2), .ref (xa 3), .int fi, .int (nI n), .int (nI (if isE tf n (p + 1) = true then (p + 1) + 1 else (p + 1))), .long v])), (tp, .inr (4, [.ref tpa])), (tpa, .inl (g 0, 2000, .inl tf))] := hD
                        refine lv_if_eq (tgt := 314) hx hb dX8_nextSymbol_305 (by decide) (fun c_305 => ?_) (fun c_305 => ?_)
                        · skip
                          have c_305 := bI_0.mp c_305
                          refine va_gets (n := "GREATER") hx hb (hZ.en.1 16 (by decide)).1 hS hown (hts _ w_1014) (fun _ h9 => h9) dX8_nextSymbol_314 ?_
                          have he_14 : (nI (p + symL p0 (isE tf n (p + 1)))) = (nI (if isE tf n (p + 1) = true then (p + 1) + 1 else (p + 1))) := by first | (have hq := c_288; simp [symL, *]; done) | (have hq := c_305; simp [symL, *]; done) | (simp [symL, *]; done)
                          have hP9 : va_P D CLS [(tk, .inr (6, [.ref tp, .ref (xa 1), .ref (xa 2), .ref (xa 3), .int fi, .int (nI n), .int (nI (p + symL p0 (isE tf n (p + 1)))), .long v])), (tp, .inr (4, [.ref tpa])), (tpa, .inl (g 0, 2000, .inl tf))] H := by rw [he_14]; exact kSub hP [0, 1, 2] rfl
                          have hD9 : va_D A [(tk, .inr (6, [.ref tp, .ref (xa 1), .ref (xa 2), .ref (xa 3), .int fi, .int (nI n), .int (nI (p + symL p0 (isE tf n (p + 1)))), .long v])), (tp, .inr (4, [.ref tpa])), (tpa, .inl (g 0, 2000, .inl tf))] := by rw [he_14]; exact hD.sub [0, 1, 2] (by decide +kernel) rfl
                          have hr9 : some (z 16) = some (z (sg (symS p0 (isE tf n (p + 1))))) := by first | (have hq := c_288; simp [symS, sg, *]; done) | (have hq := c_305; simp [symS, sg, *]; done) | (simp [symS, sg, *]; done)
                          exact W.aret (v := va_rf (some (z 16))) hx hb hr (Or.inl ⟨_, rfl⟩) (va_rf_or _) (fun t9 ht9 hW9 => ⟨⟨some (z 16), (), rfl, hr9, by rw [ht9]; exact hP9, va_K.moved hW9.alike hK, hD9⟩, hS.F ht9⟩) hS.2.2 dX8_nextSymbol_317
                        · skip
                          have c_305 := bI_1.mp c_305
                          refine va_gets (n := "AT_LEAST") hx hb (hZ.en.1 19 (by decide)).1 hS hown (hts _ w_1012) (fun _ h9 => h9) dX8_nextSymbol_308 ?_
                          refine lv_goto (tgt := 317) hx hb dX8_nextSymbol_311 (by decide) ?_
                          have he_15 : (nI (p + symL p0 (isE tf n (p + 1)))) = (nI (if isE tf n (p + 1) = true then (p + 1) + 1 else (p + 1))) := by first | (have hq := c_288; simp [symL, *]; done) | (have hq := c_305; simp [symL, *]; done) | (simp [symL, *]; done)
                          have hP9 : va_P D CLS [(tk, .inr (6, [.ref tp, .ref (xa 1), .ref (xa 2), .ref (xa 3), .int fi, .int (nI n), .int (nI (p + symL p0 (isE tf n (p + 1)))), .long v])), (tp, .inr (4, [.ref tpa])), (tpa, .inl (g 0, 2000, .inl tf))] H := by rw [he_15]; exact kSub hP [0, 1, 2] rfl
                          have hD9 : va_D A [(tk, .inr (6, [.ref tp, .ref (xa 1), .ref (xa 2), .ref (xa 3), .int fi, .int (nI n), .int (nI (p + symL p0 (isE tf n (p + 1)))), .long v])), (tp, .inr (4, [.ref tpa])), (tpa, .inl (g 0, 2000, .inl tf))] := by rw [he_15]; exact hD.sub [0, 1, 2] (by decide +kernel) rfl
                          have hr9 : some (z 19) = some (z (sg (symS p0 (isE tf n (p + 1))))) := by first | (have hq := c_288; simp [symS, sg, *]; done) | (have hq := c_305; simp [symS, sg, *]; done) | (simp [symS, sg, *]; done)
                          exact W.aret (v := va_rf (some (z 19))) hx hb hr (Or.inl ⟨_, rfl⟩) (va_rf_or _) (fun t9 ht9 hW9 => ⟨⟨some (z 19), (), rfl, hr9, by rw [ht9]; exact hP9, va_K.moved hW9.alike hK, hD9⟩, hS.F ht9⟩) hS.2.2 dX8_nextSymbol_317
                      · skip
                        by_cases c_11_91 : p0 = 91
                        · skip
                          refine lv_tableIn (off := 237) (tgt := 248) hx hb dX8_nextSymbol_11 (by rw [c_11_91]; decide) (by rw [c_11_91]; decide) (by rw [c_11_91]; rfl) (by decide) ?_
                          refine va_gets (n := "OPEN_TEST") hx hb (hZ.en.1 7 (by decide)).1 hS hown (hts _ w_986) (fun _ h9 => h9) dX8_nextSymbol_248 ?_
                          have he_16 : (nI (p + symL p0 (isE tf n (p + 1)))) = (nI (p + 1)) := by first | (have hq := c_288; simp [symL, *]; done) | (have hq := c_305; simp [symL, *]; done) | (simp [symL, *]; done)
                          have hP9 : va_P D CLS [(tk, .inr (6, [.ref tp, .ref (xa 1), .ref (xa 2), .ref (xa 3), .int fi, .int (nI n), .int (nI (p + symL p0 (isE tf n (p + 1)))), .long v])), (tp, .inr (4, [.ref tpa])), (tpa, .inl (g 0, 2000, .inl tf))] H := by rw [he_16]; exact kSub hP [0, 1, 2] rfl
                          have hD9 : va_D A [(tk, .inr (6, [.ref tp, .ref (xa 1), .ref (xa 2), .ref (xa 3), .int fi, .int (nI n), .int (nI (p + symL p0 (isE tf n (p + 1)))), .long v])), (tp, .inr (4, [.ref tpa])), (tpa, .inl (g 0, 2000, .inl tf))] := by rw [he_16]; exact hD.sub [0, 1, 2] (by decide +kernel) rfl
                          have hr9 : some (z 7) = some (z (sg (symS p0 (isE tf n (p + 1))))) := by first | (have hq := c_288; simp [symS, sg, *]; done) | (have hq := c_305; simp [symS, sg, *]; done) | (simp [symS, sg, *]; done)
                          exact W.aret (v := va_rf (some (z 7))) hx hb hr (Or.inl ⟨_, rfl⟩) (va_rf_or _) (fun t9 ht9 hW9 => ⟨⟨some (z 7), (), rfl, hr9, by rw [ht9]; exact hP9, va_K.moved hW9.alike hK, hD9⟩, hS.F ht9⟩) hS.2.2 dX8_nextSymbol_251
                        · skip
                          by_cases c_11_93 : p0 = 93
                          · skip
                            refine lv_tableIn (off := 241) (tgt := 252) hx hb dX8_nextSymbol_11 (by rw [c_11_93]; decide) (by rw [c_11_93]; decide) (by rw [c_11_93]; rfl) (by decide) ?_
                            refine va_gets (n := "CLOSE_TEST") hx hb (hZ.en.1 8 (by decide)).1 hS hown (hts _ w_988) (fun _ h9 => h9) dX8_nextSymbol_252 ?_
                            have he_17 : (nI (p + symL p0 (isE tf n (p + 1)))) = (nI (p + 1)) := by first | (have hq := c_288; simp [symL, *]; done) | (have hq := c_305; simp [symL, *]; done) | (simp [symL, *]; done)
                            have hP9 : va_P D CLS [(tk, .inr (6, [.ref tp, .ref (xa 1), .ref (xa 2), .ref (xa 3), .int fi, .int (nI n), .int (nI (p + symL p0 (isE tf n (p + 1)))), .long v])), (tp, .inr (4, [.ref tpa])), (tpa, .inl (g 0, 2000, .inl tf))] H := by rw [he_17]; exact kSub hP [0, 1, 2] rfl
                            have hD9 : va_D A [(tk, .inr (6, [.ref tp, .ref (xa 1), .ref (xa 2), .ref (xa 3), .int fi, .int (nI n), .int (nI (p + symL p0 (isE tf n (p + 1)))), .long v])), (tp, .inr (4, [.ref tpa])), (tpa, .inl (g 0, 2000, .inl tf))] := by rw [he_17]; exact hD.sub [0, 1, 2] (by decide +kernel) rfl
                            have hr9 : some (z 8) = some (z (sg (symS p0 (isE tf n (p + 1))))) := by first | (have hq := c_288; simp [symS, sg, *]; done) | (have hq := c_305; simp [symS, sg, *]; done) | (simp [symS, sg, *]; done)
                            exact W.aret (v := va_rf (some (z 8))) hx hb hr (Or.inl ⟨_, rfl⟩) (va_rf_or _) (fun t9 ht9 hW9 => ⟨⟨some (z 8), (), rfl, hr9, by rw [ht9]; exact hP9, va_K.moved hW9.alike hK, hD9⟩, hS.F ht9⟩) hS.2.2 dX8_nextSymbol_255
                          · skip
                            refine k_tdef (x := p0) (tgt := 318) hx hb 54 dX8_nextSymbol_11 rfl (by decide) (by decide) (fun k hk => match k, hk with | 0, _ => Or.inr c_11_40 | 1, _ => Or.inr c_11_41 | 2, _ => Or.inr c_11_42 | 3, _ => Or.inr c_11_43 | 4, _ => Or.inr c_11_44 | 5, _ => Or.inr c_11_45 | 6, _ => Or.inl rfl | 7, _ => Or.inr c_11_47 | 8, _ => Or.inl rfl | 9, _ => Or.inl rfl | 10, _ => Or.inl rfl | 11, _ => Or.inl rfl | 12, _ => Or.inl rfl | 13, _ => Or.inl rfl | 14, _ => Or.inl rfl | 15, _ => Or.inl rfl | 16, _ => Or.inl rfl | 17, _ => Or.inl rfl | 18, _ => Or.inl rfl | 19, _ => Or.inr c_11_59 | 20, _ => Or.inr c_11_60 | 21, _ => Or.inr c_11_61 | 22, _ => Or.inr c_11_62 | 23, _ => Or.inl rfl | 24, _ => Or.inl rfl | 25, _ => Or.inl rfl | 26, _ => Or.inl rfl | 27, _ => Or.inl rfl | 28, _ => Or.inl rfl | 29, _ => Or.inl rfl | 30, _ => Or.inl rfl | 31, _ => Or.inl rfl | 32, _ => Or.inl rfl | 33, _ => Or.inl rfl | 34, _ => Or.inl rfl | 35, _ => Or.inl rfl | 36, _ => Or.inl rfl | 37, _ => Or.inl rfl | 38, _ => Or.inl rfl | 39, _ => Or.inl rfl | 40, _ => Or.inl rfl | 41, _ => Or.inl rfl | 42, _ => Or.inl rfl | 43, _ => Or.inl rfl | 44, _ => Or.inl rfl | 45, _ => Or.inl rfl | 46, _ => Or.inl rfl | 47, _ => Or.inl rfl | 48, _ => Or.inl rfl | 49, _ => Or.inl rfl | 50, _ => Or.inl rfl | 51, _ => Or.inr c_11_91 | 52, _ => Or.inl rfl | 53, _ => Or.inr c_11_93 | k9 + 54, h9 => absurd h9 (by omega)) (by decide) ?_
                            refine va_gets (n := "BAD") hx hb (hZ.en.1 1 (by decide)).1 hS hown (hts _ w_962) (fun _ h9 => h9) dX8_nextSymbol_318 ?_
                            have he_18 : (nI (p + symL p0 (isE tf n (p + 1)))) = (nI (p + 1)) := by first | (have hq := c_288; simp [symL, *]; done) | (have hq := c_305; simp [symL, *]; done) | (simp [symL, *]; done)
                            have hP9 : va_P D CLS [(tk, .inr (6, [.ref tp, .ref (xa 1), .ref (xa 2), .ref (xa 3), .int fi, .int (nI n), .int (nI (p + symL p0 (isE tf n (p + 1)))), .long v])), (tp, .inr (4, [.ref tpa])), (tpa, .inl (g 0, 2000, .inl tf))] H := by rw [he_18]; exact kSub hP [0, 1, 2] rfl
                            have hD9 : va_D A [(tk, .inr (6, [.ref tp, .ref (xa 1), .ref (xa 2), .ref (xa 3), .int fi, .int (nI n), .int (nI (p + symL p0 (isE tf n (p + 1)))), .long v])), (tp, .inr (4, [.ref tpa])), (tpa, .inl (g 0, 2000, .inl tf))] := by rw [he_18]; exact hD.sub [0, 1, 2] (by decide +kernel) rfl
                            have hr9 : some (z 1) = some (z (sg (symS p0 (isE tf n (p + 1))))) := by first | (have hq := c_288; simp [symS, sg, *]; done) | (have hq := c_305; simp [symS, sg, *]; done) | (simp [symS, sg, *]; done)
                            exact W.aret (v := va_rf (some (z 1))) hx hb hr (Or.inl ⟨_, rfl⟩) (va_rf_or _) (fun t9 ht9 hW9 => ⟨⟨some (z 1), (), rfl, hr9, by rw [ht9]; exact hP9, va_K.moved hW9.alike hK, hD9⟩, hS.F ht9⟩) hS.2.2 dX8_nextSymbol_321
theorem dX8_nextSign_0 : decode cX8_nextSign 0 = .ok (.aload_n 0, 1) := by decide +kernel
theorem dX8_nextSign_1 : decode cX8_nextSign 1 = .ok (.getfield 37, 3) := by decide +kernel
theorem dX8_nextSign_4 : decode cX8_nextSign 4 = .ok (.aload_n 0, 1) := by decide +kernel
theorem dX8_nextSign_5 : decode cX8_nextSign 5 = .ok (.getfield 34, 3) := by decide +kernel
theorem dX8_nextSign_8 : decode cX8_nextSign 8 = .ok (.if_icmp .lt 7, 3) := by decide +kernel
theorem dX8_nextSign_11 : decode cX8_nextSign 11 = .ok (.getstatic 66, 3) := by decide +kernel
theorem dX8_nextSign_14 : decode cX8_nextSign 14 = .ok (.areturn, 1) := by decide +kernel
theorem dX8_nextSign_15 : decode cX8_nextSign 15 = .ok (.aload_n 0, 1) := by decide +kernel
theorem dX8_nextSign_16 : decode cX8_nextSign 16 = .ok (.getfield 44, 3) := by decide +kernel
theorem dX8_nextSign_19 : decode cX8_nextSign 19 = .ok (.aload_n 0, 1) := by decide +kernel
theorem dX8_nextSign_20 : decode cX8_nextSign 20 = .ok (.getfield 37, 3) := by decide +kernel
theorem dX8_nextSign_23 : decode cX8_nextSign 23 = .ok (.invokevirtual 51, 3) := by decide +kernel
theorem dX8_nextSign_26 : decode cX8_nextSign 26 = .ok (.istore_n 1, 1) := by decide +kernel
theorem dX8_nextSign_27 : decode cX8_nextSign 27 = .ok (.iload_n 1, 1) := by decide +kernel
theorem dX8_nextSign_28 : decode cX8_nextSign 28 = .ok (.invokestatic 69, 3) := by decide +kernel
theorem dX8_nextSign_31 : decode cX8_nextSign 31 = .ok (.ifCond .eq 8, 3) := by decide +kernel
theorem dX8_nextSign_34 : decode cX8_nextSign 34 = .ok (.aload_n 0, 1) := by decide +kernel
theorem dX8_nextSign_35 : decode cX8_nextSign 35 = .ok (.invokevirtual 73, 3) := by decide +kernel
theorem dX8_nextSign_38 : decode cX8_nextSign 38 = .ok (.areturn, 1) := by decide +kernel
theorem dX8_nextSign_39 : decode cX8_nextSign 39 = .ok (.iload_n 1, 1) := by decide +kernel
theorem dX8_nextSign_40 : decode cX8_nextSign 40 = .ok (.invokestatic 76, 3) := by decide +kernel
theorem dX8_nextSign_43 : decode cX8_nextSign 43 = .ok (.ifCond .eq 10, 3) := by decide +kernel
theorem dX8_nextSign_46 : decode cX8_nextSign 46 = .ok (.aload_n 0, 1) := by decide +kernel
theorem dX8_nextSign_47 : decode cX8_nextSign 47 = .ok (.invokevirtual 79, 3) := by decide +kernel
theorem dX8_nextSign_50 : decode cX8_nextSign 50 = .ok (.goto 8, 3) := by decide +kernel
theorem dX8_nextSign_53 : decode cX8_nextSign 53 = .ok (.aload_n 0, 1) := by decide +kernel
theorem dX8_nextSign_54 : decode cX8_nextSign 54 = .ok (.iload_n 1, 1) := by decide +kernel
theorem dX8_nextSign_55 : decode cX8_nextSign 55 = .ok (.invokevirtual 82, 3) := by decide +kernel
theorem dX8_nextSign_58 : decode cX8_nextSign 58 = .ok (.areturn, 1) := by decide +kernel
set_option maxHeartbeats 4000000 in
set_option maxRecDepth 100000 in
/-- Tokens.nextSign -/
theorem c_X8_nextSign (l9 : Launch) (z : Nat → Nat) (D : va_G) (g : Nat → ClassId) (tk : Nat) (xa : Nat → Nat) (tp : Nat) (tpa : Nat) (tf : Nat → Int32) (fi : Int32) (n : Nat) (p : Nat) (v : Int64) (hp : p ≤ n) (hn : n ≤ 2000) (sz : Nat) : Met l9 yX8_nextSign (WS yX8_nextSign cX8_nextSign 2 (some (.object "ChoirStalls$Sign"))) ({ frames := 3, cells := 0, slots := 0, locals := 63 }) (va_Pc [.ref tk] (kPre z D g [(tk, .inr (6, [.ref tp, .ref (xa 1), .ref (xa 2), .ref (xa 3), .int fi, .int (nI n), .int (nI p), .long v])), (tp, .inr (4, [.ref tpa])), (tpa, .inl (g 0, 2000, .inl tf))] sz)) (va_Qq (fun (r9 : Option Nat) (u9 : Unit) => r9 = some (z (sg (lexS tf n p v)))) (kB D g (va_A [(tk, .inr (6, [.ref tp, .ref (xa 1), .ref (xa 2), .ref (xa 3), .int fi, .int (nI n), .int (nI p), .long v])), (tp, .inr (4, [.ref tpa])), (tpa, .inl (g 0, 2000, .inl tf))] sz) (fun (u9 : Unit) => [(tk, .inr (6, [.ref tp, .ref (xa 1), .ref (xa 2), .ref (xa 3), .int fi, .int (nI n), .int (nI (lexE tf n p v)), .long (lexV tf n p v)])), (tp, .inr (4, [.ref tpa])), (tpa, .inl (g 0, 2000, .inl tf))])) (va_A [(tk, .inr (6, [.ref tp, .ref (xa 1), .ref (xa 2), .ref (xa 3), .int fi, .int (nI n), .int (nI p), .long v])), (tp, .inr (4, [.ref tpa])), (tpa, .inl (g 0, 2000, .inl tf))] sz)) 0 0 (va_A [(tk, .inr (6, [.ref tp, .ref (xa 1), .ref (xa 2), .ref (xa 3), .int fi, .int (nI n), .int (nI p), .long v])), (tp, .inr (4, [.ref tpa])), (tpa, .inl (g 0, 2000, .inl tf))] sz) := by
  refine Met.ofW (cc := cX8_nextSign) (maxL := 2) (ret := (some (.object "ChoirStalls$Sign"))) (by decide) rfl ?_
  intro p9 e9 s9 m9 args9 below9 meth9 c9 s₁ B hml hv
  obtain ⟨rfl, hsz, hP, hK, hD0, hZ⟩ := hv
  have hx := B.exec
  have hb := B.bytes
  have hr := B.returns
  have hts := ws_sub (atoms_spec (ws := WS yX8_nextSign cX8_nextSign 2 (some (.object "ChoirStalls$Sign"))) B.pre)
  have hown : s9.vm.findClass RX8 = some m9.cls := findClass_of_methodNamed B.named
  have hlocks := B.notSynchronized
  subst hsz
  have hD := hD0.self (sz := s9.heap.size)
  generalize hAe : va_A [(tk, .inr (6, [.ref tp, .ref (xa 1), .ref (xa 2), .ref (xa 3), .int fi, .int (nI n), .int (nI p), .long v])), (tp, .inr (4, [.ref tpa])), (tpa, .inl (g 0, 2000, .inl tf))] s9.heap.size = A at hD hZ ⊢
  have hA : ∀ q : Nat, s9.heap.size ≤ q → A q := fun q h => by rw [← hAe]; exact Or.inr h
  have hS : va_S A s9.heap s9.heap [] := va_S.rf
  have hP : va_P D CLS [(tk, .inr (6, [.ref tp, .ref (xa 1), .ref (xa 2), .ref (xa 3), .int fi, .int (nI n), .int (nI p), .long v])), (tp, .inr (4, [.ref tpa])), (tpa, .inl (g 0, 2000, .inl tf))] s9.heap := hP
  have hl := lv_entry ([.ref tk]) (n := 2) (Nat.le_of_ble_eq_true rfl)
  rw [lg_entry_eq]
  generalize (lg_sl ([.ref tk]) ++ List.replicate (2 - (lg_sl ([.ref tk])).length) Slot.unset).toArray = ls at hl ⊢
  have hl : lv_has ls 2 [(0, .ref tk)] := hl
  change W p9 l9 e9 ({ frames := 3, cells := 0, slots := 0, locals := 63 } : Room) s9 m9 _ below9 meth9 c9 _ _ _ _ _ _
  refine lv_aload_n hx hb dX8_nextSign_0 rfl (lv_at hl 0 rfl) ?_
  refine va_get (D := D) (ci := 6) (v := .int (nI p)) (C := RX8) (T := TX8) (N := 8) hx hb hts in_X8 hown hK hP 0 rfl rfl 6 (by decide) (hts _ w_281) (fun _ h9 => h9) rfl dX8_nextSign_1 ?_
  refine lv_aload_n hx hb dX8_nextSign_4 rfl (lv_at hl 0 rfl) ?_
  refine va_get (D := D) (ci := 6) (v := .int (nI n)) (C := RX8) (T := TX8) (N := 8) hx hb hts in_X8 hown hK hP 0 rfl rfl 5 (by decide) (hts _ w_280) (fun _ h9 => h9) rfl dX8_nextSign_5 ?_
  refine lv_icmp_lt (tgt := 15) hx hb dX8_nextSign_8 (by decide) (fun c_8 => ?_) (fun c_8 => ?_)
  · skip
    have c_8 : p < n := (nI_ltI (a := p) (b := n) (by omega) (by omega)).mp c_8
    refine lv_aload_n hx hb dX8_nextSign_15 rfl (lv_at hl 0 rfl) ?_
    refine va_get (D := D) (ci := 6) (v := .ref tp) (C := RX8) (T := TX8) (N := 8) hx hb hts in_X8 hown hK hP 0 rfl rfl 0 (by decide) (hts _ w_274) (fun _ h9 => h9) rfl dX8_nextSign_16 ?_
    refine lv_aload_n hx hb dX8_nextSign_19 rfl (lv_at hl 0 rfl) ?_
    refine va_get (D := D) (ci := 6) (v := .int (nI p)) (C := RX8) (T := TX8) (N := 8) hx hb hts in_X8 hown hK hP 0 rfl rfl 6 (by decide) (hts _ w_281) (fun _ h9 => h9) rfl dX8_nextSign_20 ?_
    refine k_i hA hP hD hS [(tk, .inr (6, [.ref tp, .ref (xa 1), .ref (xa 2), .ref (xa 3), .int fi, .int (nI n), .int (nI p), .long v]))] (va_runV (As := [.int (nI p)]) (rest := []) ⟨hx, hb, hml, hown, hts⟩ (c_X5_at l9 z D g tp tpa 2000 tf (nI p) (by first | assumption | decide | omega) (Array.size s9.heap)) (cwV 1 hts gv_X8_51 rfl rfl rfl (by decide +kernel) ⟨Nat.le_of_ble_eq_true rfl, Nat.le_of_ble_eq_true rfl⟩) ⟨kBlind, va_recv hK hP (ci := 4) (q0 := 1) rfl rfl, kPre.pc hK hZ hA hP hD hS [1, 2] rfl (by decide +kernel)⟩ rfl rfl hl.1 rfl (lv_room (Nat.le_of_ble_eq_true rfl)) dX8_nextSign_23 ⟨Nat.le_of_ble_eq_true rfl, Nat.le_of_ble_eq_true rfl⟩) [1, 2] [0] rfl rfl rfl rfl (fun r_23 u_1 H locs hw_23 hP7 hD7 hS7 => ?_)
    clear hP hD hS
    have hP := hP7
    have hD := hD7
    have hS := hS7
    clear hP7 hD7 hS7
    obtain rfl := hw_23
    replace hP : va_P D CLS [(tk, .inr (6, [.ref tp, .ref (xa 1), .ref (xa 2), .ref (xa 3), .int fi, .int (nI n), .int (nI p), .long v])), (tp, .inr (4, [.ref tpa])), (tpa, .inl (g 0, 2000, .inl tf))] H := hP
    replace hD : va_D A [(tk, .inr (6, [.ref tp, .ref (xa 1), .ref (xa 2), .ref (xa 3), .int fi, .int (nI n), .int (nI p), .long v])), (tp, .inr (4, [.ref tpa])), (tpa, .inl (g 0, 2000, .inl tf))] := hD
    refine k_topi (show (rat 2000 tf (nI p)) = (tf p) from rat_nI (by omega) (by omega)) ?_
    refine lv_istore_n (lv' := [(1, .int (tf p)), (0, .ref tk)]) hx hb dX8_nextSign_26 rfl hl (by decide) rfl (fun ls hl => ?_)
    refine lv_iload_n hx hb dX8_nextSign_27 rfl (lv_at hl 0 rfl) ?_
    refine k_i hA hP hD hS [(tk, .inr (6, [.ref tp, .ref (xa 1), .ref (xa 2), .ref (xa 3), .int fi, .int (nI n), .int (nI p), .long v])), (tp, .inr (4, [.ref tpa])), (tpa, .inl (g 0, 2000, .inl tf))] (va_runS (As := [.int (tf p)]) (rest := []) ⟨hx, hb, hml, hown, hts⟩ (c_X8_isLetter l9 z D g (tf p)  (Array.size H)) (va_cwS 1 hts gs_X8_69 rfl rfl rfl (by decide +kernel) ⟨Nat.le_of_ble_eq_true rfl, Nat.le_of_ble_eq_true rfl⟩) ⟨kBlind, kPre.pc hK hZ hA hP hD hS [] rfl (by decide +kernel)⟩ rfl rfl hl.1 rfl (lv_room (Nat.le_of_ble_eq_true rfl)) dX8_nextSign_28 ⟨Nat.le_of_ble_eq_true rfl, Nat.le_of_ble_eq_true rfl⟩) [] [0, 1, 2] rfl rfl rfl rfl (fun r_28 u_2 H locs hw_28 hP7 hD7 hS7 => ?_)
    clear hP hD hS
    have hP := hP7
    have hD := hD7
    have hS := hS7
    clear hP7 hD7 hS7
    obtain rfl := hw_28
    replace hP : va_P D CLS [(tk, .inr (6, [.ref tp, .ref (xa 1), .ref (xa 2), .ref (xa 3), .int fi, .int (nI n), .int (nI p), .long v])), (tp, .inr (4, [.ref tpa])), (tpa, .inl (g 0, 2000, .inl tf))] H := hP
    replace hD : va_D A [(tk, .inr (6, [.ref tp, .ref (xa 1), .ref (xa 2), .ref (xa 3), .int fi, .int (nI n), .int (nI p), .long v])), (tp, .inr (4, [.ref tpa])), (tpa, .inl (g 0, 2000, .inl tf))] := hD
    refine lv_if_eq (tgt := 39) hx hb dX8_nextSign_31 (by decide) (fun c_31 => ?_) (fun c_31 => ?_)
    · skip
      have c_31 := bI_0.mp c_31
      refine lv_iload_n hx hb dX8_nextSign_39 rfl (lv_at hl 0 rfl) ?_
      refine k_i hA hP hD hS [(tk, .inr (6, [.ref tp, .ref (xa 1), .ref (xa 2), .ref (xa 3), .int fi, .int (nI n), .int (nI p), .long v])), (tp, .inr (4, [.ref tpa])), (tpa, .inl (g 0, 2000, .inl tf))] (va_runS (As := [.int (tf p)]) (rest := []) ⟨hx, hb, hml, hown, hts⟩ (c_X8_isDigit l9 z D g (tf p)  (Array.size H)) (va_cwS 1 hts gs_X8_76 rfl rfl rfl (by decide +kernel) ⟨Nat.le_of_ble_eq_true rfl, Nat.le_of_ble_eq_true rfl⟩) ⟨kBlind, kPre.pc hK hZ hA hP hD hS [] rfl (by decide +kernel)⟩ rfl rfl hl.1 rfl (lv_room (Nat.le_of_ble_eq_true rfl)) dX8_nextSign_40 ⟨Nat.le_of_ble_eq_true rfl, Nat.le_of_ble_eq_true rfl⟩) [] [0, 1, 2] rfl rfl rfl rfl (fun r_40 u_3 H locs hw_40 hP7 hD7 hS7 => ?_)
      clear hP hD hS
      have hP := hP7
      have hD := hD7
      have hS := hS7
      clear hP7 hD7 hS7
      obtain rfl := hw_40
      replace hP : va_P D CLS [(tk, .inr (6, [.ref tp, .ref (xa 1), .ref (xa 2), .ref (xa 3), .int fi, .int (nI n), .int (nI p), .long v])), (tp, .inr (4, [.ref tpa])), (tpa, .inl (g 0, 2000, .inl tf))] H := hP
      replace hD : va_D A [(tk, .inr (6, [.ref tp, .ref (xa 1), .ref (xa 2), .ref (xa 3), .int fi, .int (nI n), .int (nI p), .long v])), (tp, .inr (4, [.ref tpa])), (tpa, .inl (g 0, 2000, .inl tf))] := hD
      refine lv_if_eq (tgt := 53) hx hb dX8_nextSign_43 (by decide) (fun c_43 => ?_) (fun c_43 => ?_)
      · skip
        have c_43 := bI_0.mp c_43
        refine lv_aload_n hx hb dX8_nextSign_53 rfl (lv_at hl 1 rfl) ?_
        refine lv_iload_n hx hb dX8_nextSign_54 rfl (lv_at hl 0 rfl) ?_
        refine k_q hA hP hD hS [] (va_runV (As := [.int (tf p)]) (rest := []) ⟨hx, hb, hml, hown, hts⟩ (c_X8_nextSymbol l9 z D g tk xa tp tpa tf fi n p v (tf p) (by first | assumption | decide | omega) (by first | assumption | decide | omega) (Array.size H)) (cwV 1 hts gv_X8_82 rfl rfl rfl (by decide +kernel) ⟨Nat.le_of_ble_eq_true rfl, Nat.le_of_ble_eq_true rfl⟩) ⟨kBlind, va_recv hK hP (ci := 6) (q0 := 0) rfl rfl, kPre.pc hK hZ hA hP hD hS [0, 1, 2] rfl (by decide +kernel)⟩ rfl rfl hl.1 rfl (lv_room (Nat.le_of_ble_eq_true rfl)) dX8_nextSign_55 ⟨Nat.le_of_ble_eq_true rfl, Nat.le_of_ble_eq_true rfl⟩) [0, 1, 2] [] rfl rfl rfl rfl (fun r_55 u_4 H locs hw_55 hP7 hD7 hS7 => ?_)
        clear hP hD hS
        have hP := hP7
        have hD := hD7
        have hS := hS7
        clear hP7 hD7 hS7
        obtain rfl := hw_55
        replace hP : va_P D CLS [(tk, .inr (6, [.ref tp, .ref (xa 1), .ref (xa 2), .ref (xa 3), .int fi, .int (nI n), .int (nI (p + symL (tf p) (isE tf n (p + 1)))), .long v])), (tp, .inr (4, [.ref tpa])), (tpa, .inl (g 0, 2000, .inl tf))] H := hP
        replace hD : va_D A [(tk, .inr (6, [.ref tp, .ref (xa 1), .ref (xa 2), .ref (xa 3), .int fi, .int (nI n), .int (nI (p + symL (tf p) (isE tf n (p + 1)))), .long v])), (tp, .inr (4, [.ref tpa])), (tpa, .inl (g 0, 2000, .inl tf))] := hD
        have he_5 : (nI (lexE tf n p v)) = (nI (p + symL (tf p) (isE tf n (p + 1)))) := by first | (unfold lexE; first | rw [(if_pos (show n ≤ p by omega))] | rw [(if_neg (show ¬ n ≤ p by omega)), (if_pos c_31)] | rw [(if_neg (show ¬ n ≤ p by omega)), (if_neg (show ¬ isL (tf p) = true by rw [c_31]; decide)), (if_pos c_43)] | rw [(if_neg (show ¬ n ≤ p by omega)), (if_neg (show ¬ isL (tf p) = true by rw [c_31]; decide)), (if_neg (show ¬ isD (tf p) = true by rw [c_43]; decide))]) | (unfold lexV; first | rw [(if_pos (show n ≤ p by omega))] | rw [(if_neg (show ¬ n ≤ p by omega)), (if_pos c_31)] | rw [(if_neg (show ¬ n ≤ p by omega)), (if_neg (show ¬ isL (tf p) = true by rw [c_31]; decide)), (if_pos c_43)] | rw [(if_neg (show ¬ n ≤ p by omega)), (if_neg (show ¬ isL (tf p) = true by rw [c_31]; decide)), (if_neg (show ¬ isD (tf p) = true by rw [c_43]; decide))])
        have he_6 : (lexV tf n p v) = v := by first | (unfold lexE; first | rw [(if_pos (show n ≤ p by omega))] | rw [(if_neg (show ¬ n ≤ p by omega)), (if_pos c_31)] | rw [(if_neg (show ¬ n ≤ p by omega)), (if_neg (show ¬ isL (tf p) = true by rw [c_31]; decide)), (if_pos c_43)] | rw [(if_neg (show ¬ n ≤ p by omega)), (if_neg (show ¬ isL (tf p) = true by rw [c_31]; decide)), (if_neg (show ¬ isD (tf p) = true by rw [c_43]; decide))]) | (unfold lexV; first | rw [(if_pos (show n ≤ p by omega))] | rw [(if_neg (show ¬ n ≤ p by omega)), (if_pos c_31)] | rw [(if_neg (show ¬ n ≤ p by omega)), (if_neg (show ¬ isL (tf p) = true by rw [c_31]; decide)), (if_pos c_43)] | rw [(if_neg (show ¬ n ≤ p by omega)), (if_neg (show ¬ isL (tf p) = true by rw [c_31]; decide)), (if_neg (show ¬ isD (tf p) = true by rw [c_43]; decide))])
        have hP9 : va_P D CLS [(tk, .inr (6, [.ref tp, .ref (xa 1), .ref (xa 2), .ref (xa 3), .int fi, .int (nI n), .int (nI (lexE tf n p v)), .long (lexV tf n p v)])), (tp, .inr (4, [.ref tpa])), (tpa, .inl (g 0, 2000, .inl tf))] H := by rw [he_5, he_6]; exact kSub hP [0, 1, 2] rfl
        have hD9 : va_D A [(tk, .inr (6, [.ref tp, .ref (xa 1), .ref (xa 2), .ref (xa 3), .int fi, .int (nI n), .int (nI (lexE tf n p v)), .long (lexV tf n p v)])), (tp, .inr (4, [.ref tpa])), (tpa, .inl (g 0, 2000, .inl tf))] := by rw [he_5, he_6]; exact hD.sub [0, 1, 2] (by decide +kernel) rfl
        have hr9 : some (z (sg (symS (tf p) (isE tf n (p + 1))))) = some (z (sg (lexS tf n p v))) := by unfold lexS; first | (rw [(if_pos (show n ≤ p by omega))]; rfl) | rw [(if_neg (show ¬ n ≤ p by omega)), (if_pos c_31)] | rw [(if_neg (show ¬ n ≤ p by omega)), (if_neg (show ¬ isL (tf p) = true by rw [c_31]; decide)), (if_pos c_43)] | rw [(if_neg (show ¬ n ≤ p by omega)), (if_neg (show ¬ isL (tf p) = true by rw [c_31]; decide)), (if_neg (show ¬ isD (tf p) = true by rw [c_43]; decide))]
        exact W.aret (v := va_rf (some (z (sg (symS (tf p) (isE tf n (p + 1))))))) hx hb hr (Or.inl ⟨_, rfl⟩) (va_rf_or _) (fun t9 ht9 hW9 => ⟨⟨some (z (sg (symS (tf p) (isE tf n (p + 1))))), (), rfl, hr9, by rw [ht9]; exact hP9, va_K.moved hW9.alike hK, hD9⟩, hS.F ht9⟩) hS.2.2 dX8_nextSign_58
      · skip
        have c_43 := bI_1.mp c_43
        refine lv_aload_n hx hb dX8_nextSign_46 rfl (lv_at hl 1 rfl) ?_
        refine k_q hA hP hD hS [] (va_runV (As := []) (rest := []) ⟨hx, hb, hml, hown, hts⟩ (c_X8_nextNumber l9 z D g tk xa tp tpa tf fi n p v (by first | assumption | decide | omega) (by first | assumption | decide | omega) (Array.size H)) (cwV 0 hts gv_X8_79 rfl rfl rfl (by decide +kernel) ⟨Nat.le_of_ble_eq_true rfl, Nat.le_of_ble_eq_true rfl⟩) ⟨kBlind, va_recv hK hP (ci := 6) (q0 := 0) rfl rfl, kPre.pc hK hZ hA hP hD hS [0, 1, 2] rfl (by decide +kernel)⟩ rfl rfl hl.1 rfl (lv_room (Nat.le_of_ble_eq_true rfl)) dX8_nextSign_47 ⟨Nat.le_of_ble_eq_true rfl, Nat.le_of_ble_eq_true rfl⟩) [0, 1, 2] [] rfl rfl rfl rfl (fun r_47 u_7 H locs hw_47 hP7 hD7 hS7 => ?_)
        clear hP hD hS
        have hP := hP7
        have hD := hD7
        have hS := hS7
        clear hP7 hD7 hS7
        obtain rfl := hw_47
        replace hP : va_P D CLS [(tk, .inr (6, [.ref tp, .ref (xa 1), .ref (xa 2), .ref (xa 3), .int fi, .int (nI n), .int (nI ((nbp tf n p v).1)), .long ((nbp tf n p v).2)])), (tp, .inr (4, [.ref tpa])), (tpa, .inl (g 0, 2000, .inl tf))] H := hP
        replace hD : va_D A [(tk, .inr (6, [.ref tp, .ref (xa 1), .ref (xa 2), .ref (xa 3), .int fi, .int (nI n), .int (nI ((nbp tf n p v).1)), .long ((nbp tf n p v).2)])), (tp, .inr (4, [.ref tpa])), (tpa, .inl (g 0, 2000, .inl tf))] := hD
        refine lv_goto (tgt := 58) hx hb dX8_nextSign_50 (by decide) ?_
        have he_8 : (nI (lexE tf n p v)) = (nI ((nbp tf n p v).1)) := by first | (unfold lexE; first | rw [(if_pos (show n ≤ p by omega))] | rw [(if_neg (show ¬ n ≤ p by omega)), (if_pos c_31)] | rw [(if_neg (show ¬ n ≤ p by omega)), (if_neg (show ¬ isL (tf p) = true by rw [c_31]; decide)), (if_pos c_43)] | rw [(if_neg (show ¬ n ≤ p by omega)), (if_neg (show ¬ isL (tf p) = true by rw [c_31]; decide)), (if_neg (show ¬ isD (tf p) = true by rw [c_43]; decide))]) | (unfold lexV; first | rw [(if_pos (show n ≤ p by omega))] | rw [(if_neg (show ¬ n ≤ p by omega)), (if_pos c_31)] | rw [(if_neg (show ¬ n ≤ p by omega)), (if_neg (show ¬ isL (tf p) = true by rw [c_31]; decide)), (if_pos c_43)] | rw [(if_neg (show ¬ n ≤ p by omega)), (if_neg (show ¬ isL (tf p) = true by rw [c_31]; decide)), (if_neg (show ¬ isD (tf p) = true by rw [c_43]; decide))])
        have he_9 : (lexV tf n p v) = ((nbp tf n p v).2) := by first | (unfold lexE; first | rw [(if_pos (show n ≤ p by omega))] | rw [(if_neg (show ¬ n ≤ p by omega)), (if_pos c_31)] | rw [(if_neg (show ¬ n ≤ p by omega)), (if_neg (show ¬ isL (tf p) = true by rw [c_31]; decide)), (if_pos c_43)] | rw [(if_neg (show ¬ n ≤ p by omega)), (if_neg (show ¬ isL (tf p) = true by rw [c_31]; decide)), (if_neg (show ¬ isD (tf p) = true by rw [c_43]; decide))]) | (unfold lexV; first | rw [(if_pos (show n ≤ p by omega))] | rw [(if_neg (show ¬ n ≤ p by omega)), (if_pos c_31)] | rw [(if_neg (show ¬ n ≤ p by omega)), (if_neg (show ¬ isL (tf p) = true by rw [c_31]; decide)), (if_pos c_43)] | rw [(if_neg (show ¬ n ≤ p by omega)), (if_neg (show ¬ isL (tf p) = true by rw [c_31]; decide)), (if_neg (show ¬ isD (tf p) = true by rw [c_43]; decide))])
        have hP9 : va_P D CLS [(tk, .inr (6, [.ref tp, .ref (xa 1), .ref (xa 2), .ref (xa 3), .int fi, .int (nI n), .int (nI (lexE tf n p v)), .long (lexV tf n p v)])), (tp, .inr (4, [.ref tpa])), (tpa, .inl (g 0, 2000, .inl tf))] H := by rw [he_8, he_9]; exact kSub hP [0, 1, 2] rfl
        have hD9 : va_D A [(tk, .inr (6, [.ref tp, .ref (xa 1), .ref (xa 2), .ref (xa 3), .int fi, .int (nI n), .int (nI (lexE tf n p v)), .long (lexV tf n p v)])), (tp, .inr (4, [.ref tpa])), (tpa, .inl (g 0, 2000, .inl tf))] := by rw [he_8, he_9]; exact hD.sub [0, 1, 2] (by decide +kernel) rfl
        have hr9 : some (z (sg (if 6 < (nbp tf n p v).1 - p then 1 else 3))) = some (z (sg (lexS tf n p v))) := by unfold lexS; first | (rw [(if_pos (show n ≤ p by omega))]; rfl) | rw [(if_neg (show ¬ n ≤ p by omega)), (if_pos c_31)] | rw [(if_neg (show ¬ n ≤ p by omega)), (if_neg (show ¬ isL (tf p) = true by rw [c_31]; decide)), (if_pos c_43)] | rw [(if_neg (show ¬ n ≤ p by omega)), (if_neg (show ¬ isL (tf p) = true by rw [c_31]; decide)), (if_neg (show ¬ isD (tf p) = true by rw [c_43]; decide))]
        exact W.aret (v := va_rf (some (z (sg (if 6 < (nbp tf n p v).1 - p then 1 else 3))))) hx hb hr (Or.inl ⟨_, rfl⟩) (va_rf_or _) (fun t9 ht9 hW9 => ⟨⟨some (z (sg (if 6 < (nbp tf n p v).1 - p then 1 else 3))), (), rfl, hr9, by rw [ht9]; exact hP9, va_K.moved hW9.alike hK, hD9⟩, hS.F ht9⟩) hS.2.2 dX8_nextSign_58
    · skip
      have c_31 := bI_1.mp c_31
      refine lv_aload_n hx hb dX8_nextSign_34 rfl (lv_at hl 1 rfl) ?_
      refine k_q hA hP hD hS [] (va_runV (As := []) (rest := []) ⟨hx, hb, hml, hown, hts⟩ (c_X8_nextWord l9 z D g tk xa tp tpa tf fi n p v (by first | assumption | decide | omega) (by first | assumption | decide | omega) (Array.size H)) (cwV 0 hts gv_X8_73 rfl rfl rfl (by decide +kernel) ⟨Nat.le_of_ble_eq_true rfl, Nat.le_of_ble_eq_true rfl⟩) ⟨kBlind, va_recv hK hP (ci := 6) (q0 := 0) rfl rfl, kPre.pc hK hZ hA hP hD hS [0, 1, 2] rfl (by decide +kernel)⟩ rfl rfl hl.1 rfl (lv_room (Nat.le_of_ble_eq_true rfl)) dX8_nextSign_35 ⟨Nat.le_of_ble_eq_true rfl, Nat.le_of_ble_eq_true rfl⟩) [0, 1, 2] [] rfl rfl rfl rfl (fun r_35 u_10 H locs hw_35 hP7 hD7 hS7 => ?_)
      clear hP hD hS
      have hP := hP7
      have hD := hD7
      have hS := hS7
      clear hP7 hD7 hS7
      obtain rfl := hw_35
      replace hP : va_P D CLS [(tk, .inr (6, [.ref tp, .ref (xa 1), .ref (xa 2), .ref (xa 3), .int fi, .int (nI n), .int (nI ((wdp tf n p v).1)), .long ((wdp tf n p v).2)])), (tp, .inr (4, [.ref tpa])), (tpa, .inl (g 0, 2000, .inl tf))] H := hP
      replace hD : va_D A [(tk, .inr (6, [.ref tp, .ref (xa 1), .ref (xa 2), .ref (xa 3), .int fi, .int (nI n), .int (nI ((wdp tf n p v).1)), .long ((wdp tf n p v).2)])), (tp, .inr (4, [.ref tpa])), (tpa, .inl (g 0, 2000, .inl tf))] := hD
      have he_11 : (nI (lexE tf n p v)) = (nI ((wdp tf n p v).1)) := by first | (unfold lexE; first | rw [(if_pos (show n ≤ p by omega))] | rw [(if_neg (show ¬ n ≤ p by omega)), (if_pos c_31)] | rw [(if_neg (show ¬ n ≤ p by omega)), (if_neg (show ¬ isL (tf p) = true by rw [c_31]; decide)), (if_pos c_43)] | rw [(if_neg (show ¬ n ≤ p by omega)), (if_neg (show ¬ isL (tf p) = true by rw [c_31]; decide)), (if_neg (show ¬ isD (tf p) = true by rw [c_43]; decide))]) | (unfold lexV; first | rw [(if_pos (show n ≤ p by omega))] | rw [(if_neg (show ¬ n ≤ p by omega)), (if_pos c_31)] | rw [(if_neg (show ¬ n ≤ p by omega)), (if_neg (show ¬ isL (tf p) = true by rw [c_31]; decide)), (if_pos c_43)] | rw [(if_neg (show ¬ n ≤ p by omega)), (if_neg (show ¬ isL (tf p) = true by rw [c_31]; decide)), (if_neg (show ¬ isD (tf p) = true by rw [c_43]; decide))])
      have he_12 : (lexV tf n p v) = ((wdp tf n p v).2) := by first | (unfold lexE; first | rw [(if_pos (show n ≤ p by omega))] | rw [(if_neg (show ¬ n ≤ p by omega)), (if_pos c_31)] | rw [(if_neg (show ¬ n ≤ p by omega)), (if_neg (show ¬ isL (tf p) = true by rw [c_31]; decide)), (if_pos c_43)] | rw [(if_neg (show ¬ n ≤ p by omega)), (if_neg (show ¬ isL (tf p) = true by rw [c_31]; decide)), (if_neg (show ¬ isD (tf p) = true by rw [c_43]; decide))]) | (unfold lexV; first | rw [(if_pos (show n ≤ p by omega))] | rw [(if_neg (show ¬ n ≤ p by omega)), (if_pos c_31)] | rw [(if_neg (show ¬ n ≤ p by omega)), (if_neg (show ¬ isL (tf p) = true by rw [c_31]; decide)), (if_pos c_43)] | rw [(if_neg (show ¬ n ≤ p by omega)), (if_neg (show ¬ isL (tf p) = true by rw [c_31]; decide)), (if_neg (show ¬ isD (tf p) = true by rw [c_43]; decide))])
      have hP9 : va_P D CLS [(tk, .inr (6, [.ref tp, .ref (xa 1), .ref (xa 2), .ref (xa 3), .int fi, .int (nI n), .int (nI (lexE tf n p v)), .long (lexV tf n p v)])), (tp, .inr (4, [.ref tpa])), (tpa, .inl (g 0, 2000, .inl tf))] H := by rw [he_11, he_12]; exact kSub hP [0, 1, 2] rfl
      have hD9 : va_D A [(tk, .inr (6, [.ref tp, .ref (xa 1), .ref (xa 2), .ref (xa 3), .int fi, .int (nI n), .int (nI (lexE tf n p v)), .long (lexV tf n p v)])), (tp, .inr (4, [.ref tpa])), (tpa, .inl (g 0, 2000, .inl tf))] := by rw [he_11, he_12]; exact hD.sub [0, 1, 2] (by decide +kernel) rfl
      have hr9 : some (z (sg (if 10 < (wdp tf n p v).1 - p then 1 else sword (wdp tf n p v).2))) = some (z (sg (lexS tf n p v))) := by unfold lexS; first | (rw [(if_pos (show n ≤ p by omega))]; rfl) | rw [(if_neg (show ¬ n ≤ p by omega)), (if_pos c_31)] | rw [(if_neg (show ¬ n ≤ p by omega)), (if_neg (show ¬ isL (tf p) = true by rw [c_31]; decide)), (if_pos c_43)] | rw [(if_neg (show ¬ n ≤ p by omega)), (if_neg (show ¬ isL (tf p) = true by rw [c_31]; decide)), (if_neg (show ¬ isD (tf p) = true by rw [c_43]; decide))]
      exact W.aret (v := va_rf (some (z (sg (if 10 < (wdp tf n p v).1 - p then 1 else sword (wdp tf n p v).2))))) hx hb hr (Or.inl ⟨_, rfl⟩) (va_rf_or _) (fun t9 ht9 hW9 => ⟨⟨some (z (sg (if 10 < (wdp tf n p v).1 - p then 1 else sword (wdp tf n p v).2))), (), rfl, hr9, by rw [ht9]; exact hP9, va_K.moved hW9.alike hK, hD9⟩, hS.F ht9⟩) hS.2.2 dX8_nextSign_38
  · skip
    have c_8 : ¬ p < n := fun h => c_8 ((nI_ltI (a := p) (b := n) (by omega) (by omega)).mpr h)
    refine va_gets (n := "END") hx hb (hZ.en.1 0 (by decide)).1 hS hown (hts _ w_946) (fun _ h9 => h9) dX8_nextSign_11 ?_
    have he_13 : (nI (lexE tf n p v)) = (nI p) := by first | (unfold lexE; first | rw [(if_pos (show n ≤ p by omega))] | rw [(if_neg (show ¬ n ≤ p by omega)), (if_pos c_31)] | rw [(if_neg (show ¬ n ≤ p by omega)), (if_neg (show ¬ isL (tf p) = true by rw [c_31]; decide)), (if_pos c_43)] | rw [(if_neg (show ¬ n ≤ p by omega)), (if_neg (show ¬ isL (tf p) = true by rw [c_31]; decide)), (if_neg (show ¬ isD (tf p) = true by rw [c_43]; decide))]) | (unfold lexV; first | rw [(if_pos (show n ≤ p by omega))] | rw [(if_neg (show ¬ n ≤ p by omega)), (if_pos c_31)] | rw [(if_neg (show ¬ n ≤ p by omega)), (if_neg (show ¬ isL (tf p) = true by rw [c_31]; decide)), (if_pos c_43)] | rw [(if_neg (show ¬ n ≤ p by omega)), (if_neg (show ¬ isL (tf p) = true by rw [c_31]; decide)), (if_neg (show ¬ isD (tf p) = true by rw [c_43]; decide))])
    have he_14 : (lexV tf n p v) = v := by first | (unfold lexE; first | rw [(if_pos (show n ≤ p by omega))] | rw [(if_neg (show ¬ n ≤ p by omega)), (if_pos c_31)] | rw [(if_neg (show ¬ n ≤ p by omega)), (if_neg (show ¬ isL (tf p) = true by rw [c_31]; decide)), (if_pos c_43)] | rw [(if_neg (show ¬ n ≤ p by omega)), (if_neg (show ¬ isL (tf p) = true by rw [c_31]; decide)), (if_neg (show ¬ isD (tf p) = true by rw [c_43]; decide))]) | (unfold lexV; first | rw [(if_pos (show n ≤ p by omega))] | rw [(if_neg (show ¬ n ≤ p by omega)), (if_pos c_31)] | rw [(if_neg (show ¬ n ≤ p by omega)), (if_neg (show ¬ isL (tf p) = true by rw [c_31]; decide)), (if_pos c_43)] | rw [(if_neg (show ¬ n ≤ p by omega)), (if_neg (show ¬ isL (tf p) = true by rw [c_31]; decide)), (if_neg (show ¬ isD (tf p) = true by rw [c_43]; decide))])
    have hP9 : va_P D CLS [(tk, .inr (6, [.ref tp, .ref (xa 1), .ref (xa 2), .ref (xa 3), .int fi, .int (nI n), .int (nI (lexE tf n p v)), .long (lexV tf n p v)])), (tp, .inr (4, [.ref tpa])), (tpa, .inl (g 0, 2000, .inl tf))] s9.heap := by rw [he_13, he_14]; exact kSub hP [0, 1, 2] rfl
    have hD9 : va_D A [(tk, .inr (6, [.ref tp, .ref (xa 1), .ref (xa 2), .ref (xa 3), .int fi, .int (nI n), .int (nI (lexE tf n p v)), .long (lexV tf n p v)])), (tp, .inr (4, [.ref tpa])), (tpa, .inl (g 0, 2000, .inl tf))] := by rw [he_13, he_14]; exact hD.sub [0, 1, 2] (by decide +kernel) rfl
    have hr9 : some (z 0) = some (z (sg (lexS tf n p v))) := by unfold lexS; first | (rw [(if_pos (show n ≤ p by omega))]; rfl) | rw [(if_neg (show ¬ n ≤ p by omega)), (if_pos c_31)] | rw [(if_neg (show ¬ n ≤ p by omega)), (if_neg (show ¬ isL (tf p) = true by rw [c_31]; decide)), (if_pos c_43)] | rw [(if_neg (show ¬ n ≤ p by omega)), (if_neg (show ¬ isL (tf p) = true by rw [c_31]; decide)), (if_neg (show ¬ isD (tf p) = true by rw [c_43]; decide))]
    exact W.aret (v := va_rf (some (z 0))) hx hb hr (Or.inl ⟨_, rfl⟩) (va_rf_or _) (fun t9 ht9 hW9 => ⟨⟨some (z 0), (), rfl, hr9, by rw [ht9]; exact hP9, va_K.moved hW9.alike hK, hD9⟩, hS.F ht9⟩) hS.2.2 dX8_nextSign_14
theorem dX8_split_0 : decode cX8_split 0 = .ok (.aload_n 0, 1) := by decide +kernel
theorem dX8_split_1 : decode cX8_split 1 = .ok (.iconst 0, 1) := by decide +kernel
theorem dX8_split_2 : decode cX8_split 2 = .ok (.putfield 30, 3) := by decide +kernel
theorem dX8_split_5 : decode cX8_split 5 = .ok (.aload_n 0, 1) := by decide +kernel
theorem dX8_split_6 : decode cX8_split 6 = .ok (.iload_n 1, 1) := by decide +kernel
theorem dX8_split_7 : decode cX8_split 7 = .ok (.putfield 34, 3) := by decide +kernel
theorem dX8_split_10 : decode cX8_split 10 = .ok (.aload_n 0, 1) := by decide +kernel
theorem dX8_split_11 : decode cX8_split 11 = .ok (.iconst 0, 1) := by decide +kernel
theorem dX8_split_12 : decode cX8_split 12 = .ok (.putfield 37, 3) := by decide +kernel
theorem dX8_split_15 : decode cX8_split 15 = .ok (.iconst 0, 1) := by decide +kernel
theorem dX8_split_16 : decode cX8_split 16 = .ok (.istore_n 2, 1) := by decide +kernel
theorem dX8_split_17 : decode cX8_split 17 = .ok (.iload_n 2, 1) := by decide +kernel
theorem dX8_split_18 : decode cX8_split 18 = .ok (.aload_n 0, 1) := by decide +kernel
theorem dX8_split_19 : decode cX8_split 19 = .ok (.getfield 11, 3) := by decide +kernel
theorem dX8_split_22 : decode cX8_split 22 = .ok (.arraylength, 1) := by decide +kernel
theorem dX8_split_23 : decode cX8_split 23 = .ok (.if_icmp .ge 100, 3) := by decide +kernel
theorem dX8_split_26 : decode cX8_split 26 = .ok (.iload_n 2, 1) := by decide +kernel
theorem dX8_split_27 : decode cX8_split 27 = .ok (.aload_n 0, 1) := by decide +kernel
theorem dX8_split_28 : decode cX8_split 28 = .ok (.getfield 17, 3) := by decide +kernel
theorem dX8_split_31 : decode cX8_split 31 = .ok (.arraylength, 1) := by decide +kernel
theorem dX8_split_32 : decode cX8_split 32 = .ok (.if_icmp .ge 91, 3) := by decide +kernel
theorem dX8_split_35 : decode cX8_split 35 = .ok (.aload_n 0, 1) := by decide +kernel
theorem dX8_split_36 : decode cX8_split 36 = .ok (.invokevirtual 55, 3) := by decide +kernel
theorem dX8_split_39 : decode cX8_split 39 = .ok (.aload_n 0, 1) := by decide +kernel
theorem dX8_split_40 : decode cX8_split 40 = .ok (.getfield 26, 3) := by decide +kernel
theorem dX8_split_43 : decode cX8_split 43 = .ok (.iload_n 2, 1) := by decide +kernel
theorem dX8_split_44 : decode cX8_split 44 = .ok (.aload_n 0, 1) := by decide +kernel
theorem dX8_split_45 : decode cX8_split 45 = .ok (.getfield 37, 3) := by decide +kernel
theorem dX8_split_48 : decode cX8_split 48 = .ok (.invokevirtual 58, 3) := by decide +kernel
theorem dX8_split_51 : decode cX8_split 51 = .ok (.aload_n 0, 1) := by decide +kernel
theorem dX8_split_52 : decode cX8_split 52 = .ok (.lconst 0, 1) := by decide +kernel
theorem dX8_split_53 : decode cX8_split 53 = .ok (.putfield 40, 3) := by decide +kernel
theorem dX8_split_56 : decode cX8_split 56 = .ok (.iload_n 2, 1) := by decide +kernel
theorem dX8_split_57 : decode cX8_split 57 = .ok (.sipush 400, 3) := by decide +kernel
theorem dX8_split_60 : decode cX8_split 60 = .ok (.if_icmp .lt 14, 3) := by decide +kernel
theorem dX8_split_63 : decode cX8_split 63 = .ok (.aload_n 0, 1) := by decide +kernel
theorem dX8_split_64 : decode cX8_split 64 = .ok (.getfield 37, 3) := by decide +kernel
theorem dX8_split_67 : decode cX8_split 67 = .ok (.aload_n 0, 1) := by decide +kernel
theorem dX8_split_68 : decode cX8_split 68 = .ok (.getfield 34, 3) := by decide +kernel
theorem dX8_split_71 : decode cX8_split 71 = .ok (.if_icmp .lt 10, 3) := by decide +kernel
theorem dX8_split_74 : decode cX8_split 74 = .ok (.aload_n 0, 1) := by decide +kernel
theorem dX8_split_75 : decode cX8_split 75 = .ok (.invokevirtual 62, 3) := by decide +kernel
theorem dX8_split_78 : decode cX8_split 78 = .ok (.goto 6, 3) := by decide +kernel
theorem dX8_split_81 : decode cX8_split 81 = .ok (.getstatic 47, 3) := by decide +kernel
theorem dX8_split_84 : decode cX8_split 84 = .ok (.astore_n 3, 1) := by decide +kernel
theorem dX8_split_85 : decode cX8_split 85 = .ok (.aload_n 0, 1) := by decide +kernel
theorem dX8_split_86 : decode cX8_split 86 = .ok (.getfield 11, 3) := by decide +kernel
theorem dX8_split_89 : decode cX8_split 89 = .ok (.iload_n 2, 1) := by decide +kernel
theorem dX8_split_90 : decode cX8_split 90 = .ok (.aload_n 3, 1) := by decide +kernel
theorem dX8_split_91 : decode cX8_split 91 = .ok (.aastore, 1) := by decide +kernel
theorem dX8_split_92 : decode cX8_split 92 = .ok (.aload_n 0, 1) := by decide +kernel
theorem dX8_split_93 : decode cX8_split 93 = .ok (.getfield 17, 3) := by decide +kernel
theorem dX8_split_96 : decode cX8_split 96 = .ok (.iload_n 2, 1) := by decide +kernel
theorem dX8_split_97 : decode cX8_split 97 = .ok (.aload_n 0, 1) := by decide +kernel
theorem dX8_split_98 : decode cX8_split 98 = .ok (.getfield 40, 3) := by decide +kernel
theorem dX8_split_101 : decode cX8_split 101 = .ok (.lastore, 1) := by decide +kernel
theorem dX8_split_102 : decode cX8_split 102 = .ok (.aload_n 3, 1) := by decide +kernel
theorem dX8_split_103 : decode cX8_split 103 = .ok (.getstatic 66, 3) := by decide +kernel
theorem dX8_split_106 : decode cX8_split 106 = .ok (.if_acmp .eq 10, 3) := by decide +kernel
theorem dX8_split_109 : decode cX8_split 109 = .ok (.aload_n 3, 1) := by decide +kernel
theorem dX8_split_110 : decode cX8_split 110 = .ok (.getstatic 47, 3) := by decide +kernel
theorem dX8_split_113 : decode cX8_split 113 = .ok (.if_acmp .ne 4, 3) := by decide +kernel
theorem dX8_split_116 : decode cX8_split 116 = .ok (.return_, 1) := by decide +kernel
theorem dX8_split_117 : decode cX8_split 117 = .ok (.iinc 2 1, 3) := by decide +kernel
theorem dX8_split_120 : decode cX8_split 120 = .ok (.goto (-103), 3) := by decide +kernel
set_option maxHeartbeats 4000000 in
set_option maxRecDepth 100000 in
/-- Tokens.split -/
theorem c_X8_split (l9 : Launch) (z : Nat → Nat) (D : va_G) (g : Nat → ClassId) (tk : Nat) (xa : Nat → Nat) (tp : Nat) (tpa : Nat) (tf : Nat → Int32) (fi : Int32) (n : Nat) (le : Nat) (p : Nat) (v : Int64) (sq : Nat → Nat) (sv : Nat → Int64) (spl : Nat → Int32) (hn : n ≤ 2000) (sz : Nat) : Met l9 yX8_split (WS yX8_split cX8_split 4 none) ({ frames := 4, cells := 0, slots := 0, locals := 84 }) (va_Pc [.ref tk, .int (nI n)] (kPre z D g [(tk, .inr (6, [.ref tp, .ref (xa 1), .ref (xa 2), .ref (xa 3), .int fi, .int (nI le), .int (nI p), .long v])), (xa 1, .inl (g 2, 401, .inr (.inr (.inr (.inr (fun i9 => sgo z (sq i9))))))), (xa 2, .inl (g 1, 401, .inr (.inl sv))), (xa 3, .inr (4, [.ref (xa 4)])), (xa 4, .inl (g 0, 401, .inl spl)), (tp, .inr (4, [.ref tpa])), (tpa, .inl (g 0, 2000, .inl tf))] sz)) (va_Qv (fun (u9 : Nat × Nat × Int64) => (u9.1 ≤ 400 ∧ (∀ j, j < u9.1 → tkS tf n j ≠ 0 ∧ tkS tf n j ≠ 1) ∧ (tkS tf n u9.1 = 0 ∨ tkS tf n u9.1 = 1))) (kB D g (va_A [(tk, .inr (6, [.ref tp, .ref (xa 1), .ref (xa 2), .ref (xa 3), .int fi, .int (nI le), .int (nI p), .long v])), (xa 1, .inl (g 2, 401, .inr (.inr (.inr (.inr (fun i9 => sgo z (sq i9))))))), (xa 2, .inl (g 1, 401, .inr (.inl sv))), (xa 3, .inr (4, [.ref (xa 4)])), (xa 4, .inl (g 0, 401, .inl spl)), (tp, .inr (4, [.ref tpa])), (tpa, .inl (g 0, 2000, .inl tf))] sz) (fun (u9 : Nat × Nat × Int64) => [(tk, .inr (6, [.ref tp, .ref (xa 1), .ref (xa 2), .ref (xa 3), .int 0, .int (nI n), .int (nI u9.2.1), .long u9.2.2])), (xa 1, .inl (g 2, 401, .inr (.inr (.inr (.inr (fun i9 => sgo z ((cutN (u9.1 + 1) (tkS tf n) sq) i9))))))), (xa 2, .inl (g 1, 401, .inr (.inl (cutN (u9.1 + 1) (tkV tf n) sv)))), (xa 3, .inr (4, [.ref (xa 4)])), (xa 4, .inl (g 0, 401, .inl (cutN (u9.1 + 1) (fun j => nI (tkP tf n j)) spl))), (tp, .inr (4, [.ref tpa])), (tpa, .inl (g 0, 2000, .inl tf))])) (va_A [(tk, .inr (6, [.ref tp, .ref (xa 1), .ref (xa 2), .ref (xa 3), .int fi, .int (nI le), .int (nI p), .long v])), (xa 1, .inl (g 2, 401, .inr (.inr (.inr (.inr (fun i9 => sgo z (sq i9))))))), (xa 2, .inl (g 1, 401, .inr (.inl sv))), (xa 3, .inr (4, [.ref (xa 4)])), (xa 4, .inl (g 0, 401, .inl spl)), (tp, .inr (4, [.ref tpa])), (tpa, .inl (g 0, 2000, .inl tf))] sz)) 0 0 (va_A [(tk, .inr (6, [.ref tp, .ref (xa 1), .ref (xa 2), .ref (xa 3), .int fi, .int (nI le), .int (nI p), .long v])), (xa 1, .inl (g 2, 401, .inr (.inr (.inr (.inr (fun i9 => sgo z (sq i9))))))), (xa 2, .inl (g 1, 401, .inr (.inl sv))), (xa 3, .inr (4, [.ref (xa 4)])), (xa 4, .inl (g 0, 401, .inl spl)), (tp, .inr (4, [.ref tpa])), (tpa, .inl (g 0, 2000, .inl tf))] sz) := by
  refine Met.ofW (cc := cX8_split) (maxL := 4) (ret := none) (by decide) rfl ?_
  intro p9 e9 s9 m9 args9 below9 meth9 c9 s₁ B hml hv
  obtain ⟨rfl, hsz, hP, hK, hD0, hZ⟩ := hv
  have hx := B.exec
  have hb := B.bytes
  have hr := B.returns
  have hts := ws_sub (atoms_spec (ws := WS yX8_split cX8_split 4 none) B.pre)
  have hown : s9.vm.findClass RX8 = some m9.cls := findClass_of_methodNamed B.named
  have hlocks := B.notSynchronized
  subst hsz
  have hD := hD0.self (sz := s9.heap.size)
  generalize hAe : va_A [(tk, .inr (6, [.ref tp, .ref (xa 1), .ref (xa 2), .ref (xa 3), .int fi, .int (nI le), .int (nI p), .long v])), (xa 1, .inl (g 2, 401, .inr (.inr (.inr (.inr (fun i9 => sgo z (sq i9))))))), (xa 2, .inl (g 1, 401, .inr (.inl sv))), (xa 3, .inr (4, [.ref (xa 4)])), (xa 4, .inl (g 0, 401, .inl spl)), (tp, .inr (4, [.ref tpa])), (tpa, .inl (g 0, 2000, .inl tf))] s9.heap.size = A at hD hZ ⊢
  have hA : ∀ q : Nat, s9.heap.size ≤ q → A q := fun q h => by rw [← hAe]; exact Or.inr h
  have hS : va_S A s9.heap s9.heap [] := va_S.rf
  have hP : va_P D CLS [(tk, .inr (6, [.ref tp, .ref (xa 1), .ref (xa 2), .ref (xa 3), .int fi, .int (nI le), .int (nI p), .long v])), (xa 1, .inl (g 2, 401, .inr (.inr (.inr (.inr (fun i9 => sgo z (sq i9))))))), (xa 2, .inl (g 1, 401, .inr (.inl sv))), (xa 3, .inr (4, [.ref (xa 4)])), (xa 4, .inl (g 0, 401, .inl spl)), (tp, .inr (4, [.ref tpa])), (tpa, .inl (g 0, 2000, .inl tf))] s9.heap := hP
  have hl := lv_entry ([.ref tk, .int (nI n)]) (n := 4) (Nat.le_of_ble_eq_true rfl)
  rw [lg_entry_eq]
  generalize (lg_sl ([.ref tk, .int (nI n)]) ++ List.replicate (4 - (lg_sl ([.ref tk, .int (nI n)])).length) Slot.unset).toArray = ls at hl ⊢
  have hl : lv_has ls 4 [(0, .ref tk), (1, .int (nI n))] := hl
  change W p9 l9 e9 ({ frames := 4, cells := 0, slots := 0, locals := 84 } : Room) s9 m9 _ below9 meth9 c9 _ _ _ _ _ _
  refine lv_aload_n hx hb dX8_split_0 rfl (lv_at hl 0 rfl) ?_
  refine lv_iconst (v := 0) hx hb dX8_split_1 (by decide) ?_
  refine va_put (D := D) (ci := 6) (v := .int 0) (ty := .int) (C := RX8) (T := TX8) (N := 8) hx hb hts in_X8 tyX8 tyX8_ok nmX8 hown hK hP hD hS 0 rfl rfl 4 (by decide) (hts _ w_278) (fun _ h9 => h9) rfl (by decide +kernel) rfl rfl (Nat.le_of_ble_eq_true rfl) dX8_split_2 (fun H locs hP7 hD7 hS7 => ?_)
  clear hP hD hS
  have hP := hP7
  have hD := hD7
  have hS := hS7
  clear hP7 hD7 hS7
  replace hP : va_P D CLS [(tk, .inr (6, [.ref tp, .ref (xa 1), .ref (xa 2), .ref (xa 3), .int 0, .int (nI le), .int (nI p), .long v])), (xa 1, .inl (g 2, 401, .inr (.inr (.inr (.inr (fun i9 => sgo z (sq i9))))))), (xa 2, .inl (g 1, 401, .inr (.inl sv))), (xa 3, .inr (4, [.ref (xa 4)])), (xa 4, .inl (g 0, 401, .inl spl)), (tp, .inr (4, [.ref tpa])), (tpa, .inl (g 0, 2000, .inl tf))] H := hP
  replace hD : va_D A [(tk, .inr (6, [.ref tp, .ref (xa 1), .ref (xa 2), .ref (xa 3), .int 0, .int (nI le), .int (nI p), .long v])), (xa 1, .inl (g 2, 401, .inr (.inr (.inr (.inr (fun i9 => sgo z (sq i9))))))), (xa 2, .inl (g 1, 401, .inr (.inl sv))), (xa 3, .inr (4, [.ref (xa 4)])), (xa 4, .inl (g 0, 401, .inl spl)), (tp, .inr (4, [.ref tpa])), (tpa, .inl (g 0, 2000, .inl tf))] := hD
  refine lv_aload_n hx hb dX8_split_5 rfl (lv_at hl 0 rfl) ?_
  refine lv_iload_n hx hb dX8_split_6 rfl (lv_at hl 1 rfl) ?_
  refine va_put (D := D) (ci := 6) (v := .int (nI n)) (ty := .int) (C := RX8) (T := TX8) (N := 8) hx hb hts in_X8 tyX8 tyX8_ok nmX8 hown hK hP hD hS 0 rfl rfl 5 (by decide) (hts _ w_280) (fun _ h9 => h9) rfl (by decide +kernel) rfl rfl (Nat.le_of_ble_eq_true rfl) dX8_split_7 (fun H locs hP7 hD7 hS7 => ?_)
  clear hP hD hS
  have hP := hP7
  have hD := hD7
  have hS := hS7
  clear hP7 hD7 hS7
  replace hP : va_P D CLS [(tk, .inr (6, [.ref tp, .ref (xa 1), .ref (xa 2), .ref (xa 3), .int 0, .int (nI n), .int (nI p), .long v])), (xa 1, .inl (g 2, 401, .inr (.inr (.inr (.inr (fun i9 => sgo z (sq i9))))))), (xa 2, .inl (g 1, 401, .inr (.inl sv))), (xa 3, .inr (4, [.ref (xa 4)])), (xa 4, .inl (g 0, 401, .inl spl)), (tp, .inr (4, [.ref tpa])), (tpa, .inl (g 0, 2000, .inl tf))] H := hP
  replace hD : va_D A [(tk, .inr (6, [.ref tp, .ref (xa 1), .ref (xa 2), .ref (xa 3), .int 0, .int (nI n), .int (nI p), .long v])), (xa 1, .inl (g 2, 401, .inr (.inr (.inr (.inr (fun i9 => sgo z (sq i9))))))), (xa 2, .inl (g 1, 401, .inr (.inl sv))), (xa 3, .inr (4, [.ref (xa 4)])), (xa 4, .inl (g 0, 401, .inl spl)), (tp, .inr (4, [.ref tpa])), (tpa, .inl (g 0, 2000, .inl tf))] := hD
  refine lv_aload_n hx hb dX8_split_10 rfl (lv_at hl 0 rfl) ?_
  refine lv_iconst (v := 0) hx hb dX8_split_11 (by decide) ?_
  refine va_put (D := D) (ci := 6) (v := .int 0) (ty := .int) (C := RX8) (T := TX8) (N := 8) hx hb hts in_X8 tyX8 tyX8_ok nmX8 hown hK hP hD hS 0 rfl rfl 6 (by decide) (hts _ w_281) (fun _ h9 => h9) rfl (by decide +kernel) rfl rfl (Nat.le_of_ble_eq_true rfl) dX8_split_12 (fun H locs hP7 hD7 hS7 => ?_)
  clear hP hD hS
  have hP := hP7
  have hD := hD7
  have hS := hS7
  clear hP7 hD7 hS7
  replace hP : va_P D CLS [(tk, .inr (6, [.ref tp, .ref (xa 1), .ref (xa 2), .ref (xa 3), .int 0, .int (nI n), .int 0, .long v])), (xa 1, .inl (g 2, 401, .inr (.inr (.inr (.inr (fun i9 => sgo z (sq i9))))))), (xa 2, .inl (g 1, 401, .inr (.inl sv))), (xa 3, .inr (4, [.ref (xa 4)])), (xa 4, .inl (g 0, 401, .inl spl)), (tp, .inr (4, [.ref tpa])), (tpa, .inl (g 0, 2000, .inl tf))] H := hP
  replace hD : va_D A [(tk, .inr (6, [.ref tp, .ref (xa 1), .ref (xa 2), .ref (xa 3), .int 0, .int (nI n), .int 0, .long v])), (xa 1, .inl (g 2, 401, .inr (.inr (.inr (.inr (fun i9 => sgo z (sq i9))))))), (xa 2, .inl (g 1, 401, .inr (.inl sv))), (xa 3, .inr (4, [.ref (xa 4)])), (xa 4, .inl (g 0, 401, .inl spl)), (tp, .inr (4, [.ref tpa])), (tpa, .inl (g 0, 2000, .inl tf))] := hD
  refine lv_iconst (v := 0) hx hb dX8_split_15 (by decide) ?_
  refine lv_istore_n (lv' := [(2, .int 0), (0, .ref tk), (1, .int (nI n))]) hx hb dX8_split_16 rfl hl (by decide) rfl (fun ls hl => ?_)
  have loop_17 : ∀ (n9 : Nat) (i : Nat) (w : Int64), n9 > 401 - i → (i ≤ 401) → (∀ j, j < i → tkS tf n j ≠ 0 ∧ tkS tf n j ≠ 1) → ∀ (H : Heap) (locs : List Loc), va_P D CLS [(tk, .inr (6, [.ref tp, .ref (xa 1), .ref (xa 2), .ref (xa 3), .int 0, .int (nI n), .int (nI (posn tf n i)), .long w])), (xa 1, .inl (g 2, 401, .inr (.inr (.inr (.inr (fun i9 => sgo z ((cutN i (tkS tf n) sq) i9))))))), (xa 2, .inl (g 1, 401, .inr (.inl (cutN i (tkV tf n) sv)))), (xa 3, .inr (4, [.ref (xa 4)])), (xa 4, .inl (g 0, 401, .inl (cutN i (fun j => nI (tkP tf n j)) spl))), (tp, .inr (4, [.ref tpa])), (tpa, .inl (g 0, 2000, .inl tf))] H → va_D A [(tk, .inr (6, [.ref tp, .ref (xa 1), .ref (xa 2), .ref (xa 3), .int 0, .int (nI n), .int (nI (posn tf n i)), .long w])), (xa 1, .inl (g 2, 401, .inr (.inr (.inr (.inr (fun i9 => sgo z ((cutN i (tkS tf n) sq) i9))))))), (xa 2, .inl (g 1, 401, .inr (.inl (cutN i (tkV tf n) sv)))), (xa 3, .inr (4, [.ref (xa 4)])), (xa 4, .inl (g 0, 401, .inl (cutN i (fun j => nI (tkP tf n j)) spl))), (tp, .inr (4, [.ref tpa])), (tpa, .inl (g 0, 2000, .inl tf))] → va_S A s9.heap H locs → ∀ (ls : Array Slot), lv_has ls 4 [(0, .ref tk), (2, .int (nI i))] → W p9 l9 e9 ({ frames := 4, cells := 0, slots := 0, locals := 84 } : Room) s9 m9 ([.ref tk, .int (nI n)] : List Value).toArray below9 meth9 c9 H locs 0 0 (MQ below9 (va_Qv (fun (u9 : Nat × Nat × Int64) => (u9.1 ≤ 400 ∧ (∀ j, j < u9.1 → tkS tf n j ≠ 0 ∧ tkS tf n j ≠ 1) ∧ (tkS tf n u9.1 = 0 ∨ tkS tf n u9.1 = 1))) (kB D g A (fun (u9 : Nat × Nat × Int64) => [(tk, .inr (6, [.ref tp, .ref (xa 1), .ref (xa 2), .ref (xa 3), .int 0, .int (nI n), .int (nI u9.2.1), .long u9.2.2])), (xa 1, .inl (g 2, 401, .inr (.inr (.inr (.inr (fun i9 => sgo z ((cutN (u9.1 + 1) (tkS tf n) sq) i9))))))), (xa 2, .inl (g 1, 401, .inr (.inl (cutN (u9.1 + 1) (tkV tf n) sv)))), (xa 3, .inr (4, [.ref (xa 4)])), (xa 4, .inl (g 0, 401, .inl (cutN (u9.1 + 1) (fun j => nI (tkP tf n j)) spl))), (tp, .inr (4, [.ref tpa])), (tpa, .inl (g 0, 2000, .inl tf))])) A) ([.ref tk, .int (nI n)] : List Value).toArray s9 0 0 A) (F0 m9 17 ls []) := by
    intro n9
    induction n9 with
    | zero => intro i w hm9; exact absurd hm9 (by omega)
    | succ n9 ih_17 =>
      intro i w hm9 hi hf H locs hP hD hS ls hl
      have hpn := posn_le (f := tf) (n := n) i
      have htn := skp_le (f := tf) hpn
      refine lv_iload_n hx hb dX8_split_17 rfl (lv_at hl 1 rfl) ?_
      refine lv_aload_n hx hb dX8_split_18 rfl (lv_at hl 0 rfl) ?_
      refine va_get (D := D) (ci := 6) (v := .ref (xa 1)) (C := RX8) (T := TX8) (N := 8) hx hb hts in_X8 hown hK hP 0 rfl rfl 1 (by decide) (hts _ w_275) (fun _ h9 => h9) rfl dX8_split_19 ?_
      refine va_alen (v := 401) hx hb hK hP 1 2 rfl rfl rfl dX8_split_22 ?_
      refine lv_icmp_ge (tgt := 123) hx hb dX8_split_23 (by decide) (fun c_23 => ?_) (fun c_23 => ?_)
      · skip
        have c_23 : 401 ≤ i := (nI_leI (a := 401) (b := i) (by omega) (by omega)).mp c_23
        exact absurd tkS_400 (fun h => by have h2 := hf 400 (by omega); rcases h with h | h; exact h2.1 h; exact h2.2 h)
      · skip
        have c_23 : ¬ 401 ≤ i := fun h => c_23 ((nI_leI (a := 401) (b := i) (by omega) (by omega)).mpr h)
        refine lv_iload_n hx hb dX8_split_26 rfl (lv_at hl 1 rfl) ?_
        refine lv_aload_n hx hb dX8_split_27 rfl (lv_at hl 0 rfl) ?_
        refine va_get (D := D) (ci := 6) (v := .ref (xa 2)) (C := RX8) (T := TX8) (N := 8) hx hb hts in_X8 hown hK hP 0 rfl rfl 2 (by decide) (hts _ w_276) (fun _ h9 => h9) rfl dX8_split_28 ?_
        refine va_alen (v := 401) hx hb hK hP 2 1 rfl rfl rfl dX8_split_31 ?_
        refine lv_icmp_ge (tgt := 123) hx hb dX8_split_32 (by decide) (fun c_32 => ?_) (fun c_32 => ?_)
        · skip
          have c_32 : 401 ≤ i := (nI_leI (a := 401) (b := i) (by omega) (by omega)).mp c_32
          exact absurd c_32 (by omega)
        · skip
          have c_32 : ¬ 401 ≤ i := fun h => c_32 ((nI_leI (a := 401) (b := i) (by omega) (by omega)).mpr h)
          refine lv_aload_n hx hb dX8_split_35 rfl (lv_at hl 0 rfl) ?_
          refine k_v hA hP hD hS [(xa 1, .inl (g 2, 401, .inr (.inr (.inr (.inr (fun i9 => sgo z ((cutN i (tkS tf n) sq) i9))))))), (xa 2, .inl (g 1, 401, .inr (.inl (cutN i (tkV tf n) sv)))), (xa 3, .inr (4, [.ref (xa 4)])), (xa 4, .inl (g 0, 401, .inl (cutN i (fun j => nI (tkP tf n j)) spl)))] (va_runV (As := []) (rest := []) ⟨hx, hb, hml, hown, hts⟩ (c_X8_skipBlanks l9 z D g tk xa tp tpa tf 0 n (posn tf n i) w (by first | assumption | decide | omega) (by first | assumption | decide | omega) (Array.size H)) (cwV 0 hts gv_X8_55 rfl rfl rfl (by decide +kernel) ⟨Nat.le_of_ble_eq_true rfl, Nat.le_of_ble_eq_true rfl⟩) ⟨kBlind, va_recv hK hP (ci := 6) (q0 := 0) rfl rfl, kPre.pc hK hZ hA hP hD hS [0, 5, 6] rfl (by decide +kernel)⟩ rfl rfl hl.1 rfl (lv_room (Nat.le_of_ble_eq_true rfl)) dX8_split_36 ⟨Nat.le_of_ble_eq_true rfl, Nat.le_of_ble_eq_true rfl⟩) [0, 5, 6] [1, 2, 3, 4] rfl rfl rfl rfl (fun u_1 H locs hw_36 hP7 hD7 hS7 => ?_)
          clear hP hD hS
          have hP := hP7
          have hD := hD7
          have hS := hS7
          clear hP7 hD7 hS7
          replace hP : va_P D CLS [(xa 1, .inl (g 2, 401, .inr (.inr (.inr (.inr (fun i9 => sgo z ((cutN i (tkS tf n) sq) i9))))))), (xa 2, .inl (g 1, 401, .inr (.inl (cutN i (tkV tf n) sv)))), (xa 3, .inr (4, [.ref (xa 4)])), (xa 4, .inl (g 0, 401, .inl (cutN i (fun j => nI (tkP tf n j)) spl))), (tk, .inr (6, [.ref tp, .ref (xa 1), .ref (xa 2), .ref (xa 3), .int 0, .int (nI n), .int (nI (skp tf n (posn tf n i))), .long w])), (tp, .inr (4, [.ref tpa])), (tpa, .inl (g 0, 2000, .inl tf))] H := hP
          replace hD : va_D A [(xa 1, .inl (g 2, 401, .inr (.inr (.inr (.inr (fun i9 => sgo z ((cutN i (tkS tf n) sq) i9))))))), (xa 2, .inl (g 1, 401, .inr (.inl (cutN i (tkV tf n) sv)))), (xa 3, .inr (4, [.ref (xa 4)])), (xa 4, .inl (g 0, 401, .inl (cutN i (fun j => nI (tkP tf n j)) spl))), (tk, .inr (6, [.ref tp, .ref (xa 1), .ref (xa 2), .ref (xa 3), .int 0, .int (nI n), .int (nI (skp tf n (posn tf n i))), .long w])), (tp, .inr (4, [.ref tpa])), (tpa, .inl (g 0, 2000, .inl tf))] := hD
          refine lv_aload_n hx hb dX8_split_39 rfl (lv_at hl 0 rfl) ?_
          refine va_get (D := D) (ci := 6) (v := .ref (xa 3)) (C := RX8) (T := TX8) (N := 8) hx hb hts in_X8 hown hK hP 4 rfl rfl 3 (by decide) (hts _ w_277) (fun _ h9 => h9) rfl dX8_split_40 ?_
          refine lv_iload_n hx hb dX8_split_43 rfl (lv_at hl 1 rfl) ?_
          refine lv_aload_n hx hb dX8_split_44 rfl (lv_at hl 0 rfl) ?_
          refine va_get (D := D) (ci := 6) (v := .int (nI (skp tf n (posn tf n i)))) (C := RX8) (T := TX8) (N := 8) hx hb hts in_X8 hown hK hP 4 rfl rfl 6 (by decide) (hts _ w_281) (fun _ h9 => h9) rfl dX8_split_45 ?_
          refine k_v hA hP hD hS [(xa 1, .inl (g 2, 401, .inr (.inr (.inr (.inr (fun i9 => sgo z ((cutN i (tkS tf n) sq) i9))))))), (xa 2, .inl (g 1, 401, .inr (.inl (cutN i (tkV tf n) sv)))), (tk, .inr (6, [.ref tp, .ref (xa 1), .ref (xa 2), .ref (xa 3), .int 0, .int (nI n), .int (nI (skp tf n (posn tf n i))), .long w])), (tp, .inr (4, [.ref tpa])), (tpa, .inl (g 0, 2000, .inl tf))] (va_runV (As := [.int (nI i), .int (nI (skp tf n (posn tf n i)))]) (rest := []) ⟨hx, hb, hml, hown, hts⟩ (c_X5_put l9 z D g (xa 3) (xa 4) 401 (cutN i (fun j => nI (tkP tf n j)) spl) (nI i) (nI (skp tf n (posn tf n i))) (by first | assumption | decide | omega) (Array.size H)) (cwV 2 hts gv_X8_58 rfl rfl rfl (by decide +kernel) ⟨Nat.le_of_ble_eq_true rfl, Nat.le_of_ble_eq_true rfl⟩) ⟨kBlind, va_recv hK hP (ci := 4) (q0 := 2) rfl rfl, kPre.pc hK hZ hA hP hD hS [2, 3] rfl (by decide +kernel)⟩ rfl rfl hl.1 rfl (lv_room (Nat.le_of_ble_eq_true rfl)) dX8_split_48 ⟨Nat.le_of_ble_eq_true rfl, Nat.le_of_ble_eq_true rfl⟩) [2, 3] [0, 1, 4, 5, 6] rfl rfl rfl rfl (fun u_2 H locs hw_48 hP7 hD7 hS7 => ?_)
          clear hP hD hS
          have hP := hP7
          have hD := hD7
          have hS := hS7
          clear hP7 hD7 hS7
          replace hP : va_P D CLS [(xa 1, .inl (g 2, 401, .inr (.inr (.inr (.inr (fun i9 => sgo z ((cutN i (tkS tf n) sq) i9))))))), (xa 2, .inl (g 1, 401, .inr (.inl (cutN i (tkV tf n) sv)))), (tk, .inr (6, [.ref tp, .ref (xa 1), .ref (xa 2), .ref (xa 3), .int 0, .int (nI n), .int (nI (skp tf n (posn tf n i))), .long w])), (tp, .inr (4, [.ref tpa])), (tpa, .inl (g 0, 2000, .inl tf)), (xa 3, .inr (4, [.ref (xa 4)])), (xa 4, .inl (g 0, 401, .inl (rput 401 (cutN i (fun j => nI (tkP tf n j)) spl) (nI i) (nI (skp tf n (posn tf n i))))))] H := hP
          replace hD : va_D A [(xa 1, .inl (g 2, 401, .inr (.inr (.inr (.inr (fun i9 => sgo z ((cutN i (tkS tf n) sq) i9))))))), (xa 2, .inl (g 1, 401, .inr (.inl (cutN i (tkV tf n) sv)))), (tk, .inr (6, [.ref tp, .ref (xa 1), .ref (xa 2), .ref (xa 3), .int 0, .int (nI n), .int (nI (skp tf n (posn tf n i))), .long w])), (tp, .inr (4, [.ref tpa])), (tpa, .inl (g 0, 2000, .inl tf)), (xa 3, .inr (4, [.ref (xa 4)])), (xa 4, .inl (g 0, 401, .inl (rput 401 (cutN i (fun j => nI (tkP tf n j)) spl) (nI i) (nI (skp tf n (posn tf n i))))))] := hD
          rw [rput_nI (n := 401) (f := (cutN i (fun j => nI (tkP tf n j)) spl)) (k := i) (x := (nI (skp tf n (posn tf n i)))) (by omega) (by omega)] at hP hD
          refine lv_aload_n hx hb dX8_split_51 rfl (lv_at hl 0 rfl) ?_
          refine lv_lconst (v := 0) hx hb dX8_split_52 (by decide) ?_
          refine va_put (D := D) (ci := 6) (v := .long 0) (ty := .long) (C := RX8) (T := TX8) (N := 8) hx hb hts in_X8 tyX8 tyX8_ok nmX8 hown hK hP hD hS 2 rfl rfl 7 (by decide) (hts _ w_282) (fun _ h9 => h9) rfl (by decide +kernel) rfl rfl (Nat.le_of_ble_eq_true rfl) dX8_split_53 (fun H locs hP7 hD7 hS7 => ?_)
          clear hP hD hS
          have hP := hP7
          have hD := hD7
          have hS := hS7
          clear hP7 hD7 hS7
          replace hP : va_P D CLS [(xa 1, .inl (g 2, 401, .inr (.inr (.inr (.inr (fun i9 => sgo z ((cutN i (tkS tf n) sq) i9))))))), (xa 2, .inl (g 1, 401, .inr (.inl (cutN i (tkV tf n) sv)))), (tk, .inr (6, [.ref tp, .ref (xa 1), .ref (xa 2), .ref (xa 3), .int 0, .int (nI n), .int (nI (skp tf n (posn tf n i))), .long 0])), (tp, .inr (4, [.ref tpa])), (tpa, .inl (g 0, 2000, .inl tf)), (xa 3, .inr (4, [.ref (xa 4)])), (xa 4, .inl (g 0, 401, .inl (upd (cutN i (fun j => nI (tkP tf n j)) spl) i (nI (skp tf n (posn tf n i))))))] H := hP
          replace hD : va_D A [(xa 1, .inl (g 2, 401, .inr (.inr (.inr (.inr (fun i9 => sgo z ((cutN i (tkS tf n) sq) i9))))))), (xa 2, .inl (g 1, 401, .inr (.inl (cutN i (tkV tf n) sv)))), (tk, .inr (6, [.ref tp, .ref (xa 1), .ref (xa 2), .ref (xa 3), .int 0, .int (nI n), .int (nI (skp tf n (posn tf n i))), .long 0])), (tp, .inr (4, [.ref tpa])), (tpa, .inl (g 0, 2000, .inl tf)), (xa 3, .inr (4, [.ref (xa 4)])), (xa 4, .inl (g 0, 401, .inl (upd (cutN i (fun j => nI (tkP tf n j)) spl) i (nI (skp tf n (posn tf n i))))))] := hD
          refine lv_iload_n hx hb dX8_split_56 rfl (lv_at hl 1 rfl) ?_
          refine lv_sipush (v := 400) hx hb dX8_split_57 (by decide) ?_
          refine lv_icmp_lt (tgt := 74) hx hb dX8_split_60 (by decide) (fun c_60 => ?_) (fun c_60 => ?_)
          · skip
            have c_60 : i < 400 := (nI_ltI (a := i) (b := 400) (by omega) (by omega)).mp c_60
            refine lv_aload_n hx hb dX8_split_74 rfl (lv_at hl 0 rfl) ?_
            refine k_q hA hP hD hS [(xa 1, .inl (g 2, 401, .inr (.inr (.inr (.inr (fun i9 => sgo z ((cutN i (tkS tf n) sq) i9))))))), (xa 2, .inl (g 1, 401, .inr (.inl (cutN i (tkV tf n) sv)))), (xa 3, .inr (4, [.ref (xa 4)])), (xa 4, .inl (g 0, 401, .inl (upd (cutN i (fun j => nI (tkP tf n j)) spl) i (nI (skp tf n (posn tf n i))))))] (va_runV (As := []) (rest := []) ⟨hx, hb, hml, hown, hts⟩ (c_X8_nextSign l9 z D g tk xa tp tpa tf 0 n (skp tf n (posn tf n i)) 0 (by first | assumption | decide | omega) (by first | assumption | decide | omega) (Array.size H)) (cwV 0 hts gv_X8_62 rfl rfl rfl (by decide +kernel) ⟨Nat.le_of_ble_eq_true rfl, Nat.le_of_ble_eq_true rfl⟩) ⟨kBlind, va_recv hK hP (ci := 6) (q0 := 2) rfl rfl, kPre.pc hK hZ hA hP hD hS [2, 3, 4] rfl (by decide +kernel)⟩ rfl rfl hl.1 rfl (lv_room (Nat.le_of_ble_eq_true rfl)) dX8_split_75 ⟨Nat.le_of_ble_eq_true rfl, Nat.le_of_ble_eq_true rfl⟩) [2, 3, 4] [0, 1, 5, 6] rfl rfl rfl rfl (fun r_75 u_3 H locs hw_75 hP7 hD7 hS7 => ?_)
            clear hP hD hS
            have hP := hP7
            have hD := hD7
            have hS := hS7
            clear hP7 hD7 hS7
            obtain rfl := hw_75
            replace hP : va_P D CLS [(xa 1, .inl (g 2, 401, .inr (.inr (.inr (.inr (fun i9 => sgo z ((cutN i (tkS tf n) sq) i9))))))), (xa 2, .inl (g 1, 401, .inr (.inl (cutN i (tkV tf n) sv)))), (xa 3, .inr (4, [.ref (xa 4)])), (xa 4, .inl (g 0, 401, .inl (upd (cutN i (fun j => nI (tkP tf n j)) spl) i (nI (skp tf n (posn tf n i)))))), (tk, .inr (6, [.ref tp, .ref (xa 1), .ref (xa 2), .ref (xa 3), .int 0, .int (nI n), .int (nI (lexE tf n (skp tf n (posn tf n i)) 0)), .long (lexV tf n (skp tf n (posn tf n i)) 0)])), (tp, .inr (4, [.ref tpa])), (tpa, .inl (g 0, 2000, .inl tf))] H := hP
            replace hD : va_D A [(xa 1, .inl (g 2, 401, .inr (.inr (.inr (.inr (fun i9 => sgo z ((cutN i (tkS tf n) sq) i9))))))), (xa 2, .inl (g 1, 401, .inr (.inl (cutN i (tkV tf n) sv)))), (xa 3, .inr (4, [.ref (xa 4)])), (xa 4, .inl (g 0, 401, .inl (upd (cutN i (fun j => nI (tkP tf n j)) spl) i (nI (skp tf n (posn tf n i)))))), (tk, .inr (6, [.ref tp, .ref (xa 1), .ref (xa 2), .ref (xa 3), .int 0, .int (nI n), .int (nI (lexE tf n (skp tf n (posn tf n i)) 0)), .long (lexV tf n (skp tf n (posn tf n i)) 0)])), (tp, .inr (4, [.ref tpa])), (tpa, .inl (g 0, 2000, .inl tf))] := hD
            refine lv_goto (tgt := 84) hx hb dX8_split_78 (by decide) ?_
            refine k_tops (show (sg (lexS tf n (skp tf n (posn tf n i)) 0)) = (tkS tf n i) from (by first | exact (sg_of (lexS_lt _ _ _ _)).trans (tkS_a (by show _ ∨ n ≤ skp tf n (posn tf n i); omega)) | exact tkS_b (by show ¬ (_ ∨ n ≤ skp tf n (posn tf n i)); omega))) ?_
            have hv : lexV tf n (skp tf n (posn tf n i)) 0 = tkV tf n i := by first | exact tkV_a (by show _ ∨ n ≤ skp tf n (posn tf n i); omega) | exact tkV_b (by show ¬ (_ ∨ n ≤ skp tf n (posn tf n i)); omega)
            rw [hv] at hP hD
            have hs49 := tkS_lt tf n i
            refine lv_astore_n (lv' := [(3, .ref (z (tkS tf n i))), (0, .ref tk), (2, .int (nI i))]) hx hb dX8_split_84 rfl hl (by decide) rfl (fun ls hl => ?_)
            refine lv_aload_n hx hb dX8_split_85 rfl (lv_at hl 1 rfl) ?_
            refine va_get (D := D) (ci := 6) (v := .ref (xa 1)) (C := RX8) (T := TX8) (N := 8) hx hb hts in_X8 hown hK hP 4 rfl rfl 1 (by decide) (hts _ w_275) (fun _ h9 => h9) rfl dX8_split_86 ?_
            refine lv_iload_n hx hb dX8_split_89 rfl (lv_at hl 2 rfl) ?_
            refine lv_aload_n hx hb dX8_split_90 rfl (lv_at hl 0 rfl) ?_
            refine k_sastN hx hb hZ hK hP hD hS 0 2 (by assumption) rfl rfl (by omega) (by first | decide | omega) dX8_split_91 (fun H locs hP7 hD7 hS7 => ?_)
            clear hP hD hS
            have hP := hP7
            have hD := hD7
            have hS := hS7
            clear hP7 hD7 hS7
            replace hP : va_P D CLS [(xa 1, .inl (g 2, 401, .inr (.inr (.inr (.inr (fun i9 => sgo z ((va_up (cutN i (tkS tf n) sq) i (tkS tf n i)) i9))))))), (xa 2, .inl (g 1, 401, .inr (.inl (cutN i (tkV tf n) sv)))), (xa 3, .inr (4, [.ref (xa 4)])), (xa 4, .inl (g 0, 401, .inl (upd (cutN i (fun j => nI (tkP tf n j)) spl) i (nI (skp tf n (posn tf n i)))))), (tk, .inr (6, [.ref tp, .ref (xa 1), .ref (xa 2), .ref (xa 3), .int 0, .int (nI n), .int (nI (lexE tf n (skp tf n (posn tf n i)) 0)), .long (tkV tf n i)])), (tp, .inr (4, [.ref tpa])), (tpa, .inl (g 0, 2000, .inl tf))] H := hP
            replace hD : va_D A [(xa 1, .inl (g 2, 401, .inr (.inr (.inr (.inr (fun i9 => sgo z ((va_up (cutN i (tkS tf n) sq) i (tkS tf n i)) i9))))))), (xa 2, .inl (g 1, 401, .inr (.inl (cutN i (tkV tf n) sv)))), (xa 3, .inr (4, [.ref (xa 4)])), (xa 4, .inl (g 0, 401, .inl (upd (cutN i (fun j => nI (tkP tf n j)) spl) i (nI (skp tf n (posn tf n i)))))), (tk, .inr (6, [.ref tp, .ref (xa 1), .ref (xa 2), .ref (xa 3), .int 0, .int (nI n), .int (nI (lexE tf n (skp tf n (posn tf n i)) 0)), .long (tkV tf n i)])), (tp, .inr (4, [.ref tpa])), (tpa, .inl (g 0, 2000, .inl tf))] := hD
            refine lv_aload_n hx hb dX8_split_92 rfl (lv_at hl 1 rfl) ?_
            refine va_get (D := D) (ci := 6) (v := .ref (xa 2)) (C := RX8) (T := TX8) (N := 8) hx hb hts in_X8 hown hK hP 4 rfl rfl 2 (by decide) (hts _ w_276) (fun _ h9 => h9) rfl dX8_split_93 ?_
            refine lv_iload_n hx hb dX8_split_96 rfl (lv_at hl 2 rfl) ?_
            refine lv_aload_n hx hb dX8_split_97 rfl (lv_at hl 1 rfl) ?_
            refine va_get (D := D) (ci := 6) (v := .long (tkV tf n i)) (C := RX8) (T := TX8) (N := 8) hx hb hts in_X8 hown hK hP 4 rfl rfl 7 (by decide) (hts _ w_282) (fun _ h9 => h9) rfl dX8_split_98 ?_
            refine k_lastN hx hb hK hP hD hS 1 1 rfl rfl (by omega) (by first | decide | omega) dX8_split_101 (fun H locs hP7 hD7 hS7 => ?_)
            clear hP hD hS
            have hP := hP7
            have hD := hD7
            have hS := hS7
            clear hP7 hD7 hS7
            replace hP : va_P D CLS [(xa 1, .inl (g 2, 401, .inr (.inr (.inr (.inr (fun i9 => sgo z ((va_up (cutN i (tkS tf n) sq) i (tkS tf n i)) i9))))))), (xa 2, .inl (g 1, 401, .inr (.inl (vp_updL (cutN i (tkV tf n) sv) i (tkV tf n i))))), (xa 3, .inr (4, [.ref (xa 4)])), (xa 4, .inl (g 0, 401, .inl (upd (cutN i (fun j => nI (tkP tf n j)) spl) i (nI (skp tf n (posn tf n i)))))), (tk, .inr (6, [.ref tp, .ref (xa 1), .ref (xa 2), .ref (xa 3), .int 0, .int (nI n), .int (nI (lexE tf n (skp tf n (posn tf n i)) 0)), .long (tkV tf n i)])), (tp, .inr (4, [.ref tpa])), (tpa, .inl (g 0, 2000, .inl tf))] H := hP
            replace hD : va_D A [(xa 1, .inl (g 2, 401, .inr (.inr (.inr (.inr (fun i9 => sgo z ((va_up (cutN i (tkS tf n) sq) i (tkS tf n i)) i9))))))), (xa 2, .inl (g 1, 401, .inr (.inl (vp_updL (cutN i (tkV tf n) sv) i (tkV tf n i))))), (xa 3, .inr (4, [.ref (xa 4)])), (xa 4, .inl (g 0, 401, .inl (upd (cutN i (fun j => nI (tkP tf n j)) spl) i (nI (skp tf n (posn tf n i)))))), (tk, .inr (6, [.ref tp, .ref (xa 1), .ref (xa 2), .ref (xa 3), .int 0, .int (nI n), .int (nI (lexE tf n (skp tf n (posn tf n i)) 0)), .long (tkV tf n i)])), (tp, .inr (4, [.ref tpa])), (tpa, .inl (g 0, 2000, .inl tf))] := hD
            refine lv_aload_n hx hb dX8_split_102 rfl (lv_at hl 0 rfl) ?_
            refine va_gets (n := "END") hx hb (hZ.en.1 0 (by decide)).1 hS hown (hts _ w_946) (fun _ h9 => h9) dX8_split_103 ?_
            refine k_acmp_eq (tgt := 116) hx hb hZ (by assumption) (by decide) dX8_split_106 (by decide) (fun c_106 => ?_) (fun c_106 => ?_)
            · skip
              have he_4 : (cutN (i + 1) (tkS tf n) sq) = (va_up (cutN i (tkS tf n) sq) i (tkS tf n i)) := by first | exact cut_va.symm | exact cut_u.symm | exact cut_l.symm
              have he_5 : (cutN (i + 1) (tkV tf n) sv) = (vp_updL (cutN i (tkV tf n) sv) i (tkV tf n i)) := by first | exact cut_va.symm | exact cut_u.symm | exact cut_l.symm
              have he_6 : (cutN (i + 1) (fun j => nI (tkP tf n j)) spl) = (upd (cutN i (fun j => nI (tkP tf n j)) spl) i (nI (skp tf n (posn tf n i)))) := by first | exact cut_va.symm | exact cut_u.symm | exact cut_l.symm
              have hP9 : va_P D CLS [(tk, .inr (6, [.ref tp, .ref (xa 1), .ref (xa 2), .ref (xa 3), .int 0, .int (nI n), .int (nI (lexE tf n (skp tf n (posn tf n i)) 0)), .long (tkV tf n i)])), (xa 1, .inl (g 2, 401, .inr (.inr (.inr (.inr (fun i9 => sgo z ((cutN (i + 1) (tkS tf n) sq) i9))))))), (xa 2, .inl (g 1, 401, .inr (.inl (cutN (i + 1) (tkV tf n) sv)))), (xa 3, .inr (4, [.ref (xa 4)])), (xa 4, .inl (g 0, 401, .inl (cutN (i + 1) (fun j => nI (tkP tf n j)) spl))), (tp, .inr (4, [.ref tpa])), (tpa, .inl (g 0, 2000, .inl tf))] H := by rw [he_4, he_5, he_6]; exact kSub hP [4, 0, 1, 2, 3, 5, 6] rfl
              have hD9 : va_D A [(tk, .inr (6, [.ref tp, .ref (xa 1), .ref (xa 2), .ref (xa 3), .int 0, .int (nI n), .int (nI (lexE tf n (skp tf n (posn tf n i)) 0)), .long (tkV tf n i)])), (xa 1, .inl (g 2, 401, .inr (.inr (.inr (.inr (fun i9 => sgo z ((cutN (i + 1) (tkS tf n) sq) i9))))))), (xa 2, .inl (g 1, 401, .inr (.inl (cutN (i + 1) (tkV tf n) sv)))), (xa 3, .inr (4, [.ref (xa 4)])), (xa 4, .inl (g 0, 401, .inl (cutN (i + 1) (fun j => nI (tkP tf n j)) spl))), (tp, .inr (4, [.ref tpa])), (tpa, .inl (g 0, 2000, .inl tf))] := by rw [he_4, he_5, he_6]; exact hD.sub [4, 0, 1, 2, 3, 5, 6] (by decide +kernel) rfl
              exact W.vret hx hb hr (fun t9 ht9 hW9 => ⟨⟨(i, (lexE tf n (skp tf n (posn tf n i)) 0), tkV tf n i), rfl, ⟨by omega, hf, by first | exact Or.inl c_106 | exact Or.inr c_113⟩, by rw [ht9]; exact hP9, va_K.moved hW9.alike hK, hD9⟩, hS.F ht9⟩) hS.2.2 dX8_split_116
            · skip
              refine lv_aload_n hx hb dX8_split_109 rfl (lv_at hl 0 rfl) ?_
              refine va_gets (n := "BAD") hx hb (hZ.en.1 1 (by decide)).1 hS hown (hts _ w_962) (fun _ h9 => h9) dX8_split_110 ?_
              refine k_acmp_ne (tgt := 117) hx hb hZ (by assumption) (by decide) dX8_split_113 (by decide) (fun c_113 => ?_) (fun c_113 => ?_)
              · skip
                refine lv_iinc (v := nI (i + 1)) (lv' := [(2, .int (nI (i + 1))), (3, .ref (z (tkS tf n i))), (0, .ref tk)]) hx hb dX8_split_117 hl (k := 2) rfl (nI_1 i) (by decide) rfl (fun ls hl => ?_)
                refine lv_goto (tgt := 17) hx hb dX8_split_120 (by decide) ?_
                rw [show upd (cutN i (fun j => nI (tkP tf n j)) spl) i (nI (skp tf n (posn tf n i))) = cutN (i + 1) (fun j => nI (tkP tf n j)) spl from cut_u, show va_up (cutN i (tkS tf n) sq) i (tkS tf n i) = cutN (i + 1) (tkS tf n) sq from cut_va, show vp_updL (cutN i (tkV tf n) sv) i (tkV tf n i) = cutN (i + 1) (tkV tf n) sv from cut_l] at hP hD
                exact ih_17  (i + 1) (tkV tf n i) (by omega) (by omega) (fun j hj => by rcases Nat.lt_or_ge j i with q | q; exact hf j q; exact (show j = i by omega) ▸ ⟨c_106, c_113⟩) _ _ (kSub hP [4, 0, 1, 2, 3, 5, 6] rfl) (hD.sub [4, 0, 1, 2, 3, 5, 6] (by decide +kernel) rfl) hS ls (lv_sub hl [2, 0] rfl)
              · skip
                have he_7 : (cutN (i + 1) (tkS tf n) sq) = (va_up (cutN i (tkS tf n) sq) i (tkS tf n i)) := by first | exact cut_va.symm | exact cut_u.symm | exact cut_l.symm
                have he_8 : (cutN (i + 1) (tkV tf n) sv) = (vp_updL (cutN i (tkV tf n) sv) i (tkV tf n i)) := by first | exact cut_va.symm | exact cut_u.symm | exact cut_l.symm
                have he_9 : (cutN (i + 1) (fun j => nI (tkP tf n j)) spl) = (upd (cutN i (fun j => nI (tkP tf n j)) spl) i (nI (skp tf n (posn tf n i)))) := by first | exact cut_va.symm | exact cut_u.symm | exact cut_l.symm
                have hP9 : va_P D CLS [(tk, .inr (6, [.ref tp, .ref (xa 1), .ref (xa 2), .ref (xa 3), .int 0, .int (nI n), .int (nI (lexE tf n (skp tf n (posn tf n i)) 0)), .long (tkV tf n i)])), (xa 1, .inl (g 2, 401, .inr (.inr (.inr (.inr (fun i9 => sgo z ((cutN (i + 1) (tkS tf n) sq) i9))))))), (xa 2, .inl (g 1, 401, .inr (.inl (cutN (i + 1) (tkV tf n) sv)))), (xa 3, .inr (4, [.ref (xa 4)])), (xa 4, .inl (g 0, 401, .inl (cutN (i + 1) (fun j => nI (tkP tf n j)) spl))), (tp, .inr (4, [.ref tpa])), (tpa, .inl (g 0, 2000, .inl tf))] H := by rw [he_7, he_8, he_9]; exact kSub hP [4, 0, 1, 2, 3, 5, 6] rfl
                have hD9 : va_D A [(tk, .inr (6, [.ref tp, .ref (xa 1), .ref (xa 2), .ref (xa 3), .int 0, .int (nI n), .int (nI (lexE tf n (skp tf n (posn tf n i)) 0)), .long (tkV tf n i)])), (xa 1, .inl (g 2, 401, .inr (.inr (.inr (.inr (fun i9 => sgo z ((cutN (i + 1) (tkS tf n) sq) i9))))))), (xa 2, .inl (g 1, 401, .inr (.inl (cutN (i + 1) (tkV tf n) sv)))), (xa 3, .inr (4, [.ref (xa 4)])), (xa 4, .inl (g 0, 401, .inl (cutN (i + 1) (fun j => nI (tkP tf n j)) spl))), (tp, .inr (4, [.ref tpa])), (tpa, .inl (g 0, 2000, .inl tf))] := by rw [he_7, he_8, he_9]; exact hD.sub [4, 0, 1, 2, 3, 5, 6] (by decide +kernel) rfl
                exact W.vret hx hb hr (fun t9 ht9 hW9 => ⟨⟨(i, (lexE tf n (skp tf n (posn tf n i)) 0), tkV tf n i), rfl, ⟨by omega, hf, by first | exact Or.inl c_106 | exact Or.inr c_113⟩, by rw [ht9]; exact hP9, va_K.moved hW9.alike hK, hD9⟩, hS.F ht9⟩) hS.2.2 dX8_split_116
          · skip
            have c_60 : ¬ i < 400 := fun h => c_60 ((nI_ltI (a := i) (b := 400) (by omega) (by omega)).mpr h)
            refine lv_aload_n hx hb dX8_split_63 rfl (lv_at hl 0 rfl) ?_
            refine va_get (D := D) (ci := 6) (v := .int (nI (skp tf n (posn tf n i)))) (C := RX8) (T := TX8) (N := 8) hx hb hts in_X8 hown hK hP 2 rfl rfl 6 (by decide) (hts _ w_281) (fun _ h9 => h9) rfl dX8_split_64 ?_
            refine lv_aload_n hx hb dX8_split_67 rfl (lv_at hl 0 rfl) ?_
            refine va_get (D := D) (ci := 6) (v := .int (nI n)) (C := RX8) (T := TX8) (N := 8) hx hb hts in_X8 hown hK hP 2 rfl rfl 5 (by decide) (hts _ w_280) (fun _ h9 => h9) rfl dX8_split_68 ?_
            refine lv_icmp_lt (tgt := 81) hx hb dX8_split_71 (by decide) (fun c_71 => ?_) (fun c_71 => ?_)
            · skip
              have c_71 : (skp tf n (posn tf n i)) < n := (nI_ltI (a := (skp tf n (posn tf n i))) (b := n) (by omega) (by omega)).mp c_71
              refine va_gets (n := "BAD") hx hb (hZ.en.1 1 (by decide)).1 hS hown (hts _ w_962) (fun _ h9 => h9) dX8_split_81 ?_
              refine k_tops (show 1 = (tkS tf n i) from (by first | exact (sg_of (lexS_lt _ _ _ _)).trans (tkS_a (by show _ ∨ n ≤ skp tf n (posn tf n i); omega)) | exact tkS_b (by show ¬ (_ ∨ n ≤ skp tf n (posn tf n i)); omega))) ?_
              have hv : (0 : Int64) = tkV tf n i := by first | exact tkV_a (by show _ ∨ n ≤ skp tf n (posn tf n i); omega) | exact tkV_b (by show ¬ (_ ∨ n ≤ skp tf n (posn tf n i)); omega)
              rw [hv] at hP hD
              have hs49 := tkS_lt tf n i
              refine lv_astore_n (lv' := [(3, .ref (z (tkS tf n i))), (0, .ref tk), (2, .int (nI i))]) hx hb dX8_split_84 rfl hl (by decide) rfl (fun ls hl => ?_)
              refine lv_aload_n hx hb dX8_split_85 rfl (lv_at hl 1 rfl) ?_
              refine va_get (D := D) (ci := 6) (v := .ref (xa 1)) (C := RX8) (T := TX8) (N := 8) hx hb hts in_X8 hown hK hP 2 rfl rfl 1 (by decide) (hts _ w_275) (fun _ h9 => h9) rfl dX8_split_86 ?_
              refine lv_iload_n hx hb dX8_split_89 rfl (lv_at hl 2 rfl) ?_
              refine lv_aload_n hx hb dX8_split_90 rfl (lv_at hl 0 rfl) ?_
              refine k_sastN hx hb hZ hK hP hD hS 0 2 (by assumption) rfl rfl (by omega) (by first | decide | omega) dX8_split_91 (fun H locs hP7 hD7 hS7 => ?_)
              clear hP hD hS
              have hP := hP7
              have hD := hD7
              have hS := hS7
              clear hP7 hD7 hS7
              replace hP : va_P D CLS [(xa 1, .inl (g 2, 401, .inr (.inr (.inr (.inr (fun i9 => sgo z ((va_up (cutN i (tkS tf n) sq) i (tkS tf n i)) i9))))))), (xa 2, .inl (g 1, 401, .inr (.inl (cutN i (tkV tf n) sv)))), (tk, .inr (6, [.ref tp, .ref (xa 1), .ref (xa 2), .ref (xa 3), .int 0, .int (nI n), .int (nI (skp tf n (posn tf n i))), .long (tkV tf n i)])), (tp, .inr (4, [.ref tpa])), (tpa, .inl (g 0, 2000, .inl tf)), (xa 3, .inr (4, [.ref (xa 4)])), (xa 4, .inl (g 0, 401, .inl (upd (cutN i (fun j => nI (tkP tf n j)) spl) i (nI (skp tf n (posn tf n i))))))] H := hP
              replace hD : va_D A [(xa 1, .inl (g 2, 401, .inr (.inr (.inr (.inr (fun i9 => sgo z ((va_up (cutN i (tkS tf n) sq) i (tkS tf n i)) i9))))))), (xa 2, .inl (g 1, 401, .inr (.inl (cutN i (tkV tf n) sv)))), (tk, .inr (6, [.ref tp, .ref (xa 1), .ref (xa 2), .ref (xa 3), .int 0, .int (nI n), .int (nI (skp tf n (posn tf n i))), .long (tkV tf n i)])), (tp, .inr (4, [.ref tpa])), (tpa, .inl (g 0, 2000, .inl tf)), (xa 3, .inr (4, [.ref (xa 4)])), (xa 4, .inl (g 0, 401, .inl (upd (cutN i (fun j => nI (tkP tf n j)) spl) i (nI (skp tf n (posn tf n i))))))] := hD
              refine lv_aload_n hx hb dX8_split_92 rfl (lv_at hl 1 rfl) ?_
              refine va_get (D := D) (ci := 6) (v := .ref (xa 2)) (C := RX8) (T := TX8) (N := 8) hx hb hts in_X8 hown hK hP 2 rfl rfl 2 (by decide) (hts _ w_276) (fun _ h9 => h9) rfl dX8_split_93 ?_
              refine lv_iload_n hx hb dX8_split_96 rfl (lv_at hl 2 rfl) ?_
              refine lv_aload_n hx hb dX8_split_97 rfl (lv_at hl 1 rfl) ?_
              refine va_get (D := D) (ci := 6) (v := .long (tkV tf n i)) (C := RX8) (T := TX8) (N := 8) hx hb hts in_X8 hown hK hP 2 rfl rfl 7 (by decide) (hts _ w_282) (fun _ h9 => h9) rfl dX8_split_98 ?_
              refine k_lastN hx hb hK hP hD hS 1 1 rfl rfl (by omega) (by first | decide | omega) dX8_split_101 (fun H locs hP7 hD7 hS7 => ?_)
              clear hP hD hS
              have hP := hP7
              have hD := hD7
              have hS := hS7
              clear hP7 hD7 hS7
              replace hP : va_P D CLS [(xa 1, .inl (g 2, 401, .inr (.inr (.inr (.inr (fun i9 => sgo z ((va_up (cutN i (tkS tf n) sq) i (tkS tf n i)) i9))))))), (xa 2, .inl (g 1, 401, .inr (.inl (vp_updL (cutN i (tkV tf n) sv) i (tkV tf n i))))), (tk, .inr (6, [.ref tp, .ref (xa 1), .ref (xa 2), .ref (xa 3), .int 0, .int (nI n), .int (nI (skp tf n (posn tf n i))), .long (tkV tf n i)])), (tp, .inr (4, [.ref tpa])), (tpa, .inl (g 0, 2000, .inl tf)), (xa 3, .inr (4, [.ref (xa 4)])), (xa 4, .inl (g 0, 401, .inl (upd (cutN i (fun j => nI (tkP tf n j)) spl) i (nI (skp tf n (posn tf n i))))))] H := hP
              replace hD : va_D A [(xa 1, .inl (g 2, 401, .inr (.inr (.inr (.inr (fun i9 => sgo z ((va_up (cutN i (tkS tf n) sq) i (tkS tf n i)) i9))))))), (xa 2, .inl (g 1, 401, .inr (.inl (vp_updL (cutN i (tkV tf n) sv) i (tkV tf n i))))), (tk, .inr (6, [.ref tp, .ref (xa 1), .ref (xa 2), .ref (xa 3), .int 0, .int (nI n), .int (nI (skp tf n (posn tf n i))), .long (tkV tf n i)])), (tp, .inr (4, [.ref tpa])), (tpa, .inl (g 0, 2000, .inl tf)), (xa 3, .inr (4, [.ref (xa 4)])), (xa 4, .inl (g 0, 401, .inl (upd (cutN i (fun j => nI (tkP tf n j)) spl) i (nI (skp tf n (posn tf n i))))))] := hD
              refine lv_aload_n hx hb dX8_split_102 rfl (lv_at hl 0 rfl) ?_
              refine va_gets (n := "END") hx hb (hZ.en.1 0 (by decide)).1 hS hown (hts _ w_946) (fun _ h9 => h9) dX8_split_103 ?_
              refine k_acmp_eq (tgt := 116) hx hb hZ (by assumption) (by decide) dX8_split_106 (by decide) (fun c_106 => ?_) (fun c_106 => ?_)
              · skip
                have he_10 : (cutN (i + 1) (tkS tf n) sq) = (va_up (cutN i (tkS tf n) sq) i (tkS tf n i)) := by first | exact cut_va.symm | exact cut_u.symm | exact cut_l.symm
                have he_11 : (cutN (i + 1) (tkV tf n) sv) = (vp_updL (cutN i (tkV tf n) sv) i (tkV tf n i)) := by first | exact cut_va.symm | exact cut_u.symm | exact cut_l.symm
                have he_12 : (cutN (i + 1) (fun j => nI (tkP tf n j)) spl) = (upd (cutN i (fun j => nI (tkP tf n j)) spl) i (nI (skp tf n (posn tf n i)))) := by first | exact cut_va.symm | exact cut_u.symm | exact cut_l.symm
                have hP9 : va_P D CLS [(tk, .inr (6, [.ref tp, .ref (xa 1), .ref (xa 2), .ref (xa 3), .int 0, .int (nI n), .int (nI (skp tf n (posn tf n i))), .long (tkV tf n i)])), (xa 1, .inl (g 2, 401, .inr (.inr (.inr (.inr (fun i9 => sgo z ((cutN (i + 1) (tkS tf n) sq) i9))))))), (xa 2, .inl (g 1, 401, .inr (.inl (cutN (i + 1) (tkV tf n) sv)))), (xa 3, .inr (4, [.ref (xa 4)])), (xa 4, .inl (g 0, 401, .inl (cutN (i + 1) (fun j => nI (tkP tf n j)) spl))), (tp, .inr (4, [.ref tpa])), (tpa, .inl (g 0, 2000, .inl tf))] H := by rw [he_10, he_11, he_12]; exact kSub hP [2, 0, 1, 5, 6, 3, 4] rfl
                have hD9 : va_D A [(tk, .inr (6, [.ref tp, .ref (xa 1), .ref (xa 2), .ref (xa 3), .int 0, .int (nI n), .int (nI (skp tf n (posn tf n i))), .long (tkV tf n i)])), (xa 1, .inl (g 2, 401, .inr (.inr (.inr (.inr (fun i9 => sgo z ((cutN (i + 1) (tkS tf n) sq) i9))))))), (xa 2, .inl (g 1, 401, .inr (.inl (cutN (i + 1) (tkV tf n) sv)))), (xa 3, .inr (4, [.ref (xa 4)])), (xa 4, .inl (g 0, 401, .inl (cutN (i + 1) (fun j => nI (tkP tf n j)) spl))), (tp, .inr (4, [.ref tpa])), (tpa, .inl (g 0, 2000, .inl tf))] := by rw [he_10, he_11, he_12]; exact hD.sub [2, 0, 1, 5, 6, 3, 4] (by decide +kernel) rfl
                exact W.vret hx hb hr (fun t9 ht9 hW9 => ⟨⟨(i, (skp tf n (posn tf n i)), tkV tf n i), rfl, ⟨by omega, hf, by first | exact Or.inl c_106 | exact Or.inr c_113⟩, by rw [ht9]; exact hP9, va_K.moved hW9.alike hK, hD9⟩, hS.F ht9⟩) hS.2.2 dX8_split_116
              · skip
                refine lv_aload_n hx hb dX8_split_109 rfl (lv_at hl 0 rfl) ?_
                refine va_gets (n := "BAD") hx hb (hZ.en.1 1 (by decide)).1 hS hown (hts _ w_962) (fun _ h9 => h9) dX8_split_110 ?_
                refine k_acmp_ne (tgt := 117) hx hb hZ (by assumption) (by decide) dX8_split_113 (by decide) (fun c_113 => ?_) (fun c_113 => ?_)
                · skip
                  exact absurd (tkS_b (by show ¬ (_ ∨ n ≤ skp tf n (posn tf n i)); omega)).symm c_113
                · skip
                  have he_13 : (cutN (i + 1) (tkS tf n) sq) = (va_up (cutN i (tkS tf n) sq) i (tkS tf n i)) := by first | exact cut_va.symm | exact cut_u.symm | exact cut_l.symm
                  have he_14 : (cutN (i + 1) (tkV tf n) sv) = (vp_updL (cutN i (tkV tf n) sv) i (tkV tf n i)) := by first | exact cut_va.symm | exact cut_u.symm | exact cut_l.symm
                  have he_15 : (cutN (i + 1) (fun j => nI (tkP tf n j)) spl) = (upd (cutN i (fun j => nI (tkP tf n j)) spl) i (nI (skp tf n (posn tf n i)))) := by first | exact cut_va.symm | exact cut_u.symm | exact cut_l.symm
                  have hP9 : va_P D CLS [(tk, .inr (6, [.ref tp, .ref (xa 1), .ref (xa 2), .ref (xa 3), .int 0, .int (nI n), .int (nI (skp tf n (posn tf n i))), .long (tkV tf n i)])), (xa 1, .inl (g 2, 401, .inr (.inr (.inr (.inr (fun i9 => sgo z ((cutN (i + 1) (tkS tf n) sq) i9))))))), (xa 2, .inl (g 1, 401, .inr (.inl (cutN (i + 1) (tkV tf n) sv)))), (xa 3, .inr (4, [.ref (xa 4)])), (xa 4, .inl (g 0, 401, .inl (cutN (i + 1) (fun j => nI (tkP tf n j)) spl))), (tp, .inr (4, [.ref tpa])), (tpa, .inl (g 0, 2000, .inl tf))] H := by rw [he_13, he_14, he_15]; exact kSub hP [2, 0, 1, 5, 6, 3, 4] rfl
                  have hD9 : va_D A [(tk, .inr (6, [.ref tp, .ref (xa 1), .ref (xa 2), .ref (xa 3), .int 0, .int (nI n), .int (nI (skp tf n (posn tf n i))), .long (tkV tf n i)])), (xa 1, .inl (g 2, 401, .inr (.inr (.inr (.inr (fun i9 => sgo z ((cutN (i + 1) (tkS tf n) sq) i9))))))), (xa 2, .inl (g 1, 401, .inr (.inl (cutN (i + 1) (tkV tf n) sv)))), (xa 3, .inr (4, [.ref (xa 4)])), (xa 4, .inl (g 0, 401, .inl (cutN (i + 1) (fun j => nI (tkP tf n j)) spl))), (tp, .inr (4, [.ref tpa])), (tpa, .inl (g 0, 2000, .inl tf))] := by rw [he_13, he_14, he_15]; exact hD.sub [2, 0, 1, 5, 6, 3, 4] (by decide +kernel) rfl
                  exact W.vret hx hb hr (fun t9 ht9 hW9 => ⟨⟨(i, (skp tf n (posn tf n i)), tkV tf n i), rfl, ⟨by omega, hf, by first | exact Or.inl c_106 | exact Or.inr c_113⟩, by rw [ht9]; exact hP9, va_K.moved hW9.alike hK, hD9⟩, hS.F ht9⟩) hS.2.2 dX8_split_116
            · skip
              have c_71 : ¬ (skp tf n (posn tf n i)) < n := fun h => c_71 ((nI_ltI (a := (skp tf n (posn tf n i))) (b := n) (by omega) (by omega)).mpr h)
              refine lv_aload_n hx hb dX8_split_74 rfl (lv_at hl 0 rfl) ?_
              refine k_q hA hP hD hS [(xa 1, .inl (g 2, 401, .inr (.inr (.inr (.inr (fun i9 => sgo z ((cutN i (tkS tf n) sq) i9))))))), (xa 2, .inl (g 1, 401, .inr (.inl (cutN i (tkV tf n) sv)))), (xa 3, .inr (4, [.ref (xa 4)])), (xa 4, .inl (g 0, 401, .inl (upd (cutN i (fun j => nI (tkP tf n j)) spl) i (nI (skp tf n (posn tf n i))))))] (va_runV (As := []) (rest := []) ⟨hx, hb, hml, hown, hts⟩ (c_X8_nextSign l9 z D g tk xa tp tpa tf 0 n (skp tf n (posn tf n i)) 0 (by first | assumption | decide | omega) (by first | assumption | decide | omega) (Array.size H)) (cwV 0 hts gv_X8_62 rfl rfl rfl (by decide +kernel) ⟨Nat.le_of_ble_eq_true rfl, Nat.le_of_ble_eq_true rfl⟩) ⟨kBlind, va_recv hK hP (ci := 6) (q0 := 2) rfl rfl, kPre.pc hK hZ hA hP hD hS [2, 3, 4] rfl (by decide +kernel)⟩ rfl rfl hl.1 rfl (lv_room (Nat.le_of_ble_eq_true rfl)) dX8_split_75 ⟨Nat.le_of_ble_eq_true rfl, Nat.le_of_ble_eq_true rfl⟩) [2, 3, 4] [0, 1, 5, 6] rfl rfl rfl rfl (fun r_75 u_16 H locs hw_75 hP7 hD7 hS7 => ?_)
              clear hP hD hS
              have hP := hP7
              have hD := hD7
              have hS := hS7
              clear hP7 hD7 hS7
              obtain rfl := hw_75
              replace hP : va_P D CLS [(xa 1, .inl (g 2, 401, .inr (.inr (.inr (.inr (fun i9 => sgo z ((cutN i (tkS tf n) sq) i9))))))), (xa 2, .inl (g 1, 401, .inr (.inl (cutN i (tkV tf n) sv)))), (xa 3, .inr (4, [.ref (xa 4)])), (xa 4, .inl (g 0, 401, .inl (upd (cutN i (fun j => nI (tkP tf n j)) spl) i (nI (skp tf n (posn tf n i)))))), (tk, .inr (6, [.ref tp, .ref (xa 1), .ref (xa 2), .ref (xa 3), .int 0, .int (nI n), .int (nI (lexE tf n (skp tf n (posn tf n i)) 0)), .long (lexV tf n (skp tf n (posn tf n i)) 0)])), (tp, .inr (4, [.ref tpa])), (tpa, .inl (g 0, 2000, .inl tf))] H := hP
              replace hD : va_D A [(xa 1, .inl (g 2, 401, .inr (.inr (.inr (.inr (fun i9 => sgo z ((cutN i (tkS tf n) sq) i9))))))), (xa 2, .inl (g 1, 401, .inr (.inl (cutN i (tkV tf n) sv)))), (xa 3, .inr (4, [.ref (xa 4)])), (xa 4, .inl (g 0, 401, .inl (upd (cutN i (fun j => nI (tkP tf n j)) spl) i (nI (skp tf n (posn tf n i)))))), (tk, .inr (6, [.ref tp, .ref (xa 1), .ref (xa 2), .ref (xa 3), .int 0, .int (nI n), .int (nI (lexE tf n (skp tf n (posn tf n i)) 0)), .long (lexV tf n (skp tf n (posn tf n i)) 0)])), (tp, .inr (4, [.ref tpa])), (tpa, .inl (g 0, 2000, .inl tf))] := hD
              refine lv_goto (tgt := 84) hx hb dX8_split_78 (by decide) ?_
              refine k_tops (show (sg (lexS tf n (skp tf n (posn tf n i)) 0)) = (tkS tf n i) from (by first | exact (sg_of (lexS_lt _ _ _ _)).trans (tkS_a (by show _ ∨ n ≤ skp tf n (posn tf n i); omega)) | exact tkS_b (by show ¬ (_ ∨ n ≤ skp tf n (posn tf n i)); omega))) ?_
              have hv : lexV tf n (skp tf n (posn tf n i)) 0 = tkV tf n i := by first | exact tkV_a (by show _ ∨ n ≤ skp tf n (posn tf n i); omega) | exact tkV_b (by show ¬ (_ ∨ n ≤ skp tf n (posn tf n i)); omega)
              rw [hv] at hP hD
              have hs49 := tkS_lt tf n i
              refine lv_astore_n (lv' := [(3, .ref (z (tkS tf n i))), (0, .ref tk), (2, .int (nI i))]) hx hb dX8_split_84 rfl hl (by decide) rfl (fun ls hl => ?_)
              refine lv_aload_n hx hb dX8_split_85 rfl (lv_at hl 1 rfl) ?_
              refine va_get (D := D) (ci := 6) (v := .ref (xa 1)) (C := RX8) (T := TX8) (N := 8) hx hb hts in_X8 hown hK hP 4 rfl rfl 1 (by decide) (hts _ w_275) (fun _ h9 => h9) rfl dX8_split_86 ?_
              refine lv_iload_n hx hb dX8_split_89 rfl (lv_at hl 2 rfl) ?_
              refine lv_aload_n hx hb dX8_split_90 rfl (lv_at hl 0 rfl) ?_
              refine k_sastN hx hb hZ hK hP hD hS 0 2 (by assumption) rfl rfl (by omega) (by first | decide | omega) dX8_split_91 (fun H locs hP7 hD7 hS7 => ?_)
              clear hP hD hS
              have hP := hP7
              have hD := hD7
              have hS := hS7
              clear hP7 hD7 hS7
              replace hP : va_P D CLS [(xa 1, .inl (g 2, 401, .inr (.inr (.inr (.inr (fun i9 => sgo z ((va_up (cutN i (tkS tf n) sq) i (tkS tf n i)) i9))))))), (xa 2, .inl (g 1, 401, .inr (.inl (cutN i (tkV tf n) sv)))), (xa 3, .inr (4, [.ref (xa 4)])), (xa 4, .inl (g 0, 401, .inl (upd (cutN i (fun j => nI (tkP tf n j)) spl) i (nI (skp tf n (posn tf n i)))))), (tk, .inr (6, [.ref tp, .ref (xa 1), .ref (xa 2), .ref (xa 3), .int 0, .int (nI n), .int (nI (lexE tf n (skp tf n (posn tf n i)) 0)), .long (tkV tf n i)])), (tp, .inr (4, [.ref tpa])), (tpa, .inl (g 0, 2000, .inl tf))] H := hP
              replace hD : va_D A [(xa 1, .inl (g 2, 401, .inr (.inr (.inr (.inr (fun i9 => sgo z ((va_up (cutN i (tkS tf n) sq) i (tkS tf n i)) i9))))))), (xa 2, .inl (g 1, 401, .inr (.inl (cutN i (tkV tf n) sv)))), (xa 3, .inr (4, [.ref (xa 4)])), (xa 4, .inl (g 0, 401, .inl (upd (cutN i (fun j => nI (tkP tf n j)) spl) i (nI (skp tf n (posn tf n i)))))), (tk, .inr (6, [.ref tp, .ref (xa 1), .ref (xa 2), .ref (xa 3), .int 0, .int (nI n), .int (nI (lexE tf n (skp tf n (posn tf n i)) 0)), .long (tkV tf n i)])), (tp, .inr (4, [.ref tpa])), (tpa, .inl (g 0, 2000, .inl tf))] := hD
              refine lv_aload_n hx hb dX8_split_92 rfl (lv_at hl 1 rfl) ?_
              refine va_get (D := D) (ci := 6) (v := .ref (xa 2)) (C := RX8) (T := TX8) (N := 8) hx hb hts in_X8 hown hK hP 4 rfl rfl 2 (by decide) (hts _ w_276) (fun _ h9 => h9) rfl dX8_split_93 ?_
              refine lv_iload_n hx hb dX8_split_96 rfl (lv_at hl 2 rfl) ?_
              refine lv_aload_n hx hb dX8_split_97 rfl (lv_at hl 1 rfl) ?_
              refine va_get (D := D) (ci := 6) (v := .long (tkV tf n i)) (C := RX8) (T := TX8) (N := 8) hx hb hts in_X8 hown hK hP 4 rfl rfl 7 (by decide) (hts _ w_282) (fun _ h9 => h9) rfl dX8_split_98 ?_
              refine k_lastN hx hb hK hP hD hS 1 1 rfl rfl (by omega) (by first | decide | omega) dX8_split_101 (fun H locs hP7 hD7 hS7 => ?_)
              clear hP hD hS
              have hP := hP7
              have hD := hD7
              have hS := hS7
              clear hP7 hD7 hS7
              replace hP : va_P D CLS [(xa 1, .inl (g 2, 401, .inr (.inr (.inr (.inr (fun i9 => sgo z ((va_up (cutN i (tkS tf n) sq) i (tkS tf n i)) i9))))))), (xa 2, .inl (g 1, 401, .inr (.inl (vp_updL (cutN i (tkV tf n) sv) i (tkV tf n i))))), (xa 3, .inr (4, [.ref (xa 4)])), (xa 4, .inl (g 0, 401, .inl (upd (cutN i (fun j => nI (tkP tf n j)) spl) i (nI (skp tf n (posn tf n i)))))), (tk, .inr (6, [.ref tp, .ref (xa 1), .ref (xa 2), .ref (xa 3), .int 0, .int (nI n), .int (nI (lexE tf n (skp tf n (posn tf n i)) 0)), .long (tkV tf n i)])), (tp, .inr (4, [.ref tpa])), (tpa, .inl (g 0, 2000, .inl tf))] H := hP
              replace hD : va_D A [(xa 1, .inl (g 2, 401, .inr (.inr (.inr (.inr (fun i9 => sgo z ((va_up (cutN i (tkS tf n) sq) i (tkS tf n i)) i9))))))), (xa 2, .inl (g 1, 401, .inr (.inl (vp_updL (cutN i (tkV tf n) sv) i (tkV tf n i))))), (xa 3, .inr (4, [.ref (xa 4)])), (xa 4, .inl (g 0, 401, .inl (upd (cutN i (fun j => nI (tkP tf n j)) spl) i (nI (skp tf n (posn tf n i)))))), (tk, .inr (6, [.ref tp, .ref (xa 1), .ref (xa 2), .ref (xa 3), .int 0, .int (nI n), .int (nI (lexE tf n (skp tf n (posn tf n i)) 0)), .long (tkV tf n i)])), (tp, .inr (4, [.ref tpa])), (tpa, .inl (g 0, 2000, .inl tf))] := hD
              refine lv_aload_n hx hb dX8_split_102 rfl (lv_at hl 0 rfl) ?_
              refine va_gets (n := "END") hx hb (hZ.en.1 0 (by decide)).1 hS hown (hts _ w_946) (fun _ h9 => h9) dX8_split_103 ?_
              refine k_acmp_eq (tgt := 116) hx hb hZ (by assumption) (by decide) dX8_split_106 (by decide) (fun c_106 => ?_) (fun c_106 => ?_)
              · skip
                have he_17 : (cutN (i + 1) (tkS tf n) sq) = (va_up (cutN i (tkS tf n) sq) i (tkS tf n i)) := by first | exact cut_va.symm | exact cut_u.symm | exact cut_l.symm
                have he_18 : (cutN (i + 1) (tkV tf n) sv) = (vp_updL (cutN i (tkV tf n) sv) i (tkV tf n i)) := by first | exact cut_va.symm | exact cut_u.symm | exact cut_l.symm
                have he_19 : (cutN (i + 1) (fun j => nI (tkP tf n j)) spl) = (upd (cutN i (fun j => nI (tkP tf n j)) spl) i (nI (skp tf n (posn tf n i)))) := by first | exact cut_va.symm | exact cut_u.symm | exact cut_l.symm
                have hP9 : va_P D CLS [(tk, .inr (6, [.ref tp, .ref (xa 1), .ref (xa 2), .ref (xa 3), .int 0, .int (nI n), .int (nI (lexE tf n (skp tf n (posn tf n i)) 0)), .long (tkV tf n i)])), (xa 1, .inl (g 2, 401, .inr (.inr (.inr (.inr (fun i9 => sgo z ((cutN (i + 1) (tkS tf n) sq) i9))))))), (xa 2, .inl (g 1, 401, .inr (.inl (cutN (i + 1) (tkV tf n) sv)))), (xa 3, .inr (4, [.ref (xa 4)])), (xa 4, .inl (g 0, 401, .inl (cutN (i + 1) (fun j => nI (tkP tf n j)) spl))), (tp, .inr (4, [.ref tpa])), (tpa, .inl (g 0, 2000, .inl tf))] H := by rw [he_17, he_18, he_19]; exact kSub hP [4, 0, 1, 2, 3, 5, 6] rfl
                have hD9 : va_D A [(tk, .inr (6, [.ref tp, .ref (xa 1), .ref (xa 2), .ref (xa 3), .int 0, .int (nI n), .int (nI (lexE tf n (skp tf n (posn tf n i)) 0)), .long (tkV tf n i)])), (xa 1, .inl (g 2, 401, .inr (.inr (.inr (.inr (fun i9 => sgo z ((cutN (i + 1) (tkS tf n) sq) i9))))))), (xa 2, .inl (g 1, 401, .inr (.inl (cutN (i + 1) (tkV tf n) sv)))), (xa 3, .inr (4, [.ref (xa 4)])), (xa 4, .inl (g 0, 401, .inl (cutN (i + 1) (fun j => nI (tkP tf n j)) spl))), (tp, .inr (4, [.ref tpa])), (tpa, .inl (g 0, 2000, .inl tf))] := by rw [he_17, he_18, he_19]; exact hD.sub [4, 0, 1, 2, 3, 5, 6] (by decide +kernel) rfl
                exact W.vret hx hb hr (fun t9 ht9 hW9 => ⟨⟨(i, (lexE tf n (skp tf n (posn tf n i)) 0), tkV tf n i), rfl, ⟨by omega, hf, by first | exact Or.inl c_106 | exact Or.inr c_113⟩, by rw [ht9]; exact hP9, va_K.moved hW9.alike hK, hD9⟩, hS.F ht9⟩) hS.2.2 dX8_split_116
              · skip
                refine lv_aload_n hx hb dX8_split_109 rfl (lv_at hl 0 rfl) ?_
                refine va_gets (n := "BAD") hx hb (hZ.en.1 1 (by decide)).1 hS hown (hts _ w_962) (fun _ h9 => h9) dX8_split_110 ?_
                refine k_acmp_ne (tgt := 117) hx hb hZ (by assumption) (by decide) dX8_split_113 (by decide) (fun c_113 => ?_) (fun c_113 => ?_)
                · skip
                  refine lv_iinc (v := nI (i + 1)) (lv' := [(2, .int (nI (i + 1))), (3, .ref (z (tkS tf n i))), (0, .ref tk)]) hx hb dX8_split_117 hl (k := 2) rfl (nI_1 i) (by decide) rfl (fun ls hl => ?_)
                  refine lv_goto (tgt := 17) hx hb dX8_split_120 (by decide) ?_
                  rw [show upd (cutN i (fun j => nI (tkP tf n j)) spl) i (nI (skp tf n (posn tf n i))) = cutN (i + 1) (fun j => nI (tkP tf n j)) spl from cut_u, show va_up (cutN i (tkS tf n) sq) i (tkS tf n i) = cutN (i + 1) (tkS tf n) sq from cut_va, show vp_updL (cutN i (tkV tf n) sv) i (tkV tf n i) = cutN (i + 1) (tkV tf n) sv from cut_l] at hP hD
                  exact ih_17  (i + 1) (tkV tf n i) (by omega) (by omega) (fun j hj => by rcases Nat.lt_or_ge j i with q | q; exact hf j q; exact (show j = i by omega) ▸ ⟨c_106, c_113⟩) _ _ (kSub hP [4, 0, 1, 2, 3, 5, 6] rfl) (hD.sub [4, 0, 1, 2, 3, 5, 6] (by decide +kernel) rfl) hS ls (lv_sub hl [2, 0] rfl)
                · skip
                  have he_20 : (cutN (i + 1) (tkS tf n) sq) = (va_up (cutN i (tkS tf n) sq) i (tkS tf n i)) := by first | exact cut_va.symm | exact cut_u.symm | exact cut_l.symm
                  have he_21 : (cutN (i + 1) (tkV tf n) sv) = (vp_updL (cutN i (tkV tf n) sv) i (tkV tf n i)) := by first | exact cut_va.symm | exact cut_u.symm | exact cut_l.symm
                  have he_22 : (cutN (i + 1) (fun j => nI (tkP tf n j)) spl) = (upd (cutN i (fun j => nI (tkP tf n j)) spl) i (nI (skp tf n (posn tf n i)))) := by first | exact cut_va.symm | exact cut_u.symm | exact cut_l.symm
                  have hP9 : va_P D CLS [(tk, .inr (6, [.ref tp, .ref (xa 1), .ref (xa 2), .ref (xa 3), .int 0, .int (nI n), .int (nI (lexE tf n (skp tf n (posn tf n i)) 0)), .long (tkV tf n i)])), (xa 1, .inl (g 2, 401, .inr (.inr (.inr (.inr (fun i9 => sgo z ((cutN (i + 1) (tkS tf n) sq) i9))))))), (xa 2, .inl (g 1, 401, .inr (.inl (cutN (i + 1) (tkV tf n) sv)))), (xa 3, .inr (4, [.ref (xa 4)])), (xa 4, .inl (g 0, 401, .inl (cutN (i + 1) (fun j => nI (tkP tf n j)) spl))), (tp, .inr (4, [.ref tpa])), (tpa, .inl (g 0, 2000, .inl tf))] H := by rw [he_20, he_21, he_22]; exact kSub hP [4, 0, 1, 2, 3, 5, 6] rfl
                  have hD9 : va_D A [(tk, .inr (6, [.ref tp, .ref (xa 1), .ref (xa 2), .ref (xa 3), .int 0, .int (nI n), .int (nI (lexE tf n (skp tf n (posn tf n i)) 0)), .long (tkV tf n i)])), (xa 1, .inl (g 2, 401, .inr (.inr (.inr (.inr (fun i9 => sgo z ((cutN (i + 1) (tkS tf n) sq) i9))))))), (xa 2, .inl (g 1, 401, .inr (.inl (cutN (i + 1) (tkV tf n) sv)))), (xa 3, .inr (4, [.ref (xa 4)])), (xa 4, .inl (g 0, 401, .inl (cutN (i + 1) (fun j => nI (tkP tf n j)) spl))), (tp, .inr (4, [.ref tpa])), (tpa, .inl (g 0, 2000, .inl tf))] := by rw [he_20, he_21, he_22]; exact hD.sub [4, 0, 1, 2, 3, 5, 6] (by decide +kernel) rfl
                  exact W.vret hx hb hr (fun t9 ht9 hW9 => ⟨⟨(i, (lexE tf n (skp tf n (posn tf n i)) 0), tkV tf n i), rfl, ⟨by omega, hf, by first | exact Or.inl c_106 | exact Or.inr c_113⟩, by rw [ht9]; exact hP9, va_K.moved hW9.alike hK, hD9⟩, hS.F ht9⟩) hS.2.2 dX8_split_116
  exact loop_17 (401 - 0 + 1) 0 v (by omega) (Nat.zero_le _) (fun j h => absurd h (Nat.not_lt_zero j)) _ _ (kSub hP [0, 1, 2, 3, 4, 5, 6] rfl) (hD.sub [0, 1, 2, 3, 4, 5, 6] (by decide +kernel) rfl) hS ls (lv_sub hl [1, 0] rfl)
