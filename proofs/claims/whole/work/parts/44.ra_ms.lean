theorem dJ0_coder_7d493_0 : decode cJ0_coder_7d493 0 = .ok (.getstatic 38, 3) := by decide +kernel
theorem dJ0_coder_7d493_3 : decode cJ0_coder_7d493 3 = .ok (.ifCond .eq 10, 3) := by decide +kernel
theorem dJ0_coder_7d493_6 : decode cJ0_coder_7d493 6 = .ok (.aload_n 0, 1) := by decide +kernel
theorem dJ0_coder_7d493_7 : decode cJ0_coder_7d493 7 = .ok (.getfield 15, 3) := by decide +kernel
theorem dJ0_coder_7d493_10 : decode cJ0_coder_7d493 10 = .ok (.goto 4, 3) := by decide +kernel
theorem dJ0_coder_7d493_14 : decode cJ0_coder_7d493 14 = .ok (.ireturn, 1) := by decide +kernel
set_option maxHeartbeats 4000000 in
set_option maxRecDepth 100000 in
/-- String.coder -/
theorem c_J0_coder_7d493 (l9 : Launch) (z : Nat → Nat) (D : va_G) (g : Nat → ClassId) (i : Nat) (hi : i < 30) (sz : Nat) : Met l9 yJ0_coder_7d493 (WS yJ0_coder_7d493 cJ0_coder_7d493 1 (some .byte)) ({ frames := 0, cells := 0, slots := 0, locals := 0 }) (va_Pc [.ref (z (110 + i))] (kPreS z D g [] sz)) (va_Qi (fun (r9 : Int32) (u9 : Unit) => r9 = 0) (kB D g (va_A [] sz) (fun (u9 : Unit) => [])) (va_A [] sz)) 0 0 (va_A [] sz) := by
  refine Met.ofW (cc := cJ0_coder_7d493) (maxL := 1) (ret := (some .byte)) (by decide) rfl ?_
  intro p9 e9 s9 m9 args9 below9 meth9 c9 s₁ B hml hv
  obtain ⟨rfl, hsz, hP, hK, hD0, hZ, hY⟩ := hv
  have hx := B.exec
  have hb := B.bytes
  have hr := B.returns
  have hts := ws_sub (atoms_spec (ws := WS yJ0_coder_7d493 cJ0_coder_7d493 1 (some .byte)) B.pre)
  have hown : s9.vm.findClass RJ0 = some m9.cls := findClass_of_methodNamed B.named
  have hlocks := B.notSynchronized
  subst hsz
  have hD := hD0.self (sz := s9.heap.size)
  generalize hAe : va_A [] s9.heap.size = A at hD hZ hY ⊢
  have hA : ∀ q : Nat, s9.heap.size ≤ q → A q := fun q h => by rw [← hAe]; exact Or.inr h
  have hS : va_S A s9.heap s9.heap [] := va_S.rf
  have hP : va_P D CLS [] s9.heap := hP
  have hl := lv_entry ([.ref (z (110 + i))]) (n := 1) (Nat.le_of_ble_eq_true rfl)
  rw [lg_entry_eq]
  generalize (lg_sl ([.ref (z (110 + i))]) ++ List.replicate (1 - (lg_sl ([.ref (z (110 + i))])).length) Slot.unset).toArray = ls at hl ⊢
  have hl : lv_has ls 1 [(0, .ref (z (110 + i)))] := hl
  change W p9 l9 e9 ({ frames := 0, cells := 0, slots := 0, locals := 0 } : Room) s9 m9 _ below9 meth9 c9 _ _ _ _ _ _
  refine va_gets (n := "COMPACT_STRINGS") hx hb hY.2.2.2.1 hS hown (hts _ w_1491) (fun _ h9 => h9) dJ0_coder_7d493_0 ?_
  refine lv_if_eq (tgt := 13) hx hb dJ0_coder_7d493_3 (by decide) (fun c_3 => ?_) (fun c_3 => ?_)
  · skip
    exact absurd c_3 (by decide)
  · skip
    refine lv_aload_n hx hb dJ0_coder_7d493_6 rfl (lv_at hl 0 rfl) ?_
    refine vk_getf (v := .int 0) hx hb (hY.1 i (by first | assumption | omega)).2.1 hS hown (hts _ w_1907) (fun _ h9 => h9) dJ0_coder_7d493_7 ?_
    refine lv_goto (tgt := 14) hx hb dJ0_coder_7d493_10 (by decide) ?_
    have hr9 : (0 : Int32) = 0 := by rfl
    have hP9 : va_P D CLS [] s9.heap := by exact kSub hP [] rfl
    have hD9 : va_D A [] := by exact hD.sub [] (by decide +kernel) rfl
    exact W.zret (v := 0) hx hb hr (by first | exact k_nb0 | exact k_nb1 | exact k_nbI _ | simp) (fun t9 ht9 hW9 => ⟨⟨0, (), rfl, hr9, by rw [ht9]; exact hP9, va_K.moved hW9.alike hK, hD9⟩, hS.F ht9⟩) hS.2.2 dJ0_coder_7d493_14
theorem dJ0_isLatin1_aae02_0 : decode cJ0_isLatin1_aae02 0 = .ok (.getstatic 38, 3) := by decide +kernel
theorem dJ0_isLatin1_aae02_3 : decode cJ0_isLatin1_aae02 3 = .ok (.ifCond .eq 14, 3) := by decide +kernel
theorem dJ0_isLatin1_aae02_6 : decode cJ0_isLatin1_aae02 6 = .ok (.aload_n 0, 1) := by decide +kernel
theorem dJ0_isLatin1_aae02_7 : decode cJ0_isLatin1_aae02 7 = .ok (.getfield 15, 3) := by decide +kernel
theorem dJ0_isLatin1_aae02_10 : decode cJ0_isLatin1_aae02 10 = .ok (.ifCond .ne 7, 3) := by decide +kernel
theorem dJ0_isLatin1_aae02_13 : decode cJ0_isLatin1_aae02 13 = .ok (.iconst 1, 1) := by decide +kernel
theorem dJ0_isLatin1_aae02_14 : decode cJ0_isLatin1_aae02 14 = .ok (.goto 4, 3) := by decide +kernel
theorem dJ0_isLatin1_aae02_18 : decode cJ0_isLatin1_aae02 18 = .ok (.ireturn, 1) := by decide +kernel
set_option maxHeartbeats 4000000 in
set_option maxRecDepth 100000 in
/-- String.isLatin1 -/
theorem c_J0_isLatin1_aae02 (l9 : Launch) (z : Nat → Nat) (D : va_G) (g : Nat → ClassId) (i : Nat) (hi : i < 30) (sz : Nat) : Met l9 yJ0_isLatin1_aae02 (WS yJ0_isLatin1_aae02 cJ0_isLatin1_aae02 1 (some .boolean)) ({ frames := 0, cells := 0, slots := 0, locals := 0 }) (va_Pc [.ref (z (110 + i))] (kPreS z D g [] sz)) (va_Qi (fun (r9 : Int32) (u9 : Unit) => r9 = 1) (kB D g (va_A [] sz) (fun (u9 : Unit) => [])) (va_A [] sz)) 0 0 (va_A [] sz) := by
  refine Met.ofW (cc := cJ0_isLatin1_aae02) (maxL := 1) (ret := (some .boolean)) (by decide) rfl ?_
  intro p9 e9 s9 m9 args9 below9 meth9 c9 s₁ B hml hv
  obtain ⟨rfl, hsz, hP, hK, hD0, hZ, hY⟩ := hv
  have hx := B.exec
  have hb := B.bytes
  have hr := B.returns
  have hts := ws_sub (atoms_spec (ws := WS yJ0_isLatin1_aae02 cJ0_isLatin1_aae02 1 (some .boolean)) B.pre)
  have hown : s9.vm.findClass RJ0 = some m9.cls := findClass_of_methodNamed B.named
  have hlocks := B.notSynchronized
  subst hsz
  have hD := hD0.self (sz := s9.heap.size)
  generalize hAe : va_A [] s9.heap.size = A at hD hZ hY ⊢
  have hA : ∀ q : Nat, s9.heap.size ≤ q → A q := fun q h => by rw [← hAe]; exact Or.inr h
  have hS : va_S A s9.heap s9.heap [] := va_S.rf
  have hP : va_P D CLS [] s9.heap := hP
  have hl := lv_entry ([.ref (z (110 + i))]) (n := 1) (Nat.le_of_ble_eq_true rfl)
  rw [lg_entry_eq]
  generalize (lg_sl ([.ref (z (110 + i))]) ++ List.replicate (1 - (lg_sl ([.ref (z (110 + i))])).length) Slot.unset).toArray = ls at hl ⊢
  have hl : lv_has ls 1 [(0, .ref (z (110 + i)))] := hl
  change W p9 l9 e9 ({ frames := 0, cells := 0, slots := 0, locals := 0 } : Room) s9 m9 _ below9 meth9 c9 _ _ _ _ _ _
  refine va_gets (n := "COMPACT_STRINGS") hx hb hY.2.2.2.1 hS hown (hts _ w_1491) (fun _ h9 => h9) dJ0_isLatin1_aae02_0 ?_
  refine lv_if_eq (tgt := 17) hx hb dJ0_isLatin1_aae02_3 (by decide) (fun c_3 => ?_) (fun c_3 => ?_)
  · skip
    exact absurd c_3 (by decide)
  · skip
    refine lv_aload_n hx hb dJ0_isLatin1_aae02_6 rfl (lv_at hl 0 rfl) ?_
    refine vk_getf (v := .int 0) hx hb (hY.1 i (by first | assumption | omega)).2.1 hS hown (hts _ w_1907) (fun _ h9 => h9) dJ0_isLatin1_aae02_7 ?_
    refine lv_if_ne (tgt := 17) hx hb dJ0_isLatin1_aae02_10 (by decide) (fun c_10 => ?_) (fun c_10 => ?_)
    · skip
      exact absurd c_10 (by decide)
    · skip
      refine lv_iconst (v := 1) hx hb dJ0_isLatin1_aae02_13 (by decide) ?_
      refine lv_goto (tgt := 18) hx hb dJ0_isLatin1_aae02_14 (by decide) ?_
      have hr9 : (1 : Int32) = 1 := by rfl
      have hP9 : va_P D CLS [] s9.heap := by exact kSub hP [] rfl
      have hD9 : va_D A [] := by exact hD.sub [] (by decide +kernel) rfl
      exact W.zret (v := 1) hx hb hr (by first | exact k_nb0 | exact k_nb1 | exact k_nbI _ | simp) (fun t9 ht9 hW9 => ⟨⟨1, (), rfl, hr9, by rw [ht9]; exact hP9, va_K.moved hW9.alike hK, hD9⟩, hS.F ht9⟩) hS.2.2 dJ0_isLatin1_aae02_18
theorem dJ0_length_8abf5_0 : decode cJ0_length_8abf5 0 = .ok (.aload_n 0, 1) := by decide +kernel
theorem dJ0_length_8abf5_1 : decode cJ0_length_8abf5 1 = .ok (.getfield 9, 3) := by decide +kernel
theorem dJ0_length_8abf5_4 : decode cJ0_length_8abf5 4 = .ok (.arraylength, 1) := by decide +kernel
theorem dJ0_length_8abf5_5 : decode cJ0_length_8abf5 5 = .ok (.aload_n 0, 1) := by decide +kernel
theorem dJ0_length_8abf5_6 : decode cJ0_length_8abf5 6 = .ok (.invokevirtual 335, 3) := by decide +kernel
theorem dJ0_length_8abf5_9 : decode cJ0_length_8abf5 9 = .ok (.ishr, 1) := by decide +kernel
theorem dJ0_length_8abf5_10 : decode cJ0_length_8abf5 10 = .ok (.ireturn, 1) := by decide +kernel
set_option maxHeartbeats 4000000 in
set_option maxRecDepth 100000 in
/-- String.length -/
theorem c_J0_length_8abf5 (l9 : Launch) (z : Nat → Nat) (D : va_G) (g : Nat → ClassId) (i : Nat) (hi : i < 30) (sz : Nat) : Met l9 yJ0_length_8abf5 (WS yJ0_length_8abf5 cJ0_length_8abf5 1 (some .int)) ({ frames := 1, cells := 0, slots := 0, locals := 20 }) (va_Pc [.ref (z (110 + i))] (kPreS z D g [] sz)) (va_Qi (fun (r9 : Int32) (u9 : Unit) => r9 = nI (SLn i)) (kB D g (va_A [] sz) (fun (u9 : Unit) => [])) (va_A [] sz)) 0 0 (va_A [] sz) := by
  refine Met.ofW (cc := cJ0_length_8abf5) (maxL := 1) (ret := (some .int)) (by decide) rfl ?_
  intro p9 e9 s9 m9 args9 below9 meth9 c9 s₁ B hml hv
  obtain ⟨rfl, hsz, hP, hK, hD0, hZ, hY⟩ := hv
  have hx := B.exec
  have hb := B.bytes
  have hr := B.returns
  have hts := ws_sub (atoms_spec (ws := WS yJ0_length_8abf5 cJ0_length_8abf5 1 (some .int)) B.pre)
  have hown : s9.vm.findClass RJ0 = some m9.cls := findClass_of_methodNamed B.named
  have hlocks := B.notSynchronized
  subst hsz
  have hD := hD0.self (sz := s9.heap.size)
  generalize hAe : va_A [] s9.heap.size = A at hD hZ hY ⊢
  have hA : ∀ q : Nat, s9.heap.size ≤ q → A q := fun q h => by rw [← hAe]; exact Or.inr h
  have hS : va_S A s9.heap s9.heap [] := va_S.rf
  have hP : va_P D CLS [] s9.heap := hP
  have hl := lv_entry ([.ref (z (110 + i))]) (n := 1) (Nat.le_of_ble_eq_true rfl)
  rw [lg_entry_eq]
  generalize (lg_sl ([.ref (z (110 + i))]) ++ List.replicate (1 - (lg_sl ([.ref (z (110 + i))])).length) Slot.unset).toArray = ls at hl ⊢
  have hl : lv_has ls 1 [(0, .ref (z (110 + i)))] := hl
  change W p9 l9 e9 ({ frames := 1, cells := 0, slots := 0, locals := 20 } : Room) s9 m9 _ below9 meth9 c9 _ _ _ _ _ _
  refine lv_aload_n hx hb dJ0_length_8abf5_0 rfl (lv_at hl 0 rfl) ?_
  refine vk_getf (v := .ref (z (150 + i))) hx hb (hY.1 i (by first | assumption | omega)).2.2.1 hS hown (hts _ w_1906) (fun _ h9 => h9) dJ0_length_8abf5_1 ?_
  refine va_tlen (v := nI (SLn i)) hx hb (hY.1 i (by first | assumption | omega)).2.2.2 hS rfl dJ0_length_8abf5_4 ?_
  refine lv_aload_n hx hb dJ0_length_8abf5_5 rfl (lv_at hl 0 rfl) ?_
  refine k_i hA hP hD hS [] (va_runV (As := []) (rest := [.int (nI (SLn i))]) ⟨hx, hb, hml, hown, hts⟩ (c_J0_coder_7d493 l9 z D g i (by first | assumption | decide | omega) (Array.size s9.heap)) (cwV 0 hts gv_J0_335 rfl rfl rfl (by decide +kernel) ⟨Nat.le_of_ble_eq_true rfl, Nat.le_of_ble_eq_true rfl⟩) ⟨kBlindS, vO_recv (hY.1 i (by first | assumption | omega)).1 hS, kPreS.pc hY hK hZ hA hP hD hS [] rfl (by decide +kernel)⟩ rfl rfl hl.1 rfl (lv_room (Nat.le_of_ble_eq_true rfl)) dJ0_length_8abf5_6 ⟨Nat.le_of_ble_eq_true rfl, Nat.le_of_ble_eq_true rfl⟩) [] [] rfl rfl rfl rfl (fun r_6 u_1 H locs hw_6 hP7 hD7 hS7 => ?_)
  clear hP hD hS
  have hP := hP7
  have hD := hD7
  have hS := hS7
  clear hP7 hD7 hS7
  obtain rfl := hw_6
  replace hP : va_P D CLS [] H := hP
  replace hD : va_D A [] := hD
  refine lv_ishr hx hb dJ0_length_8abf5_9 ?_
  have hr9 : ((nI (SLn i)) >>> (0 &&& 31)) = (nI (SLn i)) := by exact shr0 _
  have hP9 : va_P D CLS [] H := by exact kSub hP [] rfl
  have hD9 : va_D A [] := by exact hD.sub [] (by decide +kernel) rfl
  exact W.iret (v := ((nI (SLn i)) >>> (0 &&& 31))) hx hb hr (fun t9 ht9 hW9 => ⟨⟨((nI (SLn i)) >>> (0 &&& 31)), (), rfl, hr9, by rw [ht9]; exact hP9, va_K.moved hW9.alike hK, hD9⟩, hS.F ht9⟩) hS.2.2 dJ0_length_8abf5_10
theorem dJ3_checkIndex_8e157_0 : decode cJ3_checkIndex_8e157 0 = .ok (.iload_n 0, 1) := by decide +kernel
theorem dJ3_checkIndex_8e157_1 : decode cJ3_checkIndex_8e157 1 = .ok (.ifCond .lt 8, 3) := by decide +kernel
theorem dJ3_checkIndex_8e157_4 : decode cJ3_checkIndex_8e157 4 = .ok (.iload_n 0, 1) := by decide +kernel
theorem dJ3_checkIndex_8e157_5 : decode cJ3_checkIndex_8e157 5 = .ok (.iload_n 1, 1) := by decide +kernel
theorem dJ3_checkIndex_8e157_6 : decode cJ3_checkIndex_8e157 6 = .ok (.if_icmp .lt 10, 3) := by decide +kernel
theorem dJ3_checkIndex_8e157_16 : decode cJ3_checkIndex_8e157 16 = .ok (.iload_n 0, 1) := by decide +kernel
theorem dJ3_checkIndex_8e157_17 : decode cJ3_checkIndex_8e157 17 = .ok (.ireturn, 1) := by decide +kernel
set_option maxHeartbeats 4000000 in
set_option maxRecDepth 100000 in
/-- Preconditions.checkIndex -/
theorem c_J3_checkIndex_8e157 (l9 : Launch) (z : Nat → Nat) (D : va_G) (g : Nat → ClassId) (k : Nat) (m : Nat) (o : Option Nat) (hk : k < m) (hm : m < 1000) (sz : Nat) : Met l9 yJ3_checkIndex_8e157 (WS yJ3_checkIndex_8e157 cJ3_checkIndex_8e157 3 (some .int)) ({ frames := 0, cells := 0, slots := 0, locals := 0 }) (va_Pc [.int (nI k), .int (nI m), va_rf o] (kPreS z D g [] sz)) (va_Qi (fun (r9 : Int32) (u9 : Unit) => r9 = nI k) (kB D g (va_A [] sz) (fun (u9 : Unit) => [])) (va_A [] sz)) 0 0 (va_A [] sz) := by
  refine Met.ofW (cc := cJ3_checkIndex_8e157) (maxL := 3) (ret := (some .int)) (by decide) rfl ?_
  intro p9 e9 s9 m9 args9 below9 meth9 c9 s₁ B hml hv
  obtain ⟨rfl, hsz, hP, hK, hD0, hZ, hY⟩ := hv
  have hx := B.exec
  have hb := B.bytes
  have hr := B.returns
  have hts := ws_sub (atoms_spec (ws := WS yJ3_checkIndex_8e157 cJ3_checkIndex_8e157 3 (some .int)) B.pre)
  have hown : s9.vm.findClass RJ3 = some m9.cls := findClass_of_methodNamed B.named
  have hlocks := B.notSynchronized
  subst hsz
  have hD := hD0.self (sz := s9.heap.size)
  generalize hAe : va_A [] s9.heap.size = A at hD hZ hY ⊢
  have hA : ∀ q : Nat, s9.heap.size ≤ q → A q := fun q h => by rw [← hAe]; exact Or.inr h
  have hS : va_S A s9.heap s9.heap [] := va_S.rf
  have hP : va_P D CLS [] s9.heap := hP
  have hl := lv_entry ([.int (nI k), .int (nI m), va_rf o]) (n := 3) (Nat.le_of_ble_eq_true (by cases o <;> rfl))
  rw [lg_entry_eq]
  generalize (lg_sl ([.int (nI k), .int (nI m), va_rf o]) ++ List.replicate (3 - (lg_sl ([.int (nI k), .int (nI m), va_rf o])).length) Slot.unset).toArray = ls at hl ⊢
  have hl : lv_has ls 3 [(0, .int (nI k)), (1, .int (nI m)), (2, va_rf o)] := hl
  change W p9 l9 e9 ({ frames := 0, cells := 0, slots := 0, locals := 0 } : Room) s9 m9 _ below9 meth9 c9 _ _ _ _ _ _
  refine lv_iload_n hx hb dJ3_checkIndex_8e157_0 rfl (lv_at hl 0 rfl) ?_
  refine lv_if_lt (tgt := 9) hx hb dJ3_checkIndex_8e157_1 (by decide) (fun c_1 => ?_) (fun c_1 => ?_)
  · skip
    exact absurd c_1 (nI_pos (by omega))
  · skip
    refine lv_iload_n hx hb dJ3_checkIndex_8e157_4 rfl (lv_at hl 0 rfl) ?_
    refine lv_iload_n hx hb dJ3_checkIndex_8e157_5 rfl (lv_at hl 1 rfl) ?_
    refine lv_icmp_lt (tgt := 16) hx hb dJ3_checkIndex_8e157_6 (by decide) (fun c_6 => ?_) (fun c_6 => ?_)
    · skip
      have c_6 : k < m := (nI_ltI (a := k) (b := m) (by omega) (by omega)).mp c_6
      refine lv_iload_n hx hb dJ3_checkIndex_8e157_16 rfl (lv_at hl 0 rfl) ?_
      have hr9 : (nI k) = (nI k) := by rfl
      have hP9 : va_P D CLS [] s9.heap := by exact kSub hP [] rfl
      have hD9 : va_D A [] := by exact hD.sub [] (by decide +kernel) rfl
      exact W.iret (v := nI k) hx hb hr (fun t9 ht9 hW9 => ⟨⟨nI k, (), rfl, hr9, by rw [ht9]; exact hP9, va_K.moved hW9.alike hK, hD9⟩, hS.F ht9⟩) hS.2.2 dJ3_checkIndex_8e157_17
    · skip
      have c_6 : ¬ k < m := fun h => c_6 ((nI_ltI (a := k) (b := m) (by omega) (by omega)).mpr h)
      exact absurd hk (by omega)
theorem dJ0_checkIndex_df160_0 : decode cJ0_checkIndex_df160 0 = .ok (.iload_n 0, 1) := by decide +kernel
theorem dJ0_checkIndex_df160_1 : decode cJ0_checkIndex_df160 1 = .ok (.iload_n 1, 1) := by decide +kernel
theorem dJ0_checkIndex_df160_2 : decode cJ0_checkIndex_df160 2 = .ok (.getstatic 1053, 3) := by decide +kernel
theorem dJ0_checkIndex_df160_5 : decode cJ0_checkIndex_df160 5 = .ok (.invokestatic 1059, 3) := by decide +kernel
theorem dJ0_checkIndex_df160_8 : decode cJ0_checkIndex_df160 8 = .ok (.pop, 1) := by decide +kernel
theorem dJ0_checkIndex_df160_9 : decode cJ0_checkIndex_df160 9 = .ok (.return_, 1) := by decide +kernel
set_option maxHeartbeats 4000000 in
set_option maxRecDepth 100000 in
/-- String.checkIndex -/
theorem c_J0_checkIndex_df160 (l9 : Launch) (z : Nat → Nat) (D : va_G) (g : Nat → ClassId) (k : Nat) (m : Nat) (hk : k < m) (hm : m < 1000) (sz : Nat) : Met l9 yJ0_checkIndex_df160 (WS yJ0_checkIndex_df160 cJ0_checkIndex_df160 2 none) ({ frames := 1, cells := 0, slots := 0, locals := 22 }) (va_Pc [.int (nI k), .int (nI m)] (kPreS z D g [] sz)) (va_Qv (fun (u9 : Unit) => True) (kB D g (va_A [] sz) (fun (u9 : Unit) => [])) (va_A [] sz)) 0 0 (va_A [] sz) := by
  refine Met.ofW (cc := cJ0_checkIndex_df160) (maxL := 2) (ret := none) (by decide) rfl ?_
  intro p9 e9 s9 m9 args9 below9 meth9 c9 s₁ B hml hv
  obtain ⟨rfl, hsz, hP, hK, hD0, hZ, hY⟩ := hv
  have hx := B.exec
  have hb := B.bytes
  have hr := B.returns
  have hts := ws_sub (atoms_spec (ws := WS yJ0_checkIndex_df160 cJ0_checkIndex_df160 2 none) B.pre)
  have hown : s9.vm.findClass RJ0 = some m9.cls := findClass_of_methodNamed B.named
  have hlocks := B.notSynchronized
  subst hsz
  have hD := hD0.self (sz := s9.heap.size)
  generalize hAe : va_A [] s9.heap.size = A at hD hZ hY ⊢
  have hA : ∀ q : Nat, s9.heap.size ≤ q → A q := fun q h => by rw [← hAe]; exact Or.inr h
  have hS : va_S A s9.heap s9.heap [] := va_S.rf
  have hP : va_P D CLS [] s9.heap := hP
  have hl := lv_entry ([.int (nI k), .int (nI m)]) (n := 2) (Nat.le_of_ble_eq_true rfl)
  rw [lg_entry_eq]
  generalize (lg_sl ([.int (nI k), .int (nI m)]) ++ List.replicate (2 - (lg_sl ([.int (nI k), .int (nI m)])).length) Slot.unset).toArray = ls at hl ⊢
  have hl : lv_has ls 2 [(0, .int (nI k)), (1, .int (nI m))] := hl
  change W p9 l9 e9 ({ frames := 1, cells := 0, slots := 0, locals := 22 } : Room) s9 m9 _ below9 meth9 c9 _ _ _ _ _ _
  refine lv_iload_n hx hb dJ0_checkIndex_df160_0 rfl (lv_at hl 0 rfl) ?_
  refine lv_iload_n hx hb dJ0_checkIndex_df160_1 rfl (lv_at hl 1 rfl) ?_
  obtain ⟨o9, hz9⟩ := hY.2.2.2.2.1.o
  refine va_gets (n := "SIOOBE_FORMATTER") hx hb hz9 hS hown (hts _ w_1507) (fun _ h9 => h9) dJ0_checkIndex_df160_2 ?_
  refine k_i hA hP hD hS [] (va_runS (As := [.int (nI k), .int (nI m), va_rf o9]) (rest := []) ⟨hx, hb, hml, hown, hts⟩ (c_J3_checkIndex_8e157 l9 z D g k m o9 (by first | assumption | decide | omega) (by first | assumption | decide | omega) (Array.size s9.heap)) (va_cwS 3 hts gs_J0_1059 rfl rfl rfl (by decide +kernel) ⟨Nat.le_of_ble_eq_true rfl, Nat.le_of_ble_eq_true rfl⟩) ⟨kBlindS, kPreS.pc hY hK hZ hA hP hD hS [] rfl (by decide +kernel)⟩ rfl rfl hl.1 rfl (lv_room (Nat.le_of_ble_eq_true rfl)) dJ0_checkIndex_df160_5 ⟨Nat.le_of_ble_eq_true rfl, Nat.le_of_ble_eq_true rfl⟩) [] [] rfl rfl rfl rfl (fun r_5 u_1 H locs hw_5 hP7 hD7 hS7 => ?_)
  clear hP hD hS
  have hP := hP7
  have hD := hD7
  have hS := hS7
  clear hP7 hD7 hS7
  obtain rfl := hw_5
  replace hP : va_P D CLS [] H := hP
  replace hD : va_D A [] := hD
  refine lv_pop hx hb dJ0_checkIndex_df160_8 rfl ?_
  have hP9 : va_P D CLS [] H := by exact kSub hP [] rfl
  have hD9 : va_D A [] := by exact hD.sub [] (by decide +kernel) rfl
  exact W.vret hx hb hr (fun t9 ht9 hW9 => ⟨⟨(), rfl, trivial, by rw [ht9]; exact hP9, va_K.moved hW9.alike hK, hD9⟩, hS.F ht9⟩) hS.2.2 dJ0_checkIndex_df160_9
theorem dJ1_charAt_3b067_0 : decode cJ1_charAt_3b067 0 = .ok (.iload_n 1, 1) := by decide +kernel
theorem dJ1_charAt_3b067_1 : decode cJ1_charAt_3b067 1 = .ok (.aload_n 0, 1) := by decide +kernel
theorem dJ1_charAt_3b067_2 : decode cJ1_charAt_3b067 2 = .ok (.arraylength, 1) := by decide +kernel
theorem dJ1_charAt_3b067_3 : decode cJ1_charAt_3b067 3 = .ok (.invokestatic 9, 3) := by decide +kernel
theorem dJ1_charAt_3b067_6 : decode cJ1_charAt_3b067 6 = .ok (.aload_n 0, 1) := by decide +kernel
theorem dJ1_charAt_3b067_7 : decode cJ1_charAt_3b067 7 = .ok (.iload_n 1, 1) := by decide +kernel
theorem dJ1_charAt_3b067_8 : decode cJ1_charAt_3b067 8 = .ok (.baload, 1) := by decide +kernel
theorem dJ1_charAt_3b067_9 : decode cJ1_charAt_3b067 9 = .ok (.sipush 255, 3) := by decide +kernel
theorem dJ1_charAt_3b067_12 : decode cJ1_charAt_3b067 12 = .ok (.iand, 1) := by decide +kernel
theorem dJ1_charAt_3b067_13 : decode cJ1_charAt_3b067 13 = .ok (.i2c, 1) := by decide +kernel
theorem dJ1_charAt_3b067_14 : decode cJ1_charAt_3b067 14 = .ok (.ireturn, 1) := by decide +kernel
set_option maxHeartbeats 4000000 in
set_option maxRecDepth 100000 in
/-- StringLatin1.charAt -/
theorem c_J1_charAt_3b067 (l9 : Launch) (z : Nat → Nat) (D : va_G) (g : Nat → ClassId) (i : Nat) (k : Nat) (hi : i < 30) (hk : k < SLn i) (sz : Nat) : Met l9 yJ1_charAt_3b067 (WS yJ1_charAt_3b067 cJ1_charAt_3b067 2 (some .char)) ({ frames := 2, cells := 0, slots := 0, locals := 43 }) (va_Pc [.ref (z (150 + i)), .int (nI k)] (kPreS z D g [] sz)) (va_Qi (fun (r9 : Int32) (u9 : Unit) => r9 = SB i k) (kB D g (va_A [] sz) (fun (u9 : Unit) => [])) (va_A [] sz)) 0 0 (va_A [] sz) := by
  refine Met.ofW (cc := cJ1_charAt_3b067) (maxL := 2) (ret := (some .char)) (by decide) rfl ?_
  intro p9 e9 s9 m9 args9 below9 meth9 c9 s₁ B hml hv
  obtain ⟨rfl, hsz, hP, hK, hD0, hZ, hY⟩ := hv
  have hx := B.exec
  have hb := B.bytes
  have hr := B.returns
  have hts := ws_sub (atoms_spec (ws := WS yJ1_charAt_3b067 cJ1_charAt_3b067 2 (some .char)) B.pre)
  have hown : s9.vm.findClass RJ1 = some m9.cls := findClass_of_methodNamed B.named
  have hlocks := B.notSynchronized
  subst hsz
  have hD := hD0.self (sz := s9.heap.size)
  generalize hAe : va_A [] s9.heap.size = A at hD hZ hY ⊢
  have hA : ∀ q : Nat, s9.heap.size ≤ q → A q := fun q h => by rw [← hAe]; exact Or.inr h
  have hS : va_S A s9.heap s9.heap [] := va_S.rf
  have hP : va_P D CLS [] s9.heap := hP
  have hl := lv_entry ([.ref (z (150 + i)), .int (nI k)]) (n := 2) (Nat.le_of_ble_eq_true rfl)
  rw [lg_entry_eq]
  generalize (lg_sl ([.ref (z (150 + i)), .int (nI k)]) ++ List.replicate (2 - (lg_sl ([.ref (z (150 + i)), .int (nI k)])).length) Slot.unset).toArray = ls at hl ⊢
  have hl : lv_has ls 2 [(0, .ref (z (150 + i))), (1, .int (nI k))] := hl
  change W p9 l9 e9 ({ frames := 2, cells := 0, slots := 0, locals := 43 } : Room) s9 m9 _ below9 meth9 c9 _ _ _ _ _ _
  have hln := SLn_lt i hi
  refine lv_iload_n hx hb dJ1_charAt_3b067_0 rfl (lv_at hl 1 rfl) ?_
  refine lv_aload_n hx hb dJ1_charAt_3b067_1 rfl (lv_at hl 0 rfl) ?_
  refine va_tlen (v := nI (SLn i)) hx hb (hY.1 i (by first | assumption | omega)).2.2.2 hS rfl dJ1_charAt_3b067_2 ?_
  refine k_v hA hP hD hS [] (va_runS (As := [.int (nI k), .int (nI (SLn i))]) (rest := []) ⟨hx, hb, hml, hown, hts⟩ (c_J0_checkIndex_df160 l9 z D g k (SLn i) hk (by omega) (Array.size s9.heap)) (va_cwS 2 hts gs_J1_9 rfl rfl rfl (by decide +kernel) ⟨Nat.le_of_ble_eq_true rfl, Nat.le_of_ble_eq_true rfl⟩) ⟨kBlindS, kPreS.pc hY hK hZ hA hP hD hS [] rfl (by decide +kernel)⟩ rfl rfl hl.1 rfl (lv_room (Nat.le_of_ble_eq_true rfl)) dJ1_charAt_3b067_3 ⟨Nat.le_of_ble_eq_true rfl, Nat.le_of_ble_eq_true rfl⟩) [] [] rfl rfl rfl rfl (fun u_1 H locs hw_3 hP7 hD7 hS7 => ?_)
  clear hP hD hS
  have hP := hP7
  have hD := hD7
  have hS := hS7
  clear hP7 hD7 hS7
  replace hP : va_P D CLS [] H := hP
  replace hD : va_D A [] := hD
  refine lv_aload_n hx hb dJ1_charAt_3b067_6 rfl (lv_at hl 0 rfl) ?_
  refine lv_iload_n hx hb dJ1_charAt_3b067_7 rfl (lv_at hl 1 rfl) ?_
  refine va_tb (v := .int (SB i k)) hx hb (hY.1 i (by first | assumption | omega)).2.2.2 hS (vp_in_nI hk (by omega)) (by rw [nI_clamp (by omega)]) dJ1_charAt_3b067_8 ?_
  refine lv_sipush (v := 255) hx hb dJ1_charAt_3b067_9 (by decide) ?_
  refine lv_iand hx hb dJ1_charAt_3b067_12 ?_
  refine lv_i2c hx hb dJ1_charAt_3b067_13 rfl ?_
  refine k_topi (show ((((SB i k) &&& 255).toUInt32 % 65536).toInt32) = (SB i k) from (SB_ok i hi k hk).1) ?_
  have hr9 : (SB i k) = (SB i k) := by rfl
  have hP9 : va_P D CLS [] H := by exact kSub hP [] rfl
  have hD9 : va_D A [] := by exact hD.sub [] (by decide +kernel) rfl
  exact W.zret (v := SB i k) hx hb hr (SB_ok i hi k hk).2 (fun t9 ht9 hW9 => ⟨⟨SB i k, (), rfl, hr9, by rw [ht9]; exact hP9, va_K.moved hW9.alike hK, hD9⟩, hS.F ht9⟩) hS.2.2 dJ1_charAt_3b067_14
theorem dJ0_charAt_5068e_0 : decode cJ0_charAt_5068e 0 = .ok (.aload_n 0, 1) := by decide +kernel
theorem dJ0_charAt_5068e_1 : decode cJ0_charAt_5068e 1 = .ok (.invokevirtual 492, 3) := by decide +kernel
theorem dJ0_charAt_5068e_4 : decode cJ0_charAt_5068e 4 = .ok (.ifCond .eq 12, 3) := by decide +kernel
theorem dJ0_charAt_5068e_7 : decode cJ0_charAt_5068e 7 = .ok (.aload_n 0, 1) := by decide +kernel
theorem dJ0_charAt_5068e_8 : decode cJ0_charAt_5068e 8 = .ok (.getfield 9, 3) := by decide +kernel
theorem dJ0_charAt_5068e_11 : decode cJ0_charAt_5068e 11 = .ok (.iload_n 1, 1) := by decide +kernel
theorem dJ0_charAt_5068e_12 : decode cJ0_charAt_5068e 12 = .ok (.invokestatic 495, 3) := by decide +kernel
theorem dJ0_charAt_5068e_15 : decode cJ0_charAt_5068e 15 = .ok (.ireturn, 1) := by decide +kernel
set_option maxHeartbeats 4000000 in
set_option maxRecDepth 100000 in
/-- String.charAt -/
theorem c_J0_charAt_5068e (l9 : Launch) (z : Nat → Nat) (D : va_G) (g : Nat → ClassId) (i : Nat) (k : Nat) (hi : i < 30) (hk : k < SLn i) (sz : Nat) : Met l9 yJ0_charAt_5068e (WS yJ0_charAt_5068e cJ0_charAt_5068e 2 (some .char)) ({ frames := 3, cells := 0, slots := 0, locals := 64 }) (va_Pc [.ref (z (110 + i)), .int (nI k)] (kPreS z D g [] sz)) (va_Qi (fun (r9 : Int32) (u9 : Unit) => r9 = SB i k) (kB D g (va_A [] sz) (fun (u9 : Unit) => [])) (va_A [] sz)) 0 0 (va_A [] sz) := by
  refine Met.ofW (cc := cJ0_charAt_5068e) (maxL := 2) (ret := (some .char)) (by decide) rfl ?_
  intro p9 e9 s9 m9 args9 below9 meth9 c9 s₁ B hml hv
  obtain ⟨rfl, hsz, hP, hK, hD0, hZ, hY⟩ := hv
  have hx := B.exec
  have hb := B.bytes
  have hr := B.returns
  have hts := ws_sub (atoms_spec (ws := WS yJ0_charAt_5068e cJ0_charAt_5068e 2 (some .char)) B.pre)
  have hown : s9.vm.findClass RJ0 = some m9.cls := findClass_of_methodNamed B.named
  have hlocks := B.notSynchronized
  subst hsz
  have hD := hD0.self (sz := s9.heap.size)
  generalize hAe : va_A [] s9.heap.size = A at hD hZ hY ⊢
  have hA : ∀ q : Nat, s9.heap.size ≤ q → A q := fun q h => by rw [← hAe]; exact Or.inr h
  have hS : va_S A s9.heap s9.heap [] := va_S.rf
  have hP : va_P D CLS [] s9.heap := hP
  have hl := lv_entry ([.ref (z (110 + i)), .int (nI k)]) (n := 2) (Nat.le_of_ble_eq_true rfl)
  rw [lg_entry_eq]
  generalize (lg_sl ([.ref (z (110 + i)), .int (nI k)]) ++ List.replicate (2 - (lg_sl ([.ref (z (110 + i)), .int (nI k)])).length) Slot.unset).toArray = ls at hl ⊢
  have hl : lv_has ls 2 [(0, .ref (z (110 + i))), (1, .int (nI k))] := hl
  change W p9 l9 e9 ({ frames := 3, cells := 0, slots := 0, locals := 64 } : Room) s9 m9 _ below9 meth9 c9 _ _ _ _ _ _
  refine lv_aload_n hx hb dJ0_charAt_5068e_0 rfl (lv_at hl 0 rfl) ?_
  refine k_i hA hP hD hS [] (va_runV (As := []) (rest := []) ⟨hx, hb, hml, hown, hts⟩ (c_J0_isLatin1_aae02 l9 z D g i (by first | assumption | decide | omega) (Array.size s9.heap)) (cwV 0 hts gv_J0_492 rfl rfl rfl (by decide +kernel) ⟨Nat.le_of_ble_eq_true rfl, Nat.le_of_ble_eq_true rfl⟩) ⟨kBlindS, vO_recv (hY.1 i (by first | assumption | omega)).1 hS, kPreS.pc hY hK hZ hA hP hD hS [] rfl (by decide +kernel)⟩ rfl rfl hl.1 rfl (lv_room (Nat.le_of_ble_eq_true rfl)) dJ0_charAt_5068e_1 ⟨Nat.le_of_ble_eq_true rfl, Nat.le_of_ble_eq_true rfl⟩) [] [] rfl rfl rfl rfl (fun r_1 u_1 H locs hw_1 hP7 hD7 hS7 => ?_)
  clear hP hD hS
  have hP := hP7
  have hD := hD7
  have hS := hS7
  clear hP7 hD7 hS7
  obtain rfl := hw_1
  replace hP : va_P D CLS [] H := hP
  replace hD : va_D A [] := hD
  refine lv_if_eq (tgt := 16) hx hb dJ0_charAt_5068e_4 (by decide) (fun c_4 => ?_) (fun c_4 => ?_)
  · skip
    exact absurd c_4 (by decide)
  · skip
    refine lv_aload_n hx hb dJ0_charAt_5068e_7 rfl (lv_at hl 0 rfl) ?_
    refine vk_getf (v := .ref (z (150 + i))) hx hb (hY.1 i (by first | assumption | omega)).2.2.1 hS hown (hts _ w_1906) (fun _ h9 => h9) dJ0_charAt_5068e_8 ?_
    refine lv_iload_n hx hb dJ0_charAt_5068e_11 rfl (lv_at hl 1 rfl) ?_
    refine k_i hA hP hD hS [] (va_runS (As := [.ref (z (150 + i)), .int (nI k)]) (rest := []) ⟨hx, hb, hml, hown, hts⟩ (c_J1_charAt_3b067 l9 z D g i k (by first | assumption | decide | omega) (by first | assumption | decide | omega) (Array.size H)) (va_cwS 2 hts gs_J0_495 rfl rfl rfl (by decide +kernel) ⟨Nat.le_of_ble_eq_true rfl, Nat.le_of_ble_eq_true rfl⟩) ⟨kBlindS, kPreS.pc hY hK hZ hA hP hD hS [] rfl (by decide +kernel)⟩ rfl rfl hl.1 rfl (lv_room (Nat.le_of_ble_eq_true rfl)) dJ0_charAt_5068e_12 ⟨Nat.le_of_ble_eq_true rfl, Nat.le_of_ble_eq_true rfl⟩) [] [] rfl rfl rfl rfl (fun r_12 u_2 H locs hw_12 hP7 hD7 hS7 => ?_)
    clear hP hD hS
    have hP := hP7
    have hD := hD7
    have hS := hS7
    clear hP7 hD7 hS7
    obtain rfl := hw_12
    replace hP : va_P D CLS [] H := hP
    replace hD : va_D A [] := hD
    have hr9 : (SB i k) = (SB i k) := by rfl
    have hP9 : va_P D CLS [] H := by exact kSub hP [] rfl
    have hD9 : va_D A [] := by exact hD.sub [] (by decide +kernel) rfl
    exact W.zret (v := SB i k) hx hb hr (SB_ok i hi k hk).2 (fun t9 ht9 hW9 => ⟨⟨SB i k, (), rfl, hr9, by rw [ht9]; exact hP9, va_K.moved hW9.alike hK, hD9⟩, hS.F ht9⟩) hS.2.2 dJ0_charAt_5068e_15
theorem dJ1_canEncode_9a6ad_0 : decode cJ1_canEncode_9a6ad 0 = .ok (.iload_n 0, 1) := by decide +kernel
theorem dJ1_canEncode_9a6ad_1 : decode cJ1_canEncode_9a6ad 1 = .ok (.ifCond .lt 14, 3) := by decide +kernel
theorem dJ1_canEncode_9a6ad_4 : decode cJ1_canEncode_9a6ad 4 = .ok (.iload_n 0, 1) := by decide +kernel
theorem dJ1_canEncode_9a6ad_5 : decode cJ1_canEncode_9a6ad 5 = .ok (.sipush 255, 3) := by decide +kernel
theorem dJ1_canEncode_9a6ad_8 : decode cJ1_canEncode_9a6ad 8 = .ok (.if_icmp .gt 7, 3) := by decide +kernel
theorem dJ1_canEncode_9a6ad_11 : decode cJ1_canEncode_9a6ad 11 = .ok (.iconst 1, 1) := by decide +kernel
theorem dJ1_canEncode_9a6ad_12 : decode cJ1_canEncode_9a6ad 12 = .ok (.goto 4, 3) := by decide +kernel
theorem dJ1_canEncode_9a6ad_15 : decode cJ1_canEncode_9a6ad 15 = .ok (.iconst 0, 1) := by decide +kernel
theorem dJ1_canEncode_9a6ad_16 : decode cJ1_canEncode_9a6ad 16 = .ok (.ireturn, 1) := by decide +kernel
set_option maxHeartbeats 4000000 in
set_option maxRecDepth 100000 in
/-- StringLatin1.canEncode -/
theorem c_J1_canEncode_9a6ad (l9 : Launch) (z : Nat → Nat) (D : va_G) (g : Nat → ClassId) (c : Int32) (sz : Nat) : Met l9 yJ1_canEncode_9a6ad (WS yJ1_canEncode_9a6ad cJ1_canEncode_9a6ad 1 (some .boolean)) ({ frames := 0, cells := 0, slots := 0, locals := 0 }) (va_Pc [.int c] (kPreS z D g [] sz)) (va_Qi (fun (r9 : Int32) (u9 : Unit) => r9 = bI (canE c)) (kB D g (va_A [] sz) (fun (u9 : Unit) => [])) (va_A [] sz)) 0 0 (va_A [] sz) := by
  refine Met.ofW (cc := cJ1_canEncode_9a6ad) (maxL := 1) (ret := (some .boolean)) (by decide) rfl ?_
  intro p9 e9 s9 m9 args9 below9 meth9 c9 s₁ B hml hv
  obtain ⟨rfl, hsz, hP, hK, hD0, hZ, hY⟩ := hv
  have hx := B.exec
  have hb := B.bytes
  have hr := B.returns
  have hts := ws_sub (atoms_spec (ws := WS yJ1_canEncode_9a6ad cJ1_canEncode_9a6ad 1 (some .boolean)) B.pre)
  have hown : s9.vm.findClass RJ1 = some m9.cls := findClass_of_methodNamed B.named
  have hlocks := B.notSynchronized
  subst hsz
  have hD := hD0.self (sz := s9.heap.size)
  generalize hAe : va_A [] s9.heap.size = A at hD hZ hY ⊢
  have hA : ∀ q : Nat, s9.heap.size ≤ q → A q := fun q h => by rw [← hAe]; exact Or.inr h
  have hS : va_S A s9.heap s9.heap [] := va_S.rf
  have hP : va_P D CLS [] s9.heap := hP
  have hl := lv_entry ([.int c]) (n := 1) (Nat.le_of_ble_eq_true rfl)
  rw [lg_entry_eq]
  generalize (lg_sl ([.int c]) ++ List.replicate (1 - (lg_sl ([.int c])).length) Slot.unset).toArray = ls at hl ⊢
  have hl : lv_has ls 1 [(0, .int c)] := hl
  change W p9 l9 e9 ({ frames := 0, cells := 0, slots := 0, locals := 0 } : Room) s9 m9 _ below9 meth9 c9 _ _ _ _ _ _
  refine lv_iload_n hx hb dJ1_canEncode_9a6ad_0 rfl (lv_at hl 0 rfl) ?_
  refine lv_if_lt (tgt := 15) hx hb dJ1_canEncode_9a6ad_1 (by decide) (fun c_1 => ?_) (fun c_1 => ?_)
  · skip
    refine lv_iconst (v := 0) hx hb dJ1_canEncode_9a6ad_15 (by decide) ?_
    have hr9 : 0 = (bI (canE c)) := by first | exact (bI_dt ⟨Int32.not_lt.mp c_1, Int32.not_lt.mp c_8⟩).symm | exact (bI_df (fun h => absurd h.1 (Int32.not_le.mpr c_1))).symm | exact (bI_df (fun h => absurd h.2 (Int32.not_le.mpr c_8))).symm
    have hP9 : va_P D CLS [] s9.heap := by exact kSub hP [] rfl
    have hD9 : va_D A [] := by exact hD.sub [] (by decide +kernel) rfl
    exact W.zret (v := 0) hx hb hr (by first | exact k_nb0 | exact k_nb1 | exact k_nbI _ | simp) (fun t9 ht9 hW9 => ⟨⟨0, (), rfl, hr9, by rw [ht9]; exact hP9, va_K.moved hW9.alike hK, hD9⟩, hS.F ht9⟩) hS.2.2 dJ1_canEncode_9a6ad_16
  · skip
    refine lv_iload_n hx hb dJ1_canEncode_9a6ad_4 rfl (lv_at hl 0 rfl) ?_
    refine lv_sipush (v := 255) hx hb dJ1_canEncode_9a6ad_5 (by decide) ?_
    refine lv_icmp_gt (tgt := 15) hx hb dJ1_canEncode_9a6ad_8 (by decide) (fun c_8 => ?_) (fun c_8 => ?_)
    · skip
      refine lv_iconst (v := 0) hx hb dJ1_canEncode_9a6ad_15 (by decide) ?_
      have hr9 : 0 = (bI (canE c)) := by first | exact (bI_dt ⟨Int32.not_lt.mp c_1, Int32.not_lt.mp c_8⟩).symm | exact (bI_df (fun h => absurd h.1 (Int32.not_le.mpr c_1))).symm | exact (bI_df (fun h => absurd h.2 (Int32.not_le.mpr c_8))).symm
      have hP9 : va_P D CLS [] s9.heap := by exact kSub hP [] rfl
      have hD9 : va_D A [] := by exact hD.sub [] (by decide +kernel) rfl
      exact W.zret (v := 0) hx hb hr (by first | exact k_nb0 | exact k_nb1 | exact k_nbI _ | simp) (fun t9 ht9 hW9 => ⟨⟨0, (), rfl, hr9, by rw [ht9]; exact hP9, va_K.moved hW9.alike hK, hD9⟩, hS.F ht9⟩) hS.2.2 dJ1_canEncode_9a6ad_16
    · skip
      refine lv_iconst (v := 1) hx hb dJ1_canEncode_9a6ad_11 (by decide) ?_
      refine lv_goto (tgt := 16) hx hb dJ1_canEncode_9a6ad_12 (by decide) ?_
      have hr9 : 1 = (bI (canE c)) := by first | exact (bI_dt ⟨Int32.not_lt.mp c_1, Int32.not_lt.mp c_8⟩).symm | exact (bI_df (fun h => absurd h.1 (Int32.not_le.mpr c_1))).symm | exact (bI_df (fun h => absurd h.2 (Int32.not_le.mpr c_8))).symm
      have hP9 : va_P D CLS [] s9.heap := by exact kSub hP [] rfl
      have hD9 : va_D A [] := by exact hD.sub [] (by decide +kernel) rfl
      exact W.zret (v := 1) hx hb hr (by first | exact k_nb0 | exact k_nb1 | exact k_nbI _ | simp) (fun t9 ht9 hW9 => ⟨⟨1, (), rfl, hr9, by rw [ht9]; exact hP9, va_K.moved hW9.alike hK, hD9⟩, hS.F ht9⟩) hS.2.2 dJ1_canEncode_9a6ad_16
theorem dJ1_indexOfChar_4cfef_0 : decode cJ1_indexOfChar_4cfef 0 = .ok (.iload_n 1, 1) := by decide +kernel
theorem dJ1_indexOfChar_4cfef_1 : decode cJ1_indexOfChar_4cfef 1 = .ok (.i2b, 1) := by decide +kernel
theorem dJ1_indexOfChar_4cfef_2 : decode cJ1_indexOfChar_4cfef 2 = .ok (.istore 4, 2) := by decide +kernel
theorem dJ1_indexOfChar_4cfef_4 : decode cJ1_indexOfChar_4cfef 4 = .ok (.iload_n 2, 1) := by decide +kernel
theorem dJ1_indexOfChar_4cfef_5 : decode cJ1_indexOfChar_4cfef 5 = .ok (.istore 5, 2) := by decide +kernel
theorem dJ1_indexOfChar_4cfef_7 : decode cJ1_indexOfChar_4cfef 7 = .ok (.iload 5, 2) := by decide +kernel
theorem dJ1_indexOfChar_4cfef_9 : decode cJ1_indexOfChar_4cfef 9 = .ok (.iload_n 3, 1) := by decide +kernel
theorem dJ1_indexOfChar_4cfef_10 : decode cJ1_indexOfChar_4cfef 10 = .ok (.if_icmp .ge 21, 3) := by decide +kernel
theorem dJ1_indexOfChar_4cfef_13 : decode cJ1_indexOfChar_4cfef 13 = .ok (.aload_n 0, 1) := by decide +kernel
theorem dJ1_indexOfChar_4cfef_14 : decode cJ1_indexOfChar_4cfef 14 = .ok (.iload 5, 2) := by decide +kernel
theorem dJ1_indexOfChar_4cfef_16 : decode cJ1_indexOfChar_4cfef 16 = .ok (.baload, 1) := by decide +kernel
theorem dJ1_indexOfChar_4cfef_17 : decode cJ1_indexOfChar_4cfef 17 = .ok (.iload 4, 2) := by decide +kernel
theorem dJ1_indexOfChar_4cfef_19 : decode cJ1_indexOfChar_4cfef 19 = .ok (.if_icmp .ne 6, 3) := by decide +kernel
theorem dJ1_indexOfChar_4cfef_22 : decode cJ1_indexOfChar_4cfef 22 = .ok (.iload 5, 2) := by decide +kernel
theorem dJ1_indexOfChar_4cfef_24 : decode cJ1_indexOfChar_4cfef 24 = .ok (.ireturn, 1) := by decide +kernel
theorem dJ1_indexOfChar_4cfef_25 : decode cJ1_indexOfChar_4cfef 25 = .ok (.iinc 5 1, 3) := by decide +kernel
theorem dJ1_indexOfChar_4cfef_28 : decode cJ1_indexOfChar_4cfef 28 = .ok (.goto (-21), 3) := by decide +kernel
theorem dJ1_indexOfChar_4cfef_31 : decode cJ1_indexOfChar_4cfef 31 = .ok (.iconst (-1), 1) := by decide +kernel
theorem dJ1_indexOfChar_4cfef_32 : decode cJ1_indexOfChar_4cfef 32 = .ok (.ireturn, 1) := by decide +kernel
set_option maxHeartbeats 4000000 in
set_option maxRecDepth 100000 in
/-- StringLatin1.indexOfChar -/
theorem c_J1_indexOfChar_4cfef (l9 : Launch) (z : Nat → Nat) (D : va_G) (g : Nat → ClassId) (i : Nat) (c : Int32) (hi : i < 30) (sz : Nat) : Met l9 yJ1_indexOfChar_4cfef (WS yJ1_indexOfChar_4cfef cJ1_indexOfChar_4cfef 6 (some .int)) ({ frames := 0, cells := 0, slots := 0, locals := 0 }) (va_Pc [.ref (z (150 + i)), .int c, .int 0, .int (nI (SLn i))] (kPreS z D g [] sz)) (va_Qi (fun (r9 : Int32) (u9 : Unit) => r9 = sIx i c) (kB D g (va_A [] sz) (fun (u9 : Unit) => [])) (va_A [] sz)) 0 0 (va_A [] sz) := by
  refine Met.ofW (cc := cJ1_indexOfChar_4cfef) (maxL := 6) (ret := (some .int)) (by decide) rfl ?_
  intro p9 e9 s9 m9 args9 below9 meth9 c9 s₁ B hml hv
  obtain ⟨rfl, hsz, hP, hK, hD0, hZ, hY⟩ := hv
  have hx := B.exec
  have hb := B.bytes
  have hr := B.returns
  have hts := ws_sub (atoms_spec (ws := WS yJ1_indexOfChar_4cfef cJ1_indexOfChar_4cfef 6 (some .int)) B.pre)
  have hown : s9.vm.findClass RJ1 = some m9.cls := findClass_of_methodNamed B.named
  have hlocks := B.notSynchronized
  subst hsz
  have hD := hD0.self (sz := s9.heap.size)
  generalize hAe : va_A [] s9.heap.size = A at hD hZ hY ⊢
  have hA : ∀ q : Nat, s9.heap.size ≤ q → A q := fun q h => by rw [← hAe]; exact Or.inr h
  have hS : va_S A s9.heap s9.heap [] := va_S.rf
  have hP : va_P D CLS [] s9.heap := hP
  have hl := lv_entry ([.ref (z (150 + i)), .int c, .int 0, .int (nI (SLn i))]) (n := 6) (Nat.le_of_ble_eq_true rfl)
  rw [lg_entry_eq]
  generalize (lg_sl ([.ref (z (150 + i)), .int c, .int 0, .int (nI (SLn i))]) ++ List.replicate (6 - (lg_sl ([.ref (z (150 + i)), .int c, .int 0, .int (nI (SLn i))])).length) Slot.unset).toArray = ls at hl ⊢
  have hl : lv_has ls 6 [(0, .ref (z (150 + i))), (1, .int c), (2, .int 0), (3, .int (nI (SLn i)))] := hl
  change W p9 l9 e9 ({ frames := 0, cells := 0, slots := 0, locals := 0 } : Room) s9 m9 _ below9 meth9 c9 _ _ _ _ _ _
  have hln := SLn_lt i hi
  refine lv_iload_n hx hb dJ1_indexOfChar_4cfef_0 rfl (lv_at hl 1 rfl) ?_
  refine lv_i2b hx hb dJ1_indexOfChar_4cfef_1 rfl ?_
  refine lv_istore (lv' := [(4, .int c.toInt8.toInt32), (0, .ref (z (150 + i))), (1, .int c), (2, .int 0), (3, .int (nI (SLn i)))]) hx hb dJ1_indexOfChar_4cfef_2 hl (by decide) rfl (fun ls hl => ?_)
  refine lv_iload_n hx hb dJ1_indexOfChar_4cfef_4 rfl (lv_at hl 3 rfl) ?_
  refine lv_istore (lv' := [(5, .int 0), (4, .int c.toInt8.toInt32), (0, .ref (z (150 + i))), (1, .int c), (2, .int 0), (3, .int (nI (SLn i)))]) hx hb dJ1_indexOfChar_4cfef_5 hl (by decide) rfl (fun ls hl => ?_)
  have loop_7 : ∀ (n9 : Nat) (j : Nat), n9 > SLn i - j → (j ≤ SLn i) → (∀ a, a < j → decide (SB i a = c.toInt8.toInt32) = false) → ∀ (H : Heap) (locs : List Loc), va_P D CLS [] H → va_D A [] → va_S A s9.heap H locs → ∀ (ls : Array Slot), lv_has ls 6 [(0, .ref (z (150 + i))), (1, .int c), (3, .int (nI (SLn i))), (4, .int c.toInt8.toInt32), (5, .int (nI j))] → W p9 l9 e9 ({ frames := 0, cells := 0, slots := 0, locals := 0 } : Room) s9 m9 ([.ref (z (150 + i)), .int c, .int 0, .int (nI (SLn i))] : List Value).toArray below9 meth9 c9 H locs 0 0 (MQ below9 (va_Qi (fun (r9 : Int32) (u9 : Unit) => r9 = sIx i c) (kB D g A (fun (u9 : Unit) => [])) A) ([.ref (z (150 + i)), .int c, .int 0, .int (nI (SLn i))] : List Value).toArray s9 0 0 A) (F0 m9 7 ls []) := by
    intro n9
    induction n9 with
    | zero => intro j hm9; exact absurd hm9 (by omega)
    | succ n9 ih_7 =>
      intro j hm9 hj hf H locs hP hD hS ls hl
      refine lv_iload hx hb dJ1_indexOfChar_4cfef_7 (lv_at hl 4 rfl) ?_
      refine lv_iload_n hx hb dJ1_indexOfChar_4cfef_9 rfl (lv_at hl 2 rfl) ?_
      refine lv_icmp_ge (tgt := 31) hx hb dJ1_indexOfChar_4cfef_10 (by decide) (fun c_10 => ?_) (fun c_10 => ?_)
      · skip
        have c_10 : (SLn i) ≤ j := (nI_leI (a := (SLn i)) (b := j) (by omega) (by omega)).mp c_10
        have hie : j = SLn i := by omega
        refine lv_iconst (v := (-1)) hx hb dJ1_indexOfChar_4cfef_31 (by decide) ?_
        have hr9 : (-1) = (sIx i c) := by unfold sIx; rw [ffind_none (p := fun j => decide (SB i j = c.toInt8.toInt32)) (hie ▸ hf)]; rfl
        have hP9 : va_P D CLS [] H := by exact kSub hP [] rfl
        have hD9 : va_D A [] := by exact hD.sub [] (by decide +kernel) rfl
        exact W.iret (v := (-1)) hx hb hr (fun t9 ht9 hW9 => ⟨⟨(-1), (), rfl, hr9, by rw [ht9]; exact hP9, va_K.moved hW9.alike hK, hD9⟩, hS.F ht9⟩) hS.2.2 dJ1_indexOfChar_4cfef_32
      · skip
        have c_10 : ¬ (SLn i) ≤ j := fun h => c_10 ((nI_leI (a := (SLn i)) (b := j) (by omega) (by omega)).mpr h)
        have hlt : j < SLn i := by omega
        refine lv_aload_n hx hb dJ1_indexOfChar_4cfef_13 rfl (lv_at hl 0 rfl) ?_
        refine lv_iload hx hb dJ1_indexOfChar_4cfef_14 (lv_at hl 4 rfl) ?_
        refine va_tb (v := .int (SB i j)) hx hb (hY.1 i (by first | assumption | omega)).2.2.2 hS (vp_in_nI (by omega) (by omega)) (by rw [nI_clamp (by omega)]) dJ1_indexOfChar_4cfef_16 ?_
        refine lv_iload hx hb dJ1_indexOfChar_4cfef_17 (lv_at hl 3 rfl) ?_
        refine lv_icmp_ne (tgt := 25) hx hb dJ1_indexOfChar_4cfef_19 (by decide) (fun c_19 => ?_) (fun c_19 => ?_)
        · skip
          refine lv_iinc (v := nI (j + 1)) (lv' := [(5, .int (nI (j + 1))), (0, .ref (z (150 + i))), (1, .int c), (3, .int (nI (SLn i))), (4, .int c.toInt8.toInt32)]) hx hb dJ1_indexOfChar_4cfef_25 hl (k := 4) rfl (nI_1 j) (by decide) rfl (fun ls hl => ?_)
          refine lv_goto (tgt := 7) hx hb dJ1_indexOfChar_4cfef_28 (by decide) ?_
          exact ih_7  (j + 1) (by omega) (by omega) (ltS hf (df c_19)) _ _ (kSub hP [] rfl) (hD.sub [] (by decide +kernel) rfl) hS ls (lv_sub hl [1, 2, 3, 4, 0] rfl)
        · skip
          refine lv_iload hx hb dJ1_indexOfChar_4cfef_22 (lv_at hl 4 rfl) ?_
          have hr9 : (nI j) = (sIx i c) := by unfold sIx; rw [ffind_some (p := fun j => decide (SB i j = c.toInt8.toInt32)) hlt (dt c_19) hf]; rfl
          have hP9 : va_P D CLS [] H := by exact kSub hP [] rfl
          have hD9 : va_D A [] := by exact hD.sub [] (by decide +kernel) rfl
          exact W.iret (v := nI j) hx hb hr (fun t9 ht9 hW9 => ⟨⟨nI j, (), rfl, hr9, by rw [ht9]; exact hP9, va_K.moved hW9.alike hK, hD9⟩, hS.F ht9⟩) hS.2.2 dJ1_indexOfChar_4cfef_24
  exact loop_7 (SLn i - 0 + 1) 0 (by omega) (Nat.zero_le _) (fun a h => absurd h (Nat.not_lt_zero a)) _ _ (kSub hP [] rfl) (hD.sub [] (by decide +kernel) rfl) hS ls (lv_sub hl [2, 3, 5, 1, 0] rfl)
theorem dJ1_indexOf_4cfef_0 : decode cJ1_indexOf_4cfef 0 = .ok (.iload_n 1, 1) := by decide +kernel
theorem dJ1_indexOf_4cfef_1 : decode cJ1_indexOf_4cfef 1 = .ok (.invokestatic 88, 3) := by decide +kernel
theorem dJ1_indexOf_4cfef_4 : decode cJ1_indexOf_4cfef 4 = .ok (.ifCond .ne 5, 3) := by decide +kernel
theorem dJ1_indexOf_4cfef_9 : decode cJ1_indexOf_4cfef 9 = .ok (.iload_n 2, 1) := by decide +kernel
theorem dJ1_indexOf_4cfef_10 : decode cJ1_indexOf_4cfef 10 = .ok (.iconst 0, 1) := by decide +kernel
theorem dJ1_indexOf_4cfef_11 : decode cJ1_indexOf_4cfef 11 = .ok (.invokestatic 92, 3) := by decide +kernel
theorem dJ1_indexOf_4cfef_14 : decode cJ1_indexOf_4cfef 14 = .ok (.istore_n 2, 1) := by decide +kernel
theorem dJ1_indexOf_4cfef_15 : decode cJ1_indexOf_4cfef 15 = .ok (.iload_n 3, 1) := by decide +kernel
theorem dJ1_indexOf_4cfef_16 : decode cJ1_indexOf_4cfef 16 = .ok (.aload_n 0, 1) := by decide +kernel
theorem dJ1_indexOf_4cfef_17 : decode cJ1_indexOf_4cfef 17 = .ok (.arraylength, 1) := by decide +kernel
theorem dJ1_indexOf_4cfef_18 : decode cJ1_indexOf_4cfef 18 = .ok (.invokestatic 38, 3) := by decide +kernel
theorem dJ1_indexOf_4cfef_21 : decode cJ1_indexOf_4cfef 21 = .ok (.istore_n 3, 1) := by decide +kernel
theorem dJ1_indexOf_4cfef_22 : decode cJ1_indexOf_4cfef 22 = .ok (.iload_n 2, 1) := by decide +kernel
theorem dJ1_indexOf_4cfef_23 : decode cJ1_indexOf_4cfef 23 = .ok (.iload_n 3, 1) := by decide +kernel
theorem dJ1_indexOf_4cfef_24 : decode cJ1_indexOf_4cfef 24 = .ok (.if_icmp .lt 5, 3) := by decide +kernel
theorem dJ1_indexOf_4cfef_29 : decode cJ1_indexOf_4cfef 29 = .ok (.aload_n 0, 1) := by decide +kernel
theorem dJ1_indexOf_4cfef_30 : decode cJ1_indexOf_4cfef 30 = .ok (.iload_n 1, 1) := by decide +kernel
theorem dJ1_indexOf_4cfef_31 : decode cJ1_indexOf_4cfef 31 = .ok (.iload_n 2, 1) := by decide +kernel
theorem dJ1_indexOf_4cfef_32 : decode cJ1_indexOf_4cfef 32 = .ok (.iload_n 3, 1) := by decide +kernel
theorem dJ1_indexOf_4cfef_33 : decode cJ1_indexOf_4cfef 33 = .ok (.invokestatic 95, 3) := by decide +kernel
theorem dJ1_indexOf_4cfef_36 : decode cJ1_indexOf_4cfef 36 = .ok (.ireturn, 1) := by decide +kernel
set_option maxHeartbeats 4000000 in
set_option maxRecDepth 100000 in
/-- StringLatin1.indexOf -/
theorem c_J1_indexOf_4cfef (l9 : Launch) (z : Nat → Nat) (D : va_G) (g : Nat → ClassId) (i : Nat) (c : Int32) (hi : i < 30) (hc : canE c = true) (sz : Nat) : Met l9 yJ1_indexOf_4cfef (WS yJ1_indexOf_4cfef cJ1_indexOf_4cfef 4 (some .int)) ({ frames := 1, cells := 0, slots := 0, locals := 25 }) (va_Pc [.ref (z (150 + i)), .int c, .int 0, .int (nI (SLn i))] (kPreS z D g [] sz)) (va_Qi (fun (r9 : Int32) (u9 : Unit) => r9 = sIx i c) (kB D g (va_A [] sz) (fun (u9 : Unit) => [])) (va_A [] sz)) 0 0 (va_A [] sz) := by
  refine Met.ofW (cc := cJ1_indexOf_4cfef) (maxL := 4) (ret := (some .int)) (by decide) rfl ?_
  intro p9 e9 s9 m9 args9 below9 meth9 c9 s₁ B hml hv
  obtain ⟨rfl, hsz, hP, hK, hD0, hZ, hY⟩ := hv
  have hx := B.exec
  have hb := B.bytes
  have hr := B.returns
  have hts := ws_sub (atoms_spec (ws := WS yJ1_indexOf_4cfef cJ1_indexOf_4cfef 4 (some .int)) B.pre)
  have hown : s9.vm.findClass RJ1 = some m9.cls := findClass_of_methodNamed B.named
  have hlocks := B.notSynchronized
  subst hsz
  have hD := hD0.self (sz := s9.heap.size)
  generalize hAe : va_A [] s9.heap.size = A at hD hZ hY ⊢
  have hA : ∀ q : Nat, s9.heap.size ≤ q → A q := fun q h => by rw [← hAe]; exact Or.inr h
  have hS : va_S A s9.heap s9.heap [] := va_S.rf
  have hP : va_P D CLS [] s9.heap := hP
  have hl := lv_entry ([.ref (z (150 + i)), .int c, .int 0, .int (nI (SLn i))]) (n := 4) (Nat.le_of_ble_eq_true rfl)
  rw [lg_entry_eq]
  generalize (lg_sl ([.ref (z (150 + i)), .int c, .int 0, .int (nI (SLn i))]) ++ List.replicate (4 - (lg_sl ([.ref (z (150 + i)), .int c, .int 0, .int (nI (SLn i))])).length) Slot.unset).toArray = ls at hl ⊢
  have hl : lv_has ls 4 [(0, .ref (z (150 + i))), (1, .int c), (2, .int 0), (3, .int (nI (SLn i)))] := hl
  change W p9 l9 e9 ({ frames := 1, cells := 0, slots := 0, locals := 25 } : Room) s9 m9 _ below9 meth9 c9 _ _ _ _ _ _
  have hln := SLn_lt i hi
  refine lv_iload_n hx hb dJ1_indexOf_4cfef_0 rfl (lv_at hl 1 rfl) ?_
  refine k_i hA hP hD hS [] (va_runS (As := [.int c]) (rest := []) ⟨hx, hb, hml, hown, hts⟩ (c_J1_canEncode_9a6ad l9 z D g c  (Array.size s9.heap)) (va_cwS 1 hts gs_J1_88 rfl rfl rfl (by decide +kernel) ⟨Nat.le_of_ble_eq_true rfl, Nat.le_of_ble_eq_true rfl⟩) ⟨kBlindS, kPreS.pc hY hK hZ hA hP hD hS [] rfl (by decide +kernel)⟩ rfl rfl hl.1 rfl (lv_room (Nat.le_of_ble_eq_true rfl)) dJ1_indexOf_4cfef_1 ⟨Nat.le_of_ble_eq_true rfl, Nat.le_of_ble_eq_true rfl⟩) [] [] rfl rfl rfl rfl (fun r_1 u_1 H locs hw_1 hP7 hD7 hS7 => ?_)
  clear hP hD hS
  have hP := hP7
  have hD := hD7
  have hS := hS7
  clear hP7 hD7 hS7
  obtain rfl := hw_1
  replace hP : va_P D CLS [] H := hP
  replace hD : va_D A [] := hD
  refine lv_if_ne (tgt := 9) hx hb dJ1_indexOf_4cfef_4 (by decide) (fun c_4 => ?_) (fun c_4 => ?_)
  · skip
    have c_4 := bI_1.mp c_4
    refine lv_iload_n hx hb dJ1_indexOf_4cfef_9 rfl (lv_at hl 2 rfl) ?_
    refine lv_iconst (v := 0) hx hb dJ1_indexOf_4cfef_10 (by decide) ?_
    refine va_mmax hx hb (by rw [hml]; exact hl.1.symm) hown (hts _ w_1547) (hts _ w_152) (hts _ w_111) (hts _ w_153) (Nat.le_of_ble_eq_true rfl) (Nat.le_of_ble_eq_true rfl) (Nat.le_of_ble_eq_true rfl) (Nat.le_of_ble_eq_true rfl) dJ1_indexOf_4cfef_11 ?_
    refine k_topi (show (if 0 < 0 then 0 else 0) = 0 from (by decide)) ?_
    refine lv_istore_n (lv' := [(2, .int 0), (0, .ref (z (150 + i))), (1, .int c), (3, .int (nI (SLn i)))]) hx hb dJ1_indexOf_4cfef_14 rfl hl (by decide) rfl (fun ls hl => ?_)
    refine lv_iload_n hx hb dJ1_indexOf_4cfef_15 rfl (lv_at hl 3 rfl) ?_
    refine lv_aload_n hx hb dJ1_indexOf_4cfef_16 rfl (lv_at hl 1 rfl) ?_
    refine va_tlen (v := nI (SLn i)) hx hb (hY.1 i (by first | assumption | omega)).2.2.2 hS rfl dJ1_indexOf_4cfef_17 ?_
    refine va_mmin hx hb (by rw [hml]; exact hl.1.symm) hown (hts _ w_1548) (hts _ w_884) (hts _ w_111) (hts _ w_885) (Nat.le_of_ble_eq_true rfl) (Nat.le_of_ble_eq_true rfl) (Nat.le_of_ble_eq_true rfl) (Nat.le_of_ble_eq_true rfl) dJ1_indexOf_4cfef_18 ?_
    refine k_topi (show (if (nI (SLn i)) < (nI (SLn i)) then (nI (SLn i)) else (nI (SLn i))) = (nI (SLn i)) from (by split <;> rfl)) ?_
    refine lv_istore_n (lv' := [(3, .int (nI (SLn i))), (2, .int 0), (0, .ref (z (150 + i))), (1, .int c)]) hx hb dJ1_indexOf_4cfef_21 rfl hl (by decide) rfl (fun ls hl => ?_)
    refine lv_iload_n hx hb dJ1_indexOf_4cfef_22 rfl (lv_at hl 1 rfl) ?_
    refine lv_iload_n hx hb dJ1_indexOf_4cfef_23 rfl (lv_at hl 0 rfl) ?_
    refine lv_icmp_lt (tgt := 29) hx hb dJ1_indexOf_4cfef_24 (by decide) (fun c_24 => ?_) (fun c_24 => ?_)
    · skip
      have c_24 : 0 < (SLn i) := (nI_ltI (a := 0) (b := (SLn i)) (by omega) (by omega)).mp c_24
      skip
      refine lv_aload_n hx hb dJ1_indexOf_4cfef_29 rfl (lv_at hl 2 rfl) ?_
      refine lv_iload_n hx hb dJ1_indexOf_4cfef_30 rfl (lv_at hl 3 rfl) ?_
      refine lv_iload_n hx hb dJ1_indexOf_4cfef_31 rfl (lv_at hl 1 rfl) ?_
      refine lv_iload_n hx hb dJ1_indexOf_4cfef_32 rfl (lv_at hl 0 rfl) ?_
      refine k_i hA hP hD hS [] (va_runS (As := [.ref (z (150 + i)), .int c, .int 0, .int (nI (SLn i))]) (rest := []) ⟨hx, hb, hml, hown, hts⟩ (c_J1_indexOfChar_4cfef l9 z D g i c (by first | assumption | decide | omega) (Array.size H)) (va_cwS 4 hts gs_J1_95 rfl rfl rfl (by decide +kernel) ⟨Nat.le_of_ble_eq_true rfl, Nat.le_of_ble_eq_true rfl⟩) ⟨kBlindS, kPreS.pc hY hK hZ hA hP hD hS [] rfl (by decide +kernel)⟩ rfl rfl hl.1 rfl (lv_room (Nat.le_of_ble_eq_true rfl)) dJ1_indexOf_4cfef_33 ⟨Nat.le_of_ble_eq_true rfl, Nat.le_of_ble_eq_true rfl⟩) [] [] rfl rfl rfl rfl (fun r_33 u_2 H locs hw_33 hP7 hD7 hS7 => ?_)
      clear hP hD hS
      have hP := hP7
      have hD := hD7
      have hS := hS7
      clear hP7 hD7 hS7
      obtain rfl := hw_33
      replace hP : va_P D CLS [] H := hP
      replace hD : va_D A [] := hD
      have hr9 : (sIx i c) = (sIx i c) := by rfl
      have hP9 : va_P D CLS [] H := by exact kSub hP [] rfl
      have hD9 : va_D A [] := by exact hD.sub [] (by decide +kernel) rfl
      exact W.iret (v := sIx i c) hx hb hr (fun t9 ht9 hW9 => ⟨⟨sIx i c, (), rfl, hr9, by rw [ht9]; exact hP9, va_K.moved hW9.alike hK, hD9⟩, hS.F ht9⟩) hS.2.2 dJ1_indexOf_4cfef_36
    · skip
      have c_24 : ¬ 0 < (SLn i) := fun h => c_24 ((nI_ltI (a := 0) (b := (SLn i)) (by omega) (by omega)).mpr h)
      exact absurd hln.2 (by omega)
  · skip
    have c_4 := bI_0.mp c_4
    exact absurd hc (by rw [c_4]; decide)
theorem dJ0_indexOf_7cf53_0 : decode cJ0_indexOf_7cf53 0 = .ok (.aload_n 0, 1) := by decide +kernel
theorem dJ0_indexOf_7cf53_1 : decode cJ0_indexOf_7cf53 1 = .ok (.invokevirtual 492, 3) := by decide +kernel
theorem dJ0_indexOf_7cf53_4 : decode cJ0_indexOf_7cf53 4 = .ok (.ifCond .eq 19, 3) := by decide +kernel
theorem dJ0_indexOf_7cf53_7 : decode cJ0_indexOf_7cf53 7 = .ok (.aload_n 0, 1) := by decide +kernel
theorem dJ0_indexOf_7cf53_8 : decode cJ0_indexOf_7cf53 8 = .ok (.getfield 9, 3) := by decide +kernel
theorem dJ0_indexOf_7cf53_11 : decode cJ0_indexOf_7cf53 11 = .ok (.iload_n 1, 1) := by decide +kernel
theorem dJ0_indexOf_7cf53_12 : decode cJ0_indexOf_7cf53 12 = .ok (.iload_n 2, 1) := by decide +kernel
theorem dJ0_indexOf_7cf53_13 : decode cJ0_indexOf_7cf53 13 = .ok (.aload_n 0, 1) := by decide +kernel
theorem dJ0_indexOf_7cf53_14 : decode cJ0_indexOf_7cf53 14 = .ok (.invokevirtual 505, 3) := by decide +kernel
theorem dJ0_indexOf_7cf53_17 : decode cJ0_indexOf_7cf53 17 = .ok (.invokestatic 637, 3) := by decide +kernel
theorem dJ0_indexOf_7cf53_20 : decode cJ0_indexOf_7cf53 20 = .ok (.goto 16, 3) := by decide +kernel
theorem dJ0_indexOf_7cf53_36 : decode cJ0_indexOf_7cf53 36 = .ok (.ireturn, 1) := by decide +kernel
set_option maxHeartbeats 4000000 in
set_option maxRecDepth 100000 in
/-- String.indexOf(int, int) -/
theorem c_J0_indexOf_7cf53 (l9 : Launch) (z : Nat → Nat) (D : va_G) (g : Nat → ClassId) (i : Nat) (c : Int32) (hi : i < 30) (hc : canE c = true) (sz : Nat) : Met l9 yJ0_indexOf_7cf53 (WS yJ0_indexOf_7cf53 cJ0_indexOf_7cf53 3 (some .int)) ({ frames := 2, cells := 0, slots := 0, locals := 48 }) (va_Pc [.ref (z (110 + i)), .int c, .int 0] (kPreS z D g [] sz)) (va_Qi (fun (r9 : Int32) (u9 : Unit) => r9 = sIx i c) (kB D g (va_A [] sz) (fun (u9 : Unit) => [])) (va_A [] sz)) 0 0 (va_A [] sz) := by
  refine Met.ofW (cc := cJ0_indexOf_7cf53) (maxL := 3) (ret := (some .int)) (by decide) rfl ?_
  intro p9 e9 s9 m9 args9 below9 meth9 c9 s₁ B hml hv
  obtain ⟨rfl, hsz, hP, hK, hD0, hZ, hY⟩ := hv
  have hx := B.exec
  have hb := B.bytes
  have hr := B.returns
  have hts := ws_sub (atoms_spec (ws := WS yJ0_indexOf_7cf53 cJ0_indexOf_7cf53 3 (some .int)) B.pre)
  have hown : s9.vm.findClass RJ0 = some m9.cls := findClass_of_methodNamed B.named
  have hlocks := B.notSynchronized
  subst hsz
  have hD := hD0.self (sz := s9.heap.size)
  generalize hAe : va_A [] s9.heap.size = A at hD hZ hY ⊢
  have hA : ∀ q : Nat, s9.heap.size ≤ q → A q := fun q h => by rw [← hAe]; exact Or.inr h
  have hS : va_S A s9.heap s9.heap [] := va_S.rf
  have hP : va_P D CLS [] s9.heap := hP
  have hl := lv_entry ([.ref (z (110 + i)), .int c, .int 0]) (n := 3) (Nat.le_of_ble_eq_true rfl)
  rw [lg_entry_eq]
  generalize (lg_sl ([.ref (z (110 + i)), .int c, .int 0]) ++ List.replicate (3 - (lg_sl ([.ref (z (110 + i)), .int c, .int 0])).length) Slot.unset).toArray = ls at hl ⊢
  have hl : lv_has ls 3 [(0, .ref (z (110 + i))), (1, .int c), (2, .int 0)] := hl
  change W p9 l9 e9 ({ frames := 2, cells := 0, slots := 0, locals := 48 } : Room) s9 m9 _ below9 meth9 c9 _ _ _ _ _ _
  refine lv_aload_n hx hb dJ0_indexOf_7cf53_0 rfl (lv_at hl 0 rfl) ?_
  refine k_i hA hP hD hS [] (va_runV (As := []) (rest := []) ⟨hx, hb, hml, hown, hts⟩ (c_J0_isLatin1_aae02 l9 z D g i (by first | assumption | decide | omega) (Array.size s9.heap)) (cwV 0 hts gv_J0_492 rfl rfl rfl (by decide +kernel) ⟨Nat.le_of_ble_eq_true rfl, Nat.le_of_ble_eq_true rfl⟩) ⟨kBlindS, vO_recv (hY.1 i (by first | assumption | omega)).1 hS, kPreS.pc hY hK hZ hA hP hD hS [] rfl (by decide +kernel)⟩ rfl rfl hl.1 rfl (lv_room (Nat.le_of_ble_eq_true rfl)) dJ0_indexOf_7cf53_1 ⟨Nat.le_of_ble_eq_true rfl, Nat.le_of_ble_eq_true rfl⟩) [] [] rfl rfl rfl rfl (fun r_1 u_1 H locs hw_1 hP7 hD7 hS7 => ?_)
  clear hP hD hS
  have hP := hP7
  have hD := hD7
  have hS := hS7
  clear hP7 hD7 hS7
  obtain rfl := hw_1
  replace hP : va_P D CLS [] H := hP
  replace hD : va_D A [] := hD
  refine lv_if_eq (tgt := 23) hx hb dJ0_indexOf_7cf53_4 (by decide) (fun c_4 => ?_) (fun c_4 => ?_)
  · skip
    exact absurd c_4 (by decide)
  · skip
    refine lv_aload_n hx hb dJ0_indexOf_7cf53_7 rfl (lv_at hl 0 rfl) ?_
    refine vk_getf (v := .ref (z (150 + i))) hx hb (hY.1 i (by first | assumption | omega)).2.2.1 hS hown (hts _ w_1906) (fun _ h9 => h9) dJ0_indexOf_7cf53_8 ?_
    refine lv_iload_n hx hb dJ0_indexOf_7cf53_11 rfl (lv_at hl 1 rfl) ?_
    refine lv_iload_n hx hb dJ0_indexOf_7cf53_12 rfl (lv_at hl 2 rfl) ?_
    refine lv_aload_n hx hb dJ0_indexOf_7cf53_13 rfl (lv_at hl 0 rfl) ?_
    refine k_i hA hP hD hS [] (va_runV (As := []) (rest := [.int 0, .int c, .ref (z (150 + i))]) ⟨hx, hb, hml, hown, hts⟩ (c_J0_length_8abf5 l9 z D g i (by first | assumption | decide | omega) (Array.size H)) (cwV 0 hts gv_J0_505 rfl rfl rfl (by decide +kernel) ⟨Nat.le_of_ble_eq_true rfl, Nat.le_of_ble_eq_true rfl⟩) ⟨kBlindS, vO_recv (hY.1 i (by first | assumption | omega)).1 hS, kPreS.pc hY hK hZ hA hP hD hS [] rfl (by decide +kernel)⟩ rfl rfl hl.1 rfl (lv_room (Nat.le_of_ble_eq_true rfl)) dJ0_indexOf_7cf53_14 ⟨Nat.le_of_ble_eq_true rfl, Nat.le_of_ble_eq_true rfl⟩) [] [] rfl rfl rfl rfl (fun r_14 u_2 H locs hw_14 hP7 hD7 hS7 => ?_)
    clear hP hD hS
    have hP := hP7
    have hD := hD7
    have hS := hS7
    clear hP7 hD7 hS7
    obtain rfl := hw_14
    replace hP : va_P D CLS [] H := hP
    replace hD : va_D A [] := hD
    refine k_i hA hP hD hS [] (va_runS (As := [.ref (z (150 + i)), .int c, .int 0, .int (nI (SLn i))]) (rest := []) ⟨hx, hb, hml, hown, hts⟩ (c_J1_indexOf_4cfef l9 z D g i c (by first | assumption | decide | omega) (by first | assumption | decide | omega) (Array.size H)) (va_cwS 4 hts gs_J0_637 rfl rfl rfl (by decide +kernel) ⟨Nat.le_of_ble_eq_true rfl, Nat.le_of_ble_eq_true rfl⟩) ⟨kBlindS, kPreS.pc hY hK hZ hA hP hD hS [] rfl (by decide +kernel)⟩ rfl rfl hl.1 rfl (lv_room (Nat.le_of_ble_eq_true rfl)) dJ0_indexOf_7cf53_17 ⟨Nat.le_of_ble_eq_true rfl, Nat.le_of_ble_eq_true rfl⟩) [] [] rfl rfl rfl rfl (fun r_17 u_3 H locs hw_17 hP7 hD7 hS7 => ?_)
    clear hP hD hS
    have hP := hP7
    have hD := hD7
    have hS := hS7
    clear hP7 hD7 hS7
    obtain rfl := hw_17
    replace hP : va_P D CLS [] H := hP
    replace hD : va_D A [] := hD
    refine lv_goto (tgt := 36) hx hb dJ0_indexOf_7cf53_20 (by decide) ?_
    have hr9 : (sIx i c) = (sIx i c) := by rfl
    have hP9 : va_P D CLS [] H := by exact kSub hP [] rfl
    have hD9 : va_D A [] := by exact hD.sub [] (by decide +kernel) rfl
    exact W.iret (v := sIx i c) hx hb hr (fun t9 ht9 hW9 => ⟨⟨sIx i c, (), rfl, hr9, by rw [ht9]; exact hP9, va_K.moved hW9.alike hK, hD9⟩, hS.F ht9⟩) hS.2.2 dJ0_indexOf_7cf53_36
theorem dJ0_indexOf_0f7a4_0 : decode cJ0_indexOf_0f7a4 0 = .ok (.aload_n 0, 1) := by decide +kernel
theorem dJ0_indexOf_0f7a4_1 : decode cJ0_indexOf_0f7a4 1 = .ok (.iload_n 1, 1) := by decide +kernel
theorem dJ0_indexOf_0f7a4_2 : decode cJ0_indexOf_0f7a4 2 = .ok (.iconst 0, 1) := by decide +kernel
theorem dJ0_indexOf_0f7a4_3 : decode cJ0_indexOf_0f7a4 3 = .ok (.invokevirtual 633, 3) := by decide +kernel
theorem dJ0_indexOf_0f7a4_6 : decode cJ0_indexOf_0f7a4 6 = .ok (.ireturn, 1) := by decide +kernel
set_option maxHeartbeats 4000000 in
set_option maxRecDepth 100000 in
/-- String.indexOf(int) -/
theorem c_J0_indexOf_0f7a4 (l9 : Launch) (z : Nat → Nat) (D : va_G) (g : Nat → ClassId) (i : Nat) (c : Int32) (hi : i < 30) (hc : canE c = true) (sz : Nat) : Met l9 yJ0_indexOf_0f7a4 (WS yJ0_indexOf_0f7a4 cJ0_indexOf_0f7a4 2 (some .int)) ({ frames := 3, cells := 0, slots := 0, locals := 70 }) (va_Pc [.ref (z (110 + i)), .int c] (kPreS z D g [] sz)) (va_Qi (fun (r9 : Int32) (u9 : Unit) => r9 = sIx i c) (kB D g (va_A [] sz) (fun (u9 : Unit) => [])) (va_A [] sz)) 0 0 (va_A [] sz) := by
  refine Met.ofW (cc := cJ0_indexOf_0f7a4) (maxL := 2) (ret := (some .int)) (by decide) rfl ?_
  intro p9 e9 s9 m9 args9 below9 meth9 c9 s₁ B hml hv
  obtain ⟨rfl, hsz, hP, hK, hD0, hZ, hY⟩ := hv
  have hx := B.exec
  have hb := B.bytes
  have hr := B.returns
  have hts := ws_sub (atoms_spec (ws := WS yJ0_indexOf_0f7a4 cJ0_indexOf_0f7a4 2 (some .int)) B.pre)
  have hown : s9.vm.findClass RJ0 = some m9.cls := findClass_of_methodNamed B.named
  have hlocks := B.notSynchronized
  subst hsz
  have hD := hD0.self (sz := s9.heap.size)
  generalize hAe : va_A [] s9.heap.size = A at hD hZ hY ⊢
  have hA : ∀ q : Nat, s9.heap.size ≤ q → A q := fun q h => by rw [← hAe]; exact Or.inr h
  have hS : va_S A s9.heap s9.heap [] := va_S.rf
  have hP : va_P D CLS [] s9.heap := hP
  have hl := lv_entry ([.ref (z (110 + i)), .int c]) (n := 2) (Nat.le_of_ble_eq_true rfl)
  rw [lg_entry_eq]
  generalize (lg_sl ([.ref (z (110 + i)), .int c]) ++ List.replicate (2 - (lg_sl ([.ref (z (110 + i)), .int c])).length) Slot.unset).toArray = ls at hl ⊢
  have hl : lv_has ls 2 [(0, .ref (z (110 + i))), (1, .int c)] := hl
  change W p9 l9 e9 ({ frames := 3, cells := 0, slots := 0, locals := 70 } : Room) s9 m9 _ below9 meth9 c9 _ _ _ _ _ _
  refine lv_aload_n hx hb dJ0_indexOf_0f7a4_0 rfl (lv_at hl 0 rfl) ?_
  refine lv_iload_n hx hb dJ0_indexOf_0f7a4_1 rfl (lv_at hl 1 rfl) ?_
  refine lv_iconst (v := 0) hx hb dJ0_indexOf_0f7a4_2 (by decide) ?_
  refine k_i hA hP hD hS [] (va_runV (As := [.int c, .int 0]) (rest := []) ⟨hx, hb, hml, hown, hts⟩ (c_J0_indexOf_7cf53 l9 z D g i c (by first | assumption | decide | omega) (by first | assumption | decide | omega) (Array.size s9.heap)) (cwV 2 hts gv_J0_633 rfl rfl rfl (by decide +kernel) ⟨Nat.le_of_ble_eq_true rfl, Nat.le_of_ble_eq_true rfl⟩) ⟨kBlindS, vO_recv (hY.1 i (by first | assumption | omega)).1 hS, kPreS.pc hY hK hZ hA hP hD hS [] rfl (by decide +kernel)⟩ rfl rfl hl.1 rfl (lv_room (Nat.le_of_ble_eq_true rfl)) dJ0_indexOf_0f7a4_3 ⟨Nat.le_of_ble_eq_true rfl, Nat.le_of_ble_eq_true rfl⟩) [] [] rfl rfl rfl rfl (fun r_3 u_1 H locs hw_3 hP7 hD7 hS7 => ?_)
  clear hP hD hS
  have hP := hP7
  have hD := hD7
  have hS := hS7
  clear hP7 hD7 hS7
  obtain rfl := hw_3
  replace hP : va_P D CLS [] H := hP
  replace hD : va_D A [] := hD
  have hr9 : (sIx i c) = (sIx i c) := by rfl
  have hP9 : va_P D CLS [] H := by exact kSub hP [] rfl
  have hD9 : va_D A [] := by exact hD.sub [] (by decide +kernel) rfl
  exact W.iret (v := sIx i c) hx hb hr (fun t9 ht9 hW9 => ⟨⟨sIx i c, (), rfl, hr9, by rw [ht9]; exact hP9, va_K.moved hW9.alike hK, hD9⟩, hS.F ht9⟩) hS.2.2 dJ0_indexOf_0f7a4_6
theorem dX13_wordAt_0 : decode cX13_wordAt 0 = .ok (.iconst 0, 1) := by decide +kernel
theorem dX13_wordAt_1 : decode cX13_wordAt 1 = .ok (.istore_n 3, 1) := by decide +kernel
theorem dX13_wordAt_2 : decode cX13_wordAt 2 = .ok (.iload_n 3, 1) := by decide +kernel
theorem dX13_wordAt_3 : decode cX13_wordAt 3 = .ok (.getstatic 78, 3) := by decide +kernel
theorem dX13_wordAt_6 : decode cX13_wordAt 6 = .ok (.arraylength, 1) := by decide +kernel
theorem dX13_wordAt_7 : decode cX13_wordAt 7 = .ok (.if_icmp .ge 80, 3) := by decide +kernel
theorem dX13_wordAt_10 : decode cX13_wordAt 10 = .ok (.iconst 0, 1) := by decide +kernel
theorem dX13_wordAt_11 : decode cX13_wordAt 11 = .ok (.istore 4, 2) := by decide +kernel
theorem dX13_wordAt_13 : decode cX13_wordAt 13 = .ok (.iload 4, 2) := by decide +kernel
theorem dX13_wordAt_15 : decode cX13_wordAt 15 = .ok (.iload_n 2, 1) := by decide +kernel
theorem dX13_wordAt_16 : decode cX13_wordAt 16 = .ok (.if_icmp .ge 44, 3) := by decide +kernel
theorem dX13_wordAt_19 : decode cX13_wordAt 19 = .ok (.iload 4, 2) := by decide +kernel
theorem dX13_wordAt_21 : decode cX13_wordAt 21 = .ok (.getstatic 78, 3) := by decide +kernel
theorem dX13_wordAt_24 : decode cX13_wordAt 24 = .ok (.iload_n 3, 1) := by decide +kernel
theorem dX13_wordAt_25 : decode cX13_wordAt 25 = .ok (.aaload, 1) := by decide +kernel
theorem dX13_wordAt_26 : decode cX13_wordAt 26 = .ok (.invokevirtual 82, 3) := by decide +kernel
theorem dX13_wordAt_29 : decode cX13_wordAt 29 = .ok (.if_icmp .ge 31, 3) := by decide +kernel
theorem dX13_wordAt_32 : decode cX13_wordAt 32 = .ok (.getstatic 78, 3) := by decide +kernel
theorem dX13_wordAt_35 : decode cX13_wordAt 35 = .ok (.iload_n 3, 1) := by decide +kernel
theorem dX13_wordAt_36 : decode cX13_wordAt 36 = .ok (.aaload, 1) := by decide +kernel
theorem dX13_wordAt_37 : decode cX13_wordAt 37 = .ok (.iload 4, 2) := by decide +kernel
theorem dX13_wordAt_39 : decode cX13_wordAt 39 = .ok (.invokevirtual 86, 3) := by decide +kernel
theorem dX13_wordAt_42 : decode cX13_wordAt 42 = .ok (.aload_n 0, 1) := by decide +kernel
theorem dX13_wordAt_43 : decode cX13_wordAt 43 = .ok (.getfield 9, 3) := by decide +kernel
theorem dX13_wordAt_46 : decode cX13_wordAt 46 = .ok (.iload_n 1, 1) := by decide +kernel
theorem dX13_wordAt_47 : decode cX13_wordAt 47 = .ok (.iload 4, 2) := by decide +kernel
theorem dX13_wordAt_49 : decode cX13_wordAt 49 = .ok (.iadd, 1) := by decide +kernel
theorem dX13_wordAt_50 : decode cX13_wordAt 50 = .ok (.iaload, 1) := by decide +kernel
theorem dX13_wordAt_51 : decode cX13_wordAt 51 = .ok (.if_icmp .ne 9, 3) := by decide +kernel
theorem dX13_wordAt_54 : decode cX13_wordAt 54 = .ok (.iinc 4 1, 3) := by decide +kernel
theorem dX13_wordAt_57 : decode cX13_wordAt 57 = .ok (.goto (-44), 3) := by decide +kernel
theorem dX13_wordAt_60 : decode cX13_wordAt 60 = .ok (.iload 4, 2) := by decide +kernel
theorem dX13_wordAt_62 : decode cX13_wordAt 62 = .ok (.iload_n 2, 1) := by decide +kernel
theorem dX13_wordAt_63 : decode cX13_wordAt 63 = .ok (.if_icmp .ne 18, 3) := by decide +kernel
theorem dX13_wordAt_66 : decode cX13_wordAt 66 = .ok (.iload 4, 2) := by decide +kernel
theorem dX13_wordAt_68 : decode cX13_wordAt 68 = .ok (.getstatic 78, 3) := by decide +kernel
theorem dX13_wordAt_71 : decode cX13_wordAt 71 = .ok (.iload_n 3, 1) := by decide +kernel
theorem dX13_wordAt_72 : decode cX13_wordAt 72 = .ok (.aaload, 1) := by decide +kernel
theorem dX13_wordAt_73 : decode cX13_wordAt 73 = .ok (.invokevirtual 82, 3) := by decide +kernel
theorem dX13_wordAt_76 : decode cX13_wordAt 76 = .ok (.if_icmp .ne 5, 3) := by decide +kernel
theorem dX13_wordAt_79 : decode cX13_wordAt 79 = .ok (.iload_n 3, 1) := by decide +kernel
theorem dX13_wordAt_80 : decode cX13_wordAt 80 = .ok (.ireturn, 1) := by decide +kernel
theorem dX13_wordAt_81 : decode cX13_wordAt 81 = .ok (.iinc 3 1, 3) := by decide +kernel
theorem dX13_wordAt_84 : decode cX13_wordAt 84 = .ok (.goto (-82), 3) := by decide +kernel
theorem dX13_wordAt_87 : decode cX13_wordAt 87 = .ok (.bipush 30, 2) := by decide +kernel
theorem dX13_wordAt_89 : decode cX13_wordAt 89 = .ok (.ireturn, 1) := by decide +kernel
set_option maxHeartbeats 8000000 in
set_option maxRecDepth 100000 in
/-- Model.wordAt -/
theorem c_X13_wordAt (l9 : Launch) (z : Nat → Nat) (D : va_G) (g : Nat → ClassId) (mo : Nat) (ma : Nat → Nat) (th : Int32) (tl : Nat) (ea : Int32) (tk : Int32) (dp : Int32) (sh : Nat) (wk : Int32) (sn : Nat) (tf : Nat → Int32) (p : Nat) (L : Nat) (htl : tl ≤ 2000) (hpL : p + L ≤ tl) (sz : Nat) : Met l9 yX13_wordAt (WS yX13_wordAt cX13_wordAt 5 (some .int)) ({ frames := 4, cells := 0, slots := 0, locals := 85 }) (va_Pc [.ref mo, .int (nI p), .int (nI L)] (kPreS z D g [(mo, .inr (11, [.int th, .ref (ma 1), .int (nI tl), .int ea, .int tk, .int dp, .ref sh, .ref (ma 2), .ref (ma 3), .ref (ma 4), .int wk, .ref sn])), (ma 1, .inl (g 0, 2000, .inl tf))] sz)) (va_Qi (fun (r9 : Int32) (u9 : Unit) => r9 = wRes tf p L) (kB D g (va_A [(mo, .inr (11, [.int th, .ref (ma 1), .int (nI tl), .int ea, .int tk, .int dp, .ref sh, .ref (ma 2), .ref (ma 3), .ref (ma 4), .int wk, .ref sn])), (ma 1, .inl (g 0, 2000, .inl tf))] sz) (fun (u9 : Unit) => [(mo, .inr (11, [.int th, .ref (ma 1), .int (nI tl), .int ea, .int tk, .int dp, .ref sh, .ref (ma 2), .ref (ma 3), .ref (ma 4), .int wk, .ref sn])), (ma 1, .inl (g 0, 2000, .inl tf))])) (va_A [(mo, .inr (11, [.int th, .ref (ma 1), .int (nI tl), .int ea, .int tk, .int dp, .ref sh, .ref (ma 2), .ref (ma 3), .ref (ma 4), .int wk, .ref sn])), (ma 1, .inl (g 0, 2000, .inl tf))] sz)) 0 0 (va_A [(mo, .inr (11, [.int th, .ref (ma 1), .int (nI tl), .int ea, .int tk, .int dp, .ref sh, .ref (ma 2), .ref (ma 3), .ref (ma 4), .int wk, .ref sn])), (ma 1, .inl (g 0, 2000, .inl tf))] sz) := by
  refine Met.ofW (cc := cX13_wordAt) (maxL := 5) (ret := (some .int)) (by decide) rfl ?_
  intro p9 e9 s9 m9 args9 below9 meth9 c9 s₁ B hml hv
  obtain ⟨rfl, hsz, hP, hK, hD0, hZ, hY⟩ := hv
  have hx := B.exec
  have hb := B.bytes
  have hr := B.returns
  have hts := ws_sub (atoms_spec (ws := WS yX13_wordAt cX13_wordAt 5 (some .int)) B.pre)
  have hown : s9.vm.findClass RX13 = some m9.cls := findClass_of_methodNamed B.named
  have hlocks := B.notSynchronized
  subst hsz
  have hD := hD0.self (sz := s9.heap.size)
  generalize hAe : va_A [(mo, .inr (11, [.int th, .ref (ma 1), .int (nI tl), .int ea, .int tk, .int dp, .ref sh, .ref (ma 2), .ref (ma 3), .ref (ma 4), .int wk, .ref sn])), (ma 1, .inl (g 0, 2000, .inl tf))] s9.heap.size = A at hD hZ hY ⊢
  have hA : ∀ q : Nat, s9.heap.size ≤ q → A q := fun q h => by rw [← hAe]; exact Or.inr h
  have hS : va_S A s9.heap s9.heap [] := va_S.rf
  have hP : va_P D CLS [(mo, .inr (11, [.int th, .ref (ma 1), .int (nI tl), .int ea, .int tk, .int dp, .ref sh, .ref (ma 2), .ref (ma 3), .ref (ma 4), .int wk, .ref sn])), (ma 1, .inl (g 0, 2000, .inl tf))] s9.heap := hP
  have hl := lv_entry ([.ref mo, .int (nI p), .int (nI L)]) (n := 5) (Nat.le_of_ble_eq_true rfl)
  rw [lg_entry_eq]
  generalize (lg_sl ([.ref mo, .int (nI p), .int (nI L)]) ++ List.replicate (5 - (lg_sl ([.ref mo, .int (nI p), .int (nI L)])).length) Slot.unset).toArray = ls at hl ⊢
  have hl : lv_has ls 5 [(0, .ref mo), (1, .int (nI p)), (2, .int (nI L))] := hl
  change W p9 l9 e9 ({ frames := 4, cells := 0, slots := 0, locals := 85 } : Room) s9 m9 _ below9 meth9 c9 _ _ _ _ _ _
  refine lv_iconst (v := 0) hx hb dX13_wordAt_0 (by decide) ?_
  refine lv_istore_n (lv' := [(3, .int 0), (0, .ref mo), (1, .int (nI p)), (2, .int (nI L))]) hx hb dX13_wordAt_1 rfl hl (by decide) rfl (fun ls hl => ?_)
  have loop_2 : ∀ (n9 : Nat) (w : Nat), n9 > 29 - w → (w ≤ 29) → (∀ j, j < w → wEq tf p L j = false) → ∀ (H : Heap) (locs : List Loc), va_P D CLS [(mo, .inr (11, [.int th, .ref (ma 1), .int (nI tl), .int ea, .int tk, .int dp, .ref sh, .ref (ma 2), .ref (ma 3), .ref (ma 4), .int wk, .ref sn])), (ma 1, .inl (g 0, 2000, .inl tf))] H → va_D A [(mo, .inr (11, [.int th, .ref (ma 1), .int (nI tl), .int ea, .int tk, .int dp, .ref sh, .ref (ma 2), .ref (ma 3), .ref (ma 4), .int wk, .ref sn])), (ma 1, .inl (g 0, 2000, .inl tf))] → va_S A s9.heap H locs → ∀ (ls : Array Slot), lv_has ls 5 [(0, .ref mo), (1, .int (nI p)), (2, .int (nI L)), (3, .int (nI w))] → W p9 l9 e9 ({ frames := 4, cells := 0, slots := 0, locals := 85 } : Room) s9 m9 ([.ref mo, .int (nI p), .int (nI L)] : List Value).toArray below9 meth9 c9 H locs 0 0 (MQ below9 (va_Qi (fun (r9 : Int32) (u9 : Unit) => r9 = wRes tf p L) (kB D g A (fun (u9 : Unit) => [(mo, .inr (11, [.int th, .ref (ma 1), .int (nI tl), .int ea, .int tk, .int dp, .ref sh, .ref (ma 2), .ref (ma 3), .ref (ma 4), .int wk, .ref sn])), (ma 1, .inl (g 0, 2000, .inl tf))])) A) ([.ref mo, .int (nI p), .int (nI L)] : List Value).toArray s9 0 0 A) (F0 m9 2 ls []) := by
    intro n9
    induction n9 with
    | zero => intro w hm9; exact absurd hm9 (by omega)
    | succ n9 ih_2 =>
      intro w hm9 hw hf H locs hP hD hS ls hl
      refine lv_iload_n hx hb dX13_wordAt_2 rfl (lv_at hl 3 rfl) ?_
      refine va_gets (n := "WORDS") hx hb hY.2.1 hS hown (hts _ w_1481) (fun _ h9 => h9) dX13_wordAt_3 ?_
      refine va_tlen (v := 29) hx hb hY.2.2.1 hS (by decide) dX13_wordAt_6 ?_
      refine lv_icmp_ge (tgt := 87) hx hb dX13_wordAt_7 (by decide) (fun c_7 => ?_) (fun c_7 => ?_)
      · skip
        have c_7 : 29 ≤ w := (nI_leI (a := 29) (b := w) (by omega) (by omega)).mp c_7
        have hie : w = 29 := by omega
        refine lv_bipush (v := 30) hx hb dX13_wordAt_87 (by decide) ?_
        have hr9 : 30 = (wRes tf p L) := by exact (wRes_n hie hf).symm
        have hP9 : va_P D CLS [(mo, .inr (11, [.int th, .ref (ma 1), .int (nI tl), .int ea, .int tk, .int dp, .ref sh, .ref (ma 2), .ref (ma 3), .ref (ma 4), .int wk, .ref sn])), (ma 1, .inl (g 0, 2000, .inl tf))] H := by exact kSub hP [0, 1] rfl
        have hD9 : va_D A [(mo, .inr (11, [.int th, .ref (ma 1), .int (nI tl), .int ea, .int tk, .int dp, .ref sh, .ref (ma 2), .ref (ma 3), .ref (ma 4), .int wk, .ref sn])), (ma 1, .inl (g 0, 2000, .inl tf))] := by exact hD.sub [0, 1] (by decide +kernel) rfl
        exact W.iret (v := 30) hx hb hr (fun t9 ht9 hW9 => ⟨⟨30, (), rfl, hr9, by rw [ht9]; exact hP9, va_K.moved hW9.alike hK, hD9⟩, hS.F ht9⟩) hS.2.2 dX13_wordAt_89
      · skip
        have c_7 : ¬ 29 ≤ w := fun h => c_7 ((nI_leI (a := 29) (b := w) (by omega) (by omega)).mpr h)
        have hlt : w < 29 := by omega
        have hln := SLn_lt w (by omega)
        refine lv_iconst (v := 0) hx hb dX13_wordAt_10 (by decide) ?_
        refine lv_istore (lv' := [(4, .int 0), (0, .ref mo), (1, .int (nI p)), (2, .int (nI L)), (3, .int (nI w))]) hx hb dX13_wordAt_11 hl (by decide) rfl (fun ls hl => ?_)
        have loop_13 : ∀ (n9 : Nat) (s : Nat), n9 > L - s → (s ≤ L) → (s ≤ SLn w) → (∀ j, j < s → tf (p + j) = SB w j) → ∀ (H : Heap) (locs : List Loc), va_P D CLS [(mo, .inr (11, [.int th, .ref (ma 1), .int (nI tl), .int ea, .int tk, .int dp, .ref sh, .ref (ma 2), .ref (ma 3), .ref (ma 4), .int wk, .ref sn])), (ma 1, .inl (g 0, 2000, .inl tf))] H → va_D A [(mo, .inr (11, [.int th, .ref (ma 1), .int (nI tl), .int ea, .int tk, .int dp, .ref sh, .ref (ma 2), .ref (ma 3), .ref (ma 4), .int wk, .ref sn])), (ma 1, .inl (g 0, 2000, .inl tf))] → va_S A s9.heap H locs → ∀ (ls : Array Slot), lv_has ls 5 [(0, .ref mo), (1, .int (nI p)), (2, .int (nI L)), (3, .int (nI w)), (4, .int (nI s))] → W p9 l9 e9 ({ frames := 4, cells := 0, slots := 0, locals := 85 } : Room) s9 m9 ([.ref mo, .int (nI p), .int (nI L)] : List Value).toArray below9 meth9 c9 H locs 0 0 (MQ below9 (va_Qi (fun (r9 : Int32) (u9 : Unit) => r9 = wRes tf p L) (kB D g A (fun (u9 : Unit) => [(mo, .inr (11, [.int th, .ref (ma 1), .int (nI tl), .int ea, .int tk, .int dp, .ref sh, .ref (ma 2), .ref (ma 3), .ref (ma 4), .int wk, .ref sn])), (ma 1, .inl (g 0, 2000, .inl tf))])) A) ([.ref mo, .int (nI p), .int (nI L)] : List Value).toArray s9 0 0 A) (F0 m9 13 ls []) := by
          intro n9
          induction n9 with
          | zero => intro s hm9; exact absurd hm9 (by omega)
          | succ n9 ih_13 =>
            intro s hm9 hsL hsw hs H locs hP hD hS ls hl
            refine lv_iload hx hb dX13_wordAt_13 (lv_at hl 4 rfl) ?_
            refine lv_iload_n hx hb dX13_wordAt_15 rfl (lv_at hl 2 rfl) ?_
            refine lv_icmp_ge (tgt := 60) hx hb dX13_wordAt_16 (by decide) (fun c_16 => ?_) (fun c_16 => ?_)
            · skip
              have c_16 : L ≤ s := (nI_leI (a := L) (b := s) (by omega) (by omega)).mp c_16
              refine lv_iload hx hb dX13_wordAt_60 (lv_at hl 4 rfl) ?_
              refine lv_iload_n hx hb dX13_wordAt_62 rfl (lv_at hl 2 rfl) ?_
              refine lv_icmp_ne (tgt := 81) hx hb dX13_wordAt_63 (by decide) (fun c_63 => ?_) (fun c_63 => ?_)
              · skip
                have c_63 : ¬ s = L := fun h => c_63 ((nI_eq (a := s) (b := L) (by omega) (by omega)).mpr h)
                refine lv_iinc (v := nI (w + 1)) (lv' := [(3, .int (nI (w + 1))), (0, .ref mo), (1, .int (nI p)), (2, .int (nI L)), (4, .int (nI s))]) hx hb dX13_wordAt_81 hl (k := 3) rfl (nI_1 w) (by decide) rfl (fun ls hl => ?_)
                refine lv_goto (tgt := 2) hx hb dX13_wordAt_84 (by decide) ?_
                exact ih_2  (w + 1) (by omega) (by omega) (ltS hf (wEq_f hsL (by omega) (by first | exact Or.inl (by omega) | exact Or.inr (Or.inl (by omega)) | exact Or.inr (Or.inr c_51)) hsw)) _ _ (kSub hP [0, 1] rfl) (hD.sub [0, 1] (by decide +kernel) rfl) hS ls (lv_sub hl [1, 2, 3, 0] rfl)
              · skip
                have c_63 : s = L := (nI_eq (a := s) (b := L) (by omega) (by omega)).mp c_63
                refine lv_iload hx hb dX13_wordAt_66 (lv_at hl 4 rfl) ?_
                refine va_gets (n := "WORDS") hx hb hY.2.1 hS hown (hts _ w_1481) (fun _ h9 => h9) dX13_wordAt_68 ?_
                refine lv_iload_n hx hb dX13_wordAt_71 rfl (lv_at hl 3 rfl) ?_
                refine vb_tq (v := .ref (z (110 + w))) hx hb hY.2.2.1 hS (vp_in_nI (by omega) (by decide)) (by rw [nI_clamp (by omega)]) dX13_wordAt_72 ?_
                refine k_i hA hP hD hS [(mo, .inr (11, [.int th, .ref (ma 1), .int (nI tl), .int ea, .int tk, .int dp, .ref sh, .ref (ma 2), .ref (ma 3), .ref (ma 4), .int wk, .ref sn])), (ma 1, .inl (g 0, 2000, .inl tf))] (va_runV (As := []) (rest := [.int (nI s)]) ⟨hx, hb, hml, hown, hts⟩ (c_J0_length_8abf5 l9 z D g w (by omega) (Array.size H)) (cwV 0 hts gv_X13_82 rfl rfl rfl (by decide +kernel) ⟨Nat.le_of_ble_eq_true rfl, Nat.le_of_ble_eq_true rfl⟩) ⟨kBlindS, vO_recv (hY.1 w (by first | assumption | omega)).1 hS, kPreS.pc hY hK hZ hA hP hD hS [] rfl (by decide +kernel)⟩ rfl rfl hl.1 rfl (lv_room (Nat.le_of_ble_eq_true rfl)) dX13_wordAt_73 ⟨Nat.le_of_ble_eq_true rfl, Nat.le_of_ble_eq_true rfl⟩) [] [0, 1] rfl rfl rfl rfl (fun r_73 u_1 H locs hw_73 hP7 hD7 hS7 => ?_)
                clear hP hD hS
                have hP := hP7
                have hD := hD7
                have hS := hS7
                clear hP7 hD7 hS7
                obtain rfl := hw_73
                replace hP : va_P D CLS [(mo, .inr (11, [.int th, .ref (ma 1), .int (nI tl), .int ea, .int tk, .int dp, .ref sh, .ref (ma 2), .ref (ma 3), .ref (ma 4), .int wk, .ref sn])), (ma 1, .inl (g 0, 2000, .inl tf))] H := hP
                replace hD : va_D A [(mo, .inr (11, [.int th, .ref (ma 1), .int (nI tl), .int ea, .int tk, .int dp, .ref sh, .ref (ma 2), .ref (ma 3), .ref (ma 4), .int wk, .ref sn])), (ma 1, .inl (g 0, 2000, .inl tf))] := hD
                refine lv_icmp_ne (tgt := 81) hx hb dX13_wordAt_76 (by decide) (fun c_76 => ?_) (fun c_76 => ?_)
                · skip
                  have c_76 : ¬ s = (SLn w) := fun h => c_76 ((nI_eq (a := s) (b := (SLn w)) (by omega) (by omega)).mpr h)
                  refine lv_iinc (v := nI (w + 1)) (lv' := [(3, .int (nI (w + 1))), (0, .ref mo), (1, .int (nI p)), (2, .int (nI L)), (4, .int (nI s))]) hx hb dX13_wordAt_81 hl (k := 3) rfl (nI_1 w) (by decide) rfl (fun ls hl => ?_)
                  refine lv_goto (tgt := 2) hx hb dX13_wordAt_84 (by decide) ?_
                  exact ih_2  (w + 1) (by omega) (by omega) (ltS hf (wEq_f hsL (by omega) (by first | exact Or.inl (by omega) | exact Or.inr (Or.inl (by omega)) | exact Or.inr (Or.inr c_51)) hsw)) _ _ (kSub hP [0, 1] rfl) (hD.sub [0, 1] (by decide +kernel) rfl) hS ls (lv_sub hl [1, 2, 3, 0] rfl)
                · skip
                  have c_76 : s = (SLn w) := (nI_eq (a := s) (b := (SLn w)) (by omega) (by omega)).mp c_76
                  refine lv_iload_n hx hb dX13_wordAt_79 rfl (lv_at hl 3 rfl) ?_
                  have hr9 : (nI w) = (wRes tf p L) := by exact (wRes_s hlt (wEq_t hs (by omega) (by omega)) hf).symm
                  have hP9 : va_P D CLS [(mo, .inr (11, [.int th, .ref (ma 1), .int (nI tl), .int ea, .int tk, .int dp, .ref sh, .ref (ma 2), .ref (ma 3), .ref (ma 4), .int wk, .ref sn])), (ma 1, .inl (g 0, 2000, .inl tf))] H := by exact kSub hP [0, 1] rfl
                  have hD9 : va_D A [(mo, .inr (11, [.int th, .ref (ma 1), .int (nI tl), .int ea, .int tk, .int dp, .ref sh, .ref (ma 2), .ref (ma 3), .ref (ma 4), .int wk, .ref sn])), (ma 1, .inl (g 0, 2000, .inl tf))] := by exact hD.sub [0, 1] (by decide +kernel) rfl
                  exact W.iret (v := nI w) hx hb hr (fun t9 ht9 hW9 => ⟨⟨nI w, (), rfl, hr9, by rw [ht9]; exact hP9, va_K.moved hW9.alike hK, hD9⟩, hS.F ht9⟩) hS.2.2 dX13_wordAt_80
            · skip
              have c_16 : ¬ L ≤ s := fun h => c_16 ((nI_leI (a := L) (b := s) (by omega) (by omega)).mpr h)
              refine lv_iload hx hb dX13_wordAt_19 (lv_at hl 4 rfl) ?_
              refine va_gets (n := "WORDS") hx hb hY.2.1 hS hown (hts _ w_1481) (fun _ h9 => h9) dX13_wordAt_21 ?_
              refine lv_iload_n hx hb dX13_wordAt_24 rfl (lv_at hl 3 rfl) ?_
              refine vb_tq (v := .ref (z (110 + w))) hx hb hY.2.2.1 hS (vp_in_nI (by omega) (by decide)) (by rw [nI_clamp (by omega)]) dX13_wordAt_25 ?_
              refine k_i hA hP hD hS [(mo, .inr (11, [.int th, .ref (ma 1), .int (nI tl), .int ea, .int tk, .int dp, .ref sh, .ref (ma 2), .ref (ma 3), .ref (ma 4), .int wk, .ref sn])), (ma 1, .inl (g 0, 2000, .inl tf))] (va_runV (As := []) (rest := [.int (nI s)]) ⟨hx, hb, hml, hown, hts⟩ (c_J0_length_8abf5 l9 z D g w (by omega) (Array.size H)) (cwV 0 hts gv_X13_82 rfl rfl rfl (by decide +kernel) ⟨Nat.le_of_ble_eq_true rfl, Nat.le_of_ble_eq_true rfl⟩) ⟨kBlindS, vO_recv (hY.1 w (by first | assumption | omega)).1 hS, kPreS.pc hY hK hZ hA hP hD hS [] rfl (by decide +kernel)⟩ rfl rfl hl.1 rfl (lv_room (Nat.le_of_ble_eq_true rfl)) dX13_wordAt_26 ⟨Nat.le_of_ble_eq_true rfl, Nat.le_of_ble_eq_true rfl⟩) [] [0, 1] rfl rfl rfl rfl (fun r_26 u_2 H locs hw_26 hP7 hD7 hS7 => ?_)
              clear hP hD hS
              have hP := hP7
              have hD := hD7
              have hS := hS7
              clear hP7 hD7 hS7
              obtain rfl := hw_26
              replace hP : va_P D CLS [(mo, .inr (11, [.int th, .ref (ma 1), .int (nI tl), .int ea, .int tk, .int dp, .ref sh, .ref (ma 2), .ref (ma 3), .ref (ma 4), .int wk, .ref sn])), (ma 1, .inl (g 0, 2000, .inl tf))] H := hP
              replace hD : va_D A [(mo, .inr (11, [.int th, .ref (ma 1), .int (nI tl), .int ea, .int tk, .int dp, .ref sh, .ref (ma 2), .ref (ma 3), .ref (ma 4), .int wk, .ref sn])), (ma 1, .inl (g 0, 2000, .inl tf))] := hD
              refine lv_icmp_ge (tgt := 60) hx hb dX13_wordAt_29 (by decide) (fun c_29 => ?_) (fun c_29 => ?_)
              · skip
                have c_29 : (SLn w) ≤ s := (nI_leI (a := (SLn w)) (b := s) (by omega) (by omega)).mp c_29
                refine lv_iload hx hb dX13_wordAt_60 (lv_at hl 4 rfl) ?_
                refine lv_iload_n hx hb dX13_wordAt_62 rfl (lv_at hl 2 rfl) ?_
                refine lv_icmp_ne (tgt := 81) hx hb dX13_wordAt_63 (by decide) (fun c_63 => ?_) (fun c_63 => ?_)
                · skip
                  have c_63 : ¬ s = L := fun h => c_63 ((nI_eq (a := s) (b := L) (by omega) (by omega)).mpr h)
                  refine lv_iinc (v := nI (w + 1)) (lv' := [(3, .int (nI (w + 1))), (0, .ref mo), (1, .int (nI p)), (2, .int (nI L)), (4, .int (nI s))]) hx hb dX13_wordAt_81 hl (k := 3) rfl (nI_1 w) (by decide) rfl (fun ls hl => ?_)
                  refine lv_goto (tgt := 2) hx hb dX13_wordAt_84 (by decide) ?_
                  exact ih_2  (w + 1) (by omega) (by omega) (ltS hf (wEq_f hsL (by omega) (by first | exact Or.inl (by omega) | exact Or.inr (Or.inl (by omega)) | exact Or.inr (Or.inr c_51)) hsw)) _ _ (kSub hP [0, 1] rfl) (hD.sub [0, 1] (by decide +kernel) rfl) hS ls (lv_sub hl [1, 2, 3, 0] rfl)
                · skip
                  have c_63 : s = L := (nI_eq (a := s) (b := L) (by omega) (by omega)).mp c_63
                  refine lv_iload hx hb dX13_wordAt_66 (lv_at hl 4 rfl) ?_
                  refine va_gets (n := "WORDS") hx hb hY.2.1 hS hown (hts _ w_1481) (fun _ h9 => h9) dX13_wordAt_68 ?_
                  refine lv_iload_n hx hb dX13_wordAt_71 rfl (lv_at hl 3 rfl) ?_
                  refine vb_tq (v := .ref (z (110 + w))) hx hb hY.2.2.1 hS (vp_in_nI (by omega) (by decide)) (by rw [nI_clamp (by omega)]) dX13_wordAt_72 ?_
                  refine k_i hA hP hD hS [(mo, .inr (11, [.int th, .ref (ma 1), .int (nI tl), .int ea, .int tk, .int dp, .ref sh, .ref (ma 2), .ref (ma 3), .ref (ma 4), .int wk, .ref sn])), (ma 1, .inl (g 0, 2000, .inl tf))] (va_runV (As := []) (rest := [.int (nI s)]) ⟨hx, hb, hml, hown, hts⟩ (c_J0_length_8abf5 l9 z D g w (by omega) (Array.size H)) (cwV 0 hts gv_X13_82 rfl rfl rfl (by decide +kernel) ⟨Nat.le_of_ble_eq_true rfl, Nat.le_of_ble_eq_true rfl⟩) ⟨kBlindS, vO_recv (hY.1 w (by first | assumption | omega)).1 hS, kPreS.pc hY hK hZ hA hP hD hS [] rfl (by decide +kernel)⟩ rfl rfl hl.1 rfl (lv_room (Nat.le_of_ble_eq_true rfl)) dX13_wordAt_73 ⟨Nat.le_of_ble_eq_true rfl, Nat.le_of_ble_eq_true rfl⟩) [] [0, 1] rfl rfl rfl rfl (fun r_73 u_3 H locs hw_73 hP7 hD7 hS7 => ?_)
                  clear hP hD hS
                  have hP := hP7
                  have hD := hD7
                  have hS := hS7
                  clear hP7 hD7 hS7
                  obtain rfl := hw_73
                  replace hP : va_P D CLS [(mo, .inr (11, [.int th, .ref (ma 1), .int (nI tl), .int ea, .int tk, .int dp, .ref sh, .ref (ma 2), .ref (ma 3), .ref (ma 4), .int wk, .ref sn])), (ma 1, .inl (g 0, 2000, .inl tf))] H := hP
                  replace hD : va_D A [(mo, .inr (11, [.int th, .ref (ma 1), .int (nI tl), .int ea, .int tk, .int dp, .ref sh, .ref (ma 2), .ref (ma 3), .ref (ma 4), .int wk, .ref sn])), (ma 1, .inl (g 0, 2000, .inl tf))] := hD
                  refine lv_icmp_ne (tgt := 81) hx hb dX13_wordAt_76 (by decide) (fun c_76 => ?_) (fun c_76 => ?_)
                  · skip
                    have c_76 : ¬ s = (SLn w) := fun h => c_76 ((nI_eq (a := s) (b := (SLn w)) (by omega) (by omega)).mpr h)
                    refine lv_iinc (v := nI (w + 1)) (lv' := [(3, .int (nI (w + 1))), (0, .ref mo), (1, .int (nI p)), (2, .int (nI L)), (4, .int (nI s))]) hx hb dX13_wordAt_81 hl (k := 3) rfl (nI_1 w) (by decide) rfl (fun ls hl => ?_)
                    refine lv_goto (tgt := 2) hx hb dX13_wordAt_84 (by decide) ?_
                    exact ih_2  (w + 1) (by omega) (by omega) (ltS hf (wEq_f hsL (by omega) (by first | exact Or.inl (by omega) | exact Or.inr (Or.inl (by omega)) | exact Or.inr (Or.inr c_51)) hsw)) _ _ (kSub hP [0, 1] rfl) (hD.sub [0, 1] (by decide +kernel) rfl) hS ls (lv_sub hl [1, 2, 3, 0] rfl)
                  · skip
                    have c_76 : s = (SLn w) := (nI_eq (a := s) (b := (SLn w)) (by omega) (by omega)).mp c_76
                    refine lv_iload_n hx hb dX13_wordAt_79 rfl (lv_at hl 3 rfl) ?_
                    have hr9 : (nI w) = (wRes tf p L) := by exact (wRes_s hlt (wEq_t hs (by omega) (by omega)) hf).symm
                    have hP9 : va_P D CLS [(mo, .inr (11, [.int th, .ref (ma 1), .int (nI tl), .int ea, .int tk, .int dp, .ref sh, .ref (ma 2), .ref (ma 3), .ref (ma 4), .int wk, .ref sn])), (ma 1, .inl (g 0, 2000, .inl tf))] H := by exact kSub hP [0, 1] rfl
                    have hD9 : va_D A [(mo, .inr (11, [.int th, .ref (ma 1), .int (nI tl), .int ea, .int tk, .int dp, .ref sh, .ref (ma 2), .ref (ma 3), .ref (ma 4), .int wk, .ref sn])), (ma 1, .inl (g 0, 2000, .inl tf))] := by exact hD.sub [0, 1] (by decide +kernel) rfl
                    exact W.iret (v := nI w) hx hb hr (fun t9 ht9 hW9 => ⟨⟨nI w, (), rfl, hr9, by rw [ht9]; exact hP9, va_K.moved hW9.alike hK, hD9⟩, hS.F ht9⟩) hS.2.2 dX13_wordAt_80
              · skip
                have c_29 : ¬ (SLn w) ≤ s := fun h => c_29 ((nI_leI (a := (SLn w)) (b := s) (by omega) (by omega)).mpr h)
                refine va_gets (n := "WORDS") hx hb hY.2.1 hS hown (hts _ w_1481) (fun _ h9 => h9) dX13_wordAt_32 ?_
                refine lv_iload_n hx hb dX13_wordAt_35 rfl (lv_at hl 3 rfl) ?_
                refine vb_tq (v := .ref (z (110 + w))) hx hb hY.2.2.1 hS (vp_in_nI (by omega) (by decide)) (by rw [nI_clamp (by omega)]) dX13_wordAt_36 ?_
                refine lv_iload hx hb dX13_wordAt_37 (lv_at hl 4 rfl) ?_
                refine k_i hA hP hD hS [(mo, .inr (11, [.int th, .ref (ma 1), .int (nI tl), .int ea, .int tk, .int dp, .ref sh, .ref (ma 2), .ref (ma 3), .ref (ma 4), .int wk, .ref sn])), (ma 1, .inl (g 0, 2000, .inl tf))] (va_runV (As := [.int (nI s)]) (rest := []) ⟨hx, hb, hml, hown, hts⟩ (c_J0_charAt_5068e l9 z D g w s (by omega) (by omega) (Array.size H)) (cwV 1 hts gv_X13_86 rfl rfl rfl (by decide +kernel) ⟨Nat.le_of_ble_eq_true rfl, Nat.le_of_ble_eq_true rfl⟩) ⟨kBlindS, vO_recv (hY.1 w (by first | assumption | omega)).1 hS, kPreS.pc hY hK hZ hA hP hD hS [] rfl (by decide +kernel)⟩ rfl rfl hl.1 rfl (lv_room (Nat.le_of_ble_eq_true rfl)) dX13_wordAt_39 ⟨Nat.le_of_ble_eq_true rfl, Nat.le_of_ble_eq_true rfl⟩) [] [0, 1] rfl rfl rfl rfl (fun r_39 u_4 H locs hw_39 hP7 hD7 hS7 => ?_)
                clear hP hD hS
                have hP := hP7
                have hD := hD7
                have hS := hS7
                clear hP7 hD7 hS7
                obtain rfl := hw_39
                replace hP : va_P D CLS [(mo, .inr (11, [.int th, .ref (ma 1), .int (nI tl), .int ea, .int tk, .int dp, .ref sh, .ref (ma 2), .ref (ma 3), .ref (ma 4), .int wk, .ref sn])), (ma 1, .inl (g 0, 2000, .inl tf))] H := hP
                replace hD : va_D A [(mo, .inr (11, [.int th, .ref (ma 1), .int (nI tl), .int ea, .int tk, .int dp, .ref sh, .ref (ma 2), .ref (ma 3), .ref (ma 4), .int wk, .ref sn])), (ma 1, .inl (g 0, 2000, .inl tf))] := hD
                refine lv_aload_n hx hb dX13_wordAt_42 rfl (lv_at hl 0 rfl) ?_
                refine va_get (D := D) (ci := 11) (v := .ref (ma 1)) (C := RX13) (T := TX13) (N := 12) hx hb hts in_X13 hown hK hP 0 rfl rfl 1 (by decide) (hts _ w_1392) (fun _ h9 => h9) rfl dX13_wordAt_43 ?_
                refine lv_iload_n hx hb dX13_wordAt_46 rfl (lv_at hl 1 rfl) ?_
                refine lv_iload hx hb dX13_wordAt_47 (lv_at hl 4 rfl) ?_
                refine lv_iadd hx hb dX13_wordAt_49 ?_
                refine k_topi (show ((nI p) + (nI s)) = (nI (p + s)) from (nI_add _ _)) ?_
                refine k_ialdN hx hb hK hP 1 0 rfl rfl (by omega) (by first | decide | omega) dX13_wordAt_50 ?_
                refine lv_icmp_ne (tgt := 60) hx hb dX13_wordAt_51 (by decide) (fun c_51 => ?_) (fun c_51 => ?_)
                · skip
                  refine lv_iload hx hb dX13_wordAt_60 (lv_at hl 4 rfl) ?_
                  refine lv_iload_n hx hb dX13_wordAt_62 rfl (lv_at hl 2 rfl) ?_
                  refine lv_icmp_ne (tgt := 81) hx hb dX13_wordAt_63 (by decide) (fun c_63 => ?_) (fun c_63 => ?_)
                  · skip
                    have c_63 : ¬ s = L := fun h => c_63 ((nI_eq (a := s) (b := L) (by omega) (by omega)).mpr h)
                    refine lv_iinc (v := nI (w + 1)) (lv' := [(3, .int (nI (w + 1))), (0, .ref mo), (1, .int (nI p)), (2, .int (nI L)), (4, .int (nI s))]) hx hb dX13_wordAt_81 hl (k := 3) rfl (nI_1 w) (by decide) rfl (fun ls hl => ?_)
                    refine lv_goto (tgt := 2) hx hb dX13_wordAt_84 (by decide) ?_
                    exact ih_2  (w + 1) (by omega) (by omega) (ltS hf (wEq_f hsL (by omega) (by first | exact Or.inl (by omega) | exact Or.inr (Or.inl (by omega)) | exact Or.inr (Or.inr c_51)) hsw)) _ _ (kSub hP [0, 1] rfl) (hD.sub [0, 1] (by decide +kernel) rfl) hS ls (lv_sub hl [1, 2, 3, 0] rfl)
                  · skip
                    have c_63 : s = L := (nI_eq (a := s) (b := L) (by omega) (by omega)).mp c_63
                    refine lv_iload hx hb dX13_wordAt_66 (lv_at hl 4 rfl) ?_
                    refine va_gets (n := "WORDS") hx hb hY.2.1 hS hown (hts _ w_1481) (fun _ h9 => h9) dX13_wordAt_68 ?_
                    refine lv_iload_n hx hb dX13_wordAt_71 rfl (lv_at hl 3 rfl) ?_
                    refine vb_tq (v := .ref (z (110 + w))) hx hb hY.2.2.1 hS (vp_in_nI (by omega) (by decide)) (by rw [nI_clamp (by omega)]) dX13_wordAt_72 ?_
                    refine k_i hA hP hD hS [(mo, .inr (11, [.int th, .ref (ma 1), .int (nI tl), .int ea, .int tk, .int dp, .ref sh, .ref (ma 2), .ref (ma 3), .ref (ma 4), .int wk, .ref sn])), (ma 1, .inl (g 0, 2000, .inl tf))] (va_runV (As := []) (rest := [.int (nI s)]) ⟨hx, hb, hml, hown, hts⟩ (c_J0_length_8abf5 l9 z D g w (by omega) (Array.size H)) (cwV 0 hts gv_X13_82 rfl rfl rfl (by decide +kernel) ⟨Nat.le_of_ble_eq_true rfl, Nat.le_of_ble_eq_true rfl⟩) ⟨kBlindS, vO_recv (hY.1 w (by first | assumption | omega)).1 hS, kPreS.pc hY hK hZ hA hP hD hS [] rfl (by decide +kernel)⟩ rfl rfl hl.1 rfl (lv_room (Nat.le_of_ble_eq_true rfl)) dX13_wordAt_73 ⟨Nat.le_of_ble_eq_true rfl, Nat.le_of_ble_eq_true rfl⟩) [] [0, 1] rfl rfl rfl rfl (fun r_73 u_5 H locs hw_73 hP7 hD7 hS7 => ?_)
                    clear hP hD hS
                    have hP := hP7
                    have hD := hD7
                    have hS := hS7
                    clear hP7 hD7 hS7
                    obtain rfl := hw_73
                    replace hP : va_P D CLS [(mo, .inr (11, [.int th, .ref (ma 1), .int (nI tl), .int ea, .int tk, .int dp, .ref sh, .ref (ma 2), .ref (ma 3), .ref (ma 4), .int wk, .ref sn])), (ma 1, .inl (g 0, 2000, .inl tf))] H := hP
                    replace hD : va_D A [(mo, .inr (11, [.int th, .ref (ma 1), .int (nI tl), .int ea, .int tk, .int dp, .ref sh, .ref (ma 2), .ref (ma 3), .ref (ma 4), .int wk, .ref sn])), (ma 1, .inl (g 0, 2000, .inl tf))] := hD
                    refine lv_icmp_ne (tgt := 81) hx hb dX13_wordAt_76 (by decide) (fun c_76 => ?_) (fun c_76 => ?_)
                    · skip
                      have c_76 : ¬ s = (SLn w) := fun h => c_76 ((nI_eq (a := s) (b := (SLn w)) (by omega) (by omega)).mpr h)
                      refine lv_iinc (v := nI (w + 1)) (lv' := [(3, .int (nI (w + 1))), (0, .ref mo), (1, .int (nI p)), (2, .int (nI L)), (4, .int (nI s))]) hx hb dX13_wordAt_81 hl (k := 3) rfl (nI_1 w) (by decide) rfl (fun ls hl => ?_)
                      refine lv_goto (tgt := 2) hx hb dX13_wordAt_84 (by decide) ?_
                      exact ih_2  (w + 1) (by omega) (by omega) (ltS hf (wEq_f hsL (by omega) (by first | exact Or.inl (by omega) | exact Or.inr (Or.inl (by omega)) | exact Or.inr (Or.inr c_51)) hsw)) _ _ (kSub hP [0, 1] rfl) (hD.sub [0, 1] (by decide +kernel) rfl) hS ls (lv_sub hl [1, 2, 3, 0] rfl)
                    · skip
                      have c_76 : s = (SLn w) := (nI_eq (a := s) (b := (SLn w)) (by omega) (by omega)).mp c_76
                      refine lv_iload_n hx hb dX13_wordAt_79 rfl (lv_at hl 3 rfl) ?_
                      have hr9 : (nI w) = (wRes tf p L) := by exact (wRes_s hlt (wEq_t hs (by omega) (by omega)) hf).symm
                      have hP9 : va_P D CLS [(mo, .inr (11, [.int th, .ref (ma 1), .int (nI tl), .int ea, .int tk, .int dp, .ref sh, .ref (ma 2), .ref (ma 3), .ref (ma 4), .int wk, .ref sn])), (ma 1, .inl (g 0, 2000, .inl tf))] H := by exact kSub hP [0, 1] rfl
                      have hD9 : va_D A [(mo, .inr (11, [.int th, .ref (ma 1), .int (nI tl), .int ea, .int tk, .int dp, .ref sh, .ref (ma 2), .ref (ma 3), .ref (ma 4), .int wk, .ref sn])), (ma 1, .inl (g 0, 2000, .inl tf))] := by exact hD.sub [0, 1] (by decide +kernel) rfl
                      exact W.iret (v := nI w) hx hb hr (fun t9 ht9 hW9 => ⟨⟨nI w, (), rfl, hr9, by rw [ht9]; exact hP9, va_K.moved hW9.alike hK, hD9⟩, hS.F ht9⟩) hS.2.2 dX13_wordAt_80
                · skip
                  refine lv_iinc (v := nI (s + 1)) (lv' := [(4, .int (nI (s + 1))), (0, .ref mo), (1, .int (nI p)), (2, .int (nI L)), (3, .int (nI w))]) hx hb dX13_wordAt_54 hl (k := 4) rfl (nI_1 s) (by decide) rfl (fun ls hl => ?_)
                  refine lv_goto (tgt := 13) hx hb dX13_wordAt_57 (by decide) ?_
                  exact ih_13  (s + 1) (by omega) (by omega) (by omega) (ltS hs c_51.symm) _ _ (kSub hP [0, 1] rfl) (hD.sub [0, 1] (by decide +kernel) rfl) hS ls (lv_sub hl [1, 2, 3, 4, 0] rfl)
        exact loop_13 (L - 0 + 1) 0 (by omega) (Nat.zero_le _) (Nat.zero_le _) (fun j h => absurd h (Nat.not_lt_zero j)) _ _ (kSub hP [0, 1] rfl) (hD.sub [0, 1] (by decide +kernel) rfl) hS ls (lv_sub hl [1, 2, 3, 4, 0] rfl)
  exact loop_2 (29 - 0 + 1) 0 (by omega) (Nat.zero_le _) (fun j h => absurd h (Nat.not_lt_zero j)) _ _ (kSub hP [0, 1] rfl) (hD.sub [0, 1] (by decide +kernel) rfl) hS ls (lv_sub hl [1, 2, 3, 0] rfl)
