theorem dJ0_coder_7d493_0 : decode cJ0_coder_7d493 0 = .ok (.getstatic 38, 3) := by decide +kernel
theorem dJ0_coder_7d493_3 : decode cJ0_coder_7d493 3 = .ok (.ifCond .eq 10, 3) := by decide +kernel
theorem dJ0_coder_7d493_6 : decode cJ0_coder_7d493 6 = .ok (.aload_n 0, 1) := by decide +kernel
theorem dJ0_coder_7d493_7 : decode cJ0_coder_7d493 7 = .ok (.getfield 15, 3) := by decide +kernel
theorem dJ0_coder_7d493_10 : decode cJ0_coder_7d493 10 = .ok (.goto 4, 3) := by decide +kernel
theorem dJ0_coder_7d493_14 : decode cJ0_coder_7d493 14 = .ok (.ireturn, 1) := by decide +kernel
set_option maxHeartbeats 4000000 in
set_option maxRecDepth 100000 in
/-- String.coder -/
theorem c_J0_coder_7d493 (l9 : Launch) (z : Nat → Nat) (D : va_G) (g : Nat → ClassId) (sa : Nat) (sv : Nat) (T : List Nat) (sz : Nat) : Met l9 yJ0_coder_7d493 (WS yJ0_coder_7d493 cJ0_coder_7d493 1 (some .byte)) ({ frames := 0, cells := 0, slots := 0, locals := 0 }) (va_Pc [.ref sa] (kPreT sa sv T z D g [] sz)) (va_Qi (fun (r9 : Int32) (u9 : Unit) => r9 = 0) (kB D g (va_A [] sz) (fun (u9 : Unit) => [])) (va_A [] sz)) 0 0 (va_A [] sz) := by
  refine Met.ofW (cc := cJ0_coder_7d493) (maxL := 1) (ret := (some .byte)) (by decide) rfl ?_
  intro p9 e9 s9 m9 args9 below9 meth9 c9 s₁ B hml hv
  obtain ⟨rfl, hsz, hP, hK, hD0, hZ, hY, hG⟩ := hv
  have hx := B.exec
  have hb := B.bytes
  have hr := B.returns
  have hts := ws_sub (atoms_spec (ws := WS yJ0_coder_7d493 cJ0_coder_7d493 1 (some .byte)) B.pre)
  have hown : s9.vm.findClass RJ0 = some m9.cls := findClass_of_methodNamed B.named
  have hlocks := B.notSynchronized
  subst hsz
  have hD := hD0.self (sz := s9.heap.size)
  generalize hAe : va_A [] s9.heap.size = A at hD hZ hY hG ⊢
  have hA : ∀ q : Nat, s9.heap.size ≤ q → A q := fun q h => by rw [← hAe]; exact Or.inr h
  have hS : va_S A s9.heap s9.heap [] := va_S.rf
  have hP : va_P D CLS [] s9.heap := hP
  have hl := lv_entry ([.ref sa]) (n := 1) (Nat.le_of_ble_eq_true rfl)
  rw [lg_entry_eq]
  generalize (lg_sl ([.ref sa]) ++ List.replicate (1 - (lg_sl ([.ref sa])).length) Slot.unset).toArray = ls at hl ⊢
  have hl : lv_has ls 1 [(0, .ref sa)] := hl
  change W p9 l9 e9 ({ frames := 0, cells := 0, slots := 0, locals := 0 } : Room) s9 m9 _ below9 meth9 c9 _ _ _ _ _ _
  refine va_gets (n := "COMPACT_STRINGS") hx hb hY.cs hS hown (hts _ w_859) (fun _ h9 => h9) dJ0_coder_7d493_0 ?_
  refine lv_if_eq (tgt := 13) hx hb dJ0_coder_7d493_3 (by decide) (fun c_3 => ?_) (fun c_3 => ?_)
  · skip
    exact absurd c_3 (by decide)
  · skip
    refine lv_aload_n hx hb dJ0_coder_7d493_6 rfl (lv_at hl 0 rfl) ?_
    refine vk_getf (v := .int 0) hx hb (hG).2.1 hS hown (hts _ w_1451) (fun _ h9 => h9) dJ0_coder_7d493_7 ?_
    refine lv_goto (tgt := 14) hx hb dJ0_coder_7d493_10 (by decide) ?_
    have hr9 : (0 : Int32) = 0 := by rfl
    have hP9 : va_P D CLS [] s9.heap := by exact kSub hP [] rfl
    have hD9 : va_D A [] := by exact hD.sub [] (by decide +kernel) rfl
    exact W.zret (v := 0) hx hb hr rfl (fun t9 ht9 hW9 => ⟨⟨0, (), rfl, hr9, by rw [ht9]; exact hP9, va_K.moved hW9.alike hK, hD9⟩, hS.F ht9⟩) hS.2.2 dJ0_coder_7d493_14
theorem dJ0_length_8abf5_0 : decode cJ0_length_8abf5 0 = .ok (.aload_n 0, 1) := by decide +kernel
theorem dJ0_length_8abf5_1 : decode cJ0_length_8abf5 1 = .ok (.getfield 9, 3) := by decide +kernel
theorem dJ0_length_8abf5_4 : decode cJ0_length_8abf5 4 = .ok (.arraylength, 1) := by decide +kernel
theorem dJ0_length_8abf5_5 : decode cJ0_length_8abf5 5 = .ok (.aload_n 0, 1) := by decide +kernel
theorem dJ0_length_8abf5_6 : decode cJ0_length_8abf5 6 = .ok (.invokevirtual 335, 3) := by decide +kernel
theorem dJ0_length_8abf5_9 : decode cJ0_length_8abf5 9 = .ok (.ishr, 1) := by decide +kernel
theorem dJ0_length_8abf5_10 : decode cJ0_length_8abf5 10 = .ok (.ireturn, 1) := by decide +kernel
set_option maxHeartbeats 4000000 in
set_option maxRecDepth 100000 in
/-- String.length -/
theorem c_J0_length_8abf5 (l9 : Launch) (z : Nat → Nat) (D : va_G) (g : Nat → ClassId) (sa : Nat) (sv : Nat) (T : List Nat) (sz : Nat) : Met l9 yJ0_length_8abf5 (WS yJ0_length_8abf5 cJ0_length_8abf5 1 (some .int)) ({ frames := 1, cells := 0, slots := 0, locals := 20 }) (va_Pc [.ref sa] (kPreT sa sv T z D g [] sz)) (va_Qi (fun (r9 : Int32) (u9 : Unit) => r9 = nI T.length) (kB D g (va_A [] sz) (fun (u9 : Unit) => [])) (va_A [] sz)) 0 0 (va_A [] sz) := by
  refine Met.ofW (cc := cJ0_length_8abf5) (maxL := 1) (ret := (some .int)) (by decide) rfl ?_
  intro p9 e9 s9 m9 args9 below9 meth9 c9 s₁ B hml hv
  obtain ⟨rfl, hsz, hP, hK, hD0, hZ, hY, hG⟩ := hv
  have hx := B.exec
  have hb := B.bytes
  have hr := B.returns
  have hts := ws_sub (atoms_spec (ws := WS yJ0_length_8abf5 cJ0_length_8abf5 1 (some .int)) B.pre)
  have hown : s9.vm.findClass RJ0 = some m9.cls := findClass_of_methodNamed B.named
  have hlocks := B.notSynchronized
  subst hsz
  have hD := hD0.self (sz := s9.heap.size)
  generalize hAe : va_A [] s9.heap.size = A at hD hZ hY hG ⊢
  have hA : ∀ q : Nat, s9.heap.size ≤ q → A q := fun q h => by rw [← hAe]; exact Or.inr h
  have hS : va_S A s9.heap s9.heap [] := va_S.rf
  have hP : va_P D CLS [] s9.heap := hP
  have hl := lv_entry ([.ref sa]) (n := 1) (Nat.le_of_ble_eq_true rfl)
  rw [lg_entry_eq]
  generalize (lg_sl ([.ref sa]) ++ List.replicate (1 - (lg_sl ([.ref sa])).length) Slot.unset).toArray = ls at hl ⊢
  have hl : lv_has ls 1 [(0, .ref sa)] := hl
  change W p9 l9 e9 ({ frames := 1, cells := 0, slots := 0, locals := 20 } : Room) s9 m9 _ below9 meth9 c9 _ _ _ _ _ _
  refine lv_aload_n hx hb dJ0_length_8abf5_0 rfl (lv_at hl 0 rfl) ?_
  refine vk_getf (v := .ref sv) hx hb (hG).2.2.1 hS hown (hts _ w_1450) (fun _ h9 => h9) dJ0_length_8abf5_1 ?_
  refine va_tlen (v := nI T.length) hx hb (hG).2.2.2 hS rfl dJ0_length_8abf5_4 ?_
  refine lv_aload_n hx hb dJ0_length_8abf5_5 rfl (lv_at hl 0 rfl) ?_
  refine k_i hA hP hD hS [] (va_runV (As := []) (rest := [.int (nI T.length)]) ⟨hx, hb, hml, hown, hts⟩ (c_J0_coder_7d493 l9 z D g sa sv T  (Array.size s9.heap)) (cwV 0 hts gv_J0_335 rfl rfl rfl (by decide +kernel) ⟨Nat.le_of_ble_eq_true rfl, Nat.le_of_ble_eq_true rfl⟩) ⟨kBlindT, vO_recv (hG).1 hS, kPreT.pc hG hY hK hZ hA hP hD hS [] rfl (by decide +kernel)⟩ rfl rfl hl.1 rfl (lv_room (Nat.le_of_ble_eq_true rfl)) dJ0_length_8abf5_6 ⟨Nat.le_of_ble_eq_true rfl, Nat.le_of_ble_eq_true rfl⟩) [] [] rfl rfl rfl rfl (fun r_6 u_1 H locs hw_6 hP7 hD7 hS7 => ?_)
  clear hP hD hS
  have hP := hP7
  have hD := hD7
  have hS := hS7
  clear hP7 hD7 hS7
  obtain rfl := hw_6.symm
  replace hP : va_P D CLS [] H := hP
  replace hD : va_D A [] := hD
  refine lv_ishr hx hb dJ0_length_8abf5_9 ?_
  refine k_topi (show ((nI T.length) >>> (0 &&& 31)) = (nI T.length) from sb_shr0 _) ?_
  have hr9 : (nI T.length) = (nI T.length) := by rfl
  have hP9 : va_P D CLS [] H := by exact kSub hP [] rfl
  have hD9 : va_D A [] := by exact hD.sub [] (by decide +kernel) rfl
  exact W.iret (v := nI T.length) hx hb hr (fun t9 ht9 hW9 => ⟨⟨nI T.length, (), rfl, hr9, by rw [ht9]; exact hP9, va_K.moved hW9.alike hK, hD9⟩, hS.F ht9⟩) hS.2.2 dJ0_length_8abf5_10
theorem dJ0_isLatin1_aae02_0 : decode cJ0_isLatin1_aae02 0 = .ok (.getstatic 38, 3) := by decide +kernel
theorem dJ0_isLatin1_aae02_3 : decode cJ0_isLatin1_aae02 3 = .ok (.ifCond .eq 14, 3) := by decide +kernel
theorem dJ0_isLatin1_aae02_6 : decode cJ0_isLatin1_aae02 6 = .ok (.aload_n 0, 1) := by decide +kernel
theorem dJ0_isLatin1_aae02_7 : decode cJ0_isLatin1_aae02 7 = .ok (.getfield 15, 3) := by decide +kernel
theorem dJ0_isLatin1_aae02_10 : decode cJ0_isLatin1_aae02 10 = .ok (.ifCond .ne 7, 3) := by decide +kernel
theorem dJ0_isLatin1_aae02_13 : decode cJ0_isLatin1_aae02 13 = .ok (.iconst 1, 1) := by decide +kernel
theorem dJ0_isLatin1_aae02_14 : decode cJ0_isLatin1_aae02 14 = .ok (.goto 4, 3) := by decide +kernel
theorem dJ0_isLatin1_aae02_18 : decode cJ0_isLatin1_aae02 18 = .ok (.ireturn, 1) := by decide +kernel
set_option maxHeartbeats 4000000 in
set_option maxRecDepth 100000 in
/-- String.isLatin1 -/
theorem c_J0_isLatin1_aae02 (l9 : Launch) (z : Nat → Nat) (D : va_G) (g : Nat → ClassId) (sa : Nat) (sv : Nat) (T : List Nat) (sz : Nat) : Met l9 yJ0_isLatin1_aae02 (WS yJ0_isLatin1_aae02 cJ0_isLatin1_aae02 1 (some .boolean)) ({ frames := 0, cells := 0, slots := 0, locals := 0 }) (va_Pc [.ref sa] (kPreT sa sv T z D g [] sz)) (va_Qi (fun (r9 : Int32) (u9 : Unit) => r9 = 1) (kB D g (va_A [] sz) (fun (u9 : Unit) => [])) (va_A [] sz)) 0 0 (va_A [] sz) := by
  refine Met.ofW (cc := cJ0_isLatin1_aae02) (maxL := 1) (ret := (some .boolean)) (by decide) rfl ?_
  intro p9 e9 s9 m9 args9 below9 meth9 c9 s₁ B hml hv
  obtain ⟨rfl, hsz, hP, hK, hD0, hZ, hY, hG⟩ := hv
  have hx := B.exec
  have hb := B.bytes
  have hr := B.returns
  have hts := ws_sub (atoms_spec (ws := WS yJ0_isLatin1_aae02 cJ0_isLatin1_aae02 1 (some .boolean)) B.pre)
  have hown : s9.vm.findClass RJ0 = some m9.cls := findClass_of_methodNamed B.named
  have hlocks := B.notSynchronized
  subst hsz
  have hD := hD0.self (sz := s9.heap.size)
  generalize hAe : va_A [] s9.heap.size = A at hD hZ hY hG ⊢
  have hA : ∀ q : Nat, s9.heap.size ≤ q → A q := fun q h => by rw [← hAe]; exact Or.inr h
  have hS : va_S A s9.heap s9.heap [] := va_S.rf
  have hP : va_P D CLS [] s9.heap := hP
  have hl := lv_entry ([.ref sa]) (n := 1) (Nat.le_of_ble_eq_true rfl)
  rw [lg_entry_eq]
  generalize (lg_sl ([.ref sa]) ++ List.replicate (1 - (lg_sl ([.ref sa])).length) Slot.unset).toArray = ls at hl ⊢
  have hl : lv_has ls 1 [(0, .ref sa)] := hl
  change W p9 l9 e9 ({ frames := 0, cells := 0, slots := 0, locals := 0 } : Room) s9 m9 _ below9 meth9 c9 _ _ _ _ _ _
  refine va_gets (n := "COMPACT_STRINGS") hx hb hY.cs hS hown (hts _ w_859) (fun _ h9 => h9) dJ0_isLatin1_aae02_0 ?_
  refine lv_if_eq (tgt := 17) hx hb dJ0_isLatin1_aae02_3 (by decide) (fun c_3 => ?_) (fun c_3 => ?_)
  · skip
    exact absurd c_3 (by decide)
  · skip
    refine lv_aload_n hx hb dJ0_isLatin1_aae02_6 rfl (lv_at hl 0 rfl) ?_
    refine vk_getf (v := .int 0) hx hb (hG).2.1 hS hown (hts _ w_1451) (fun _ h9 => h9) dJ0_isLatin1_aae02_7 ?_
    refine lv_if_ne (tgt := 17) hx hb dJ0_isLatin1_aae02_10 (by decide) (fun c_10 => ?_) (fun c_10 => ?_)
    · skip
      exact absurd c_10 (by decide)
    · skip
      refine lv_iconst (v := 1) hx hb dJ0_isLatin1_aae02_13 (by decide) ?_
      refine lv_goto (tgt := 18) hx hb dJ0_isLatin1_aae02_14 (by decide) ?_
      have hr9 : (1 : Int32) = 1 := by rfl
      have hP9 : va_P D CLS [] s9.heap := by exact kSub hP [] rfl
      have hD9 : va_D A [] := by exact hD.sub [] (by decide +kernel) rfl
      exact W.zret (v := 1) hx hb hr (by first | exact k_nb0 | exact k_nb1 | exact k_nbI _ | simp) (fun t9 ht9 hW9 => ⟨⟨1, (), rfl, hr9, by rw [ht9]; exact hP9, va_K.moved hW9.alike hK, hD9⟩, hS.F ht9⟩) hS.2.2 dJ0_isLatin1_aae02_18
theorem dJ3_checkIndex_8e157_0 : decode cJ3_checkIndex_8e157 0 = .ok (.iload_n 0, 1) := by decide +kernel
theorem dJ3_checkIndex_8e157_1 : decode cJ3_checkIndex_8e157 1 = .ok (.ifCond .lt 8, 3) := by decide +kernel
theorem dJ3_checkIndex_8e157_4 : decode cJ3_checkIndex_8e157 4 = .ok (.iload_n 0, 1) := by decide +kernel
theorem dJ3_checkIndex_8e157_5 : decode cJ3_checkIndex_8e157 5 = .ok (.iload_n 1, 1) := by decide +kernel
theorem dJ3_checkIndex_8e157_6 : decode cJ3_checkIndex_8e157 6 = .ok (.if_icmp .lt 10, 3) := by decide +kernel
theorem dJ3_checkIndex_8e157_16 : decode cJ3_checkIndex_8e157 16 = .ok (.iload_n 0, 1) := by decide +kernel
theorem dJ3_checkIndex_8e157_17 : decode cJ3_checkIndex_8e157 17 = .ok (.ireturn, 1) := by decide +kernel
set_option maxHeartbeats 4000000 in
set_option maxRecDepth 100000 in
/-- Preconditions.checkIndex, within -/
theorem c_J3_checkIndex_8e157 (l9 : Launch) (z : Nat → Nat) (D : va_G) (g : Nat → ClassId) (k : Nat) (m : Nat) (o : Option Nat) (hk : k < m) (hm : m < 100000) (sz : Nat) : Met l9 yJ3_checkIndex_8e157 (WS yJ3_checkIndex_8e157 cJ3_checkIndex_8e157 3 (some .int)) ({ frames := 0, cells := 0, slots := 0, locals := 0 }) (va_Pc [.int (nI k), .int (nI m), va_rf o] (kPreL z D g [] sz)) (va_Qi (fun (r9 : Int32) (u9 : Unit) => r9 = nI k) (kB D g (va_A [] sz) (fun (u9 : Unit) => [])) (va_A [] sz)) 0 0 (va_A [] sz) := by
  refine Met.ofW (cc := cJ3_checkIndex_8e157) (maxL := 3) (ret := (some .int)) (by decide) rfl ?_
  intro p9 e9 s9 m9 args9 below9 meth9 c9 s₁ B hml hv
  obtain ⟨rfl, hsz, hP, hK, hD0, hZ, hY⟩ := hv
  have hx := B.exec
  have hb := B.bytes
  have hr := B.returns
  have hts := ws_sub (atoms_spec (ws := WS yJ3_checkIndex_8e157 cJ3_checkIndex_8e157 3 (some .int)) B.pre)
  have hown : s9.vm.findClass RJ3 = some m9.cls := findClass_of_methodNamed B.named
  have hlocks := B.notSynchronized
  subst hsz
  have hD := hD0.self (sz := s9.heap.size)
  generalize hAe : va_A [] s9.heap.size = A at hD hZ hY ⊢
  have hA : ∀ q : Nat, s9.heap.size ≤ q → A q := fun q h => by rw [← hAe]; exact Or.inr h
  have hS : va_S A s9.heap s9.heap [] := va_S.rf
  have hP : va_P D CLS [] s9.heap := hP
  have hl := lv_entry ([.int (nI k), .int (nI m), va_rf o]) (n := 3) (Nat.le_of_ble_eq_true (by cases o <;> rfl))
  rw [lg_entry_eq]
  generalize (lg_sl ([.int (nI k), .int (nI m), va_rf o]) ++ List.replicate (3 - (lg_sl ([.int (nI k), .int (nI m), va_rf o])).length) Slot.unset).toArray = ls at hl ⊢
  have hl : lv_has ls 3 [(0, .int (nI k)), (1, .int (nI m)), (2, va_rf o)] := hl
  change W p9 l9 e9 ({ frames := 0, cells := 0, slots := 0, locals := 0 } : Room) s9 m9 _ below9 meth9 c9 _ _ _ _ _ _
  refine lv_iload_n hx hb dJ3_checkIndex_8e157_0 rfl (lv_at hl 0 rfl) ?_
  refine lv_if_lt (tgt := 9) hx hb dJ3_checkIndex_8e157_1 (by decide) (fun c_1 => ?_) (fun c_1 => ?_)
  · skip
    exact absurd c_1 (nI_pos (by omega))
  · skip
    refine lv_iload_n hx hb dJ3_checkIndex_8e157_4 rfl (lv_at hl 0 rfl) ?_
    refine lv_iload_n hx hb dJ3_checkIndex_8e157_5 rfl (lv_at hl 1 rfl) ?_
    refine lv_icmp_lt (tgt := 16) hx hb dJ3_checkIndex_8e157_6 (by decide) (fun c_6 => ?_) (fun c_6 => ?_)
    · skip
      have c_6 : k < m := (nI_ltI (a := k) (b := m) (by omega) (by omega)).mp c_6
      refine lv_iload_n hx hb dJ3_checkIndex_8e157_16 rfl (lv_at hl 0 rfl) ?_
      have hr9 : (nI k) = (nI k) := by rfl
      have hP9 : va_P D CLS [] s9.heap := by exact kSub hP [] rfl
      have hD9 : va_D A [] := by exact hD.sub [] (by decide +kernel) rfl
      exact W.iret (v := nI k) hx hb hr (fun t9 ht9 hW9 => ⟨⟨nI k, (), rfl, hr9, by rw [ht9]; exact hP9, va_K.moved hW9.alike hK, hD9⟩, hS.F ht9⟩) hS.2.2 dJ3_checkIndex_8e157_17
    · skip
      have c_6 : ¬ k < m := fun h => c_6 ((nI_ltI (a := k) (b := m) (by omega) (by omega)).mpr h)
      exact absurd hk c_6
theorem dJ0_checkIndex_df160_0 : decode cJ0_checkIndex_df160 0 = .ok (.iload_n 0, 1) := by decide +kernel
theorem dJ0_checkIndex_df160_1 : decode cJ0_checkIndex_df160 1 = .ok (.iload_n 1, 1) := by decide +kernel
theorem dJ0_checkIndex_df160_2 : decode cJ0_checkIndex_df160 2 = .ok (.getstatic 1053, 3) := by decide +kernel
theorem dJ0_checkIndex_df160_5 : decode cJ0_checkIndex_df160 5 = .ok (.invokestatic 1059, 3) := by decide +kernel
theorem dJ0_checkIndex_df160_8 : decode cJ0_checkIndex_df160 8 = .ok (.pop, 1) := by decide +kernel
theorem dJ0_checkIndex_df160_9 : decode cJ0_checkIndex_df160 9 = .ok (.return_, 1) := by decide +kernel
set_option maxHeartbeats 4000000 in
set_option maxRecDepth 100000 in
/-- String.checkIndex, within -/
theorem c_J0_checkIndex_df160 (l9 : Launch) (z : Nat → Nat) (D : va_G) (g : Nat → ClassId) (k : Nat) (m : Nat) (hk : k < m) (hm : m < 100000) (sz : Nat) : Met l9 yJ0_checkIndex_df160 (WS yJ0_checkIndex_df160 cJ0_checkIndex_df160 2 none) ({ frames := 1, cells := 0, slots := 0, locals := 22 }) (va_Pc [.int (nI k), .int (nI m)] (kPreL z D g [] sz)) (va_Qv (fun (u9 : Unit) => True) (kB D g (va_A [] sz) (fun (u9 : Unit) => [])) (va_A [] sz)) 0 0 (va_A [] sz) := by
  refine Met.ofW (cc := cJ0_checkIndex_df160) (maxL := 2) (ret := none) (by decide) rfl ?_
  intro p9 e9 s9 m9 args9 below9 meth9 c9 s₁ B hml hv
  obtain ⟨rfl, hsz, hP, hK, hD0, hZ, hY⟩ := hv
  have hx := B.exec
  have hb := B.bytes
  have hr := B.returns
  have hts := ws_sub (atoms_spec (ws := WS yJ0_checkIndex_df160 cJ0_checkIndex_df160 2 none) B.pre)
  have hown : s9.vm.findClass RJ0 = some m9.cls := findClass_of_methodNamed B.named
  have hlocks := B.notSynchronized
  subst hsz
  have hD := hD0.self (sz := s9.heap.size)
  generalize hAe : va_A [] s9.heap.size = A at hD hZ hY ⊢
  have hA : ∀ q : Nat, s9.heap.size ≤ q → A q := fun q h => by rw [← hAe]; exact Or.inr h
  have hS : va_S A s9.heap s9.heap [] := va_S.rf
  have hP : va_P D CLS [] s9.heap := hP
  have hl := lv_entry ([.int (nI k), .int (nI m)]) (n := 2) (Nat.le_of_ble_eq_true rfl)
  rw [lg_entry_eq]
  generalize (lg_sl ([.int (nI k), .int (nI m)]) ++ List.replicate (2 - (lg_sl ([.int (nI k), .int (nI m)])).length) Slot.unset).toArray = ls at hl ⊢
  have hl : lv_has ls 2 [(0, .int (nI k)), (1, .int (nI m))] := hl
  change W p9 l9 e9 ({ frames := 1, cells := 0, slots := 0, locals := 22 } : Room) s9 m9 _ below9 meth9 c9 _ _ _ _ _ _
  refine lv_iload_n hx hb dJ0_checkIndex_df160_0 rfl (lv_at hl 0 rfl) ?_
  refine lv_iload_n hx hb dJ0_checkIndex_df160_1 rfl (lv_at hl 1 rfl) ?_
  obtain ⟨o9, hz9⟩ := hY.fm.o
  refine va_gets (n := "SIOOBE_FORMATTER") hx hb hz9 hS hown (hts _ w_875) (fun _ h9 => h9) dJ0_checkIndex_df160_2 ?_
  refine k_i hA hP hD hS [] (va_runS (As := [.int (nI k), .int (nI m), va_rf o9]) (rest := []) ⟨hx, hb, hml, hown, hts⟩ (c_J3_checkIndex_8e157 l9 z D g k m o9 (by first | assumption | decide | omega) (by first | assumption | decide | omega) (Array.size s9.heap)) (va_cwS 3 hts gs_J0_1059 rfl rfl rfl (by decide +kernel) ⟨Nat.le_of_ble_eq_true rfl, Nat.le_of_ble_eq_true rfl⟩) ⟨kBlindL, kPreL.pc hY hK hZ hA hP hD hS [] rfl (by decide +kernel)⟩ rfl rfl hl.1 rfl (lv_room (Nat.le_of_ble_eq_true rfl)) dJ0_checkIndex_df160_5 ⟨Nat.le_of_ble_eq_true rfl, Nat.le_of_ble_eq_true rfl⟩) [] [] rfl rfl rfl rfl (fun r_5 u_1 H locs hw_5 hP7 hD7 hS7 => ?_)
  clear hP hD hS
  have hP := hP7
  have hD := hD7
  have hS := hS7
  clear hP7 hD7 hS7
  obtain rfl := hw_5
  replace hP : va_P D CLS [] H := hP
  replace hD : va_D A [] := hD
  refine lv_pop hx hb dJ0_checkIndex_df160_8 rfl ?_
  have hP9 : va_P D CLS [] H := by exact kSub hP [] rfl
  have hD9 : va_D A [] := by exact hD.sub [] (by decide +kernel) rfl
  exact W.vret hx hb hr (fun t9 ht9 hW9 => ⟨⟨(), rfl, trivial, by rw [ht9]; exact hP9, va_K.moved hW9.alike hK, hD9⟩, hS.F ht9⟩) hS.2.2 dJ0_checkIndex_df160_9
theorem dJ1_charAt_3b067_0 : decode cJ1_charAt_3b067 0 = .ok (.iload_n 1, 1) := by decide +kernel
theorem dJ1_charAt_3b067_1 : decode cJ1_charAt_3b067 1 = .ok (.aload_n 0, 1) := by decide +kernel
theorem dJ1_charAt_3b067_2 : decode cJ1_charAt_3b067 2 = .ok (.arraylength, 1) := by decide +kernel
theorem dJ1_charAt_3b067_3 : decode cJ1_charAt_3b067 3 = .ok (.invokestatic 9, 3) := by decide +kernel
theorem dJ1_charAt_3b067_6 : decode cJ1_charAt_3b067 6 = .ok (.aload_n 0, 1) := by decide +kernel
theorem dJ1_charAt_3b067_7 : decode cJ1_charAt_3b067 7 = .ok (.iload_n 1, 1) := by decide +kernel
theorem dJ1_charAt_3b067_8 : decode cJ1_charAt_3b067 8 = .ok (.baload, 1) := by decide +kernel
theorem dJ1_charAt_3b067_9 : decode cJ1_charAt_3b067 9 = .ok (.sipush 255, 3) := by decide +kernel
theorem dJ1_charAt_3b067_12 : decode cJ1_charAt_3b067 12 = .ok (.iand, 1) := by decide +kernel
theorem dJ1_charAt_3b067_13 : decode cJ1_charAt_3b067 13 = .ok (.i2c, 1) := by decide +kernel
theorem dJ1_charAt_3b067_14 : decode cJ1_charAt_3b067 14 = .ok (.ireturn, 1) := by decide +kernel
set_option maxHeartbeats 4000000 in
set_option maxRecDepth 100000 in
/-- StringLatin1.charAt -/
theorem c_J1_charAt_3b067 (l9 : Launch) (z : Nat → Nat) (D : va_G) (g : Nat → ClassId) (sa : Nat) (sv : Nat) (T : List Nat) (k : Nat) (hk : k < T.length) (hT : Asc T) (hm : T.length < 100000) (sz : Nat) : Met l9 yJ1_charAt_3b067 (WS yJ1_charAt_3b067 cJ1_charAt_3b067 2 (some .char)) ({ frames := 2, cells := 0, slots := 0, locals := 43 }) (va_Pc [.ref sv, .int (nI k)] (kPreT sa sv T z D g [] sz)) (va_Qi (fun (r9 : Int32) (u9 : Unit) => r9 = nI (T.getD k 0)) (kB D g (va_A [] sz) (fun (u9 : Unit) => [])) (va_A [] sz)) 0 0 (va_A [] sz) := by
  refine Met.ofW (cc := cJ1_charAt_3b067) (maxL := 2) (ret := (some .char)) (by decide) rfl ?_
  intro p9 e9 s9 m9 args9 below9 meth9 c9 s₁ B hml hv
  obtain ⟨rfl, hsz, hP, hK, hD0, hZ, hY, hG⟩ := hv
  have hx := B.exec
  have hb := B.bytes
  have hr := B.returns
  have hts := ws_sub (atoms_spec (ws := WS yJ1_charAt_3b067 cJ1_charAt_3b067 2 (some .char)) B.pre)
  have hown : s9.vm.findClass RJ1 = some m9.cls := findClass_of_methodNamed B.named
  have hlocks := B.notSynchronized
  subst hsz
  have hD := hD0.self (sz := s9.heap.size)
  generalize hAe : va_A [] s9.heap.size = A at hD hZ hY hG ⊢
  have hA : ∀ q : Nat, s9.heap.size ≤ q → A q := fun q h => by rw [← hAe]; exact Or.inr h
  have hS : va_S A s9.heap s9.heap [] := va_S.rf
  have hP : va_P D CLS [] s9.heap := hP
  have hl := lv_entry ([.ref sv, .int (nI k)]) (n := 2) (Nat.le_of_ble_eq_true rfl)
  rw [lg_entry_eq]
  generalize (lg_sl ([.ref sv, .int (nI k)]) ++ List.replicate (2 - (lg_sl ([.ref sv, .int (nI k)])).length) Slot.unset).toArray = ls at hl ⊢
  have hl : lv_has ls 2 [(0, .ref sv), (1, .int (nI k))] := hl
  change W p9 l9 e9 ({ frames := 2, cells := 0, slots := 0, locals := 43 } : Room) s9 m9 _ below9 meth9 c9 _ _ _ _ _ _
  refine lv_iload_n hx hb dJ1_charAt_3b067_0 rfl (lv_at hl 1 rfl) ?_
  refine lv_aload_n hx hb dJ1_charAt_3b067_1 rfl (lv_at hl 0 rfl) ?_
  refine va_tlen (v := nI T.length) hx hb (hG).2.2.2 hS rfl dJ1_charAt_3b067_2 ?_
  refine k_v hA hP hD hS [] (va_runS (As := [.int (nI k), .int (nI T.length)]) (rest := []) ⟨hx, hb, hml, hown, hts⟩ (c_J0_checkIndex_df160 l9 z D g k T.length (by first | assumption | decide | omega) (by first | assumption | decide | omega) (Array.size s9.heap)) (va_cwS 2 hts gs_J1_9 rfl rfl rfl (by decide +kernel) ⟨Nat.le_of_ble_eq_true rfl, Nat.le_of_ble_eq_true rfl⟩) ⟨kBlindL, kPreL.pc hY hK hZ hA hP hD hS [] rfl (by decide +kernel)⟩ rfl rfl hl.1 rfl (lv_room (Nat.le_of_ble_eq_true rfl)) dJ1_charAt_3b067_3 ⟨Nat.le_of_ble_eq_true rfl, Nat.le_of_ble_eq_true rfl⟩) [] [] rfl rfl rfl rfl (fun u_1 H locs hw_3 hP7 hD7 hS7 => ?_)
  clear hP hD hS
  have hP := hP7
  have hD := hD7
  have hS := hS7
  clear hP7 hD7 hS7
  replace hP : va_P D CLS [] H := hP
  replace hD : va_D A [] := hD
  refine lv_aload_n hx hb dJ1_charAt_3b067_6 rfl (lv_at hl 0 rfl) ?_
  refine lv_iload_n hx hb dJ1_charAt_3b067_7 rfl (lv_at hl 1 rfl) ?_
  refine va_tb (v := .int (nI (T.getD k 0))) hx hb (hG).2.2.2 hS (vp_in_nI (by omega) (by omega)) (by rw [nI_clamp (by omega)]) dJ1_charAt_3b067_8 ?_
  refine lv_sipush (v := 255) hx hb dJ1_charAt_3b067_9 (by decide) ?_
  refine lv_iand hx hb dJ1_charAt_3b067_12 ?_
  refine lv_i2c hx hb dJ1_charAt_3b067_13 rfl ?_
  refine k_topi (show ((((nI (T.getD k 0)) &&& 255).toUInt32 % 65536).toInt32) = (nI (T.getD k 0)) from ((nb128 _ (hT k)).2.2.1)) ?_
  have hr9 : (nI (T.getD k 0)) = (nI (T.getD k 0)) := by rfl
  have hP9 : va_P D CLS [] H := by exact kSub hP [] rfl
  have hD9 : va_D A [] := by exact hD.sub [] (by decide +kernel) rfl
  exact W.zret (v := nI (T.getD k 0)) hx hb hr ((nb128 _ (hT k)).2.2.2) (fun t9 ht9 hW9 => ⟨⟨nI (T.getD k 0), (), rfl, hr9, by rw [ht9]; exact hP9, va_K.moved hW9.alike hK, hD9⟩, hS.F ht9⟩) hS.2.2 dJ1_charAt_3b067_14
theorem dJ0_charAt_5068e_0 : decode cJ0_charAt_5068e 0 = .ok (.aload_n 0, 1) := by decide +kernel
theorem dJ0_charAt_5068e_1 : decode cJ0_charAt_5068e 1 = .ok (.invokevirtual 492, 3) := by decide +kernel
theorem dJ0_charAt_5068e_4 : decode cJ0_charAt_5068e 4 = .ok (.ifCond .eq 12, 3) := by decide +kernel
theorem dJ0_charAt_5068e_7 : decode cJ0_charAt_5068e 7 = .ok (.aload_n 0, 1) := by decide +kernel
theorem dJ0_charAt_5068e_8 : decode cJ0_charAt_5068e 8 = .ok (.getfield 9, 3) := by decide +kernel
theorem dJ0_charAt_5068e_11 : decode cJ0_charAt_5068e 11 = .ok (.iload_n 1, 1) := by decide +kernel
theorem dJ0_charAt_5068e_12 : decode cJ0_charAt_5068e 12 = .ok (.invokestatic 495, 3) := by decide +kernel
theorem dJ0_charAt_5068e_15 : decode cJ0_charAt_5068e 15 = .ok (.ireturn, 1) := by decide +kernel
set_option maxHeartbeats 4000000 in
set_option maxRecDepth 100000 in
/-- String.charAt -/
theorem c_J0_charAt_5068e (l9 : Launch) (z : Nat → Nat) (D : va_G) (g : Nat → ClassId) (sa : Nat) (sv : Nat) (T : List Nat) (k : Nat) (hk : k < T.length) (hT : Asc T) (hm : T.length < 100000) (sz : Nat) : Met l9 yJ0_charAt_5068e (WS yJ0_charAt_5068e cJ0_charAt_5068e 2 (some .char)) ({ frames := 3, cells := 0, slots := 0, locals := 64 }) (va_Pc [.ref sa, .int (nI k)] (kPreT sa sv T z D g [] sz)) (va_Qi (fun (r9 : Int32) (u9 : Unit) => r9 = nI (T.getD k 0)) (kB D g (va_A [] sz) (fun (u9 : Unit) => [])) (va_A [] sz)) 0 0 (va_A [] sz) := by
  refine Met.ofW (cc := cJ0_charAt_5068e) (maxL := 2) (ret := (some .char)) (by decide) rfl ?_
  intro p9 e9 s9 m9 args9 below9 meth9 c9 s₁ B hml hv
  obtain ⟨rfl, hsz, hP, hK, hD0, hZ, hY, hG⟩ := hv
  have hx := B.exec
  have hb := B.bytes
  have hr := B.returns
  have hts := ws_sub (atoms_spec (ws := WS yJ0_charAt_5068e cJ0_charAt_5068e 2 (some .char)) B.pre)
  have hown : s9.vm.findClass RJ0 = some m9.cls := findClass_of_methodNamed B.named
  have hlocks := B.notSynchronized
  subst hsz
  have hD := hD0.self (sz := s9.heap.size)
  generalize hAe : va_A [] s9.heap.size = A at hD hZ hY hG ⊢
  have hA : ∀ q : Nat, s9.heap.size ≤ q → A q := fun q h => by rw [← hAe]; exact Or.inr h
  have hS : va_S A s9.heap s9.heap [] := va_S.rf
  have hP : va_P D CLS [] s9.heap := hP
  have hl := lv_entry ([.ref sa, .int (nI k)]) (n := 2) (Nat.le_of_ble_eq_true rfl)
  rw [lg_entry_eq]
  generalize (lg_sl ([.ref sa, .int (nI k)]) ++ List.replicate (2 - (lg_sl ([.ref sa, .int (nI k)])).length) Slot.unset).toArray = ls at hl ⊢
  have hl : lv_has ls 2 [(0, .ref sa), (1, .int (nI k))] := hl
  change W p9 l9 e9 ({ frames := 3, cells := 0, slots := 0, locals := 64 } : Room) s9 m9 _ below9 meth9 c9 _ _ _ _ _ _
  refine lv_aload_n hx hb dJ0_charAt_5068e_0 rfl (lv_at hl 0 rfl) ?_
  refine k_i hA hP hD hS [] (va_runV (As := []) (rest := []) ⟨hx, hb, hml, hown, hts⟩ (c_J0_isLatin1_aae02 l9 z D g sa sv T  (Array.size s9.heap)) (cwV 0 hts gv_J0_492 rfl rfl rfl (by decide +kernel) ⟨Nat.le_of_ble_eq_true rfl, Nat.le_of_ble_eq_true rfl⟩) ⟨kBlindT, vO_recv (hG).1 hS, kPreT.pc hG hY hK hZ hA hP hD hS [] rfl (by decide +kernel)⟩ rfl rfl hl.1 rfl (lv_room (Nat.le_of_ble_eq_true rfl)) dJ0_charAt_5068e_1 ⟨Nat.le_of_ble_eq_true rfl, Nat.le_of_ble_eq_true rfl⟩) [] [] rfl rfl rfl rfl (fun r_1 u_1 H locs hw_1 hP7 hD7 hS7 => ?_)
  clear hP hD hS
  have hP := hP7
  have hD := hD7
  have hS := hS7
  clear hP7 hD7 hS7
  obtain rfl := hw_1.symm
  replace hP : va_P D CLS [] H := hP
  replace hD : va_D A [] := hD
  refine lv_if_eq (tgt := 16) hx hb dJ0_charAt_5068e_4 (by decide) (fun c_4 => ?_) (fun c_4 => ?_)
  · skip
    exact absurd c_4 (by decide)
  · skip
    refine lv_aload_n hx hb dJ0_charAt_5068e_7 rfl (lv_at hl 0 rfl) ?_
    refine vk_getf (v := .ref sv) hx hb (hG).2.2.1 hS hown (hts _ w_1450) (fun _ h9 => h9) dJ0_charAt_5068e_8 ?_
    refine lv_iload_n hx hb dJ0_charAt_5068e_11 rfl (lv_at hl 1 rfl) ?_
    refine k_i hA hP hD hS [] (va_runS (As := [.ref sv, .int (nI k)]) (rest := []) ⟨hx, hb, hml, hown, hts⟩ (c_J1_charAt_3b067 l9 z D g sa sv T k (by first | assumption | decide | omega) (by first | assumption | decide | omega) (by first | assumption | decide | omega) (Array.size H)) (va_cwS 2 hts gs_J0_495 rfl rfl rfl (by decide +kernel) ⟨Nat.le_of_ble_eq_true rfl, Nat.le_of_ble_eq_true rfl⟩) ⟨kBlindT, kPreT.pc hG hY hK hZ hA hP hD hS [] rfl (by decide +kernel)⟩ rfl rfl hl.1 rfl (lv_room (Nat.le_of_ble_eq_true rfl)) dJ0_charAt_5068e_12 ⟨Nat.le_of_ble_eq_true rfl, Nat.le_of_ble_eq_true rfl⟩) [] [] rfl rfl rfl rfl (fun r_12 u_2 H locs hw_12 hP7 hD7 hS7 => ?_)
    clear hP hD hS
    have hP := hP7
    have hD := hD7
    have hS := hS7
    clear hP7 hD7 hS7
    obtain rfl := hw_12
    replace hP : va_P D CLS [] H := hP
    replace hD : va_D A [] := hD
    have hr9 : (nI (T.getD k 0)) = (nI (T.getD k 0)) := by rfl
    have hP9 : va_P D CLS [] H := by exact kSub hP [] rfl
    have hD9 : va_D A [] := by exact hD.sub [] (by decide +kernel) rfl
    exact W.zret (v := nI (T.getD k 0)) hx hb hr ((nb128 _ (hT k)).2.2.2) (fun t9 ht9 hW9 => ⟨⟨nI (T.getD k 0), (), rfl, hr9, by rw [ht9]; exact hP9, va_K.moved hW9.alike hK, hD9⟩, hS.F ht9⟩) hS.2.2 dJ0_charAt_5068e_15
theorem dJ0_getBytes_840e7_0 : decode cJ0_getBytes_840e7 0 = .ok (.aload_n 0, 1) := by decide +kernel
theorem dJ0_getBytes_840e7_1 : decode cJ0_getBytes_840e7 1 = .ok (.invokevirtual 335, 3) := by decide +kernel
theorem dJ0_getBytes_840e7_4 : decode cJ0_getBytes_840e7 4 = .ok (.iload_n 3, 1) := by decide +kernel
theorem dJ0_getBytes_840e7_5 : decode cJ0_getBytes_840e7 5 = .ok (.if_icmp .ne 23, 3) := by decide +kernel
theorem dJ0_getBytes_840e7_8 : decode cJ0_getBytes_840e7 8 = .ok (.aload_n 0, 1) := by decide +kernel
theorem dJ0_getBytes_840e7_9 : decode cJ0_getBytes_840e7 9 = .ok (.getfield 9, 3) := by decide +kernel
theorem dJ0_getBytes_840e7_12 : decode cJ0_getBytes_840e7 12 = .ok (.iconst 0, 1) := by decide +kernel
theorem dJ0_getBytes_840e7_13 : decode cJ0_getBytes_840e7 13 = .ok (.aload_n 1, 1) := by decide +kernel
theorem dJ0_getBytes_840e7_14 : decode cJ0_getBytes_840e7 14 = .ok (.iload_n 2, 1) := by decide +kernel
theorem dJ0_getBytes_840e7_15 : decode cJ0_getBytes_840e7 15 = .ok (.iload_n 3, 1) := by decide +kernel
theorem dJ0_getBytes_840e7_16 : decode cJ0_getBytes_840e7 16 = .ok (.ishl, 1) := by decide +kernel
theorem dJ0_getBytes_840e7_17 : decode cJ0_getBytes_840e7 17 = .ok (.aload_n 0, 1) := by decide +kernel
theorem dJ0_getBytes_840e7_18 : decode cJ0_getBytes_840e7 18 = .ok (.getfield 9, 3) := by decide +kernel
theorem dJ0_getBytes_840e7_21 : decode cJ0_getBytes_840e7 21 = .ok (.arraylength, 1) := by decide +kernel
theorem dJ0_getBytes_840e7_22 : decode cJ0_getBytes_840e7 22 = .ok (.invokestatic 212, 3) := by decide +kernel
theorem dJ0_getBytes_840e7_25 : decode cJ0_getBytes_840e7 25 = .ok (.goto 18, 3) := by decide +kernel
theorem dJ0_getBytes_840e7_43 : decode cJ0_getBytes_840e7 43 = .ok (.return_, 1) := by decide +kernel
set_option maxHeartbeats 4000000 in
set_option maxRecDepth 100000 in
/-- String.getBytes into a row -/
theorem c_J0_getBytes_840e7 (l9 : Launch) (z : Nat → Nat) (D : va_G) (g : Nat → ClassId) (sa : Nat) (sv : Nat) (T : List Nat) (dv : Nat) (m : Nat) (bf : Nat → Int32) (k : Nat) (hk : k + T.length ≤ m) (hm : m ≤ 4002) (hT : Asc T) (sz : Nat) : Met l9 yJ0_getBytes_840e7 (WS yJ0_getBytes_840e7 cJ0_getBytes_840e7 4 none) ({ frames := 1, cells := 0, slots := 0, locals := 40 }) (va_Pc [.ref sa, .ref dv, .int (nI k), .int 0] (kPreT sa sv T z D g [(dv, .inl (g 3, m, .inl bf))] sz)) (va_Qv (fun (u9 : Unit) => True) (kB D g (va_A [(dv, .inl (g 3, m, .inl bf))] sz) (fun (u9 : Unit) => [(dv, .inl (g 3, m, .inl (va_cpy (fun j => nI (T.getD j 0)) bf 0 k T.length)))])) (va_A [(dv, .inl (g 3, m, .inl bf))] sz)) 0 0 (va_A [(dv, .inl (g 3, m, .inl bf))] sz) := by
  refine Met.ofW (cc := cJ0_getBytes_840e7) (maxL := 4) (ret := none) (by decide) rfl ?_
  intro p9 e9 s9 m9 args9 below9 meth9 c9 s₁ B hml hv
  obtain ⟨rfl, hsz, hP, hK, hD0, hZ, hY, hG⟩ := hv
  have hx := B.exec
  have hb := B.bytes
  have hr := B.returns
  have hts := ws_sub (atoms_spec (ws := WS yJ0_getBytes_840e7 cJ0_getBytes_840e7 4 none) B.pre)
  have hown : s9.vm.findClass RJ0 = some m9.cls := findClass_of_methodNamed B.named
  have hlocks := B.notSynchronized
  subst hsz
  have hD := hD0.self (sz := s9.heap.size)
  generalize hAe : va_A [(dv, .inl (g 3, m, .inl bf))] s9.heap.size = A at hD hZ hY hG ⊢
  have hA : ∀ q : Nat, s9.heap.size ≤ q → A q := fun q h => by rw [← hAe]; exact Or.inr h
  have hS : va_S A s9.heap s9.heap [] := va_S.rf
  have hP : va_P D CLS [(dv, .inl (g 3, m, .inl bf))] s9.heap := hP
  have hl := lv_entry ([.ref sa, .ref dv, .int (nI k), .int 0]) (n := 4) (Nat.le_of_ble_eq_true rfl)
  rw [lg_entry_eq]
  generalize (lg_sl ([.ref sa, .ref dv, .int (nI k), .int 0]) ++ List.replicate (4 - (lg_sl ([.ref sa, .ref dv, .int (nI k), .int 0])).length) Slot.unset).toArray = ls at hl ⊢
  have hl : lv_has ls 4 [(0, .ref sa), (1, .ref dv), (2, .int (nI k)), (3, .int 0)] := hl
  change W p9 l9 e9 ({ frames := 1, cells := 0, slots := 0, locals := 40 } : Room) s9 m9 _ below9 meth9 c9 _ _ _ _ _ _
  refine lv_aload_n hx hb dJ0_getBytes_840e7_0 rfl (lv_at hl 0 rfl) ?_
  refine k_i hA hP hD hS [(dv, .inl (g 3, m, .inl bf))] (va_runV (As := []) (rest := []) ⟨hx, hb, hml, hown, hts⟩ (c_J0_coder_7d493 l9 z D g sa sv T  (Array.size s9.heap)) (cwV 0 hts gv_J0_335 rfl rfl rfl (by decide +kernel) ⟨Nat.le_of_ble_eq_true rfl, Nat.le_of_ble_eq_true rfl⟩) ⟨kBlindT, vO_recv (hG).1 hS, kPreT.pc hG hY hK hZ hA hP hD hS [] rfl (by decide +kernel)⟩ rfl rfl hl.1 rfl (lv_room (Nat.le_of_ble_eq_true rfl)) dJ0_getBytes_840e7_1 ⟨Nat.le_of_ble_eq_true rfl, Nat.le_of_ble_eq_true rfl⟩) [] [0] rfl rfl rfl rfl (fun r_1 u_1 H locs hw_1 hP7 hD7 hS7 => ?_)
  clear hP hD hS
  have hP := hP7
  have hD := hD7
  have hS := hS7
  clear hP7 hD7 hS7
  obtain rfl := hw_1.symm
  replace hP : va_P D CLS [(dv, .inl (g 3, m, .inl bf))] H := hP
  replace hD : va_D A [(dv, .inl (g 3, m, .inl bf))] := hD
  refine lv_iload_n hx hb dJ0_getBytes_840e7_4 rfl (lv_at hl 3 rfl) ?_
  refine lv_icmp_ne (tgt := 28) hx hb dJ0_getBytes_840e7_5 (by decide) (fun c_5 => ?_) (fun c_5 => ?_)
  · skip
    exact absurd ((nI_eq (a := 0) (b := 0) (by omega) (by omega)).mpr (by decide)) c_5
  · skip
    have c_5 : 0 = 0 := (nI_eq (a := 0) (b := 0) (by omega) (by omega)).mp c_5
    refine lv_aload_n hx hb dJ0_getBytes_840e7_8 rfl (lv_at hl 0 rfl) ?_
    refine vk_getf (v := .ref sv) hx hb (hG).2.2.1 hS hown (hts _ w_1450) (fun _ h9 => h9) dJ0_getBytes_840e7_9 ?_
    refine lv_iconst (v := 0) hx hb dJ0_getBytes_840e7_12 (by decide) ?_
    refine lv_aload_n hx hb dJ0_getBytes_840e7_13 rfl (lv_at hl 1 rfl) ?_
    refine lv_iload_n hx hb dJ0_getBytes_840e7_14 rfl (lv_at hl 2 rfl) ?_
    refine lv_iload_n hx hb dJ0_getBytes_840e7_15 rfl (lv_at hl 3 rfl) ?_
    refine lv_ishl hx hb dJ0_getBytes_840e7_16 ?_
    refine k_topi (show ((nI k) <<< (0 &&& 31)) = (nI k) from sb_shl0 _) ?_
    refine lv_aload_n hx hb dJ0_getBytes_840e7_17 rfl (lv_at hl 0 rfl) ?_
    refine vk_getf (v := .ref sv) hx hb (hG).2.2.1 hS hown (hts _ w_1450) (fun _ h9 => h9) dJ0_getBytes_840e7_18 ?_
    refine va_tlen (v := nI T.length) hx hb (hG).2.2.2 hS rfl dJ0_getBytes_840e7_21 ?_
    refine vk_copyt hx hb (by rw [hml]; exact hl.1.symm) hown (hts _ w_1348) (hts _ w_728) (hts _ w_727) (hts _ w_56) hK hP hD hS (hG).2.2.2 0 3 rfl rfl (by decide) (nI_pos (by omega)) (nI_pos (by omega)) (by rw [(show (0 : Int32).toNatClampNeg = 0 from sb_cl0), (show (nI T.length).toNatClampNeg = T.length from nI_clamp (by omega))]; omega) (by rw [(show (nI k).toNatClampNeg = k from nI_clamp (by omega)), (show (nI T.length).toNatClampNeg = T.length from nI_clamp (by omega))]; omega) (fun i _ => hT.fit _) (Nat.le_of_ble_eq_true rfl) (Nat.le_of_ble_eq_true rfl) dJ0_getBytes_840e7_22 (fun H locs hP7 hD7 hS7 => ?_)
    clear hP hD hS
    have hP := hP7
    have hD := hD7
    have hS := hS7
    clear hP7 hD7 hS7
    rw [(show (0 : Int32).toNatClampNeg = 0 from sb_cl0), (show (nI k).toNatClampNeg = k from nI_clamp (by omega)), (show (nI T.length).toNatClampNeg = T.length from nI_clamp (by omega))] at hP hD
    replace hP : va_P D CLS [(dv, .inl (g 3, m, .inl (va_cpy (fun j => nI (T.getD j 0)) bf 0 k T.length)))] H := hP
    replace hD : va_D A [(dv, .inl (g 3, m, .inl (va_cpy (fun j => nI (T.getD j 0)) bf 0 k T.length)))] := hD
    refine lv_goto (tgt := 43) hx hb dJ0_getBytes_840e7_25 (by decide) ?_
    have hP9 : va_P D CLS [(dv, .inl (g 3, m, .inl (va_cpy (fun j => nI (T.getD j 0)) bf 0 k T.length)))] H := by exact kSub hP [0] rfl
    have hD9 : va_D A [(dv, .inl (g 3, m, .inl (va_cpy (fun j => nI (T.getD j 0)) bf 0 k T.length)))] := by exact hD.sub [0] (by decide +kernel) rfl
    exact W.vret hx hb hr (fun t9 ht9 hW9 => ⟨⟨(), rfl, trivial, by rw [ht9]; exact hP9, va_K.moved hW9.alike hK, hD9⟩, hS.F ht9⟩) hS.2.2 dJ0_getBytes_840e7_43
theorem dJ5_init_d00df_0 : decode cJ5_init_d00df 0 = .ok (.aload_n 0, 1) := by decide +kernel
theorem dJ5_init_d00df_1 : decode cJ5_init_d00df 1 = .ok (.invokespecial 3, 3) := by decide +kernel
theorem dJ5_init_d00df_4 : decode cJ5_init_d00df 4 = .ok (.getstatic 18, 3) := by decide +kernel
theorem dJ5_init_d00df_7 : decode cJ5_init_d00df 7 = .ok (.ifCond .eq 18, 3) := by decide +kernel
theorem dJ5_init_d00df_10 : decode cJ5_init_d00df 10 = .ok (.aload_n 0, 1) := by decide +kernel
theorem dJ5_init_d00df_11 : decode cJ5_init_d00df 11 = .ok (.iload_n 1, 1) := by decide +kernel
theorem dJ5_init_d00df_12 : decode cJ5_init_d00df 12 = .ok (.newarray .byte, 2) := by decide +kernel
theorem dJ5_init_d00df_14 : decode cJ5_init_d00df 14 = .ok (.putfield 15, 3) := by decide +kernel
theorem dJ5_init_d00df_17 : decode cJ5_init_d00df 17 = .ok (.aload_n 0, 1) := by decide +kernel
theorem dJ5_init_d00df_18 : decode cJ5_init_d00df 18 = .ok (.iconst 0, 1) := by decide +kernel
theorem dJ5_init_d00df_19 : decode cJ5_init_d00df 19 = .ok (.putfield 22, 3) := by decide +kernel
theorem dJ5_init_d00df_22 : decode cJ5_init_d00df 22 = .ok (.goto 16, 3) := by decide +kernel
theorem dJ5_init_d00df_38 : decode cJ5_init_d00df 38 = .ok (.return_, 1) := by decide +kernel
set_option maxHeartbeats 4000000 in
set_option maxRecDepth 100000 in
/-- AbstractStringBuilder(16) -/
theorem c_J5_init_d00df (l9 : Launch) (z : Nat → Nat) (D : va_G) (g : Nat → ClassId) (sb : Nat) (sz : Nat) : Met l9 yJ5_init_d00df (WS yJ5_init_d00df cJ5_init_d00df 2 none) ({ frames := 1, cells := 1, slots := 16, locals := 12 }) (va_Pc [.ref sb, .int 16] (kPreL z D g [(sb, .inr (10, [.null, .int 0, .int 0, .int 0]))] sz)) (va_Qv (fun (u9 : Nat) => True) (kB D g (va_A [(sb, .inr (10, [.null, .int 0, .int 0, .int 0]))] sz) (fun (u9 : Nat) => [(sb, .inr (10, [.ref u9, .int 0, .int 0, .int 0])), (u9, .inl (g 3, 16, .inl (fun _ => 0)))])) (va_A [(sb, .inr (10, [.null, .int 0, .int 0, .int 0]))] sz)) 1 16 (va_A [(sb, .inr (10, [.null, .int 0, .int 0, .int 0]))] sz) := by
  refine Met.ofW (cc := cJ5_init_d00df) (maxL := 2) (ret := none) (by decide) rfl ?_
  intro p9 e9 s9 m9 args9 below9 meth9 c9 s₁ B hml hv
  obtain ⟨rfl, hsz, hP, hK, hD0, hZ, hY⟩ := hv
  have hx := B.exec
  have hb := B.bytes
  have hr := B.returns
  have hts := ws_sub (atoms_spec (ws := WS yJ5_init_d00df cJ5_init_d00df 2 none) B.pre)
  have hown : s9.vm.findClass RJ5 = some m9.cls := findClass_of_methodNamed B.named
  have hlocks := B.notSynchronized
  have hin : meth9.name = "<init>" := (name_of_methodNamed B.named B.method).1
  subst hsz
  have hD := hD0.self (sz := s9.heap.size)
  generalize hAe : va_A [(sb, .inr (10, [.null, .int 0, .int 0, .int 0]))] s9.heap.size = A at hD hZ hY ⊢
  have hA : ∀ q : Nat, s9.heap.size ≤ q → A q := fun q h => by rw [← hAe]; exact Or.inr h
  have hS : va_S A s9.heap s9.heap [] := va_S.rf
  have hP : va_P D CLS [(sb, .inr (10, [.null, .int 0, .int 0, .int 0]))] s9.heap := hP
  have hl := lv_entry ([.ref sb, .int 16]) (n := 2) (Nat.le_of_ble_eq_true rfl)
  rw [lg_entry_eq]
  generalize (lg_sl ([.ref sb, .int 16]) ++ List.replicate (2 - (lg_sl ([.ref sb, .int 16])).length) Slot.unset).toArray = ls at hl ⊢
  have hl : lv_has ls 2 [(0, .ref sb), (1, .int 16)] := hl
  change W p9 l9 e9 ({ frames := 1, cells := 1, slots := 16, locals := 12 } : Room) s9 m9 _ below9 meth9 c9 _ _ _ _ _ _
  refine lv_aload_n hx hb dJ5_init_d00df_0 rfl (lv_at hl 0 rfl) ?_
  refine W.objInit hx hb hown (hts _ w_1390) (hts _ w_84) (hts _ w_85) rfl (by rw [hml]; exact hl.1) rfl dJ5_init_d00df_1 (Nat.le_of_ble_eq_true rfl) (Nat.le_of_ble_eq_true rfl) ?_
  refine W.eq (g2 := F0 m9 4 ls []) rfl ?_
  refine va_gets (n := "COMPACT_STRINGS") hx hb hY.cs hS hown (hts _ w_1292) (fun _ h9 => h9) dJ5_init_d00df_4 ?_
  refine lv_if_eq (tgt := 25) hx hb dJ5_init_d00df_7 (by decide) (fun c_7 => ?_) (fun c_7 => ?_)
  · skip
    exact absurd c_7 (by decide)
  · skip
    refine lv_aload_n hx hb dJ5_init_d00df_10 rfl (lv_at hl 0 rfl) ?_
    refine lv_iload_n hx hb dJ5_init_d00df_11 rfl (lv_at hl 1 rfl) ?_
    refine va_newa (atype := .byte) (ty := .byte) (N' := 16) (a0 := (16, .inl (fun _ => 0))) hx hb (hts _ w_505) rfl hK hP hD hS hA (fun _ => rfl) (by decide) (by decide) (by decide) (Nat.le_of_ble_eq_true rfl) (Nat.le_of_ble_eq_true rfl) dJ5_init_d00df_12 (fun q_1 cA H hK9 hP hD hS => ?_)
    obtain rfl := k_clsB hK hK9
    replace hP : va_P D CLS [(sb, .inr (10, [.null, .int 0, .int 0, .int 0])), (q_1, .inl (g 3, 16, .inl (fun _ => 0)))] H := hP
    replace hD : va_D A [(sb, .inr (10, [.null, .int 0, .int 0, .int 0])), (q_1, .inl (g 3, 16, .inl (fun _ => 0)))] := hD
    refine va_put (D := D) (ci := 10) (v := .ref q_1) (ty := .array .byte) (C := RB1) (T := TB1) (N := 4) hx hb hts in_B1 tyB1 tyB1_ok nmB1 hown hK hP hD hS 0 rfl rfl 0 (by decide) (hts _ w_1391) (fun _ h9 => h9) rfl (by decide +kernel) rfl rfl (Nat.le_of_ble_eq_true rfl) dJ5_init_d00df_14 (fun H locs hP7 hD7 hS7 => ?_)
    clear hP hD hS
    have hP := hP7
    have hD := hD7
    have hS := hS7
    clear hP7 hD7 hS7
    replace hP : va_P D CLS [(sb, .inr (10, [.ref q_1, .int 0, .int 0, .int 0])), (q_1, .inl (g 3, 16, .inl (fun _ => 0)))] H := hP
    replace hD : va_D A [(sb, .inr (10, [.ref q_1, .int 0, .int 0, .int 0])), (q_1, .inl (g 3, 16, .inl (fun _ => 0)))] := hD
    refine lv_aload_n hx hb dJ5_init_d00df_17 rfl (lv_at hl 0 rfl) ?_
    refine lv_iconst (v := 0) hx hb dJ5_init_d00df_18 (by decide) ?_
    refine va_put (D := D) (ci := 10) (v := .int 0) (ty := .byte) (C := RB1) (T := TB1) (N := 4) hx hb hts in_B1 tyB1 tyB1_ok nmB1 hown hK hP hD hS 0 rfl rfl 1 (by decide) (hts _ w_1392) (fun _ h9 => h9) rfl (by decide +kernel) rfl rfl (Nat.le_of_ble_eq_true rfl) dJ5_init_d00df_19 (fun H locs hP7 hD7 hS7 => ?_)
    clear hP hD hS
    have hP := hP7
    have hD := hD7
    have hS := hS7
    clear hP7 hD7 hS7
    replace hP : va_P D CLS [(sb, .inr (10, [.ref q_1, .int 0, .int 0, .int 0])), (q_1, .inl (g 3, 16, .inl (fun _ => 0)))] H := hP
    replace hD : va_D A [(sb, .inr (10, [.ref q_1, .int 0, .int 0, .int 0])), (q_1, .inl (g 3, 16, .inl (fun _ => 0)))] := hD
    refine lv_goto (tgt := 38) hx hb dJ5_init_d00df_22 (by decide) ?_
    have hP9 : va_P D CLS [(sb, .inr (10, [.ref q_1, .int 0, .int 0, .int 0])), (q_1, .inl (g 3, 16, .inl (fun _ => 0)))] H := by exact kSub hP [0, 1] rfl
    have hD9 : va_D A [(sb, .inr (10, [.ref q_1, .int 0, .int 0, .int 0])), (q_1, .inl (g 3, 16, .inl (fun _ => 0)))] := by exact hD.sub [0, 1] (by decide +kernel) rfl
    refine W.widen (k := 1) (n := 16) (by omega) (by omega) ?_
    exact W.vret hx hb hr (fun t9 ht9 hW9 => ⟨⟨q_1, rfl, trivial, by rw [ht9]; exact hP9, va_K.moved hW9.alike hK, hD9⟩, hS.F ht9⟩) hS.2.2 dJ5_init_d00df_38
theorem dJ4_init_da8c8_0 : decode cJ4_init_da8c8 0 = .ok (.aload_n 0, 1) := by decide +kernel
theorem dJ4_init_da8c8_1 : decode cJ4_init_da8c8 1 = .ok (.bipush 16, 2) := by decide +kernel
theorem dJ4_init_da8c8_3 : decode cJ4_init_da8c8 3 = .ok (.invokespecial 1, 3) := by decide +kernel
theorem dJ4_init_da8c8_6 : decode cJ4_init_da8c8 6 = .ok (.return_, 1) := by decide +kernel
set_option maxHeartbeats 4000000 in
set_option maxRecDepth 100000 in
/-- StringBuilder() -/
theorem c_J4_init_da8c8 (l9 : Launch) (z : Nat → Nat) (D : va_G) (g : Nat → ClassId) (sb : Nat) (sz : Nat) : Met l9 yJ4_init_da8c8 (WS yJ4_init_da8c8 cJ4_init_da8c8 1 none) ({ frames := 2, cells := 1, slots := 16, locals := 33 }) (va_Pc [.ref sb] (kPreL z D g [(sb, .inr (10, [.null, .int 0, .int 0, .int 0]))] sz)) (va_Qv (fun (u9 : Nat) => True) (kB D g (va_A [(sb, .inr (10, [.null, .int 0, .int 0, .int 0]))] sz) (fun (u9 : Nat) => [(sb, .inr (10, [.ref u9, .int 0, .int 0, .int 0])), (u9, .inl (g 3, 16, .inl (fun _ => 0)))])) (va_A [(sb, .inr (10, [.null, .int 0, .int 0, .int 0]))] sz)) 1 16 (va_A [(sb, .inr (10, [.null, .int 0, .int 0, .int 0]))] sz) := by
  refine Met.ofW (cc := cJ4_init_da8c8) (maxL := 1) (ret := none) (by decide) rfl ?_
  intro p9 e9 s9 m9 args9 below9 meth9 c9 s₁ B hml hv
  obtain ⟨rfl, hsz, hP, hK, hD0, hZ, hY⟩ := hv
  have hx := B.exec
  have hb := B.bytes
  have hr := B.returns
  have hts := ws_sub (atoms_spec (ws := WS yJ4_init_da8c8 cJ4_init_da8c8 1 none) B.pre)
  have hown : s9.vm.findClass RJ4 = some m9.cls := findClass_of_methodNamed B.named
  have hlocks := B.notSynchronized
  have hin : meth9.name = "<init>" := (name_of_methodNamed B.named B.method).1
  subst hsz
  have hD := hD0.self (sz := s9.heap.size)
  generalize hAe : va_A [(sb, .inr (10, [.null, .int 0, .int 0, .int 0]))] s9.heap.size = A at hD hZ hY ⊢
  have hA : ∀ q : Nat, s9.heap.size ≤ q → A q := fun q h => by rw [← hAe]; exact Or.inr h
  have hS : va_S A s9.heap s9.heap [] := va_S.rf
  have hP : va_P D CLS [(sb, .inr (10, [.null, .int 0, .int 0, .int 0]))] s9.heap := hP
  have hl := lv_entry ([.ref sb]) (n := 1) (Nat.le_of_ble_eq_true rfl)
  rw [lg_entry_eq]
  generalize (lg_sl ([.ref sb]) ++ List.replicate (1 - (lg_sl ([.ref sb])).length) Slot.unset).toArray = ls at hl ⊢
  have hl : lv_has ls 1 [(0, .ref sb)] := hl
  change W p9 l9 e9 ({ frames := 2, cells := 1, slots := 16, locals := 33 } : Room) s9 m9 _ below9 meth9 c9 _ _ _ _ _ _
  refine lv_aload_n hx hb dJ4_init_da8c8_0 rfl (lv_at hl 0 rfl) ?_
  refine lv_bipush (v := 16) hx hb dJ4_init_da8c8_1 (by decide) ?_
  refine k_v hA hP hD hS [] (va_runI (As := [.int 16]) (rest := []) ⟨hx, hb, hml, hown, hts⟩ (c_J5_init_d00df l9 z D g sb  (Array.size s9.heap)) (cwI 1 hts gw_J5_init_d00df rfl rfl rfl (hts _ w_48) (hts _ w_1387) (hts _ w_1388) rfl (by decide +kernel) ⟨Nat.le_of_ble_eq_true rfl, Nat.le_of_ble_eq_true rfl⟩) ⟨kBlindL, kPreL.pc hY hK hZ hA hP hD hS [0] rfl (by decide +kernel)⟩ rfl rfl hl.1 rfl (lv_room (Nat.le_of_ble_eq_true rfl)) dJ4_init_da8c8_3 ⟨Nat.le_of_ble_eq_true rfl, Nat.le_of_ble_eq_true rfl⟩) [0] [] rfl rfl rfl rfl (fun u_1 H locs hw_3 hP7 hD7 hS7 => ?_)
  clear hP hD hS
  have hP := hP7
  have hD := hD7
  have hS := hS7
  clear hP7 hD7 hS7
  obtain ⟨qvu_2, rfl⟩ : ∃ q, q = u_1 := ⟨_, rfl⟩
  try dsimp only at hw_3
  replace hP : va_P D CLS [(sb, .inr (10, [.ref qvu_2, .int 0, .int 0, .int 0])), (qvu_2, .inl (g 3, 16, .inl (fun _ => 0)))] H := hP
  replace hD : va_D A [(sb, .inr (10, [.ref qvu_2, .int 0, .int 0, .int 0])), (qvu_2, .inl (g 3, 16, .inl (fun _ => 0)))] := hD
  have hP9 : va_P D CLS [(sb, .inr (10, [.ref qvu_2, .int 0, .int 0, .int 0])), (qvu_2, .inl (g 3, 16, .inl (fun _ => 0)))] H := by exact kSub hP [0, 1] rfl
  have hD9 : va_D A [(sb, .inr (10, [.ref qvu_2, .int 0, .int 0, .int 0])), (qvu_2, .inl (g 3, 16, .inl (fun _ => 0)))] := by exact hD.sub [0, 1] (by decide +kernel) rfl
  refine W.widen (k := 1) (n := 16) (by omega) (by omega) ?_
  exact W.vret hx hb hr (fun t9 ht9 hW9 => ⟨⟨qvu_2, rfl, trivial, by rw [ht9]; exact hP9, va_K.moved hW9.alike hK, hD9⟩, hS.F ht9⟩) hS.2.2 dJ4_init_da8c8_6
theorem dJ5_isLatin1_aae02_0 : decode cJ5_isLatin1_aae02 0 = .ok (.getstatic 18, 3) := by decide +kernel
theorem dJ5_isLatin1_aae02_3 : decode cJ5_isLatin1_aae02 3 = .ok (.ifCond .eq 14, 3) := by decide +kernel
theorem dJ5_isLatin1_aae02_6 : decode cJ5_isLatin1_aae02 6 = .ok (.aload_n 0, 1) := by decide +kernel
theorem dJ5_isLatin1_aae02_7 : decode cJ5_isLatin1_aae02 7 = .ok (.getfield 22, 3) := by decide +kernel
theorem dJ5_isLatin1_aae02_10 : decode cJ5_isLatin1_aae02 10 = .ok (.ifCond .ne 7, 3) := by decide +kernel
theorem dJ5_isLatin1_aae02_13 : decode cJ5_isLatin1_aae02 13 = .ok (.iconst 1, 1) := by decide +kernel
theorem dJ5_isLatin1_aae02_14 : decode cJ5_isLatin1_aae02 14 = .ok (.goto 4, 3) := by decide +kernel
theorem dJ5_isLatin1_aae02_18 : decode cJ5_isLatin1_aae02 18 = .ok (.ireturn, 1) := by decide +kernel
set_option maxHeartbeats 4000000 in
set_option maxRecDepth 100000 in
/-- AbstractStringBuilder.isLatin1 -/
theorem c_J5_isLatin1_aae02 (l9 : Launch) (z : Nat → Nat) (D : va_G) (g : Nat → ClassId) (sb : Nat) (qv : Nat) (ml : Int32) (cn : Int32) (sz : Nat) : Met l9 yJ5_isLatin1_aae02 (WS yJ5_isLatin1_aae02 cJ5_isLatin1_aae02 1 (some .boolean)) ({ frames := 0, cells := 0, slots := 0, locals := 0 }) (va_Pc [.ref sb] (kPreL z D g [(sb, .inr (10, [.ref qv, .int 0, .int ml, .int cn]))] sz)) (va_Qi (fun (r9 : Int32) (u9 : Unit) => r9 = 1) (kB D g (va_A [(sb, .inr (10, [.ref qv, .int 0, .int ml, .int cn]))] sz) (fun (u9 : Unit) => [(sb, .inr (10, [.ref qv, .int 0, .int ml, .int cn]))])) (va_A [(sb, .inr (10, [.ref qv, .int 0, .int ml, .int cn]))] sz)) 0 0 (va_A [(sb, .inr (10, [.ref qv, .int 0, .int ml, .int cn]))] sz) := by
  refine Met.ofW (cc := cJ5_isLatin1_aae02) (maxL := 1) (ret := (some .boolean)) (by decide) rfl ?_
  intro p9 e9 s9 m9 args9 below9 meth9 c9 s₁ B hml hv
  obtain ⟨rfl, hsz, hP, hK, hD0, hZ, hY⟩ := hv
  have hx := B.exec
  have hb := B.bytes
  have hr := B.returns
  have hts := ws_sub (atoms_spec (ws := WS yJ5_isLatin1_aae02 cJ5_isLatin1_aae02 1 (some .boolean)) B.pre)
  have hown : s9.vm.findClass RJ5 = some m9.cls := findClass_of_methodNamed B.named
  have hlocks := B.notSynchronized
  subst hsz
  have hD := hD0.self (sz := s9.heap.size)
  generalize hAe : va_A [(sb, .inr (10, [.ref qv, .int 0, .int ml, .int cn]))] s9.heap.size = A at hD hZ hY ⊢
  have hA : ∀ q : Nat, s9.heap.size ≤ q → A q := fun q h => by rw [← hAe]; exact Or.inr h
  have hS : va_S A s9.heap s9.heap [] := va_S.rf
  have hP : va_P D CLS [(sb, .inr (10, [.ref qv, .int 0, .int ml, .int cn]))] s9.heap := hP
  have hl := lv_entry ([.ref sb]) (n := 1) (Nat.le_of_ble_eq_true rfl)
  rw [lg_entry_eq]
  generalize (lg_sl ([.ref sb]) ++ List.replicate (1 - (lg_sl ([.ref sb])).length) Slot.unset).toArray = ls at hl ⊢
  have hl : lv_has ls 1 [(0, .ref sb)] := hl
  change W p9 l9 e9 ({ frames := 0, cells := 0, slots := 0, locals := 0 } : Room) s9 m9 _ below9 meth9 c9 _ _ _ _ _ _
  refine va_gets (n := "COMPACT_STRINGS") hx hb hY.cs hS hown (hts _ w_1292) (fun _ h9 => h9) dJ5_isLatin1_aae02_0 ?_
  refine lv_if_eq (tgt := 17) hx hb dJ5_isLatin1_aae02_3 (by decide) (fun c_3 => ?_) (fun c_3 => ?_)
  · skip
    exact absurd c_3 (by decide)
  · skip
    refine lv_aload_n hx hb dJ5_isLatin1_aae02_6 rfl (lv_at hl 0 rfl) ?_
    refine va_get (D := D) (ci := 10) (v := .int 0) (C := RB1) (T := TB1) (N := 4) hx hb hts in_B1 hown hK hP 0 rfl rfl 1 (by decide) (hts _ w_1392) (fun _ h9 => h9) rfl dJ5_isLatin1_aae02_7 ?_
    refine lv_if_ne (tgt := 17) hx hb dJ5_isLatin1_aae02_10 (by decide) (fun c_10 => ?_) (fun c_10 => ?_)
    · skip
      exact absurd c_10 (by decide)
    · skip
      refine lv_iconst (v := 1) hx hb dJ5_isLatin1_aae02_13 (by decide) ?_
      refine lv_goto (tgt := 18) hx hb dJ5_isLatin1_aae02_14 (by decide) ?_
      have hr9 : (1 : Int32) = 1 := by rfl
      have hP9 : va_P D CLS [(sb, .inr (10, [.ref qv, .int 0, .int ml, .int cn]))] s9.heap := by exact kSub hP [0] rfl
      have hD9 : va_D A [(sb, .inr (10, [.ref qv, .int 0, .int ml, .int cn]))] := by exact hD.sub [0] (by decide +kernel) rfl
      exact W.zret (v := 1) hx hb hr (by first | exact k_nb0 | exact k_nb1 | exact k_nbI _ | simp) (fun t9 ht9 hW9 => ⟨⟨1, (), rfl, hr9, by rw [ht9]; exact hP9, va_K.moved hW9.alike hK, hD9⟩, hS.F ht9⟩) hS.2.2 dJ5_isLatin1_aae02_18
theorem dJ8_newLength_cabcc_0 : decode cJ8_newLength_cabcc 0 = .ok (.iload_n 0, 1) := by decide +kernel
theorem dJ8_newLength_cabcc_1 : decode cJ8_newLength_cabcc 1 = .ok (.iload_n 1, 1) := by decide +kernel
theorem dJ8_newLength_cabcc_2 : decode cJ8_newLength_cabcc 2 = .ok (.iload_n 2, 1) := by decide +kernel
theorem dJ8_newLength_cabcc_3 : decode cJ8_newLength_cabcc 3 = .ok (.invokestatic 194, 3) := by decide +kernel
theorem dJ8_newLength_cabcc_6 : decode cJ8_newLength_cabcc 6 = .ok (.iadd, 1) := by decide +kernel
theorem dJ8_newLength_cabcc_7 : decode cJ8_newLength_cabcc 7 = .ok (.istore_n 3, 1) := by decide +kernel
theorem dJ8_newLength_cabcc_8 : decode cJ8_newLength_cabcc 8 = .ok (.iconst 0, 1) := by decide +kernel
theorem dJ8_newLength_cabcc_9 : decode cJ8_newLength_cabcc 9 = .ok (.iload_n 3, 1) := by decide +kernel
theorem dJ8_newLength_cabcc_10 : decode cJ8_newLength_cabcc 10 = .ok (.if_icmp .ge 11, 3) := by decide +kernel
theorem dJ8_newLength_cabcc_13 : decode cJ8_newLength_cabcc 13 = .ok (.iload_n 3, 1) := by decide +kernel
theorem dJ8_newLength_cabcc_14 : decode cJ8_newLength_cabcc 14 = .ok (.ldc 200, 2) := by decide +kernel
theorem dJ8_newLength_cabcc_16 : decode cJ8_newLength_cabcc 16 = .ok (.if_icmp .gt 5, 3) := by decide +kernel
theorem dJ8_newLength_cabcc_19 : decode cJ8_newLength_cabcc 19 = .ok (.iload_n 3, 1) := by decide +kernel
theorem dJ8_newLength_cabcc_20 : decode cJ8_newLength_cabcc 20 = .ok (.ireturn, 1) := by decide +kernel
set_option maxHeartbeats 4000000 in
set_option maxRecDepth 100000 in
/-- ArraysSupport.newLength -/
theorem c_J8_newLength_cabcc (l9 : Launch) (z : Nat → Nat) (D : va_G) (g : Nat → ClassId) (a : Nat) (b : Nat) (c : Nat) (ha : a ≤ 10000) (hb9 : b ≤ 10000) (hc : c ≤ 10000) (hc1 : 1 ≤ c) (sz : Nat) : Met l9 yJ8_newLength_cabcc (WS yJ8_newLength_cabcc cJ8_newLength_cabcc 4 (some .int)) ({ frames := 1, cells := 0, slots := 0, locals := 16 }) (va_Pc [.int (nI a), .int (nI b), .int (nI c)] (kPre z D g [] sz)) (va_Qi (fun (r9 : Int32) (u9 : Unit) => r9 = nI (a + (b + (c - b)))) (kB D g (va_A [] sz) (fun (u9 : Unit) => [])) (va_A [] sz)) 0 0 (va_A [] sz) := by
  refine Met.ofW (cc := cJ8_newLength_cabcc) (maxL := 4) (ret := (some .int)) (by decide) rfl ?_
  intro p9 e9 s9 m9 args9 below9 meth9 c9 s₁ B hml hv
  obtain ⟨rfl, hsz, hP, hK, hD0, hZ⟩ := hv
  have hx := B.exec
  have hb := B.bytes
  have hr := B.returns
  have hts := ws_sub (atoms_spec (ws := WS yJ8_newLength_cabcc cJ8_newLength_cabcc 4 (some .int)) B.pre)
  have hown : s9.vm.findClass RJ8 = some m9.cls := findClass_of_methodNamed B.named
  have hlocks := B.notSynchronized
  subst hsz
  have hD := hD0.self (sz := s9.heap.size)
  generalize hAe : va_A [] s9.heap.size = A at hD hZ ⊢
  have hA : ∀ q : Nat, s9.heap.size ≤ q → A q := fun q h => by rw [← hAe]; exact Or.inr h
  have hS : va_S A s9.heap s9.heap [] := va_S.rf
  have hP : va_P D CLS [] s9.heap := hP
  have hl := lv_entry ([.int (nI a), .int (nI b), .int (nI c)]) (n := 4) (Nat.le_of_ble_eq_true rfl)
  rw [lg_entry_eq]
  generalize (lg_sl ([.int (nI a), .int (nI b), .int (nI c)]) ++ List.replicate (4 - (lg_sl ([.int (nI a), .int (nI b), .int (nI c)])).length) Slot.unset).toArray = ls at hl ⊢
  have hl : lv_has ls 4 [(0, .int (nI a)), (1, .int (nI b)), (2, .int (nI c))] := hl
  change W p9 l9 e9 ({ frames := 1, cells := 0, slots := 0, locals := 16 } : Room) s9 m9 _ below9 meth9 c9 _ _ _ _ _ _
  refine lv_iload_n hx hb dJ8_newLength_cabcc_0 rfl (lv_at hl 0 rfl) ?_
  refine lv_iload_n hx hb dJ8_newLength_cabcc_1 rfl (lv_at hl 1 rfl) ?_
  refine lv_iload_n hx hb dJ8_newLength_cabcc_2 rfl (lv_at hl 2 rfl) ?_
  refine va_mmax hx hb (by rw [hml]; exact hl.1.symm) hown (hts _ w_1269) (hts _ w_93) (hts _ w_54) (hts _ w_94) (Nat.le_of_ble_eq_true rfl) (Nat.le_of_ble_eq_true rfl) (Nat.le_of_ble_eq_true rfl) (Nat.le_of_ble_eq_true rfl) dJ8_newLength_cabcc_3 ?_
  refine lv_iadd hx hb dJ8_newLength_cabcc_6 ?_
  refine k_topi (show ((nI a) + (if (nI b) < (nI c) then (nI c) else (nI b))) = (nI (a + (b + (c - b)))) from (mx_add (by omega) (by omega))) ?_
  refine lv_istore_n (lv' := [(3, .int (nI (a + (b + (c - b))))), (0, .int (nI a)), (1, .int (nI b)), (2, .int (nI c))]) hx hb dJ8_newLength_cabcc_7 rfl hl (by decide) rfl (fun ls hl => ?_)
  refine lv_iconst (v := 0) hx hb dJ8_newLength_cabcc_8 (by decide) ?_
  refine lv_iload_n hx hb dJ8_newLength_cabcc_9 rfl (lv_at hl 0 rfl) ?_
  refine lv_icmp_ge (tgt := 21) hx hb dJ8_newLength_cabcc_10 (by decide) (fun c_10 => ?_) (fun c_10 => ?_)
  · skip
    have c_10 : (a + (b + (c - b))) ≤ 0 := (nI_leI (a := (a + (b + (c - b)))) (b := 0) (by omega) (by omega)).mp c_10
    omega
  · skip
    have c_10 : ¬ (a + (b + (c - b))) ≤ 0 := fun h => c_10 ((nI_leI (a := (a + (b + (c - b)))) (b := 0) (by omega) (by omega)).mpr h)
    refine lv_iload_n hx hb dJ8_newLength_cabcc_13 rfl (lv_at hl 0 rfl) ?_
    refine lv_ldc (own := RJ8) (v := 2147483639) hx hb hown (hts _ w_1270) dJ8_newLength_cabcc_14 ?_
    refine lv_icmp_gt (tgt := 21) hx hb dJ8_newLength_cabcc_16 (by decide) (fun c_16 => ?_) (fun c_16 => ?_)
    · skip
      have c_16 : 2147483639 < (a + (b + (c - b))) := (nI_ltI (a := 2147483639) (b := (a + (b + (c - b)))) (by omega) (by omega)).mp c_16
      omega
    · skip
      have c_16 : ¬ 2147483639 < (a + (b + (c - b))) := fun h => c_16 ((nI_ltI (a := 2147483639) (b := (a + (b + (c - b)))) (by omega) (by omega)).mpr h)
      refine lv_iload_n hx hb dJ8_newLength_cabcc_19 rfl (lv_at hl 0 rfl) ?_
      have hr9 : (nI (a + (b + (c - b)))) = (nI (a + (b + (c - b)))) := by rfl
      have hP9 : va_P D CLS [] s9.heap := by exact kSub hP [] rfl
      have hD9 : va_D A [] := by exact hD.sub [] (by decide +kernel) rfl
      exact W.iret (v := nI (a + (b + (c - b)))) hx hb hr (fun t9 ht9 hW9 => ⟨⟨nI (a + (b + (c - b))), (), rfl, hr9, by rw [ht9]; exact hP9, va_K.moved hW9.alike hK, hD9⟩, hS.F ht9⟩) hS.2.2 dJ8_newLength_cabcc_20
theorem dJ5_newCapacity_0f7a4_0 : decode cJ5_newCapacity_0f7a4 0 = .ok (.aload_n 0, 1) := by decide +kernel
theorem dJ5_newCapacity_0f7a4_1 : decode cJ5_newCapacity_0f7a4 1 = .ok (.getfield 15, 3) := by decide +kernel
theorem dJ5_newCapacity_0f7a4_4 : decode cJ5_newCapacity_0f7a4 4 = .ok (.arraylength, 1) := by decide +kernel
theorem dJ5_newCapacity_0f7a4_5 : decode cJ5_newCapacity_0f7a4 5 = .ok (.istore_n 2, 1) := by decide +kernel
theorem dJ5_newCapacity_0f7a4_6 : decode cJ5_newCapacity_0f7a4 6 = .ok (.iload_n 1, 1) := by decide +kernel
theorem dJ5_newCapacity_0f7a4_7 : decode cJ5_newCapacity_0f7a4 7 = .ok (.aload_n 0, 1) := by decide +kernel
theorem dJ5_newCapacity_0f7a4_8 : decode cJ5_newCapacity_0f7a4 8 = .ok (.getfield 22, 3) := by decide +kernel
theorem dJ5_newCapacity_0f7a4_11 : decode cJ5_newCapacity_0f7a4 11 = .ok (.ishl, 1) := by decide +kernel
theorem dJ5_newCapacity_0f7a4_12 : decode cJ5_newCapacity_0f7a4 12 = .ok (.istore_n 3, 1) := by decide +kernel
theorem dJ5_newCapacity_0f7a4_13 : decode cJ5_newCapacity_0f7a4 13 = .ok (.iload_n 3, 1) := by decide +kernel
theorem dJ5_newCapacity_0f7a4_14 : decode cJ5_newCapacity_0f7a4 14 = .ok (.iload_n 2, 1) := by decide +kernel
theorem dJ5_newCapacity_0f7a4_15 : decode cJ5_newCapacity_0f7a4 15 = .ok (.isub, 1) := by decide +kernel
theorem dJ5_newCapacity_0f7a4_16 : decode cJ5_newCapacity_0f7a4 16 = .ok (.istore 4, 2) := by decide +kernel
theorem dJ5_newCapacity_0f7a4_18 : decode cJ5_newCapacity_0f7a4 18 = .ok (.iload_n 2, 1) := by decide +kernel
theorem dJ5_newCapacity_0f7a4_19 : decode cJ5_newCapacity_0f7a4 19 = .ok (.iload 4, 2) := by decide +kernel
theorem dJ5_newCapacity_0f7a4_21 : decode cJ5_newCapacity_0f7a4 21 = .ok (.iload_n 2, 1) := by decide +kernel
theorem dJ5_newCapacity_0f7a4_22 : decode cJ5_newCapacity_0f7a4 22 = .ok (.iconst 2, 1) := by decide +kernel
theorem dJ5_newCapacity_0f7a4_23 : decode cJ5_newCapacity_0f7a4 23 = .ok (.aload_n 0, 1) := by decide +kernel
theorem dJ5_newCapacity_0f7a4_24 : decode cJ5_newCapacity_0f7a4 24 = .ok (.getfield 22, 3) := by decide +kernel
theorem dJ5_newCapacity_0f7a4_27 : decode cJ5_newCapacity_0f7a4 27 = .ok (.ishl, 1) := by decide +kernel
theorem dJ5_newCapacity_0f7a4_28 : decode cJ5_newCapacity_0f7a4 28 = .ok (.iadd, 1) := by decide +kernel
theorem dJ5_newCapacity_0f7a4_29 : decode cJ5_newCapacity_0f7a4 29 = .ok (.invokestatic 114, 3) := by decide +kernel
theorem dJ5_newCapacity_0f7a4_32 : decode cJ5_newCapacity_0f7a4 32 = .ok (.istore 5, 2) := by decide +kernel
theorem dJ5_newCapacity_0f7a4_34 : decode cJ5_newCapacity_0f7a4 34 = .ok (.iload 5, 2) := by decide +kernel
theorem dJ5_newCapacity_0f7a4_36 : decode cJ5_newCapacity_0f7a4 36 = .ok (.ldc 39, 2) := by decide +kernel
theorem dJ5_newCapacity_0f7a4_38 : decode cJ5_newCapacity_0f7a4 38 = .ok (.if_icmp .ne 13, 3) := by decide +kernel
theorem dJ5_newCapacity_0f7a4_51 : decode cJ5_newCapacity_0f7a4 51 = .ok (.iload 5, 2) := by decide +kernel
theorem dJ5_newCapacity_0f7a4_53 : decode cJ5_newCapacity_0f7a4 53 = .ok (.aload_n 0, 1) := by decide +kernel
theorem dJ5_newCapacity_0f7a4_54 : decode cJ5_newCapacity_0f7a4 54 = .ok (.getfield 22, 3) := by decide +kernel
theorem dJ5_newCapacity_0f7a4_57 : decode cJ5_newCapacity_0f7a4 57 = .ok (.ishr, 1) := by decide +kernel
theorem dJ5_newCapacity_0f7a4_58 : decode cJ5_newCapacity_0f7a4 58 = .ok (.ireturn, 1) := by decide +kernel
set_option maxHeartbeats 4000000 in
set_option maxRecDepth 100000 in
/-- AbstractStringBuilder.newCapacity -/
theorem c_J5_newCapacity_0f7a4 (l9 : Launch) (z : Nat → Nat) (D : va_G) (g : Nat → ClassId) (sb : Nat) (qv : Nat) (ml : Int32) (cn : Int32) (m : Nat) (bf : Nat → Int32) (q : Nat) (hq : m < q) (hq2 : q ≤ 2000) (sz : Nat) : Met l9 yJ5_newCapacity_0f7a4 (WS yJ5_newCapacity_0f7a4 cJ5_newCapacity_0f7a4 6 (some .int)) ({ frames := 2, cells := 0, slots := 0, locals := 39 }) (va_Pc [.ref sb, .int (nI q)] (kPreL z D g [(sb, .inr (10, [.ref qv, .int 0, .int ml, .int cn])), (qv, .inl (g 3, m, .inl bf))] sz)) (va_Qi (fun (r9 : Int32) (u9 : Unit) => r9 = nI (m + (q - m + (m + 2 - (q - m))))) (kB D g (va_A [(sb, .inr (10, [.ref qv, .int 0, .int ml, .int cn])), (qv, .inl (g 3, m, .inl bf))] sz) (fun (u9 : Unit) => [(sb, .inr (10, [.ref qv, .int 0, .int ml, .int cn])), (qv, .inl (g 3, m, .inl bf))])) (va_A [(sb, .inr (10, [.ref qv, .int 0, .int ml, .int cn])), (qv, .inl (g 3, m, .inl bf))] sz)) 0 0 (va_A [(sb, .inr (10, [.ref qv, .int 0, .int ml, .int cn])), (qv, .inl (g 3, m, .inl bf))] sz) := by
  refine Met.ofW (cc := cJ5_newCapacity_0f7a4) (maxL := 6) (ret := (some .int)) (by decide) rfl ?_
  intro p9 e9 s9 m9 args9 below9 meth9 c9 s₁ B hml hv
  obtain ⟨rfl, hsz, hP, hK, hD0, hZ, hY⟩ := hv
  have hx := B.exec
  have hb := B.bytes
  have hr := B.returns
  have hts := ws_sub (atoms_spec (ws := WS yJ5_newCapacity_0f7a4 cJ5_newCapacity_0f7a4 6 (some .int)) B.pre)
  have hown : s9.vm.findClass RJ5 = some m9.cls := findClass_of_methodNamed B.named
  have hlocks := B.notSynchronized
  subst hsz
  have hD := hD0.self (sz := s9.heap.size)
  generalize hAe : va_A [(sb, .inr (10, [.ref qv, .int 0, .int ml, .int cn])), (qv, .inl (g 3, m, .inl bf))] s9.heap.size = A at hD hZ hY ⊢
  have hA : ∀ q : Nat, s9.heap.size ≤ q → A q := fun q h => by rw [← hAe]; exact Or.inr h
  have hS : va_S A s9.heap s9.heap [] := va_S.rf
  have hP : va_P D CLS [(sb, .inr (10, [.ref qv, .int 0, .int ml, .int cn])), (qv, .inl (g 3, m, .inl bf))] s9.heap := hP
  have hl := lv_entry ([.ref sb, .int (nI q)]) (n := 6) (Nat.le_of_ble_eq_true rfl)
  rw [lg_entry_eq]
  generalize (lg_sl ([.ref sb, .int (nI q)]) ++ List.replicate (6 - (lg_sl ([.ref sb, .int (nI q)])).length) Slot.unset).toArray = ls at hl ⊢
  have hl : lv_has ls 6 [(0, .ref sb), (1, .int (nI q))] := hl
  change W p9 l9 e9 ({ frames := 2, cells := 0, slots := 0, locals := 39 } : Room) s9 m9 _ below9 meth9 c9 _ _ _ _ _ _
  refine lv_aload_n hx hb dJ5_newCapacity_0f7a4_0 rfl (lv_at hl 0 rfl) ?_
  refine va_get (D := D) (ci := 10) (v := .ref qv) (C := RB1) (T := TB1) (N := 4) hx hb hts in_B1 hown hK hP 0 rfl rfl 0 (by decide) (hts _ w_1391) (fun _ h9 => h9) rfl dJ5_newCapacity_0f7a4_1 ?_
  refine va_alen (v := nI m) hx hb hK hP 1 3 rfl rfl rfl dJ5_newCapacity_0f7a4_4 ?_
  refine lv_istore_n (lv' := [(2, .int (nI m)), (0, .ref sb), (1, .int (nI q))]) hx hb dJ5_newCapacity_0f7a4_5 rfl hl (by decide) rfl (fun ls hl => ?_)
  refine lv_iload_n hx hb dJ5_newCapacity_0f7a4_6 rfl (lv_at hl 2 rfl) ?_
  refine lv_aload_n hx hb dJ5_newCapacity_0f7a4_7 rfl (lv_at hl 1 rfl) ?_
  refine va_get (D := D) (ci := 10) (v := .int 0) (C := RB1) (T := TB1) (N := 4) hx hb hts in_B1 hown hK hP 0 rfl rfl 1 (by decide) (hts _ w_1392) (fun _ h9 => h9) rfl dJ5_newCapacity_0f7a4_8 ?_
  refine lv_ishl hx hb dJ5_newCapacity_0f7a4_11 ?_
  refine k_topi (show ((nI q) <<< (0 &&& 31)) = (nI q) from (sb_shl0 _)) ?_
  refine lv_istore_n (lv' := [(3, .int (nI q)), (2, .int (nI m)), (0, .ref sb), (1, .int (nI q))]) hx hb dJ5_newCapacity_0f7a4_12 rfl hl (by decide) rfl (fun ls hl => ?_)
  refine lv_iload_n hx hb dJ5_newCapacity_0f7a4_13 rfl (lv_at hl 0 rfl) ?_
  refine lv_iload_n hx hb dJ5_newCapacity_0f7a4_14 rfl (lv_at hl 1 rfl) ?_
  refine lv_isub hx hb dJ5_newCapacity_0f7a4_15 ?_
  refine k_topi (show ((nI q) - (nI m)) = (nI (q - m)) from (pk_sub (by omega))) ?_
  refine lv_istore (lv' := [(4, .int (nI (q - m))), (3, .int (nI q)), (2, .int (nI m)), (0, .ref sb), (1, .int (nI q))]) hx hb dJ5_newCapacity_0f7a4_16 hl (by decide) rfl (fun ls hl => ?_)
  refine lv_iload_n hx hb dJ5_newCapacity_0f7a4_18 rfl (lv_at hl 2 rfl) ?_
  refine lv_iload hx hb dJ5_newCapacity_0f7a4_19 (lv_at hl 0 rfl) ?_
  refine lv_iload_n hx hb dJ5_newCapacity_0f7a4_21 rfl (lv_at hl 2 rfl) ?_
  refine lv_iconst (v := 2) hx hb dJ5_newCapacity_0f7a4_22 (by decide) ?_
  refine lv_aload_n hx hb dJ5_newCapacity_0f7a4_23 rfl (lv_at hl 3 rfl) ?_
  refine va_get (D := D) (ci := 10) (v := .int 0) (C := RB1) (T := TB1) (N := 4) hx hb hts in_B1 hown hK hP 0 rfl rfl 1 (by decide) (hts _ w_1392) (fun _ h9 => h9) rfl dJ5_newCapacity_0f7a4_24 ?_
  refine lv_ishl hx hb dJ5_newCapacity_0f7a4_27 ?_
  refine k_topi (sb_shl0 2) ?_
  refine lv_iadd hx hb dJ5_newCapacity_0f7a4_28 ?_
  refine k_topi (show ((nI m) + 2) = (nI (m + 2)) from (nI_add m 2)) ?_
  refine k_i hA hP hD hS [(sb, .inr (10, [.ref qv, .int 0, .int ml, .int cn])), (qv, .inl (g 3, m, .inl bf))] (va_runS (As := [.int (nI m), .int (nI (q - m)), .int (nI (m + 2))]) (rest := []) ⟨hx, hb, hml, hown, hts⟩ (c_J8_newLength_cabcc l9 z D g m (q - m) (m + 2) (by omega) (by omega) (by omega) (by omega) (Array.size s9.heap)) (va_cwS 3 hts gs_J5_114 rfl rfl rfl (by decide +kernel) ⟨Nat.le_of_ble_eq_true rfl, Nat.le_of_ble_eq_true rfl⟩) ⟨kBlind, kPre.pc hK hZ hA hP hD hS [] rfl (by decide +kernel)⟩ rfl rfl hl.1 rfl (lv_room (Nat.le_of_ble_eq_true rfl)) dJ5_newCapacity_0f7a4_29 ⟨Nat.le_of_ble_eq_true rfl, Nat.le_of_ble_eq_true rfl⟩) [] [0, 1] rfl rfl rfl rfl (fun r_29 u_1 H locs hw_29 hP7 hD7 hS7 => ?_)
  clear hP hD hS
  have hP := hP7
  have hD := hD7
  have hS := hS7
  clear hP7 hD7 hS7
  obtain rfl := hw_29
  replace hP : va_P D CLS [(sb, .inr (10, [.ref qv, .int 0, .int ml, .int cn])), (qv, .inl (g 3, m, .inl bf))] H := hP
  replace hD : va_D A [(sb, .inr (10, [.ref qv, .int 0, .int ml, .int cn])), (qv, .inl (g 3, m, .inl bf))] := hD
  refine lv_istore (lv' := [(5, .int (nI (m + ((q - m) + ((m + 2) - (q - m)))))), (4, .int (nI (q - m))), (3, .int (nI q)), (2, .int (nI m)), (0, .ref sb), (1, .int (nI q))]) hx hb dJ5_newCapacity_0f7a4_32 hl (by decide) rfl (fun ls hl => ?_)
  refine lv_iload hx hb dJ5_newCapacity_0f7a4_34 (lv_at hl 0 rfl) ?_
  refine lv_ldc (own := RJ5) (v := 2147483647) hx hb hown (hts _ w_1274) dJ5_newCapacity_0f7a4_36 ?_
  refine lv_icmp_ne (tgt := 51) hx hb dJ5_newCapacity_0f7a4_38 (by decide) (fun c_38 => ?_) (fun c_38 => ?_)
  · skip
    have c_38 : ¬ (m + ((q - m) + ((m + 2) - (q - m)))) = 2147483647 := fun h => c_38 ((nI_eq (a := (m + ((q - m) + ((m + 2) - (q - m))))) (b := 2147483647) (by omega) (by omega)).mpr h)
    refine lv_iload hx hb dJ5_newCapacity_0f7a4_51 (lv_at hl 0 rfl) ?_
    refine lv_aload_n hx hb dJ5_newCapacity_0f7a4_53 rfl (lv_at hl 4 rfl) ?_
    refine va_get (D := D) (ci := 10) (v := .int 0) (C := RB1) (T := TB1) (N := 4) hx hb hts in_B1 hown hK hP 0 rfl rfl 1 (by decide) (hts _ w_1392) (fun _ h9 => h9) rfl dJ5_newCapacity_0f7a4_54 ?_
    refine lv_ishr hx hb dJ5_newCapacity_0f7a4_57 ?_
    refine k_topi (show ((nI (m + ((q - m) + ((m + 2) - (q - m))))) >>> (0 &&& 31)) = (nI (m + (q - m + (m + 2 - (q - m))))) from (sb_shr0 _)) ?_
    have hr9 : (nI (m + (q - m + (m + 2 - (q - m))))) = (nI (m + (q - m + (m + 2 - (q - m))))) := by rfl
    have hP9 : va_P D CLS [(sb, .inr (10, [.ref qv, .int 0, .int ml, .int cn])), (qv, .inl (g 3, m, .inl bf))] H := by exact kSub hP [0, 1] rfl
    have hD9 : va_D A [(sb, .inr (10, [.ref qv, .int 0, .int ml, .int cn])), (qv, .inl (g 3, m, .inl bf))] := by exact hD.sub [0, 1] (by decide +kernel) rfl
    exact W.iret (v := nI (m + (q - m + (m + 2 - (q - m))))) hx hb hr (fun t9 ht9 hW9 => ⟨⟨nI (m + (q - m + (m + 2 - (q - m)))), (), rfl, hr9, by rw [ht9]; exact hP9, va_K.moved hW9.alike hK, hD9⟩, hS.F ht9⟩) hS.2.2 dJ5_newCapacity_0f7a4_58
  · skip
    have c_38 : (m + ((q - m) + ((m + 2) - (q - m)))) = 2147483647 := (nI_eq (a := (m + ((q - m) + ((m + 2) - (q - m))))) (b := 2147483647) (by omega) (by omega)).mp c_38
    omega
theorem dJ7_copyOf_9075b_0 : decode cJ7_copyOf_9075b 0 = .ok (.iload_n 1, 1) := by decide +kernel
theorem dJ7_copyOf_9075b_1 : decode cJ7_copyOf_9075b 1 = .ok (.aload_n 0, 1) := by decide +kernel
theorem dJ7_copyOf_9075b_2 : decode cJ7_copyOf_9075b 2 = .ok (.arraylength, 1) := by decide +kernel
theorem dJ7_copyOf_9075b_3 : decode cJ7_copyOf_9075b 3 = .ok (.if_icmp .ne 11, 3) := by decide +kernel
theorem dJ7_copyOf_9075b_14 : decode cJ7_copyOf_9075b 14 = .ok (.iload_n 1, 1) := by decide +kernel
theorem dJ7_copyOf_9075b_15 : decode cJ7_copyOf_9075b 15 = .ok (.newarray .byte, 2) := by decide +kernel
theorem dJ7_copyOf_9075b_17 : decode cJ7_copyOf_9075b 17 = .ok (.astore_n 2, 1) := by decide +kernel
theorem dJ7_copyOf_9075b_18 : decode cJ7_copyOf_9075b 18 = .ok (.aload_n 0, 1) := by decide +kernel
theorem dJ7_copyOf_9075b_19 : decode cJ7_copyOf_9075b 19 = .ok (.iconst 0, 1) := by decide +kernel
theorem dJ7_copyOf_9075b_20 : decode cJ7_copyOf_9075b 20 = .ok (.aload_n 2, 1) := by decide +kernel
theorem dJ7_copyOf_9075b_21 : decode cJ7_copyOf_9075b 21 = .ok (.iconst 0, 1) := by decide +kernel
theorem dJ7_copyOf_9075b_22 : decode cJ7_copyOf_9075b 22 = .ok (.aload_n 0, 1) := by decide +kernel
theorem dJ7_copyOf_9075b_23 : decode cJ7_copyOf_9075b 23 = .ok (.arraylength, 1) := by decide +kernel
theorem dJ7_copyOf_9075b_24 : decode cJ7_copyOf_9075b 24 = .ok (.iload_n 1, 1) := by decide +kernel
theorem dJ7_copyOf_9075b_25 : decode cJ7_copyOf_9075b 25 = .ok (.invokestatic 304, 3) := by decide +kernel
theorem dJ7_copyOf_9075b_28 : decode cJ7_copyOf_9075b 28 = .ok (.invokestatic 150, 3) := by decide +kernel
theorem dJ7_copyOf_9075b_31 : decode cJ7_copyOf_9075b 31 = .ok (.aload_n 2, 1) := by decide +kernel
theorem dJ7_copyOf_9075b_32 : decode cJ7_copyOf_9075b 32 = .ok (.areturn, 1) := by decide +kernel
set_option maxHeartbeats 4000000 in
set_option maxRecDepth 100000 in
/-- Arrays.copyOf, of bytes -/
theorem c_J7_copyOf_9075b (l9 : Launch) (z : Nat → Nat) (D : va_G) (g : Nat → ClassId) (qa : Nat) (m : Nat) (bf : Nat → Int32) (n : Nat) (hmn : m < n) (hn : n ≤ 4002) (hf : sb_Fit bf) (sz : Nat) : Met l9 yJ7_copyOf_9075b (WS yJ7_copyOf_9075b cJ7_copyOf_9075b 3 (some (.array .byte))) ({ frames := 1, cells := 1, slots := 4002, locals := 40 }) (va_Pc [.ref qa, .int (nI n)] (kPreL z D g [(qa, .inl (g 3, m, .inl bf))] sz)) (va_Qq (fun (r9 : Option Nat) (u9 : Nat) => r9 = some u9) (kB D g (va_A [(qa, .inl (g 3, m, .inl bf))] sz) (fun (u9 : Nat) => [(qa, .inl (g 3, m, .inl bf)), (u9, .inl (g 3, n, .inl (va_cpy bf (fun _ => 0) 0 0 m)))])) (va_A [(qa, .inl (g 3, m, .inl bf))] sz)) 1 4002 (va_A [(qa, .inl (g 3, m, .inl bf))] sz) := by
  refine Met.ofW (cc := cJ7_copyOf_9075b) (maxL := 3) (ret := (some (.array .byte))) (by decide) rfl ?_
  intro p9 e9 s9 m9 args9 below9 meth9 c9 s₁ B hml hv
  obtain ⟨rfl, hsz, hP, hK, hD0, hZ, hY⟩ := hv
  have hx := B.exec
  have hb := B.bytes
  have hr := B.returns
  have hts := ws_sub (atoms_spec (ws := WS yJ7_copyOf_9075b cJ7_copyOf_9075b 3 (some (.array .byte))) B.pre)
  have hown : s9.vm.findClass RJ7 = some m9.cls := findClass_of_methodNamed B.named
  have hlocks := B.notSynchronized
  subst hsz
  have hD := hD0.self (sz := s9.heap.size)
  generalize hAe : va_A [(qa, .inl (g 3, m, .inl bf))] s9.heap.size = A at hD hZ hY ⊢
  have hA : ∀ q : Nat, s9.heap.size ≤ q → A q := fun q h => by rw [← hAe]; exact Or.inr h
  have hS : va_S A s9.heap s9.heap [] := va_S.rf
  have hP : va_P D CLS [(qa, .inl (g 3, m, .inl bf))] s9.heap := hP
  have hl := lv_entry ([.ref qa, .int (nI n)]) (n := 3) (Nat.le_of_ble_eq_true rfl)
  rw [lg_entry_eq]
  generalize (lg_sl ([.ref qa, .int (nI n)]) ++ List.replicate (3 - (lg_sl ([.ref qa, .int (nI n)])).length) Slot.unset).toArray = ls at hl ⊢
  have hl : lv_has ls 3 [(0, .ref qa), (1, .int (nI n))] := hl
  change W p9 l9 e9 ({ frames := 1, cells := 1, slots := 4002, locals := 40 } : Room) s9 m9 _ below9 meth9 c9 _ _ _ _ _ _
  refine lv_iload_n hx hb dJ7_copyOf_9075b_0 rfl (lv_at hl 1 rfl) ?_
  refine lv_aload_n hx hb dJ7_copyOf_9075b_1 rfl (lv_at hl 0 rfl) ?_
  refine va_alen (v := nI m) hx hb hK hP 0 3 rfl rfl rfl dJ7_copyOf_9075b_2 ?_
  refine lv_icmp_ne (tgt := 14) hx hb dJ7_copyOf_9075b_3 (by decide) (fun c_3 => ?_) (fun c_3 => ?_)
  · skip
    have c_3 : ¬ n = m := fun h => c_3 ((nI_eq (a := n) (b := m) (by omega) (by omega)).mpr h)
    refine lv_iload_n hx hb dJ7_copyOf_9075b_14 rfl (lv_at hl 1 rfl) ?_
    refine va_newa (atype := .byte) (ty := .byte) (N' := n) (a0 := (n, .inl (fun _ => 0))) hx hb (hts _ w_505) rfl hK hP hD hS hA (fun _ => rfl) (nI_pos (by omega)) (nI_clamp (by omega)) (by show n * 1 ≤ _; omega) (Nat.le_of_ble_eq_true rfl) (by show 0 + n ≤ 4002; omega) dJ7_copyOf_9075b_15 (fun q_1 cA H hK9 hP hD hS => ?_)
    obtain rfl := k_clsB hK hK9
    replace hP : va_P D CLS [(qa, .inl (g 3, m, .inl bf)), (q_1, .inl (g 3, n, .inl (fun _ => 0)))] H := hP
    replace hD : va_D A [(qa, .inl (g 3, m, .inl bf)), (q_1, .inl (g 3, n, .inl (fun _ => 0)))] := hD
    refine lv_astore_n (lv' := [(2, .ref q_1), (0, .ref qa), (1, .int (nI n))]) hx hb dJ7_copyOf_9075b_17 rfl hl (by decide) rfl (fun ls hl => ?_)
    refine lv_aload_n hx hb dJ7_copyOf_9075b_18 rfl (lv_at hl 1 rfl) ?_
    refine lv_iconst (v := 0) hx hb dJ7_copyOf_9075b_19 (by decide) ?_
    refine lv_aload_n hx hb dJ7_copyOf_9075b_20 rfl (lv_at hl 0 rfl) ?_
    refine lv_iconst (v := 0) hx hb dJ7_copyOf_9075b_21 (by decide) ?_
    refine lv_aload_n hx hb dJ7_copyOf_9075b_22 rfl (lv_at hl 1 rfl) ?_
    refine va_alen (v := nI m) hx hb hK hP 0 3 rfl rfl rfl dJ7_copyOf_9075b_23 ?_
    refine lv_iload_n hx hb dJ7_copyOf_9075b_24 rfl (lv_at hl 2 rfl) ?_
    refine va_mmin hx hb (by rw [hml]; exact hl.1.symm) hown (hts _ w_1285) (hts _ w_596) (hts _ w_54) (hts _ w_597) (Nat.le_of_ble_eq_true rfl) (Nat.le_of_ble_eq_true rfl) (Nat.le_of_ble_eq_true rfl) (by show 0 + n ≤ 4002; omega) dJ7_copyOf_9075b_25 ?_
    refine k_topi (show (if (nI n) < (nI m) then (nI n) else (nI m)) = (nI m) from ((mn_nI (by omega) (by omega)).trans (by rw [show min m n = m by omega]))) ?_
    refine va_copyi hx hb (by rw [hml]; exact hl.1.symm) hown (hts _ w_1286) (hts _ w_728) (hts _ w_727) (hts _ w_56) hK hP hD hS 0 1 3 3 rfl rfl rfl rfl rfl (by decide) (by decide) (nI_pos (by omega)) (by rw [(show (0 : Int32).toNatClampNeg = 0 from sb_cl0), (show (nI m).toNatClampNeg = m from nI_clamp (by omega))]; omega) (by rw [(show (0 : Int32).toNatClampNeg = 0 from sb_cl0), (show (nI m).toNatClampNeg = m from nI_clamp (by omega))]; omega) (fun i _ => hf _) (Nat.le_of_ble_eq_true rfl) (Nat.le_of_ble_eq_true rfl) dJ7_copyOf_9075b_28 (fun H locs hP7 hD7 hS7 => ?_)
    clear hP hD hS
    have hP := hP7
    have hD := hD7
    have hS := hS7
    clear hP7 hD7 hS7
    rw [(show (0 : Int32).toNatClampNeg = 0 from sb_cl0), (show (nI m).toNatClampNeg = m from nI_clamp (by omega))] at hP hD
    replace hP : va_P D CLS [(qa, .inl (g 3, m, .inl bf)), (q_1, .inl (g 3, n, .inl (va_cpy bf (fun _ => 0) 0 0 m)))] H := hP
    replace hD : va_D A [(qa, .inl (g 3, m, .inl bf)), (q_1, .inl (g 3, n, .inl (va_cpy bf (fun _ => 0) 0 0 m)))] := hD
    refine lv_aload_n hx hb dJ7_copyOf_9075b_31 rfl (lv_at hl 0 rfl) ?_
    have hr9 : q_1 = (some q_1) := by rfl
    have hP9 : va_P D CLS [(qa, .inl (g 3, m, .inl bf)), (q_1, .inl (g 3, n, .inl (va_cpy bf (fun _ => 0) 0 0 m)))] H := by exact kSub hP [0, 1] rfl
    have hD9 : va_D A [(qa, .inl (g 3, m, .inl bf)), (q_1, .inl (g 3, n, .inl (va_cpy bf (fun _ => 0) 0 0 m)))] := by exact hD.sub [0, 1] (by decide +kernel) rfl
    refine W.widen (k := 1) (n := 4002) (by omega) (by omega) ?_
    exact W.aret (v := va_rf (some q_1)) hx hb hr (Or.inr ⟨_, rfl⟩) (va_rf_or _) (fun t9 ht9 hW9 => ⟨⟨some q_1, q_1, rfl, hr9, by rw [ht9]; exact hP9, va_K.moved hW9.alike hK, hD9⟩, hS.F ht9⟩) hS.2.2 dJ7_copyOf_9075b_32
  · skip
    have c_3 : n = m := (nI_eq (a := n) (b := m) (by omega) (by omega)).mp c_3
    omega
theorem dJ5_ensureCapacityInternal_d00df_0 : decode cJ5_ensureCapacityInternal_d00df 0 = .ok (.aload_n 0, 1) := by decide +kernel
theorem dJ5_ensureCapacityInternal_d00df_1 : decode cJ5_ensureCapacityInternal_d00df 1 = .ok (.getfield 15, 3) := by decide +kernel
theorem dJ5_ensureCapacityInternal_d00df_4 : decode cJ5_ensureCapacityInternal_d00df 4 = .ok (.arraylength, 1) := by decide +kernel
theorem dJ5_ensureCapacityInternal_d00df_5 : decode cJ5_ensureCapacityInternal_d00df 5 = .ok (.aload_n 0, 1) := by decide +kernel
theorem dJ5_ensureCapacityInternal_d00df_6 : decode cJ5_ensureCapacityInternal_d00df 6 = .ok (.getfield 22, 3) := by decide +kernel
theorem dJ5_ensureCapacityInternal_d00df_9 : decode cJ5_ensureCapacityInternal_d00df 9 = .ok (.ishr, 1) := by decide +kernel
theorem dJ5_ensureCapacityInternal_d00df_10 : decode cJ5_ensureCapacityInternal_d00df 10 = .ok (.istore_n 2, 1) := by decide +kernel
theorem dJ5_ensureCapacityInternal_d00df_11 : decode cJ5_ensureCapacityInternal_d00df 11 = .ok (.iload_n 1, 1) := by decide +kernel
theorem dJ5_ensureCapacityInternal_d00df_12 : decode cJ5_ensureCapacityInternal_d00df 12 = .ok (.iload_n 2, 1) := by decide +kernel
theorem dJ5_ensureCapacityInternal_d00df_13 : decode cJ5_ensureCapacityInternal_d00df 13 = .ok (.isub, 1) := by decide +kernel
theorem dJ5_ensureCapacityInternal_d00df_14 : decode cJ5_ensureCapacityInternal_d00df 14 = .ok (.ifCond .le 24, 3) := by decide +kernel
theorem dJ5_ensureCapacityInternal_d00df_17 : decode cJ5_ensureCapacityInternal_d00df 17 = .ok (.aload_n 0, 1) := by decide +kernel
theorem dJ5_ensureCapacityInternal_d00df_18 : decode cJ5_ensureCapacityInternal_d00df 18 = .ok (.aload_n 0, 1) := by decide +kernel
theorem dJ5_ensureCapacityInternal_d00df_19 : decode cJ5_ensureCapacityInternal_d00df 19 = .ok (.getfield 15, 3) := by decide +kernel
theorem dJ5_ensureCapacityInternal_d00df_22 : decode cJ5_ensureCapacityInternal_d00df 22 = .ok (.aload_n 0, 1) := by decide +kernel
theorem dJ5_ensureCapacityInternal_d00df_23 : decode cJ5_ensureCapacityInternal_d00df 23 = .ok (.iload_n 1, 1) := by decide +kernel
theorem dJ5_ensureCapacityInternal_d00df_24 : decode cJ5_ensureCapacityInternal_d00df 24 = .ok (.invokevirtual 104, 3) := by decide +kernel
theorem dJ5_ensureCapacityInternal_d00df_27 : decode cJ5_ensureCapacityInternal_d00df 27 = .ok (.aload_n 0, 1) := by decide +kernel
theorem dJ5_ensureCapacityInternal_d00df_28 : decode cJ5_ensureCapacityInternal_d00df 28 = .ok (.getfield 22, 3) := by decide +kernel
theorem dJ5_ensureCapacityInternal_d00df_31 : decode cJ5_ensureCapacityInternal_d00df 31 = .ok (.ishl, 1) := by decide +kernel
theorem dJ5_ensureCapacityInternal_d00df_32 : decode cJ5_ensureCapacityInternal_d00df 32 = .ok (.invokestatic 108, 3) := by decide +kernel
theorem dJ5_ensureCapacityInternal_d00df_35 : decode cJ5_ensureCapacityInternal_d00df 35 = .ok (.putfield 15, 3) := by decide +kernel
theorem dJ5_ensureCapacityInternal_d00df_38 : decode cJ5_ensureCapacityInternal_d00df 38 = .ok (.return_, 1) := by decide +kernel
set_option maxHeartbeats 4000000 in
set_option maxRecDepth 100000 in
/-- AbstractStringBuilder.ensureCapacityInternal -/
theorem c_J5_ensureCapacityInternal_d00df (l9 : Launch) (z : Nat → Nat) (D : va_G) (g : Nat → ClassId) (sb : Nat) (qv : Nat) (ml : Int32) (cn : Int32) (m : Nat) (bf : Nat → Int32) (q : Nat) (hq : q ≤ 2000) (hm : m ≤ 4002) (hf : sb_Fit bf) (sz : Nat) : Met l9 yJ5_ensureCapacityInternal_d00df (WS yJ5_ensureCapacityInternal_d00df cJ5_ensureCapacityInternal_d00df 3 none) ({ frames := 3, cells := 1, slots := 4002, locals := 64 }) (va_Pc [.ref sb, .int (nI q)] (kPreL z D g [(sb, .inr (10, [.ref qv, .int 0, .int ml, .int cn])), (qv, .inl (g 3, m, .inl bf))] sz)) (va_Qv (fun (u9 : Nat × Nat × (Nat → Int32)) => grow q m u9.2.1 bf u9.2.2) (kB D g (va_A [(sb, .inr (10, [.ref qv, .int 0, .int ml, .int cn])), (qv, .inl (g 3, m, .inl bf))] sz) (fun (u9 : Nat × Nat × (Nat → Int32)) => [(sb, .inr (10, [.ref u9.1, .int 0, .int ml, .int cn])), (u9.1, .inl (g 3, u9.2.1, .inl u9.2.2))])) (va_A [(sb, .inr (10, [.ref qv, .int 0, .int ml, .int cn])), (qv, .inl (g 3, m, .inl bf))] sz)) 1 4002 (va_A [(sb, .inr (10, [.ref qv, .int 0, .int ml, .int cn])), (qv, .inl (g 3, m, .inl bf))] sz) := by
  refine Met.ofW (cc := cJ5_ensureCapacityInternal_d00df) (maxL := 3) (ret := none) (by decide) rfl ?_
  intro p9 e9 s9 m9 args9 below9 meth9 c9 s₁ B hml hv
  obtain ⟨rfl, hsz, hP, hK, hD0, hZ, hY⟩ := hv
  have hx := B.exec
  have hb := B.bytes
  have hr := B.returns
  have hts := ws_sub (atoms_spec (ws := WS yJ5_ensureCapacityInternal_d00df cJ5_ensureCapacityInternal_d00df 3 none) B.pre)
  have hown : s9.vm.findClass RJ5 = some m9.cls := findClass_of_methodNamed B.named
  have hlocks := B.notSynchronized
  subst hsz
  have hD := hD0.self (sz := s9.heap.size)
  generalize hAe : va_A [(sb, .inr (10, [.ref qv, .int 0, .int ml, .int cn])), (qv, .inl (g 3, m, .inl bf))] s9.heap.size = A at hD hZ hY ⊢
  have hA : ∀ q : Nat, s9.heap.size ≤ q → A q := fun q h => by rw [← hAe]; exact Or.inr h
  have hS : va_S A s9.heap s9.heap [] := va_S.rf
  have hP : va_P D CLS [(sb, .inr (10, [.ref qv, .int 0, .int ml, .int cn])), (qv, .inl (g 3, m, .inl bf))] s9.heap := hP
  have hl := lv_entry ([.ref sb, .int (nI q)]) (n := 3) (Nat.le_of_ble_eq_true rfl)
  rw [lg_entry_eq]
  generalize (lg_sl ([.ref sb, .int (nI q)]) ++ List.replicate (3 - (lg_sl ([.ref sb, .int (nI q)])).length) Slot.unset).toArray = ls at hl ⊢
  have hl : lv_has ls 3 [(0, .ref sb), (1, .int (nI q))] := hl
  change W p9 l9 e9 ({ frames := 3, cells := 1, slots := 4002, locals := 64 } : Room) s9 m9 _ below9 meth9 c9 _ _ _ _ _ _
  refine lv_aload_n hx hb dJ5_ensureCapacityInternal_d00df_0 rfl (lv_at hl 0 rfl) ?_
  refine va_get (D := D) (ci := 10) (v := .ref qv) (C := RB1) (T := TB1) (N := 4) hx hb hts in_B1 hown hK hP 0 rfl rfl 0 (by decide) (hts _ w_1391) (fun _ h9 => h9) rfl dJ5_ensureCapacityInternal_d00df_1 ?_
  refine va_alen (v := nI m) hx hb hK hP 1 3 rfl rfl rfl dJ5_ensureCapacityInternal_d00df_4 ?_
  refine lv_aload_n hx hb dJ5_ensureCapacityInternal_d00df_5 rfl (lv_at hl 0 rfl) ?_
  refine va_get (D := D) (ci := 10) (v := .int 0) (C := RB1) (T := TB1) (N := 4) hx hb hts in_B1 hown hK hP 0 rfl rfl 1 (by decide) (hts _ w_1392) (fun _ h9 => h9) rfl dJ5_ensureCapacityInternal_d00df_6 ?_
  refine lv_ishr hx hb dJ5_ensureCapacityInternal_d00df_9 ?_
  refine k_topi (show ((nI m) >>> (0 &&& 31)) = (nI m) from (sb_shr0 _)) ?_
  refine lv_istore_n (lv' := [(2, .int (nI m)), (0, .ref sb), (1, .int (nI q))]) hx hb dJ5_ensureCapacityInternal_d00df_10 rfl hl (by decide) rfl (fun ls hl => ?_)
  refine lv_iload_n hx hb dJ5_ensureCapacityInternal_d00df_11 rfl (lv_at hl 2 rfl) ?_
  refine lv_iload_n hx hb dJ5_ensureCapacityInternal_d00df_12 rfl (lv_at hl 0 rfl) ?_
  refine lv_isub hx hb dJ5_ensureCapacityInternal_d00df_13 ?_
  refine lv_if_le (tgt := 38) hx hb dJ5_ensureCapacityInternal_d00df_14 (by decide) (fun c_14 => ?_) (fun c_14 => ?_)
  · skip
    have c_14 := (sub_le0 (by omega) (by omega)).mp c_14
    have hP9 : va_P D CLS [(sb, .inr (10, [.ref qv, .int 0, .int ml, .int cn])), (qv, .inl (g 3, m, .inl bf))] s9.heap := by exact kSub hP [0, 1] rfl
    have hD9 : va_D A [(sb, .inr (10, [.ref qv, .int 0, .int ml, .int cn])), (qv, .inl (g 3, m, .inl bf))] := by exact hD.sub [0, 1] (by decide +kernel) rfl
    refine W.widen (k := 1) (n := 4002) (by omega) (by omega) ?_
    exact W.vret hx hb hr (fun t9 ht9 hW9 => ⟨⟨(qv, m, bf), rfl, (by dsimp only; exact (by first | exact grow_0 c_14 hm hf | exact grow_1 (by omega) (by omega) (by omega) hf)), by rw [ht9]; exact hP9, va_K.moved hW9.alike hK, hD9⟩, hS.F ht9⟩) hS.2.2 dJ5_ensureCapacityInternal_d00df_38
  · skip
    have c_14 : ¬ q ≤ m := fun h => c_14 ((sub_le0 (by omega) (by omega)).mpr h)
    refine lv_aload_n hx hb dJ5_ensureCapacityInternal_d00df_17 rfl (lv_at hl 1 rfl) ?_
    refine lv_aload_n hx hb dJ5_ensureCapacityInternal_d00df_18 rfl (lv_at hl 1 rfl) ?_
    refine va_get (D := D) (ci := 10) (v := .ref qv) (C := RB1) (T := TB1) (N := 4) hx hb hts in_B1 hown hK hP 0 rfl rfl 0 (by decide) (hts _ w_1391) (fun _ h9 => h9) rfl dJ5_ensureCapacityInternal_d00df_19 ?_
    refine lv_aload_n hx hb dJ5_ensureCapacityInternal_d00df_22 rfl (lv_at hl 1 rfl) ?_
    refine lv_iload_n hx hb dJ5_ensureCapacityInternal_d00df_23 rfl (lv_at hl 2 rfl) ?_
    refine k_i hA hP hD hS [] (va_runU (owner := RJ5) (As := [.int (nI q)]) (rest := [.ref qv, .ref sb]) ⟨hx, hb, hml, hown, hts⟩ (c_J5_newCapacity_0f7a4 l9 z D g sb qv ml cn m bf q (by omega) (by omega) (Array.size s9.heap)) (k_cwUp 1 hts gw_J5_newCapacity_0f7a4 rfl w_1262 w_1533 w_1264 w_48 hY.sel (by decide +kernel) rfl rfl rfl (by decide +kernel) ⟨Nat.le_of_ble_eq_true rfl, Nat.le_of_ble_eq_true rfl⟩) ⟨kBlindL, va_recv hK hP (ci := 10) (q0 := 0) rfl rfl, kPreL.pc hY hK hZ hA hP hD hS [0, 1] rfl (by decide +kernel)⟩ rfl rfl hl.1 rfl (lv_room (Nat.le_of_ble_eq_true rfl)) dJ5_ensureCapacityInternal_d00df_24 ⟨Nat.le_of_ble_eq_true rfl, Nat.le_of_ble_eq_true rfl⟩) [0, 1] [] rfl rfl rfl rfl (fun r_24 u_1 H locs hw_24 hP7 hD7 hS7 => ?_)
    clear hP hD hS
    have hP := hP7
    have hD := hD7
    have hS := hS7
    clear hP7 hD7 hS7
    obtain rfl := hw_24
    replace hP : va_P D CLS [(sb, .inr (10, [.ref qv, .int 0, .int ml, .int cn])), (qv, .inl (g 3, m, .inl bf))] H := hP
    replace hD : va_D A [(sb, .inr (10, [.ref qv, .int 0, .int ml, .int cn])), (qv, .inl (g 3, m, .inl bf))] := hD
    refine lv_aload_n hx hb dJ5_ensureCapacityInternal_d00df_27 rfl (lv_at hl 1 rfl) ?_
    refine va_get (D := D) (ci := 10) (v := .int 0) (C := RB1) (T := TB1) (N := 4) hx hb hts in_B1 hown hK hP 0 rfl rfl 1 (by decide) (hts _ w_1392) (fun _ h9 => h9) rfl dJ5_ensureCapacityInternal_d00df_28 ?_
    refine lv_ishl hx hb dJ5_ensureCapacityInternal_d00df_31 ?_
    refine k_topi (show ((nI (m + (q - m + (m + 2 - (q - m))))) <<< (0 &&& 31)) = (nI (m + (q - m + (m + 2 - (q - m))))) from (sb_shl0 _)) ?_
    refine k_q hA hP hD hS [(sb, .inr (10, [.ref qv, .int 0, .int ml, .int cn]))] (va_runS (As := [.ref qv, .int (nI (m + (q - m + (m + 2 - (q - m)))))]) (rest := [.ref sb]) ⟨hx, hb, hml, hown, hts⟩ (c_J7_copyOf_9075b l9 z D g qv m bf (m + (q - m + (m + 2 - (q - m)))) (by omega) (by omega) hf (Array.size H)) (va_cwS 2 hts gs_J5_108 rfl rfl rfl (by decide +kernel) ⟨Nat.le_of_ble_eq_true rfl, Nat.le_of_ble_eq_true rfl⟩) ⟨kBlindL, kPreL.pc hY hK hZ hA hP hD hS [1] rfl (by decide +kernel)⟩ rfl rfl hl.1 rfl (lv_room (Nat.le_of_ble_eq_true rfl)) dJ5_ensureCapacityInternal_d00df_32 ⟨Nat.le_of_ble_eq_true rfl, Nat.le_of_ble_eq_true rfl⟩) [1] [0] rfl rfl rfl rfl (fun r_32 u_2 H locs hw_32 hP7 hD7 hS7 => ?_)
    clear hP hD hS
    have hP := hP7
    have hD := hD7
    have hS := hS7
    clear hP7 hD7 hS7
    obtain ⟨qnu_3, rfl⟩ : ∃ q, q = u_2 := ⟨_, rfl⟩
    try dsimp only at hw_32
    obtain rfl := hw_32
    replace hP : va_P D CLS [(sb, .inr (10, [.ref qv, .int 0, .int ml, .int cn])), (qv, .inl (g 3, m, .inl bf)), (qnu_3, .inl (g 3, m + (q - m + (m + 2 - (q - m))), .inl (va_cpy bf (fun _ => 0) 0 0 m)))] H := hP
    replace hD : va_D A [(sb, .inr (10, [.ref qv, .int 0, .int ml, .int cn])), (qv, .inl (g 3, m, .inl bf)), (qnu_3, .inl (g 3, m + (q - m + (m + 2 - (q - m))), .inl (va_cpy bf (fun _ => 0) 0 0 m)))] := hD
    refine va_put (D := D) (ci := 10) (v := .ref qnu_3) (ty := .array .byte) (C := RB1) (T := TB1) (N := 4) hx hb hts in_B1 tyB1 tyB1_ok nmB1 hown hK hP hD hS 0 rfl rfl 0 (by decide) (hts _ w_1391) (fun _ h9 => h9) rfl (by decide +kernel) rfl rfl (Nat.le_of_ble_eq_true rfl) dJ5_ensureCapacityInternal_d00df_35 (fun H locs hP7 hD7 hS7 => ?_)
    clear hP hD hS
    have hP := hP7
    have hD := hD7
    have hS := hS7
    clear hP7 hD7 hS7
    replace hP : va_P D CLS [(sb, .inr (10, [.ref qnu_3, .int 0, .int ml, .int cn])), (qv, .inl (g 3, m, .inl bf)), (qnu_3, .inl (g 3, m + (q - m + (m + 2 - (q - m))), .inl (va_cpy bf (fun _ => 0) 0 0 m)))] H := hP
    replace hD : va_D A [(sb, .inr (10, [.ref qnu_3, .int 0, .int ml, .int cn])), (qv, .inl (g 3, m, .inl bf)), (qnu_3, .inl (g 3, m + (q - m + (m + 2 - (q - m))), .inl (va_cpy bf (fun _ => 0) 0 0 m)))] := hD
    have hP9 : va_P D CLS [(sb, .inr (10, [.ref qnu_3, .int 0, .int ml, .int cn])), (qnu_3, .inl (g 3, m + (q - m + (m + 2 - (q - m))), .inl (va_cpy bf (fun _ => 0) 0 0 m)))] H := by exact kSub hP [0, 2] rfl
    have hD9 : va_D A [(sb, .inr (10, [.ref qnu_3, .int 0, .int ml, .int cn])), (qnu_3, .inl (g 3, m + (q - m + (m + 2 - (q - m))), .inl (va_cpy bf (fun _ => 0) 0 0 m)))] := by exact hD.sub [0, 2] (by decide +kernel) rfl
    refine W.widen (k := 1) (n := 4002) (by omega) (by omega) ?_
    exact W.vret hx hb hr (fun t9 ht9 hW9 => ⟨⟨(qnu_3, m + (q - m + (m + 2 - (q - m))), va_cpy bf (fun _ => 0) 0 0 m), rfl, (by dsimp only; exact (by first | exact grow_0 c_14 hm hf | exact grow_1 (by omega) (by omega) (by omega) hf)), by rw [ht9]; exact hP9, va_K.moved hW9.alike hK, hD9⟩, hS.F ht9⟩) hS.2.2 dJ5_ensureCapacityInternal_d00df_38
theorem dJ5_inflateIfNeededFor_a7421_0 : decode cJ5_inflateIfNeededFor_a7421 0 = .ok (.getstatic 18, 3) := by decide +kernel
theorem dJ5_inflateIfNeededFor_a7421_3 : decode cJ5_inflateIfNeededFor_a7421 3 = .ok (.ifCond .eq 18, 3) := by decide +kernel
theorem dJ5_inflateIfNeededFor_a7421_6 : decode cJ5_inflateIfNeededFor_a7421 6 = .ok (.aload_n 0, 1) := by decide +kernel
theorem dJ5_inflateIfNeededFor_a7421_7 : decode cJ5_inflateIfNeededFor_a7421 7 = .ok (.getfield 22, 3) := by decide +kernel
theorem dJ5_inflateIfNeededFor_a7421_10 : decode cJ5_inflateIfNeededFor_a7421 10 = .ok (.aload_n 1, 1) := by decide +kernel
theorem dJ5_inflateIfNeededFor_a7421_11 : decode cJ5_inflateIfNeededFor_a7421 11 = .ok (.invokevirtual 40, 3) := by decide +kernel
theorem dJ5_inflateIfNeededFor_a7421_14 : decode cJ5_inflateIfNeededFor_a7421 14 = .ok (.if_icmp .eq 7, 3) := by decide +kernel
theorem dJ5_inflateIfNeededFor_a7421_21 : decode cJ5_inflateIfNeededFor_a7421 21 = .ok (.return_, 1) := by decide +kernel
set_option maxHeartbeats 4000000 in
set_option maxRecDepth 100000 in
/-- AbstractStringBuilder.inflateIfNeededFor -/
theorem c_J5_inflateIfNeededFor_a7421 (l9 : Launch) (z : Nat → Nat) (D : va_G) (g : Nat → ClassId) (sa : Nat) (sv : Nat) (T : List Nat) (sb : Nat) (qv : Nat) (ml : Int32) (cn : Int32) (sz : Nat) : Met l9 yJ5_inflateIfNeededFor_a7421 (WS yJ5_inflateIfNeededFor_a7421 cJ5_inflateIfNeededFor_a7421 2 none) ({ frames := 1, cells := 0, slots := 0, locals := 20 }) (va_Pc [.ref sb, .ref sa] (kPreT sa sv T z D g [(sb, .inr (10, [.ref qv, .int 0, .int ml, .int cn]))] sz)) (va_Qv (fun (u9 : Unit) => True) (kB D g (va_A [(sb, .inr (10, [.ref qv, .int 0, .int ml, .int cn]))] sz) (fun (u9 : Unit) => [(sb, .inr (10, [.ref qv, .int 0, .int ml, .int cn]))])) (va_A [(sb, .inr (10, [.ref qv, .int 0, .int ml, .int cn]))] sz)) 0 0 (va_A [(sb, .inr (10, [.ref qv, .int 0, .int ml, .int cn]))] sz) := by
  refine Met.ofW (cc := cJ5_inflateIfNeededFor_a7421) (maxL := 2) (ret := none) (by decide) rfl ?_
  intro p9 e9 s9 m9 args9 below9 meth9 c9 s₁ B hml hv
  obtain ⟨rfl, hsz, hP, hK, hD0, hZ, hY, hG⟩ := hv
  have hx := B.exec
  have hb := B.bytes
  have hr := B.returns
  have hts := ws_sub (atoms_spec (ws := WS yJ5_inflateIfNeededFor_a7421 cJ5_inflateIfNeededFor_a7421 2 none) B.pre)
  have hown : s9.vm.findClass RJ5 = some m9.cls := findClass_of_methodNamed B.named
  have hlocks := B.notSynchronized
  subst hsz
  have hD := hD0.self (sz := s9.heap.size)
  generalize hAe : va_A [(sb, .inr (10, [.ref qv, .int 0, .int ml, .int cn]))] s9.heap.size = A at hD hZ hY hG ⊢
  have hA : ∀ q : Nat, s9.heap.size ≤ q → A q := fun q h => by rw [← hAe]; exact Or.inr h
  have hS : va_S A s9.heap s9.heap [] := va_S.rf
  have hP : va_P D CLS [(sb, .inr (10, [.ref qv, .int 0, .int ml, .int cn]))] s9.heap := hP
  have hl := lv_entry ([.ref sb, .ref sa]) (n := 2) (Nat.le_of_ble_eq_true rfl)
  rw [lg_entry_eq]
  generalize (lg_sl ([.ref sb, .ref sa]) ++ List.replicate (2 - (lg_sl ([.ref sb, .ref sa])).length) Slot.unset).toArray = ls at hl ⊢
  have hl : lv_has ls 2 [(0, .ref sb), (1, .ref sa)] := hl
  change W p9 l9 e9 ({ frames := 1, cells := 0, slots := 0, locals := 20 } : Room) s9 m9 _ below9 meth9 c9 _ _ _ _ _ _
  refine va_gets (n := "COMPACT_STRINGS") hx hb hY.cs hS hown (hts _ w_1292) (fun _ h9 => h9) dJ5_inflateIfNeededFor_a7421_0 ?_
  refine lv_if_eq (tgt := 21) hx hb dJ5_inflateIfNeededFor_a7421_3 (by decide) (fun c_3 => ?_) (fun c_3 => ?_)
  · skip
    exact absurd c_3 (by decide)
  · skip
    refine lv_aload_n hx hb dJ5_inflateIfNeededFor_a7421_6 rfl (lv_at hl 0 rfl) ?_
    refine va_get (D := D) (ci := 10) (v := .int 0) (C := RB1) (T := TB1) (N := 4) hx hb hts in_B1 hown hK hP 0 rfl rfl 1 (by decide) (hts _ w_1392) (fun _ h9 => h9) rfl dJ5_inflateIfNeededFor_a7421_7 ?_
    refine lv_aload_n hx hb dJ5_inflateIfNeededFor_a7421_10 rfl (lv_at hl 1 rfl) ?_
    refine k_i hA hP hD hS [(sb, .inr (10, [.ref qv, .int 0, .int ml, .int cn]))] (va_runV (As := []) (rest := [.int 0]) ⟨hx, hb, hml, hown, hts⟩ (c_J0_coder_7d493 l9 z D g sa sv T  (Array.size s9.heap)) (cwV 0 hts gv_J5_40 rfl rfl rfl (by decide +kernel) ⟨Nat.le_of_ble_eq_true rfl, Nat.le_of_ble_eq_true rfl⟩) ⟨kBlindT, vO_recv (hG).1 hS, kPreT.pc hG hY hK hZ hA hP hD hS [] rfl (by decide +kernel)⟩ rfl rfl hl.1 rfl (lv_room (Nat.le_of_ble_eq_true rfl)) dJ5_inflateIfNeededFor_a7421_11 ⟨Nat.le_of_ble_eq_true rfl, Nat.le_of_ble_eq_true rfl⟩) [] [0] rfl rfl rfl rfl (fun r_11 u_1 H locs hw_11 hP7 hD7 hS7 => ?_)
    clear hP hD hS
    have hP := hP7
    have hD := hD7
    have hS := hS7
    clear hP7 hD7 hS7
    obtain rfl := hw_11.symm
    replace hP : va_P D CLS [(sb, .inr (10, [.ref qv, .int 0, .int ml, .int cn]))] H := hP
    replace hD : va_D A [(sb, .inr (10, [.ref qv, .int 0, .int ml, .int cn]))] := hD
    refine lv_icmp_eq (tgt := 21) hx hb dJ5_inflateIfNeededFor_a7421_14 (by decide) (fun c_14 => ?_) (fun c_14 => ?_)
    · skip
      have c_14 : 0 = 0 := (nI_eq (a := 0) (b := 0) (by omega) (by omega)).mp c_14
      have hP9 : va_P D CLS [(sb, .inr (10, [.ref qv, .int 0, .int ml, .int cn]))] H := by exact kSub hP [0] rfl
      have hD9 : va_D A [(sb, .inr (10, [.ref qv, .int 0, .int ml, .int cn]))] := by exact hD.sub [0] (by decide +kernel) rfl
      exact W.vret hx hb hr (fun t9 ht9 hW9 => ⟨⟨(), rfl, trivial, by rw [ht9]; exact hP9, va_K.moved hW9.alike hK, hD9⟩, hS.F ht9⟩) hS.2.2 dJ5_inflateIfNeededFor_a7421_21
    · skip
      exact absurd ((nI_eq (a := 0) (b := 0) (by omega) (by omega)).mpr (by decide)) c_14
theorem dJ5_putStringAt_47b60_0 : decode cJ5_putStringAt_47b60 0 = .ok (.aload_n 0, 1) := by decide +kernel
theorem dJ5_putStringAt_47b60_1 : decode cJ5_putStringAt_47b60 1 = .ok (.aload_n 2, 1) := by decide +kernel
theorem dJ5_putStringAt_47b60_2 : decode cJ5_putStringAt_47b60 2 = .ok (.invokevirtual 397, 3) := by decide +kernel
theorem dJ5_putStringAt_47b60_5 : decode cJ5_putStringAt_47b60 5 = .ok (.aload_n 2, 1) := by decide +kernel
theorem dJ5_putStringAt_47b60_6 : decode cJ5_putStringAt_47b60 6 = .ok (.aload_n 0, 1) := by decide +kernel
theorem dJ5_putStringAt_47b60_7 : decode cJ5_putStringAt_47b60 7 = .ok (.getfield 15, 3) := by decide +kernel
theorem dJ5_putStringAt_47b60_10 : decode cJ5_putStringAt_47b60 10 = .ok (.iload_n 1, 1) := by decide +kernel
theorem dJ5_putStringAt_47b60_11 : decode cJ5_putStringAt_47b60 11 = .ok (.aload_n 0, 1) := by decide +kernel
theorem dJ5_putStringAt_47b60_12 : decode cJ5_putStringAt_47b60 12 = .ok (.getfield 22, 3) := by decide +kernel
theorem dJ5_putStringAt_47b60_15 : decode cJ5_putStringAt_47b60 15 = .ok (.invokevirtual 399, 3) := by decide +kernel
theorem dJ5_putStringAt_47b60_18 : decode cJ5_putStringAt_47b60 18 = .ok (.return_, 1) := by decide +kernel
set_option maxHeartbeats 4000000 in
set_option maxRecDepth 100000 in
/-- AbstractStringBuilder.putStringAt -/
theorem c_J5_putStringAt_47b60 (l9 : Launch) (z : Nat → Nat) (D : va_G) (g : Nat → ClassId) (sa : Nat) (sv : Nat) (T : List Nat) (sb : Nat) (qv : Nat) (ml : Int32) (cn : Int32) (m : Nat) (bf : Nat → Int32) (k : Nat) (hk : k + T.length ≤ m) (hm : m ≤ 4002) (hT : Asc T) (sz : Nat) : Met l9 yJ5_putStringAt_47b60 (WS yJ5_putStringAt_47b60 cJ5_putStringAt_47b60 3 none) ({ frames := 2, cells := 0, slots := 0, locals := 63 }) (va_Pc [.ref sb, .int (nI k), .ref sa] (kPreT sa sv T z D g [(sb, .inr (10, [.ref qv, .int 0, .int ml, .int cn])), (qv, .inl (g 3, m, .inl bf))] sz)) (va_Qv (fun (u9 : Unit) => True) (kB D g (va_A [(sb, .inr (10, [.ref qv, .int 0, .int ml, .int cn])), (qv, .inl (g 3, m, .inl bf))] sz) (fun (u9 : Unit) => [(sb, .inr (10, [.ref qv, .int 0, .int ml, .int cn])), (qv, .inl (g 3, m, .inl (va_cpy (fun j => nI (T.getD j 0)) bf 0 k T.length)))])) (va_A [(sb, .inr (10, [.ref qv, .int 0, .int ml, .int cn])), (qv, .inl (g 3, m, .inl bf))] sz)) 0 0 (va_A [(sb, .inr (10, [.ref qv, .int 0, .int ml, .int cn])), (qv, .inl (g 3, m, .inl bf))] sz) := by
  refine Met.ofW (cc := cJ5_putStringAt_47b60) (maxL := 3) (ret := none) (by decide) rfl ?_
  intro p9 e9 s9 m9 args9 below9 meth9 c9 s₁ B hml hv
  obtain ⟨rfl, hsz, hP, hK, hD0, hZ, hY, hG⟩ := hv
  have hx := B.exec
  have hb := B.bytes
  have hr := B.returns
  have hts := ws_sub (atoms_spec (ws := WS yJ5_putStringAt_47b60 cJ5_putStringAt_47b60 3 none) B.pre)
  have hown : s9.vm.findClass RJ5 = some m9.cls := findClass_of_methodNamed B.named
  have hlocks := B.notSynchronized
  subst hsz
  have hD := hD0.self (sz := s9.heap.size)
  generalize hAe : va_A [(sb, .inr (10, [.ref qv, .int 0, .int ml, .int cn])), (qv, .inl (g 3, m, .inl bf))] s9.heap.size = A at hD hZ hY hG ⊢
  have hA : ∀ q : Nat, s9.heap.size ≤ q → A q := fun q h => by rw [← hAe]; exact Or.inr h
  have hS : va_S A s9.heap s9.heap [] := va_S.rf
  have hP : va_P D CLS [(sb, .inr (10, [.ref qv, .int 0, .int ml, .int cn])), (qv, .inl (g 3, m, .inl bf))] s9.heap := hP
  have hl := lv_entry ([.ref sb, .int (nI k), .ref sa]) (n := 3) (Nat.le_of_ble_eq_true rfl)
  rw [lg_entry_eq]
  generalize (lg_sl ([.ref sb, .int (nI k), .ref sa]) ++ List.replicate (3 - (lg_sl ([.ref sb, .int (nI k), .ref sa])).length) Slot.unset).toArray = ls at hl ⊢
  have hl : lv_has ls 3 [(0, .ref sb), (1, .int (nI k)), (2, .ref sa)] := hl
  change W p9 l9 e9 ({ frames := 2, cells := 0, slots := 0, locals := 63 } : Room) s9 m9 _ below9 meth9 c9 _ _ _ _ _ _
  refine lv_aload_n hx hb dJ5_putStringAt_47b60_0 rfl (lv_at hl 0 rfl) ?_
  refine lv_aload_n hx hb dJ5_putStringAt_47b60_1 rfl (lv_at hl 2 rfl) ?_
  refine k_v hA hP hD hS [(qv, .inl (g 3, m, .inl bf))] (va_runU (owner := RJ5) (As := [.ref sa]) (rest := []) ⟨hx, hb, hml, hown, hts⟩ (c_J5_inflateIfNeededFor_a7421 l9 z D g sa sv T sb qv ml cn  (Array.size s9.heap)) (k_cwUp 1 hts gw_J5_inflateIfNeededFor_a7421 rfl w_1313 w_1535 w_1315 w_48 hY.sel (by decide +kernel) rfl rfl rfl (by decide +kernel) ⟨Nat.le_of_ble_eq_true rfl, Nat.le_of_ble_eq_true rfl⟩) ⟨kBlindT, va_recv hK hP (ci := 10) (q0 := 0) rfl rfl, kPreT.pc hG hY hK hZ hA hP hD hS [0] rfl (by decide +kernel)⟩ rfl rfl hl.1 rfl (lv_room (Nat.le_of_ble_eq_true rfl)) dJ5_putStringAt_47b60_2 ⟨Nat.le_of_ble_eq_true rfl, Nat.le_of_ble_eq_true rfl⟩) [0] [1] rfl rfl rfl rfl (fun u_1 H locs hw_2 hP7 hD7 hS7 => ?_)
  clear hP hD hS
  have hP := hP7
  have hD := hD7
  have hS := hS7
  clear hP7 hD7 hS7
  replace hP : va_P D CLS [(qv, .inl (g 3, m, .inl bf)), (sb, .inr (10, [.ref qv, .int 0, .int ml, .int cn]))] H := hP
  replace hD : va_D A [(qv, .inl (g 3, m, .inl bf)), (sb, .inr (10, [.ref qv, .int 0, .int ml, .int cn]))] := hD
  refine lv_aload_n hx hb dJ5_putStringAt_47b60_5 rfl (lv_at hl 2 rfl) ?_
  refine lv_aload_n hx hb dJ5_putStringAt_47b60_6 rfl (lv_at hl 0 rfl) ?_
  refine va_get (D := D) (ci := 10) (v := .ref qv) (C := RB1) (T := TB1) (N := 4) hx hb hts in_B1 hown hK hP 1 rfl rfl 0 (by decide) (hts _ w_1391) (fun _ h9 => h9) rfl dJ5_putStringAt_47b60_7 ?_
  refine lv_iload_n hx hb dJ5_putStringAt_47b60_10 rfl (lv_at hl 1 rfl) ?_
  refine lv_aload_n hx hb dJ5_putStringAt_47b60_11 rfl (lv_at hl 0 rfl) ?_
  refine va_get (D := D) (ci := 10) (v := .int 0) (C := RB1) (T := TB1) (N := 4) hx hb hts in_B1 hown hK hP 1 rfl rfl 1 (by decide) (hts _ w_1392) (fun _ h9 => h9) rfl dJ5_putStringAt_47b60_12 ?_
  refine k_v hA hP hD hS [(sb, .inr (10, [.ref qv, .int 0, .int ml, .int cn]))] (va_runV (As := [.ref qv, .int (nI k), .int 0]) (rest := []) ⟨hx, hb, hml, hown, hts⟩ (c_J0_getBytes_840e7 l9 z D g sa sv T qv m bf k (by first | assumption | decide | omega) (by first | assumption | decide | omega) (by first | assumption | decide | omega) (Array.size H)) (cwV 3 hts gv_J5_399 rfl rfl rfl (by decide +kernel) ⟨Nat.le_of_ble_eq_true rfl, Nat.le_of_ble_eq_true rfl⟩) ⟨kBlindT, vO_recv (hG).1 hS, kPreT.pc hG hY hK hZ hA hP hD hS [0] rfl (by decide +kernel)⟩ rfl rfl hl.1 rfl (lv_room (Nat.le_of_ble_eq_true rfl)) dJ5_putStringAt_47b60_15 ⟨Nat.le_of_ble_eq_true rfl, Nat.le_of_ble_eq_true rfl⟩) [0] [1] rfl rfl rfl rfl (fun u_2 H locs hw_15 hP7 hD7 hS7 => ?_)
  clear hP hD hS
  have hP := hP7
  have hD := hD7
  have hS := hS7
  clear hP7 hD7 hS7
  replace hP : va_P D CLS [(sb, .inr (10, [.ref qv, .int 0, .int ml, .int cn])), (qv, .inl (g 3, m, .inl (va_cpy (fun j => nI (T.getD j 0)) bf 0 k T.length)))] H := hP
  replace hD : va_D A [(sb, .inr (10, [.ref qv, .int 0, .int ml, .int cn])), (qv, .inl (g 3, m, .inl (va_cpy (fun j => nI (T.getD j 0)) bf 0 k T.length)))] := hD
  have hP9 : va_P D CLS [(sb, .inr (10, [.ref qv, .int 0, .int ml, .int cn])), (qv, .inl (g 3, m, .inl (va_cpy (fun j => nI (T.getD j 0)) bf 0 k T.length)))] H := by exact kSub hP [0, 1] rfl
  have hD9 : va_D A [(sb, .inr (10, [.ref qv, .int 0, .int ml, .int cn])), (qv, .inl (g 3, m, .inl (va_cpy (fun j => nI (T.getD j 0)) bf 0 k T.length)))] := by exact hD.sub [0, 1] (by decide +kernel) rfl
  exact W.vret hx hb hr (fun t9 ht9 hW9 => ⟨⟨(), rfl, trivial, by rw [ht9]; exact hP9, va_K.moved hW9.alike hK, hD9⟩, hS.F ht9⟩) hS.2.2 dJ5_putStringAt_47b60_18
theorem dJ5_append_cf1ce_0 : decode cJ5_append_cf1ce 0 = .ok (.aload_n 1, 1) := by decide +kernel
theorem dJ5_append_cf1ce_1 : decode cJ5_append_cf1ce 1 = .ok (.ifnonnull 8, 3) := by decide +kernel
theorem dJ5_append_cf1ce_9 : decode cJ5_append_cf1ce 9 = .ok (.aload_n 1, 1) := by decide +kernel
theorem dJ5_append_cf1ce_10 : decode cJ5_append_cf1ce 10 = .ok (.invokevirtual 32, 3) := by decide +kernel
theorem dJ5_append_cf1ce_13 : decode cJ5_append_cf1ce 13 = .ok (.istore_n 2, 1) := by decide +kernel
theorem dJ5_append_cf1ce_14 : decode cJ5_append_cf1ce 14 = .ok (.aload_n 0, 1) := by decide +kernel
theorem dJ5_append_cf1ce_15 : decode cJ5_append_cf1ce 15 = .ok (.aload_n 0, 1) := by decide +kernel
theorem dJ5_append_cf1ce_16 : decode cJ5_append_cf1ce 16 = .ok (.getfield 79, 3) := by decide +kernel
theorem dJ5_append_cf1ce_19 : decode cJ5_append_cf1ce 19 = .ok (.iload_n 2, 1) := by decide +kernel
theorem dJ5_append_cf1ce_20 : decode cJ5_append_cf1ce 20 = .ok (.iadd, 1) := by decide +kernel
theorem dJ5_append_cf1ce_21 : decode cJ5_append_cf1ce 21 = .ok (.invokevirtual 100, 3) := by decide +kernel
theorem dJ5_append_cf1ce_24 : decode cJ5_append_cf1ce 24 = .ok (.aload_n 0, 1) := by decide +kernel
theorem dJ5_append_cf1ce_25 : decode cJ5_append_cf1ce 25 = .ok (.aload_n 0, 1) := by decide +kernel
theorem dJ5_append_cf1ce_26 : decode cJ5_append_cf1ce 26 = .ok (.getfield 79, 3) := by decide +kernel
theorem dJ5_append_cf1ce_29 : decode cJ5_append_cf1ce 29 = .ok (.aload_n 1, 1) := by decide +kernel
theorem dJ5_append_cf1ce_30 : decode cJ5_append_cf1ce 30 = .ok (.invokevirtual 208, 3) := by decide +kernel
theorem dJ5_append_cf1ce_33 : decode cJ5_append_cf1ce 33 = .ok (.aload_n 0, 1) := by decide +kernel
theorem dJ5_append_cf1ce_34 : decode cJ5_append_cf1ce 34 = .ok (.dup, 1) := by decide +kernel
theorem dJ5_append_cf1ce_35 : decode cJ5_append_cf1ce 35 = .ok (.getfield 79, 3) := by decide +kernel
theorem dJ5_append_cf1ce_38 : decode cJ5_append_cf1ce 38 = .ok (.iload_n 2, 1) := by decide +kernel
theorem dJ5_append_cf1ce_39 : decode cJ5_append_cf1ce 39 = .ok (.iadd, 1) := by decide +kernel
theorem dJ5_append_cf1ce_40 : decode cJ5_append_cf1ce 40 = .ok (.putfield 79, 3) := by decide +kernel
theorem dJ5_append_cf1ce_43 : decode cJ5_append_cf1ce 43 = .ok (.aload_n 0, 1) := by decide +kernel
theorem dJ5_append_cf1ce_44 : decode cJ5_append_cf1ce 44 = .ok (.areturn, 1) := by decide +kernel
set_option maxHeartbeats 4000000 in
set_option maxRecDepth 100000 in
/-- AbstractStringBuilder.append(String) -/
theorem c_J5_append_cf1ce (l9 : Launch) (z : Nat → Nat) (D : va_G) (g : Nat → ClassId) (sa : Nat) (sv : Nat) (T : List Nat) (sb : Nat) (qv : Nat) (ml : Int32) (L : List Nat) (m : Nat) (bf : Nat → Int32) (hL : SbT L m bf) (hT : Asc T) (hn : (L ++ T).length ≤ 2000) (sz : Nat) : Met l9 yJ5_append_cf1ce (WS yJ5_append_cf1ce cJ5_append_cf1ce 3 (some (.object "java/lang/AbstractStringBuilder"))) ({ frames := 4, cells := 1, slots := 4002, locals := 86 }) (va_Pc [.ref sb, .ref sa] (kPreT sa sv T z D g [(sb, .inr (10, [.ref qv, .int 0, .int ml, .int (nI L.length)])), (qv, .inl (g 3, m, .inl bf))] sz)) (va_Qq (fun (r9 : Option Nat) (u9 : Nat × Nat × (Nat → Int32)) => r9 = some sb ∧ SbT (L ++ T) u9.2.1 u9.2.2) (kB D g (va_A [(sb, .inr (10, [.ref qv, .int 0, .int ml, .int (nI L.length)])), (qv, .inl (g 3, m, .inl bf))] sz) (fun (u9 : Nat × Nat × (Nat → Int32)) => [(sb, .inr (10, [.ref u9.1, .int 0, .int ml, .int (nI (L ++ T).length)])), (u9.1, .inl (g 3, u9.2.1, .inl u9.2.2))])) (va_A [(sb, .inr (10, [.ref qv, .int 0, .int ml, .int (nI L.length)])), (qv, .inl (g 3, m, .inl bf))] sz)) 1 4002 (va_A [(sb, .inr (10, [.ref qv, .int 0, .int ml, .int (nI L.length)])), (qv, .inl (g 3, m, .inl bf))] sz) := by
  refine Met.ofW (cc := cJ5_append_cf1ce) (maxL := 3) (ret := (some (.object "java/lang/AbstractStringBuilder"))) (by decide) rfl ?_
  intro p9 e9 s9 m9 args9 below9 meth9 c9 s₁ B hml hv
  obtain ⟨rfl, hsz, hP, hK, hD0, hZ, hY, hG⟩ := hv
  have hx := B.exec
  have hb := B.bytes
  have hr := B.returns
  have hts := ws_sub (atoms_spec (ws := WS yJ5_append_cf1ce cJ5_append_cf1ce 3 (some (.object "java/lang/AbstractStringBuilder"))) B.pre)
  have hown : s9.vm.findClass RJ5 = some m9.cls := findClass_of_methodNamed B.named
  have hlocks := B.notSynchronized
  subst hsz
  have hD := hD0.self (sz := s9.heap.size)
  generalize hAe : va_A [(sb, .inr (10, [.ref qv, .int 0, .int ml, .int (nI L.length)])), (qv, .inl (g 3, m, .inl bf))] s9.heap.size = A at hD hZ hY hG ⊢
  have hA : ∀ q : Nat, s9.heap.size ≤ q → A q := fun q h => by rw [← hAe]; exact Or.inr h
  have hS : va_S A s9.heap s9.heap [] := va_S.rf
  have hP : va_P D CLS [(sb, .inr (10, [.ref qv, .int 0, .int ml, .int (nI L.length)])), (qv, .inl (g 3, m, .inl bf))] s9.heap := hP
  have hl := lv_entry ([.ref sb, .ref sa]) (n := 3) (Nat.le_of_ble_eq_true rfl)
  rw [lg_entry_eq]
  generalize (lg_sl ([.ref sb, .ref sa]) ++ List.replicate (3 - (lg_sl ([.ref sb, .ref sa])).length) Slot.unset).toArray = ls at hl ⊢
  have hl : lv_has ls 3 [(0, .ref sb), (1, .ref sa)] := hl
  change W p9 l9 e9 ({ frames := 4, cells := 1, slots := 4002, locals := 86 } : Room) s9 m9 _ below9 meth9 c9 _ _ _ _ _ _
  have hA7 : (L ++ T).length = L.length + T.length := List.length_append
  have hA8 := hL.1
  have hA9 := hL.2.1
  refine lv_aload_n hx hb dJ5_append_cf1ce_0 rfl (lv_at hl 1 rfl) ?_
  refine lv_ifnonnull (tgt := 9) hx hb dJ5_append_cf1ce_1 (by decide) ?_
  refine lv_aload_n hx hb dJ5_append_cf1ce_9 rfl (lv_at hl 1 rfl) ?_
  refine k_i hA hP hD hS [(sb, .inr (10, [.ref qv, .int 0, .int ml, .int (nI L.length)])), (qv, .inl (g 3, m, .inl bf))] (va_runV (As := []) (rest := []) ⟨hx, hb, hml, hown, hts⟩ (c_J0_length_8abf5 l9 z D g sa sv T  (Array.size s9.heap)) (cwV 0 hts gv_J5_32 rfl rfl rfl (by decide +kernel) ⟨Nat.le_of_ble_eq_true rfl, Nat.le_of_ble_eq_true rfl⟩) ⟨kBlindT, vO_recv (hG).1 hS, kPreT.pc hG hY hK hZ hA hP hD hS [] rfl (by decide +kernel)⟩ rfl rfl hl.1 rfl (lv_room (Nat.le_of_ble_eq_true rfl)) dJ5_append_cf1ce_10 ⟨Nat.le_of_ble_eq_true rfl, Nat.le_of_ble_eq_true rfl⟩) [] [0, 1] rfl rfl rfl rfl (fun r_10 u_1 H locs hw_10 hP7 hD7 hS7 => ?_)
  clear hP hD hS
  have hP := hP7
  have hD := hD7
  have hS := hS7
  clear hP7 hD7 hS7
  obtain rfl := hw_10
  replace hP : va_P D CLS [(sb, .inr (10, [.ref qv, .int 0, .int ml, .int (nI L.length)])), (qv, .inl (g 3, m, .inl bf))] H := hP
  replace hD : va_D A [(sb, .inr (10, [.ref qv, .int 0, .int ml, .int (nI L.length)])), (qv, .inl (g 3, m, .inl bf))] := hD
  refine lv_istore_n (lv' := [(2, .int (nI T.length)), (0, .ref sb), (1, .ref sa)]) hx hb dJ5_append_cf1ce_13 rfl hl (by decide) rfl (fun ls hl => ?_)
  refine lv_aload_n hx hb dJ5_append_cf1ce_14 rfl (lv_at hl 1 rfl) ?_
  refine lv_aload_n hx hb dJ5_append_cf1ce_15 rfl (lv_at hl 1 rfl) ?_
  refine va_get (D := D) (ci := 10) (v := .int (nI L.length)) (C := RB1) (T := TB1) (N := 4) hx hb hts in_B1 hown hK hP 0 rfl rfl 3 (by decide) (hts _ w_1394) (fun _ h9 => h9) rfl dJ5_append_cf1ce_16 ?_
  refine lv_iload_n hx hb dJ5_append_cf1ce_19 rfl (lv_at hl 0 rfl) ?_
  refine lv_iadd hx hb dJ5_append_cf1ce_20 ?_
  refine k_topi (show ((nI L.length) + (nI T.length)) = (nI (L ++ T).length) from len_app) ?_
  refine k_v hA hP hD hS [] (va_runU (owner := RJ5) (As := [.int (nI (L ++ T).length)]) (rest := []) ⟨hx, hb, hml, hown, hts⟩ (c_J5_ensureCapacityInternal_d00df l9 z D g sb qv ml (nI L.length) m bf ((L ++ T).length) (by omega) hA9 hL.2.2.2 (Array.size H)) (k_cwUp 1 hts gw_J5_ensureCapacityInternal_d00df rfl w_1258 w_1532 w_1260 w_48 hY.sel (by decide +kernel) rfl rfl rfl (by decide +kernel) ⟨Nat.le_of_ble_eq_true rfl, Nat.le_of_ble_eq_true rfl⟩) ⟨kBlindL, va_recv hK hP (ci := 10) (q0 := 0) rfl rfl, kPreL.pc hY hK hZ hA hP hD hS [0, 1] rfl (by decide +kernel)⟩ rfl rfl hl.1 rfl (lv_room (Nat.le_of_ble_eq_true rfl)) dJ5_append_cf1ce_21 ⟨Nat.le_of_ble_eq_true rfl, Nat.le_of_ble_eq_true rfl⟩) [0, 1] [] rfl rfl rfl rfl (fun u_2 H locs hw_21 hP7 hD7 hS7 => ?_)
  clear hP hD hS
  have hP := hP7
  have hD := hD7
  have hS := hS7
  clear hP7 hD7 hS7
  obtain ⟨q2u_3, m2u_4, b2u_5⟩ := u_2
  try dsimp only at hw_21
  replace hP : va_P D CLS [(sb, .inr (10, [.ref q2u_3, .int 0, .int ml, .int (nI L.length)])), (q2u_3, .inl (g 3, m2u_4, .inl b2u_5))] H := hP
  replace hD : va_D A [(sb, .inr (10, [.ref q2u_3, .int 0, .int ml, .int (nI L.length)])), (q2u_3, .inl (g 3, m2u_4, .inl b2u_5))] := hD
  have hg := hL.grow hw_21
  have hg1 := hw_21.1
  have hg2 := hw_21.2.1
  refine lv_aload_n hx hb dJ5_append_cf1ce_24 rfl (lv_at hl 1 rfl) ?_
  refine lv_aload_n hx hb dJ5_append_cf1ce_25 rfl (lv_at hl 1 rfl) ?_
  refine va_get (D := D) (ci := 10) (v := .int (nI L.length)) (C := RB1) (T := TB1) (N := 4) hx hb hts in_B1 hown hK hP 0 rfl rfl 3 (by decide) (hts _ w_1394) (fun _ h9 => h9) rfl dJ5_append_cf1ce_26 ?_
  refine lv_aload_n hx hb dJ5_append_cf1ce_29 rfl (lv_at hl 2 rfl) ?_
  refine k_v hA hP hD hS [] (va_runU (owner := RJ5) (As := [.int (nI L.length), .ref sa]) (rest := []) ⟨hx, hb, hml, hown, hts⟩ (c_J5_putStringAt_47b60 l9 z D g sa sv T sb q2u_3 ml (nI L.length) m2u_4 b2u_5 L.length (by omega) (by omega) hT (Array.size H)) (k_cwUp 2 hts gw_J5_putStringAt_47b60 rfl w_1309 w_1534 w_1311 w_48 hY.sel (by decide +kernel) rfl rfl rfl (by decide +kernel) ⟨Nat.le_of_ble_eq_true rfl, Nat.le_of_ble_eq_true rfl⟩) ⟨kBlindT, va_recv hK hP (ci := 10) (q0 := 0) rfl rfl, kPreT.pc hG hY hK hZ hA hP hD hS [0, 1] rfl (by decide +kernel)⟩ rfl rfl hl.1 rfl (lv_room (Nat.le_of_ble_eq_true rfl)) dJ5_append_cf1ce_30 ⟨Nat.le_of_ble_eq_true rfl, Nat.le_of_ble_eq_true rfl⟩) [0, 1] [] rfl rfl rfl rfl (fun u_6 H locs hw_30 hP7 hD7 hS7 => ?_)
  clear hP hD hS
  have hP := hP7
  have hD := hD7
  have hS := hS7
  clear hP7 hD7 hS7
  replace hP : va_P D CLS [(sb, .inr (10, [.ref q2u_3, .int 0, .int ml, .int (nI L.length)])), (q2u_3, .inl (g 3, m2u_4, .inl (va_cpy (fun j => nI (T.getD j 0)) b2u_5 0 L.length T.length)))] H := hP
  replace hD : va_D A [(sb, .inr (10, [.ref q2u_3, .int 0, .int ml, .int (nI L.length)])), (q2u_3, .inl (g 3, m2u_4, .inl (va_cpy (fun j => nI (T.getD j 0)) b2u_5 0 L.length T.length)))] := hD
  refine lv_aload_n hx hb dJ5_append_cf1ce_33 rfl (lv_at hl 1 rfl) ?_
  refine lv_dup hx hb dJ5_append_cf1ce_34 rfl ?_
  refine va_get (D := D) (ci := 10) (v := .int (nI L.length)) (C := RB1) (T := TB1) (N := 4) hx hb hts in_B1 hown hK hP 0 rfl rfl 3 (by decide) (hts _ w_1394) (fun _ h9 => h9) rfl dJ5_append_cf1ce_35 ?_
  refine lv_iload_n hx hb dJ5_append_cf1ce_38 rfl (lv_at hl 0 rfl) ?_
  refine lv_iadd hx hb dJ5_append_cf1ce_39 ?_
  refine k_topi (show ((nI L.length) + (nI T.length)) = (nI (L ++ T).length) from len_app) ?_
  refine va_put (D := D) (ci := 10) (v := .int (nI (L ++ T).length)) (ty := .int) (C := RB1) (T := TB1) (N := 4) hx hb hts in_B1 tyB1 tyB1_ok nmB1 hown hK hP hD hS 0 rfl rfl 3 (by decide) (hts _ w_1394) (fun _ h9 => h9) rfl (by decide +kernel) rfl rfl (Nat.le_of_ble_eq_true rfl) dJ5_append_cf1ce_40 (fun H locs hP7 hD7 hS7 => ?_)
  clear hP hD hS
  have hP := hP7
  have hD := hD7
  have hS := hS7
  clear hP7 hD7 hS7
  replace hP : va_P D CLS [(sb, .inr (10, [.ref q2u_3, .int 0, .int ml, .int (nI (L ++ T).length)])), (q2u_3, .inl (g 3, m2u_4, .inl (va_cpy (fun j => nI (T.getD j 0)) b2u_5 0 L.length T.length)))] H := hP
  replace hD : va_D A [(sb, .inr (10, [.ref q2u_3, .int 0, .int ml, .int (nI (L ++ T).length)])), (q2u_3, .inl (g 3, m2u_4, .inl (va_cpy (fun j => nI (T.getD j 0)) b2u_5 0 L.length T.length)))] := hD
  refine lv_aload_n hx hb dJ5_append_cf1ce_43 rfl (lv_at hl 1 rfl) ?_
  have hr9 : sb = (some sb) := by rfl
  have hP9 : va_P D CLS [(sb, .inr (10, [.ref q2u_3, .int 0, .int ml, .int (nI (L ++ T).length)])), (q2u_3, .inl (g 3, m2u_4, .inl (va_cpy (fun j => nI (T.getD j 0)) b2u_5 0 L.length T.length)))] H := by exact kSub hP [0, 1] rfl
  have hD9 : va_D A [(sb, .inr (10, [.ref q2u_3, .int 0, .int ml, .int (nI (L ++ T).length)])), (q2u_3, .inl (g 3, m2u_4, .inl (va_cpy (fun j => nI (T.getD j 0)) b2u_5 0 L.length T.length)))] := by exact hD.sub [0, 1] (by decide +kernel) rfl
  refine W.widen (k := 1) (n := 4002) (by omega) (by omega) ?_
  exact W.aret (v := va_rf (some sb)) hx hb hr (Or.inl ⟨_, rfl⟩) (va_rf_or _) (fun t9 ht9 hW9 => ⟨⟨some sb, (q2u_3, m2u_4, va_cpy (fun j => nI (T.getD j 0)) b2u_5 0 L.length T.length), rfl, ⟨hr9, (by dsimp only; exact (cpy_in hg hT (by omega)))⟩, by rw [ht9]; exact hP9, va_K.moved hW9.alike hK, hD9⟩, hS.F ht9⟩) hS.2.2 dJ5_append_cf1ce_44
theorem dJ4_append_15ec4_0 : decode cJ4_append_15ec4 0 = .ok (.aload_n 0, 1) := by decide +kernel
theorem dJ4_append_15ec4_1 : decode cJ4_append_15ec4 1 = .ok (.aload_n 1, 1) := by decide +kernel
theorem dJ4_append_15ec4_2 : decode cJ4_append_15ec4 2 = .ok (.invokespecial 29, 3) := by decide +kernel
theorem dJ4_append_15ec4_5 : decode cJ4_append_15ec4 5 = .ok (.pop, 1) := by decide +kernel
theorem dJ4_append_15ec4_6 : decode cJ4_append_15ec4 6 = .ok (.aload_n 0, 1) := by decide +kernel
theorem dJ4_append_15ec4_7 : decode cJ4_append_15ec4 7 = .ok (.areturn, 1) := by decide +kernel
set_option maxHeartbeats 4000000 in
set_option maxRecDepth 100000 in
/-- StringBuilder.append(String) -/
theorem c_J4_append_15ec4 (l9 : Launch) (z : Nat → Nat) (D : va_G) (g : Nat → ClassId) (sa : Nat) (sv : Nat) (T : List Nat) (sb : Nat) (qv : Nat) (ml : Int32) (L : List Nat) (m : Nat) (bf : Nat → Int32) (hL : SbT L m bf) (hT : Asc T) (hn : (L ++ T).length ≤ 2000) (sz : Nat) : Met l9 yJ4_append_15ec4 (WS yJ4_append_15ec4 cJ4_append_15ec4 2 (some (.object "java/lang/StringBuilder"))) ({ frames := 5, cells := 1, slots := 4002, locals := 108 }) (va_Pc [.ref sb, .ref sa] (kPreT sa sv T z D g [(sb, .inr (10, [.ref qv, .int 0, .int ml, .int (nI L.length)])), (qv, .inl (g 3, m, .inl bf))] sz)) (va_Qq (fun (r9 : Option Nat) (u9 : Nat × Nat × (Nat → Int32)) => r9 = some sb ∧ SbT (L ++ T) u9.2.1 u9.2.2) (kB D g (va_A [(sb, .inr (10, [.ref qv, .int 0, .int ml, .int (nI L.length)])), (qv, .inl (g 3, m, .inl bf))] sz) (fun (u9 : Nat × Nat × (Nat → Int32)) => [(sb, .inr (10, [.ref u9.1, .int 0, .int ml, .int (nI (L ++ T).length)])), (u9.1, .inl (g 3, u9.2.1, .inl u9.2.2))])) (va_A [(sb, .inr (10, [.ref qv, .int 0, .int ml, .int (nI L.length)])), (qv, .inl (g 3, m, .inl bf))] sz)) 1 4002 (va_A [(sb, .inr (10, [.ref qv, .int 0, .int ml, .int (nI L.length)])), (qv, .inl (g 3, m, .inl bf))] sz) := by
  refine Met.ofW (cc := cJ4_append_15ec4) (maxL := 2) (ret := (some (.object "java/lang/StringBuilder"))) (by decide) rfl ?_
  intro p9 e9 s9 m9 args9 below9 meth9 c9 s₁ B hml hv
  obtain ⟨rfl, hsz, hP, hK, hD0, hZ, hY, hG⟩ := hv
  have hx := B.exec
  have hb := B.bytes
  have hr := B.returns
  have hts := ws_sub (atoms_spec (ws := WS yJ4_append_15ec4 cJ4_append_15ec4 2 (some (.object "java/lang/StringBuilder"))) B.pre)
  have hown : s9.vm.findClass RJ4 = some m9.cls := findClass_of_methodNamed B.named
  have hlocks := B.notSynchronized
  subst hsz
  have hD := hD0.self (sz := s9.heap.size)
  generalize hAe : va_A [(sb, .inr (10, [.ref qv, .int 0, .int ml, .int (nI L.length)])), (qv, .inl (g 3, m, .inl bf))] s9.heap.size = A at hD hZ hY hG ⊢
  have hA : ∀ q : Nat, s9.heap.size ≤ q → A q := fun q h => by rw [← hAe]; exact Or.inr h
  have hS : va_S A s9.heap s9.heap [] := va_S.rf
  have hP : va_P D CLS [(sb, .inr (10, [.ref qv, .int 0, .int ml, .int (nI L.length)])), (qv, .inl (g 3, m, .inl bf))] s9.heap := hP
  have hl := lv_entry ([.ref sb, .ref sa]) (n := 2) (Nat.le_of_ble_eq_true rfl)
  rw [lg_entry_eq]
  generalize (lg_sl ([.ref sb, .ref sa]) ++ List.replicate (2 - (lg_sl ([.ref sb, .ref sa])).length) Slot.unset).toArray = ls at hl ⊢
  have hl : lv_has ls 2 [(0, .ref sb), (1, .ref sa)] := hl
  change W p9 l9 e9 ({ frames := 5, cells := 1, slots := 4002, locals := 108 } : Room) s9 m9 _ below9 meth9 c9 _ _ _ _ _ _
  refine lv_aload_n hx hb dJ4_append_15ec4_0 rfl (lv_at hl 0 rfl) ?_
  refine lv_aload_n hx hb dJ4_append_15ec4_1 rfl (lv_at hl 1 rfl) ?_
  refine k_q hA hP hD hS [] (va_runSU ((hK.1 10 _ rfl).2) (As := [.ref sa]) (rest := []) ⟨hx, hb, hml, hown, hts⟩ (c_J5_append_cf1ce l9 z D g sa sv T sb qv ml L m bf (by first | assumption | decide | omega) (by first | assumption | decide | omega) (by first | assumption | decide | omega) (Array.size s9.heap)) (va_cwSU 1 hts gsu_J4_29 rfl rfl rfl (by decide +kernel) ⟨Nat.le_of_ble_eq_true rfl, Nat.le_of_ble_eq_true rfl⟩) ⟨kBlindT, va_recv hK hP (ci := 10) (q0 := 0) rfl rfl, kPreT.pc hG hY hK hZ hA hP hD hS [0, 1] rfl (by decide +kernel)⟩ rfl rfl hl.1 rfl (lv_room (Nat.le_of_ble_eq_true rfl)) dJ4_append_15ec4_2 ⟨Nat.le_of_ble_eq_true rfl, Nat.le_of_ble_eq_true rfl⟩) [0, 1] [] rfl rfl rfl rfl (fun r_2 u_1 H locs hw_2 hP7 hD7 hS7 => ?_)
  clear hP hD hS
  have hP := hP7
  have hD := hD7
  have hS := hS7
  clear hP7 hD7 hS7
  obtain ⟨q2u_2, m2u_3, b2u_4⟩ := u_1
  try dsimp only at hw_2
  obtain ⟨rfl, hw_2⟩ := hw_2
  replace hP : va_P D CLS [(sb, .inr (10, [.ref q2u_2, .int 0, .int ml, .int (nI (L ++ T).length)])), (q2u_2, .inl (g 3, m2u_3, .inl b2u_4))] H := hP
  replace hD : va_D A [(sb, .inr (10, [.ref q2u_2, .int 0, .int ml, .int (nI (L ++ T).length)])), (q2u_2, .inl (g 3, m2u_3, .inl b2u_4))] := hD
  refine lv_pop hx hb dJ4_append_15ec4_5 rfl ?_
  refine lv_aload_n hx hb dJ4_append_15ec4_6 rfl (lv_at hl 0 rfl) ?_
  have hr9 : sb = (some sb) := by rfl
  have hP9 : va_P D CLS [(sb, .inr (10, [.ref q2u_2, .int 0, .int ml, .int (nI (L ++ T).length)])), (q2u_2, .inl (g 3, m2u_3, .inl b2u_4))] H := by exact kSub hP [0, 1] rfl
  have hD9 : va_D A [(sb, .inr (10, [.ref q2u_2, .int 0, .int ml, .int (nI (L ++ T).length)])), (q2u_2, .inl (g 3, m2u_3, .inl b2u_4))] := by exact hD.sub [0, 1] (by decide +kernel) rfl
  refine W.widen (k := 1) (n := 4002) (by omega) (by omega) ?_
  exact W.aret (v := va_rf (some sb)) hx hb hr (Or.inl ⟨_, rfl⟩) (va_rf_or _) (fun t9 ht9 hW9 => ⟨⟨some sb, (q2u_2, m2u_3, b2u_4), rfl, ⟨hr9, (by dsimp only; exact hw_2)⟩, by rw [ht9]; exact hP9, va_K.moved hW9.alike hK, hD9⟩, hS.F ht9⟩) hS.2.2 dJ4_append_15ec4_7
theorem dJ6_stringSize_0f7a4_0 : decode cJ6_stringSize_0f7a4 0 = .ok (.iconst 1, 1) := by decide +kernel
theorem dJ6_stringSize_0f7a4_1 : decode cJ6_stringSize_0f7a4 1 = .ok (.istore_n 1, 1) := by decide +kernel
theorem dJ6_stringSize_0f7a4_2 : decode cJ6_stringSize_0f7a4 2 = .ok (.iload_n 0, 1) := by decide +kernel
theorem dJ6_stringSize_0f7a4_3 : decode cJ6_stringSize_0f7a4 3 = .ok (.ifCond .lt 8, 3) := by decide +kernel
theorem dJ6_stringSize_0f7a4_6 : decode cJ6_stringSize_0f7a4 6 = .ok (.iconst 0, 1) := by decide +kernel
theorem dJ6_stringSize_0f7a4_7 : decode cJ6_stringSize_0f7a4 7 = .ok (.istore_n 1, 1) := by decide +kernel
theorem dJ6_stringSize_0f7a4_8 : decode cJ6_stringSize_0f7a4 8 = .ok (.iload_n 0, 1) := by decide +kernel
theorem dJ6_stringSize_0f7a4_9 : decode cJ6_stringSize_0f7a4 9 = .ok (.ineg, 1) := by decide +kernel
theorem dJ6_stringSize_0f7a4_10 : decode cJ6_stringSize_0f7a4 10 = .ok (.istore_n 0, 1) := by decide +kernel
theorem dJ6_stringSize_0f7a4_11 : decode cJ6_stringSize_0f7a4 11 = .ok (.bipush (-10), 2) := by decide +kernel
theorem dJ6_stringSize_0f7a4_13 : decode cJ6_stringSize_0f7a4 13 = .ok (.istore_n 2, 1) := by decide +kernel
theorem dJ6_stringSize_0f7a4_14 : decode cJ6_stringSize_0f7a4 14 = .ok (.iconst 1, 1) := by decide +kernel
theorem dJ6_stringSize_0f7a4_15 : decode cJ6_stringSize_0f7a4 15 = .ok (.istore_n 3, 1) := by decide +kernel
theorem dJ6_stringSize_0f7a4_16 : decode cJ6_stringSize_0f7a4 16 = .ok (.iload_n 3, 1) := by decide +kernel
theorem dJ6_stringSize_0f7a4_17 : decode cJ6_stringSize_0f7a4 17 = .ok (.bipush 10, 2) := by decide +kernel
theorem dJ6_stringSize_0f7a4_19 : decode cJ6_stringSize_0f7a4 19 = .ok (.if_icmp .ge 23, 3) := by decide +kernel
theorem dJ6_stringSize_0f7a4_22 : decode cJ6_stringSize_0f7a4 22 = .ok (.iload_n 0, 1) := by decide +kernel
theorem dJ6_stringSize_0f7a4_23 : decode cJ6_stringSize_0f7a4 23 = .ok (.iload_n 2, 1) := by decide +kernel
theorem dJ6_stringSize_0f7a4_24 : decode cJ6_stringSize_0f7a4 24 = .ok (.if_icmp .le 7, 3) := by decide +kernel
theorem dJ6_stringSize_0f7a4_27 : decode cJ6_stringSize_0f7a4 27 = .ok (.iload_n 3, 1) := by decide +kernel
theorem dJ6_stringSize_0f7a4_28 : decode cJ6_stringSize_0f7a4 28 = .ok (.iload_n 1, 1) := by decide +kernel
theorem dJ6_stringSize_0f7a4_29 : decode cJ6_stringSize_0f7a4 29 = .ok (.iadd, 1) := by decide +kernel
theorem dJ6_stringSize_0f7a4_30 : decode cJ6_stringSize_0f7a4 30 = .ok (.ireturn, 1) := by decide +kernel
theorem dJ6_stringSize_0f7a4_31 : decode cJ6_stringSize_0f7a4 31 = .ok (.bipush 10, 2) := by decide +kernel
theorem dJ6_stringSize_0f7a4_33 : decode cJ6_stringSize_0f7a4 33 = .ok (.iload_n 2, 1) := by decide +kernel
theorem dJ6_stringSize_0f7a4_34 : decode cJ6_stringSize_0f7a4 34 = .ok (.imul, 1) := by decide +kernel
theorem dJ6_stringSize_0f7a4_35 : decode cJ6_stringSize_0f7a4 35 = .ok (.istore_n 2, 1) := by decide +kernel
theorem dJ6_stringSize_0f7a4_36 : decode cJ6_stringSize_0f7a4 36 = .ok (.iinc 3 1, 3) := by decide +kernel
theorem dJ6_stringSize_0f7a4_39 : decode cJ6_stringSize_0f7a4 39 = .ok (.goto (-23), 3) := by decide +kernel
set_option maxHeartbeats 4000000 in
set_option maxRecDepth 100000 in
/-- Integer.stringSize -/
theorem c_J6_stringSize_0f7a4 (l9 : Launch) (z : Nat → Nat) (D : va_G) (g : Nat → ClassId) (v : Nat) (hv : v < 1000) (sz : Nat) : Met l9 yJ6_stringSize_0f7a4 (WS yJ6_stringSize_0f7a4 cJ6_stringSize_0f7a4 4 (some .int)) ({ frames := 0, cells := 0, slots := 0, locals := 0 }) (va_Pc [.int (nI v)] (kPre z D g [] sz)) (va_Qi (fun (r9 : Int32) (u9 : Unit) => r9 = nI (dec v).length) (kB D g (va_A [] sz) (fun (u9 : Unit) => [])) (va_A [] sz)) 0 0 (va_A [] sz) := by
  refine Met.ofW (cc := cJ6_stringSize_0f7a4) (maxL := 4) (ret := (some .int)) (by decide) rfl ?_
  intro p9 e9 s9 m9 args9 below9 meth9 c9 s₁ B hml hv
  obtain ⟨rfl, hsz, hP, hK, hD0, hZ⟩ := hv
  have hx := B.exec
  have hb := B.bytes
  have hr := B.returns
  have hts := ws_sub (atoms_spec (ws := WS yJ6_stringSize_0f7a4 cJ6_stringSize_0f7a4 4 (some .int)) B.pre)
  have hown : s9.vm.findClass RJ6 = some m9.cls := findClass_of_methodNamed B.named
  have hlocks := B.notSynchronized
  subst hsz
  have hD := hD0.self (sz := s9.heap.size)
  generalize hAe : va_A [] s9.heap.size = A at hD hZ ⊢
  have hA : ∀ q : Nat, s9.heap.size ≤ q → A q := fun q h => by rw [← hAe]; exact Or.inr h
  have hS : va_S A s9.heap s9.heap [] := va_S.rf
  have hP : va_P D CLS [] s9.heap := hP
  have hl := lv_entry ([.int (nI v)]) (n := 4) (Nat.le_of_ble_eq_true rfl)
  rw [lg_entry_eq]
  generalize (lg_sl ([.int (nI v)]) ++ List.replicate (4 - (lg_sl ([.int (nI v)])).length) Slot.unset).toArray = ls at hl ⊢
  have hl : lv_has ls 4 [(0, .int (nI v))] := hl
  change W p9 l9 e9 ({ frames := 0, cells := 0, slots := 0, locals := 0 } : Room) s9 m9 _ below9 meth9 c9 _ _ _ _ _ _
  refine lv_iconst (v := 1) hx hb dJ6_stringSize_0f7a4_0 (by decide) ?_
  refine lv_istore_n (lv' := [(1, .int 1), (0, .int (nI v))]) hx hb dJ6_stringSize_0f7a4_1 rfl hl (by decide) rfl (fun ls hl => ?_)
  refine lv_iload_n hx hb dJ6_stringSize_0f7a4_2 rfl (lv_at hl 1 rfl) ?_
  refine lv_if_lt (tgt := 11) hx hb dJ6_stringSize_0f7a4_3 (by decide) (fun c_3 => ?_) (fun c_3 => ?_)
  · skip
    exact absurd c_3 (nI_pos (by omega))
  · skip
    refine lv_iconst (v := 0) hx hb dJ6_stringSize_0f7a4_6 (by decide) ?_
    refine lv_istore_n (lv' := [(1, .int 0), (0, .int (nI v))]) hx hb dJ6_stringSize_0f7a4_7 rfl hl (by decide) rfl (fun ls hl => ?_)
    refine lv_iload_n hx hb dJ6_stringSize_0f7a4_8 rfl (lv_at hl 1 rfl) ?_
    refine lv_ineg hx hb dJ6_stringSize_0f7a4_9 ?_
    refine lv_istore_n (lv' := [(0, .int (-(nI v))), (1, .int 0)]) hx hb dJ6_stringSize_0f7a4_10 rfl hl (by decide) rfl (fun ls hl => ?_)
    refine lv_bipush (v := (-10)) hx hb dJ6_stringSize_0f7a4_11 (by decide) ?_
    refine lv_istore_n (lv' := [(2, .int (-10)), (0, .int (-(nI v))), (1, .int 0)]) hx hb dJ6_stringSize_0f7a4_13 rfl hl (by decide) rfl (fun ls hl => ?_)
    refine lv_iconst (v := 1) hx hb dJ6_stringSize_0f7a4_14 (by decide) ?_
    refine lv_istore_n (lv' := [(3, .int 1), (2, .int (-10)), (0, .int (-(nI v))), (1, .int 0)]) hx hb dJ6_stringSize_0f7a4_15 rfl hl (by decide) rfl (fun ls hl => ?_)
    refine lv_iload_n hx hb dJ6_stringSize_0f7a4_16 rfl (lv_at hl 0 rfl) ?_
    refine lv_bipush (v := 10) hx hb dJ6_stringSize_0f7a4_17 (by decide) ?_
    refine lv_icmp_ge (tgt := 42) hx hb dJ6_stringSize_0f7a4_19 (by decide) (fun c_19 => ?_) (fun c_19 => ?_)
    · skip
      exact absurd ((nI_leI (a := 10) (b := 1) (by omega) (by omega)).mp c_19) (by decide)
    · skip
      have c_19 : ¬ 10 ≤ 1 := fun h => c_19 ((nI_leI (a := 10) (b := 1) (by omega) (by omega)).mpr h)
      refine lv_iload_n hx hb dJ6_stringSize_0f7a4_22 rfl (lv_at hl 2 rfl) ?_
      refine lv_iload_n hx hb dJ6_stringSize_0f7a4_23 rfl (lv_at hl 1 rfl) ?_
      refine lv_icmp_le (tgt := 31) hx hb dJ6_stringSize_0f7a4_24 (by decide) (fun c_24 => ?_) (fun c_24 => ?_)
      · skip
        have c_24 := (neg_le (a := v) (b := 10) (by omega) (by omega)).mp c_24
        refine lv_bipush (v := 10) hx hb dJ6_stringSize_0f7a4_31 (by decide) ?_
        refine lv_iload_n hx hb dJ6_stringSize_0f7a4_33 rfl (lv_at hl 1 rfl) ?_
        refine lv_imul hx hb dJ6_stringSize_0f7a4_34 ?_
        refine k_topi (show ((10 * (-10)) : Int32) = (-100) from (by decide)) ?_
        refine lv_istore_n (lv' := [(2, .int (-100)), (3, .int 1), (0, .int (-(nI v))), (1, .int 0)]) hx hb dJ6_stringSize_0f7a4_35 rfl hl (by decide) rfl (fun ls hl => ?_)
        refine lv_iinc (v := 2) (lv' := [(3, .int 2), (2, .int (-100)), (0, .int (-(nI v))), (1, .int 0)]) hx hb dJ6_stringSize_0f7a4_36 hl (k := 1) rfl (by decide) (by decide) rfl (fun ls hl => ?_)
        refine lv_goto (tgt := 16) hx hb dJ6_stringSize_0f7a4_39 (by decide) ?_
        refine lv_iload_n hx hb dJ6_stringSize_0f7a4_16 rfl (lv_at hl 0 rfl) ?_
        refine lv_bipush (v := 10) hx hb dJ6_stringSize_0f7a4_17 (by decide) ?_
        refine lv_icmp_ge (tgt := 42) hx hb dJ6_stringSize_0f7a4_19 (by decide) (fun c_19 => ?_) (fun c_19 => ?_)
        · skip
          exact absurd ((nI_leI (a := 10) (b := 2) (by omega) (by omega)).mp c_19) (by decide)
        · skip
          have c_19 : ¬ 10 ≤ 2 := fun h => c_19 ((nI_leI (a := 10) (b := 2) (by omega) (by omega)).mpr h)
          refine lv_iload_n hx hb dJ6_stringSize_0f7a4_22 rfl (lv_at hl 2 rfl) ?_
          refine lv_iload_n hx hb dJ6_stringSize_0f7a4_23 rfl (lv_at hl 1 rfl) ?_
          refine lv_icmp_le (tgt := 31) hx hb dJ6_stringSize_0f7a4_24 (by decide) (fun c_24 => ?_) (fun c_24 => ?_)
          · skip
            have c_24 := (neg_le (a := v) (b := 100) (by omega) (by omega)).mp c_24
            refine lv_bipush (v := 10) hx hb dJ6_stringSize_0f7a4_31 (by decide) ?_
            refine lv_iload_n hx hb dJ6_stringSize_0f7a4_33 rfl (lv_at hl 1 rfl) ?_
            refine lv_imul hx hb dJ6_stringSize_0f7a4_34 ?_
            refine k_topi (show ((10 * (-100)) : Int32) = (-1000) from (by decide)) ?_
            refine lv_istore_n (lv' := [(2, .int (-1000)), (3, .int 2), (0, .int (-(nI v))), (1, .int 0)]) hx hb dJ6_stringSize_0f7a4_35 rfl hl (by decide) rfl (fun ls hl => ?_)
            refine lv_iinc (v := 3) (lv' := [(3, .int 3), (2, .int (-1000)), (0, .int (-(nI v))), (1, .int 0)]) hx hb dJ6_stringSize_0f7a4_36 hl (k := 1) rfl (by decide) (by decide) rfl (fun ls hl => ?_)
            refine lv_goto (tgt := 16) hx hb dJ6_stringSize_0f7a4_39 (by decide) ?_
            refine lv_iload_n hx hb dJ6_stringSize_0f7a4_16 rfl (lv_at hl 0 rfl) ?_
            refine lv_bipush (v := 10) hx hb dJ6_stringSize_0f7a4_17 (by decide) ?_
            refine lv_icmp_ge (tgt := 42) hx hb dJ6_stringSize_0f7a4_19 (by decide) (fun c_19 => ?_) (fun c_19 => ?_)
            · skip
              exact absurd ((nI_leI (a := 10) (b := 3) (by omega) (by omega)).mp c_19) (by decide)
            · skip
              have c_19 : ¬ 10 ≤ 3 := fun h => c_19 ((nI_leI (a := 10) (b := 3) (by omega) (by omega)).mpr h)
              refine lv_iload_n hx hb dJ6_stringSize_0f7a4_22 rfl (lv_at hl 2 rfl) ?_
              refine lv_iload_n hx hb dJ6_stringSize_0f7a4_23 rfl (lv_at hl 1 rfl) ?_
              refine lv_icmp_le (tgt := 31) hx hb dJ6_stringSize_0f7a4_24 (by decide) (fun c_24 => ?_) (fun c_24 => ?_)
              · skip
                have c_24 := (neg_le (a := v) (b := 1000) (by omega) (by omega)).mp c_24
                omega
              · skip
                have c_24 : ¬ 1000 ≤ v := fun h => c_24 ((neg_le (a := v) (b := 1000) (by omega) (by omega)).mpr h)
                refine lv_iload_n hx hb dJ6_stringSize_0f7a4_27 rfl (lv_at hl 0 rfl) ?_
                refine lv_iload_n hx hb dJ6_stringSize_0f7a4_28 rfl (lv_at hl 3 rfl) ?_
                refine lv_iadd hx hb dJ6_stringSize_0f7a4_29 ?_
                have hr9 : (3 + 0) = (nI (dec v).length) := by first | (rw [dec_1 (by omega)]; rfl) | (rw [dec_2 (by omega) (by omega)]; rfl) | (rw [dec_3 (by omega)]; rfl)
                have hP9 : va_P D CLS [] s9.heap := by exact kSub hP [] rfl
                have hD9 : va_D A [] := by exact hD.sub [] (by decide +kernel) rfl
                exact W.iret (v := (3 + 0)) hx hb hr (fun t9 ht9 hW9 => ⟨⟨(3 + 0), (), rfl, hr9, by rw [ht9]; exact hP9, va_K.moved hW9.alike hK, hD9⟩, hS.F ht9⟩) hS.2.2 dJ6_stringSize_0f7a4_30
          · skip
            have c_24 : ¬ 100 ≤ v := fun h => c_24 ((neg_le (a := v) (b := 100) (by omega) (by omega)).mpr h)
            refine lv_iload_n hx hb dJ6_stringSize_0f7a4_27 rfl (lv_at hl 0 rfl) ?_
            refine lv_iload_n hx hb dJ6_stringSize_0f7a4_28 rfl (lv_at hl 3 rfl) ?_
            refine lv_iadd hx hb dJ6_stringSize_0f7a4_29 ?_
            have hr9 : (2 + 0) = (nI (dec v).length) := by first | (rw [dec_1 (by omega)]; rfl) | (rw [dec_2 (by omega) (by omega)]; rfl) | (rw [dec_3 (by omega)]; rfl)
            have hP9 : va_P D CLS [] s9.heap := by exact kSub hP [] rfl
            have hD9 : va_D A [] := by exact hD.sub [] (by decide +kernel) rfl
            exact W.iret (v := (2 + 0)) hx hb hr (fun t9 ht9 hW9 => ⟨⟨(2 + 0), (), rfl, hr9, by rw [ht9]; exact hP9, va_K.moved hW9.alike hK, hD9⟩, hS.F ht9⟩) hS.2.2 dJ6_stringSize_0f7a4_30
      · skip
        have c_24 : ¬ 10 ≤ v := fun h => c_24 ((neg_le (a := v) (b := 10) (by omega) (by omega)).mpr h)
        refine lv_iload_n hx hb dJ6_stringSize_0f7a4_27 rfl (lv_at hl 0 rfl) ?_
        refine lv_iload_n hx hb dJ6_stringSize_0f7a4_28 rfl (lv_at hl 3 rfl) ?_
        refine lv_iadd hx hb dJ6_stringSize_0f7a4_29 ?_
        have hr9 : (1 + 0) = (nI (dec v).length) := by first | (rw [dec_1 (by omega)]; rfl) | (rw [dec_2 (by omega) (by omega)]; rfl) | (rw [dec_3 (by omega)]; rfl)
        have hP9 : va_P D CLS [] s9.heap := by exact kSub hP [] rfl
        have hD9 : va_D A [] := by exact hD.sub [] (by decide +kernel) rfl
        exact W.iret (v := (1 + 0)) hx hb hr (fun t9 ht9 hW9 => ⟨⟨(1 + 0), (), rfl, hr9, by rw [ht9]; exact hP9, va_K.moved hW9.alike hK, hD9⟩, hS.F ht9⟩) hS.2.2 dJ6_stringSize_0f7a4_30
theorem dJ6_getChars_ba4f3_0 : decode cJ6_getChars_ba4f3 0 = .ok (.iload_n 1, 1) := by decide +kernel
theorem dJ6_getChars_ba4f3_1 : decode cJ6_getChars_ba4f3 1 = .ok (.istore 5, 2) := by decide +kernel
theorem dJ6_getChars_ba4f3_3 : decode cJ6_getChars_ba4f3 3 = .ok (.iload_n 0, 1) := by decide +kernel
theorem dJ6_getChars_ba4f3_4 : decode cJ6_getChars_ba4f3 4 = .ok (.ifCond .ge 7, 3) := by decide +kernel
theorem dJ6_getChars_ba4f3_11 : decode cJ6_getChars_ba4f3 11 = .ok (.iconst 0, 1) := by decide +kernel
theorem dJ6_getChars_ba4f3_12 : decode cJ6_getChars_ba4f3 12 = .ok (.istore 6, 2) := by decide +kernel
theorem dJ6_getChars_ba4f3_14 : decode cJ6_getChars_ba4f3 14 = .ok (.iload 6, 2) := by decide +kernel
theorem dJ6_getChars_ba4f3_16 : decode cJ6_getChars_ba4f3 16 = .ok (.ifCond .ne 6, 3) := by decide +kernel
theorem dJ6_getChars_ba4f3_19 : decode cJ6_getChars_ba4f3 19 = .ok (.iload_n 0, 1) := by decide +kernel
theorem dJ6_getChars_ba4f3_20 : decode cJ6_getChars_ba4f3 20 = .ok (.ineg, 1) := by decide +kernel
theorem dJ6_getChars_ba4f3_21 : decode cJ6_getChars_ba4f3 21 = .ok (.istore_n 0, 1) := by decide +kernel
theorem dJ6_getChars_ba4f3_22 : decode cJ6_getChars_ba4f3 22 = .ok (.iload_n 0, 1) := by decide +kernel
theorem dJ6_getChars_ba4f3_23 : decode cJ6_getChars_ba4f3 23 = .ok (.bipush (-100), 2) := by decide +kernel
theorem dJ6_getChars_ba4f3_25 : decode cJ6_getChars_ba4f3 25 = .ok (.if_icmp .gt 47, 3) := by decide +kernel
theorem dJ6_getChars_ba4f3_28 : decode cJ6_getChars_ba4f3 28 = .ok (.iload_n 0, 1) := by decide +kernel
theorem dJ6_getChars_ba4f3_29 : decode cJ6_getChars_ba4f3 29 = .ok (.bipush 100, 2) := by decide +kernel
theorem dJ6_getChars_ba4f3_31 : decode cJ6_getChars_ba4f3 31 = .ok (.idiv, 1) := by decide +kernel
theorem dJ6_getChars_ba4f3_32 : decode cJ6_getChars_ba4f3 32 = .ok (.istore_n 3, 1) := by decide +kernel
theorem dJ6_getChars_ba4f3_33 : decode cJ6_getChars_ba4f3 33 = .ok (.iload_n 3, 1) := by decide +kernel
theorem dJ6_getChars_ba4f3_34 : decode cJ6_getChars_ba4f3 34 = .ok (.bipush 100, 2) := by decide +kernel
theorem dJ6_getChars_ba4f3_36 : decode cJ6_getChars_ba4f3 36 = .ok (.imul, 1) := by decide +kernel
theorem dJ6_getChars_ba4f3_37 : decode cJ6_getChars_ba4f3 37 = .ok (.iload_n 0, 1) := by decide +kernel
theorem dJ6_getChars_ba4f3_38 : decode cJ6_getChars_ba4f3 38 = .ok (.isub, 1) := by decide +kernel
theorem dJ6_getChars_ba4f3_39 : decode cJ6_getChars_ba4f3 39 = .ok (.istore 4, 2) := by decide +kernel
theorem dJ6_getChars_ba4f3_41 : decode cJ6_getChars_ba4f3 41 = .ok (.iload_n 3, 1) := by decide +kernel
theorem dJ6_getChars_ba4f3_42 : decode cJ6_getChars_ba4f3 42 = .ok (.istore_n 0, 1) := by decide +kernel
theorem dJ6_getChars_ba4f3_43 : decode cJ6_getChars_ba4f3 43 = .ok (.aload_n 2, 1) := by decide +kernel
theorem dJ6_getChars_ba4f3_44 : decode cJ6_getChars_ba4f3 44 = .ok (.iinc 5 (-1), 3) := by decide +kernel
theorem dJ6_getChars_ba4f3_47 : decode cJ6_getChars_ba4f3 47 = .ok (.iload 5, 2) := by decide +kernel
theorem dJ6_getChars_ba4f3_49 : decode cJ6_getChars_ba4f3 49 = .ok (.getstatic 83, 3) := by decide +kernel
theorem dJ6_getChars_ba4f3_52 : decode cJ6_getChars_ba4f3 52 = .ok (.iload 4, 2) := by decide +kernel
theorem dJ6_getChars_ba4f3_54 : decode cJ6_getChars_ba4f3 54 = .ok (.baload, 1) := by decide +kernel
theorem dJ6_getChars_ba4f3_55 : decode cJ6_getChars_ba4f3 55 = .ok (.bastore, 1) := by decide +kernel
theorem dJ6_getChars_ba4f3_56 : decode cJ6_getChars_ba4f3 56 = .ok (.aload_n 2, 1) := by decide +kernel
theorem dJ6_getChars_ba4f3_57 : decode cJ6_getChars_ba4f3 57 = .ok (.iinc 5 (-1), 3) := by decide +kernel
theorem dJ6_getChars_ba4f3_60 : decode cJ6_getChars_ba4f3 60 = .ok (.iload 5, 2) := by decide +kernel
theorem dJ6_getChars_ba4f3_62 : decode cJ6_getChars_ba4f3 62 = .ok (.getstatic 87, 3) := by decide +kernel
theorem dJ6_getChars_ba4f3_65 : decode cJ6_getChars_ba4f3 65 = .ok (.iload 4, 2) := by decide +kernel
theorem dJ6_getChars_ba4f3_67 : decode cJ6_getChars_ba4f3 67 = .ok (.baload, 1) := by decide +kernel
theorem dJ6_getChars_ba4f3_68 : decode cJ6_getChars_ba4f3 68 = .ok (.bastore, 1) := by decide +kernel
theorem dJ6_getChars_ba4f3_69 : decode cJ6_getChars_ba4f3 69 = .ok (.goto (-47), 3) := by decide +kernel
theorem dJ6_getChars_ba4f3_72 : decode cJ6_getChars_ba4f3 72 = .ok (.aload_n 2, 1) := by decide +kernel
theorem dJ6_getChars_ba4f3_73 : decode cJ6_getChars_ba4f3 73 = .ok (.iinc 5 (-1), 3) := by decide +kernel
theorem dJ6_getChars_ba4f3_76 : decode cJ6_getChars_ba4f3 76 = .ok (.iload 5, 2) := by decide +kernel
theorem dJ6_getChars_ba4f3_78 : decode cJ6_getChars_ba4f3 78 = .ok (.getstatic 83, 3) := by decide +kernel
theorem dJ6_getChars_ba4f3_81 : decode cJ6_getChars_ba4f3 81 = .ok (.iload_n 0, 1) := by decide +kernel
theorem dJ6_getChars_ba4f3_82 : decode cJ6_getChars_ba4f3 82 = .ok (.ineg, 1) := by decide +kernel
theorem dJ6_getChars_ba4f3_83 : decode cJ6_getChars_ba4f3 83 = .ok (.baload, 1) := by decide +kernel
theorem dJ6_getChars_ba4f3_84 : decode cJ6_getChars_ba4f3 84 = .ok (.bastore, 1) := by decide +kernel
theorem dJ6_getChars_ba4f3_85 : decode cJ6_getChars_ba4f3 85 = .ok (.iload_n 0, 1) := by decide +kernel
theorem dJ6_getChars_ba4f3_86 : decode cJ6_getChars_ba4f3 86 = .ok (.bipush (-9), 2) := by decide +kernel
theorem dJ6_getChars_ba4f3_88 : decode cJ6_getChars_ba4f3 88 = .ok (.if_icmp .ge 16, 3) := by decide +kernel
theorem dJ6_getChars_ba4f3_91 : decode cJ6_getChars_ba4f3 91 = .ok (.aload_n 2, 1) := by decide +kernel
theorem dJ6_getChars_ba4f3_92 : decode cJ6_getChars_ba4f3 92 = .ok (.iinc 5 (-1), 3) := by decide +kernel
theorem dJ6_getChars_ba4f3_95 : decode cJ6_getChars_ba4f3 95 = .ok (.iload 5, 2) := by decide +kernel
theorem dJ6_getChars_ba4f3_97 : decode cJ6_getChars_ba4f3 97 = .ok (.getstatic 87, 3) := by decide +kernel
theorem dJ6_getChars_ba4f3_100 : decode cJ6_getChars_ba4f3 100 = .ok (.iload_n 0, 1) := by decide +kernel
theorem dJ6_getChars_ba4f3_101 : decode cJ6_getChars_ba4f3 101 = .ok (.ineg, 1) := by decide +kernel
theorem dJ6_getChars_ba4f3_102 : decode cJ6_getChars_ba4f3 102 = .ok (.baload, 1) := by decide +kernel
theorem dJ6_getChars_ba4f3_103 : decode cJ6_getChars_ba4f3 103 = .ok (.bastore, 1) := by decide +kernel
theorem dJ6_getChars_ba4f3_104 : decode cJ6_getChars_ba4f3 104 = .ok (.iload 6, 2) := by decide +kernel
theorem dJ6_getChars_ba4f3_106 : decode cJ6_getChars_ba4f3 106 = .ok (.ifCond .eq 12, 3) := by decide +kernel
theorem dJ6_getChars_ba4f3_118 : decode cJ6_getChars_ba4f3 118 = .ok (.iload 5, 2) := by decide +kernel
theorem dJ6_getChars_ba4f3_120 : decode cJ6_getChars_ba4f3 120 = .ok (.ireturn, 1) := by decide +kernel
set_option maxHeartbeats 4000000 in
set_option maxRecDepth 100000 in
/-- Integer.getChars -/
theorem c_J6_getChars_ba4f3 (l9 : Launch) (z : Nat → Nat) (D : va_G) (g : Nat → ClassId) (v : Nat) (p : Nat) (bv : Nat) (m : Nat) (bf : Nat → Int32) (hv : v < 1000) (hp : (dec v).length ≤ p) (hm : p ≤ m) (hm2 : m ≤ 4002) (sz : Nat) : Met l9 yJ6_getChars_ba4f3 (WS yJ6_getChars_ba4f3 cJ6_getChars_ba4f3 7 (some .int)) ({ frames := 0, cells := 0, slots := 0, locals := 0 }) (va_Pc [.int (nI v), .int (nI p), .ref bv] (kPreL z D g [(bv, .inl (g 3, m, .inl bf))] sz)) (va_Qi (fun (r9 : Int32) (u9 : (Nat → Int32)) => r9 = nI (p - (dec v).length) ∧ SbD p (dec v) bf u9) (kB D g (va_A [(bv, .inl (g 3, m, .inl bf))] sz) (fun (u9 : (Nat → Int32)) => [(bv, .inl (g 3, m, .inl u9))])) (va_A [(bv, .inl (g 3, m, .inl bf))] sz)) 0 0 (va_A [(bv, .inl (g 3, m, .inl bf))] sz) := by
  refine Met.ofW (cc := cJ6_getChars_ba4f3) (maxL := 7) (ret := (some .int)) (by decide) rfl ?_
  intro p9 e9 s9 m9 args9 below9 meth9 c9 s₁ B hml hv
  obtain ⟨rfl, hsz, hP, hK, hD0, hZ, hY⟩ := hv
  have hx := B.exec
  have hb := B.bytes
  have hr := B.returns
  have hts := ws_sub (atoms_spec (ws := WS yJ6_getChars_ba4f3 cJ6_getChars_ba4f3 7 (some .int)) B.pre)
  have hown : s9.vm.findClass RJ6 = some m9.cls := findClass_of_methodNamed B.named
  have hlocks := B.notSynchronized
  subst hsz
  have hD := hD0.self (sz := s9.heap.size)
  generalize hAe : va_A [(bv, .inl (g 3, m, .inl bf))] s9.heap.size = A at hD hZ hY ⊢
  have hA : ∀ q : Nat, s9.heap.size ≤ q → A q := fun q h => by rw [← hAe]; exact Or.inr h
  have hS : va_S A s9.heap s9.heap [] := va_S.rf
  have hP : va_P D CLS [(bv, .inl (g 3, m, .inl bf))] s9.heap := hP
  have hl := lv_entry ([.int (nI v), .int (nI p), .ref bv]) (n := 7) (Nat.le_of_ble_eq_true rfl)
  rw [lg_entry_eq]
  generalize (lg_sl ([.int (nI v), .int (nI p), .ref bv]) ++ List.replicate (7 - (lg_sl ([.int (nI v), .int (nI p), .ref bv])).length) Slot.unset).toArray = ls at hl ⊢
  have hl : lv_has ls 7 [(0, .int (nI v)), (1, .int (nI p)), (2, .ref bv)] := hl
  change W p9 l9 e9 ({ frames := 0, cells := 0, slots := 0, locals := 0 } : Room) s9 m9 _ below9 meth9 c9 _ _ _ _ _ _
  have hp1 : v < 10 → (dec v).length = 1 := fun h => by rw [dec_1 h]; rfl
  have hp2 : ¬ v < 10 → v < 100 → (dec v).length = 2 := fun h h2 => by rw [dec_2 h h2]; rfl
  have hp3 : ¬ v < 100 → (dec v).length = 3 := fun h => by rw [dec_3 h]; rfl
  have hp4 := dec_len (v := v)
  refine lv_iload_n hx hb dJ6_getChars_ba4f3_0 rfl (lv_at hl 1 rfl) ?_
  refine lv_istore (lv' := [(5, .int (nI p)), (0, .int (nI v)), (1, .int (nI p)), (2, .ref bv)]) hx hb dJ6_getChars_ba4f3_1 hl (by decide) rfl (fun ls hl => ?_)
  refine lv_iload_n hx hb dJ6_getChars_ba4f3_3 rfl (lv_at hl 1 rfl) ?_
  refine lv_if_ge (tgt := 11) hx hb dJ6_getChars_ba4f3_4 (by decide) (fun c_4 => ?_) (fun c_4 => ?_)
  · skip
    refine lv_iconst (v := 0) hx hb dJ6_getChars_ba4f3_11 (by decide) ?_
    refine lv_istore (lv' := [(6, .int 0), (5, .int (nI p)), (0, .int (nI v)), (1, .int (nI p)), (2, .ref bv)]) hx hb dJ6_getChars_ba4f3_12 hl (by decide) rfl (fun ls hl => ?_)
    refine lv_iload hx hb dJ6_getChars_ba4f3_14 (lv_at hl 0 rfl) ?_
    refine lv_if_ne (tgt := 22) hx hb dJ6_getChars_ba4f3_16 (by decide) (fun c_16 => ?_) (fun c_16 => ?_)
    · skip
      exact absurd c_16 (by decide)
    · skip
      refine lv_iload_n hx hb dJ6_getChars_ba4f3_19 rfl (lv_at hl 2 rfl) ?_
      refine lv_ineg hx hb dJ6_getChars_ba4f3_20 ?_
      refine lv_istore_n (lv' := [(0, .int (-(nI v))), (6, .int 0), (5, .int (nI p)), (1, .int (nI p)), (2, .ref bv)]) hx hb dJ6_getChars_ba4f3_21 rfl hl (by decide) rfl (fun ls hl => ?_)
      refine lv_iload_n hx hb dJ6_getChars_ba4f3_22 rfl (lv_at hl 0 rfl) ?_
      refine lv_bipush (v := (-100)) hx hb dJ6_getChars_ba4f3_23 (by decide) ?_
      refine lv_icmp_gt (tgt := 72) hx hb dJ6_getChars_ba4f3_25 (by decide) (fun c_25 => ?_) (fun c_25 => ?_)
      · skip
        have c_25 := (neg_lt (a := 100) (b := v) (by omega) (by omega)).mp c_25
        refine lv_aload_n hx hb dJ6_getChars_ba4f3_72 rfl (lv_at hl 4 rfl) ?_
        refine lv_iinc (v := nI (p - 1)) (lv' := [(5, .int (nI (p - 1))), (0, .int (-(nI v))), (6, .int 0), (1, .int (nI p)), (2, .ref bv)]) hx hb dJ6_getChars_ba4f3_73 hl (k := 2) rfl (sb_m1 (by omega)) (by decide) rfl (fun ls hl => ?_)
        refine lv_iload hx hb dJ6_getChars_ba4f3_76 (lv_at hl 0 rfl) ?_
        refine va_gets (n := "DigitOnes") hx hb hY.d1 hS hown (hts _ w_1363) (fun _ h9 => h9) dJ6_getChars_ba4f3_78 ?_
        refine lv_iload_n hx hb dJ6_getChars_ba4f3_81 rfl (lv_at hl 1 rfl) ?_
        refine lv_ineg hx hb dJ6_getChars_ba4f3_82 ?_
        refine k_topi (show (-(-(nI v))) = (nI v) from neg_neg) ?_
        refine va_tb (v := .int (nI (48 + v % 10))) hx hb hY.t1 hS (vp_in_nI (by omega) (by omega)) (by rw [nI_clamp (by omega)]) dJ6_getChars_ba4f3_83 ?_
        refine k_bst (i := (p - 1)) hx hb hK hP hD hS 0 rfl (by omega) (by omega) (nb_ok (by omega)) dJ6_getChars_ba4f3_84 (fun H locs hP7 hD7 hS7 => ?_)
        clear hP hD hS
        have hP := hP7
        have hD := hD7
        have hS := hS7
        clear hP7 hD7 hS7
        replace hP : va_P D CLS [(bv, .inl (g 3, m, .inl (upd bf (p - 1) (nI (48 + v % 10)))))] H := hP
        replace hD : va_D A [(bv, .inl (g 3, m, .inl (upd bf (p - 1) (nI (48 + v % 10)))))] := hD
        refine lv_iload_n hx hb dJ6_getChars_ba4f3_85 rfl (lv_at hl 1 rfl) ?_
        refine lv_bipush (v := (-9)) hx hb dJ6_getChars_ba4f3_86 (by decide) ?_
        refine lv_icmp_ge (tgt := 104) hx hb dJ6_getChars_ba4f3_88 (by decide) (fun c_88 => ?_) (fun c_88 => ?_)
        · skip
          have c_88 := (neg_le (a := 9) (b := v) (by omega) (by omega)).mp c_88
          refine lv_iload hx hb dJ6_getChars_ba4f3_104 (lv_at hl 2 rfl) ?_
          refine lv_if_eq (tgt := 118) hx hb dJ6_getChars_ba4f3_106 (by decide) (fun c_106 => ?_) (fun c_106 => ?_)
          · skip
            refine lv_iload hx hb dJ6_getChars_ba4f3_118 (lv_at hl 0 rfl) ?_
            have hr9 : (nI (p - 1)) = (nI (p - (dec v).length)) := by first | (rw [hp1 (by omega)]; done) | (rw [hp2 (by omega) (by omega)]; rfl) | (rw [hp3 (by omega)]; rfl)
            have hP9 : va_P D CLS [(bv, .inl (g 3, m, .inl (upd bf (p - 1) (nI (48 + v % 10)))))] H := by exact kSub hP [0] rfl
            have hD9 : va_D A [(bv, .inl (g 3, m, .inl (upd bf (p - 1) (nI (48 + v % 10)))))] := by exact hD.sub [0] (by decide +kernel) rfl
            exact W.iret (v := nI (p - 1)) hx hb hr (fun t9 ht9 hW9 => ⟨⟨nI (p - 1), upd bf (p - 1) (nI (48 + v % 10)), rfl, ⟨hr9, (by first | exact dg_1 (by omega) (by omega) | exact dg_2 (by omega) (by omega) (by omega) | exact dg_3 (by omega) (by omega) (by omega))⟩, by rw [ht9]; exact hP9, va_K.moved hW9.alike hK, hD9⟩, hS.F ht9⟩) hS.2.2 dJ6_getChars_ba4f3_120
          · skip
            exact absurd c_106 (by decide)
        · skip
          have c_88 : ¬ v ≤ 9 := fun h => c_88 ((neg_le (a := 9) (b := v) (by omega) (by omega)).mpr h)
          refine lv_aload_n hx hb dJ6_getChars_ba4f3_91 rfl (lv_at hl 4 rfl) ?_
          refine lv_iinc (v := nI ((p - 1) - 1)) (lv' := [(5, .int (nI ((p - 1) - 1))), (0, .int (-(nI v))), (6, .int 0), (1, .int (nI p)), (2, .ref bv)]) hx hb dJ6_getChars_ba4f3_92 hl (k := 0) rfl (sb_m1 (by omega)) (by decide) rfl (fun ls hl => ?_)
          refine lv_iload hx hb dJ6_getChars_ba4f3_95 (lv_at hl 0 rfl) ?_
          refine va_gets (n := "DigitTens") hx hb hY.d2 hS hown (hts _ w_1365) (fun _ h9 => h9) dJ6_getChars_ba4f3_97 ?_
          refine lv_iload_n hx hb dJ6_getChars_ba4f3_100 rfl (lv_at hl 1 rfl) ?_
          refine lv_ineg hx hb dJ6_getChars_ba4f3_101 ?_
          refine k_topi (show (-(-(nI v))) = (nI v) from neg_neg) ?_
          refine va_tb (v := .int (nI (48 + v / 10))) hx hb hY.t2 hS (vp_in_nI (by omega) (by omega)) (by rw [nI_clamp (by omega)]) dJ6_getChars_ba4f3_102 ?_
          refine k_bst (i := ((p - 1) - 1)) hx hb hK hP hD hS 0 rfl (by omega) (by omega) (nb_ok (by omega)) dJ6_getChars_ba4f3_103 (fun H locs hP7 hD7 hS7 => ?_)
          clear hP hD hS
          have hP := hP7
          have hD := hD7
          have hS := hS7
          clear hP7 hD7 hS7
          replace hP : va_P D CLS [(bv, .inl (g 3, m, .inl (upd (upd bf (p - 1) (nI (48 + v % 10))) ((p - 1) - 1) (nI (48 + v / 10)))))] H := hP
          replace hD : va_D A [(bv, .inl (g 3, m, .inl (upd (upd bf (p - 1) (nI (48 + v % 10))) ((p - 1) - 1) (nI (48 + v / 10)))))] := hD
          refine lv_iload hx hb dJ6_getChars_ba4f3_104 (lv_at hl 2 rfl) ?_
          refine lv_if_eq (tgt := 118) hx hb dJ6_getChars_ba4f3_106 (by decide) (fun c_106 => ?_) (fun c_106 => ?_)
          · skip
            refine lv_iload hx hb dJ6_getChars_ba4f3_118 (lv_at hl 0 rfl) ?_
            have hr9 : (nI ((p - 1) - 1)) = (nI (p - (dec v).length)) := by first | (rw [hp1 (by omega)]; done) | (rw [hp2 (by omega) (by omega)]; rfl) | (rw [hp3 (by omega)]; rfl)
            have hP9 : va_P D CLS [(bv, .inl (g 3, m, .inl (upd (upd bf (p - 1) (nI (48 + v % 10))) ((p - 1) - 1) (nI (48 + v / 10)))))] H := by exact kSub hP [0] rfl
            have hD9 : va_D A [(bv, .inl (g 3, m, .inl (upd (upd bf (p - 1) (nI (48 + v % 10))) ((p - 1) - 1) (nI (48 + v / 10)))))] := by exact hD.sub [0] (by decide +kernel) rfl
            exact W.iret (v := nI ((p - 1) - 1)) hx hb hr (fun t9 ht9 hW9 => ⟨⟨nI ((p - 1) - 1), upd (upd bf (p - 1) (nI (48 + v % 10))) ((p - 1) - 1) (nI (48 + v / 10)), rfl, ⟨hr9, (by first | exact dg_1 (by omega) (by omega) | exact dg_2 (by omega) (by omega) (by omega) | exact dg_3 (by omega) (by omega) (by omega))⟩, by rw [ht9]; exact hP9, va_K.moved hW9.alike hK, hD9⟩, hS.F ht9⟩) hS.2.2 dJ6_getChars_ba4f3_120
          · skip
            exact absurd c_106 (by decide)
      · skip
        have c_25 : ¬ v < 100 := fun h => c_25 ((neg_lt (a := 100) (b := v) (by omega) (by omega)).mpr h)
        refine lv_iload_n hx hb dJ6_getChars_ba4f3_28 rfl (lv_at hl 0 rfl) ?_
        refine lv_bipush (v := 100) hx hb dJ6_getChars_ba4f3_29 (by decide) ?_
        refine lv_idiv hx hb dJ6_getChars_ba4f3_31 (by decide) ?_
        refine k_topi (show ((-(nI v)) / 100) = (-nI (v / 100)) from (ndiv (by omega))) ?_
        refine lv_istore_n (lv' := [(3, .int (-nI (v / 100))), (0, .int (-(nI v))), (6, .int 0), (5, .int (nI p)), (1, .int (nI p)), (2, .ref bv)]) hx hb dJ6_getChars_ba4f3_32 rfl hl (by decide) rfl (fun ls hl => ?_)
        refine lv_iload_n hx hb dJ6_getChars_ba4f3_33 rfl (lv_at hl 0 rfl) ?_
        refine lv_bipush (v := 100) hx hb dJ6_getChars_ba4f3_34 (by decide) ?_
        refine lv_imul hx hb dJ6_getChars_ba4f3_36 ?_
        refine lv_iload_n hx hb dJ6_getChars_ba4f3_37 rfl (lv_at hl 1 rfl) ?_
        refine lv_isub hx hb dJ6_getChars_ba4f3_38 ?_
        refine k_topi (show (((-nI (v / 100)) * 100) - (-(nI v))) = (nI (v % 100)) from (nrem (by omega))) ?_
        refine lv_istore (lv' := [(4, .int (nI (v % 100))), (3, .int (-nI (v / 100))), (0, .int (-(nI v))), (6, .int 0), (5, .int (nI p)), (1, .int (nI p)), (2, .ref bv)]) hx hb dJ6_getChars_ba4f3_39 hl (by decide) rfl (fun ls hl => ?_)
        refine lv_iload_n hx hb dJ6_getChars_ba4f3_41 rfl (lv_at hl 1 rfl) ?_
        refine lv_istore_n (lv' := [(0, .int (-nI (v / 100))), (4, .int (nI (v % 100))), (3, .int (-nI (v / 100))), (6, .int 0), (5, .int (nI p)), (1, .int (nI p)), (2, .ref bv)]) hx hb dJ6_getChars_ba4f3_42 rfl hl (by decide) rfl (fun ls hl => ?_)
        refine lv_aload_n hx hb dJ6_getChars_ba4f3_43 rfl (lv_at hl 6 rfl) ?_
        refine lv_iinc (v := nI (p - 1)) (lv' := [(5, .int (nI (p - 1))), (0, .int (-nI (v / 100))), (4, .int (nI (v % 100))), (3, .int (-nI (v / 100))), (6, .int 0), (1, .int (nI p)), (2, .ref bv)]) hx hb dJ6_getChars_ba4f3_44 hl (k := 4) rfl (sb_m1 (by omega)) (by decide) rfl (fun ls hl => ?_)
        refine lv_iload hx hb dJ6_getChars_ba4f3_47 (lv_at hl 0 rfl) ?_
        refine va_gets (n := "DigitOnes") hx hb hY.d1 hS hown (hts _ w_1363) (fun _ h9 => h9) dJ6_getChars_ba4f3_49 ?_
        refine lv_iload hx hb dJ6_getChars_ba4f3_52 (lv_at hl 2 rfl) ?_
        refine va_tb (v := .int (nI (48 + (v % 100) % 10))) hx hb hY.t1 hS (vp_in_nI (by omega) (by omega)) (by rw [nI_clamp (by omega)]) dJ6_getChars_ba4f3_54 ?_
        refine k_bst (i := (p - 1)) hx hb hK hP hD hS 0 rfl (by omega) (by omega) (nb_ok (by omega)) dJ6_getChars_ba4f3_55 (fun H locs hP7 hD7 hS7 => ?_)
        clear hP hD hS
        have hP := hP7
        have hD := hD7
        have hS := hS7
        clear hP7 hD7 hS7
        replace hP : va_P D CLS [(bv, .inl (g 3, m, .inl (upd bf (p - 1) (nI (48 + (v % 100) % 10)))))] H := hP
        replace hD : va_D A [(bv, .inl (g 3, m, .inl (upd bf (p - 1) (nI (48 + (v % 100) % 10)))))] := hD
        refine lv_aload_n hx hb dJ6_getChars_ba4f3_56 rfl (lv_at hl 6 rfl) ?_
        refine lv_iinc (v := nI ((p - 1) - 1)) (lv' := [(5, .int (nI ((p - 1) - 1))), (0, .int (-nI (v / 100))), (4, .int (nI (v % 100))), (3, .int (-nI (v / 100))), (6, .int 0), (1, .int (nI p)), (2, .ref bv)]) hx hb dJ6_getChars_ba4f3_57 hl (k := 0) rfl (sb_m1 (by omega)) (by decide) rfl (fun ls hl => ?_)
        refine lv_iload hx hb dJ6_getChars_ba4f3_60 (lv_at hl 0 rfl) ?_
        refine va_gets (n := "DigitTens") hx hb hY.d2 hS hown (hts _ w_1365) (fun _ h9 => h9) dJ6_getChars_ba4f3_62 ?_
        refine lv_iload hx hb dJ6_getChars_ba4f3_65 (lv_at hl 2 rfl) ?_
        refine va_tb (v := .int (nI (48 + (v % 100) / 10))) hx hb hY.t2 hS (vp_in_nI (by omega) (by omega)) (by rw [nI_clamp (by omega)]) dJ6_getChars_ba4f3_67 ?_
        refine k_bst (i := ((p - 1) - 1)) hx hb hK hP hD hS 0 rfl (by omega) (by omega) (nb_ok (by omega)) dJ6_getChars_ba4f3_68 (fun H locs hP7 hD7 hS7 => ?_)
        clear hP hD hS
        have hP := hP7
        have hD := hD7
        have hS := hS7
        clear hP7 hD7 hS7
        replace hP : va_P D CLS [(bv, .inl (g 3, m, .inl (upd (upd bf (p - 1) (nI (48 + (v % 100) % 10))) ((p - 1) - 1) (nI (48 + (v % 100) / 10)))))] H := hP
        replace hD : va_D A [(bv, .inl (g 3, m, .inl (upd (upd bf (p - 1) (nI (48 + (v % 100) % 10))) ((p - 1) - 1) (nI (48 + (v % 100) / 10)))))] := hD
        refine lv_goto (tgt := 22) hx hb dJ6_getChars_ba4f3_69 (by decide) ?_
        refine lv_iload_n hx hb dJ6_getChars_ba4f3_22 rfl (lv_at hl 1 rfl) ?_
        refine lv_bipush (v := (-100)) hx hb dJ6_getChars_ba4f3_23 (by decide) ?_
        refine lv_icmp_gt (tgt := 72) hx hb dJ6_getChars_ba4f3_25 (by decide) (fun c_25 => ?_) (fun c_25 => ?_)
        · skip
          have c_25 := (neg_lt (a := 100) (b := (v / 100)) (by omega) (by omega)).mp c_25
          refine lv_aload_n hx hb dJ6_getChars_ba4f3_72 rfl (lv_at hl 6 rfl) ?_
          refine lv_iinc (v := nI (((p - 1) - 1) - 1)) (lv' := [(5, .int (nI (((p - 1) - 1) - 1))), (0, .int (-nI (v / 100))), (4, .int (nI (v % 100))), (3, .int (-nI (v / 100))), (6, .int 0), (1, .int (nI p)), (2, .ref bv)]) hx hb dJ6_getChars_ba4f3_73 hl (k := 0) rfl (sb_m1 (by omega)) (by decide) rfl (fun ls hl => ?_)
          refine lv_iload hx hb dJ6_getChars_ba4f3_76 (lv_at hl 0 rfl) ?_
          refine va_gets (n := "DigitOnes") hx hb hY.d1 hS hown (hts _ w_1363) (fun _ h9 => h9) dJ6_getChars_ba4f3_78 ?_
          refine lv_iload_n hx hb dJ6_getChars_ba4f3_81 rfl (lv_at hl 1 rfl) ?_
          refine lv_ineg hx hb dJ6_getChars_ba4f3_82 ?_
          refine k_topi (show (-(-nI (v / 100))) = (nI (v / 100)) from neg_neg) ?_
          refine va_tb (v := .int (nI (48 + (v / 100) % 10))) hx hb hY.t1 hS (vp_in_nI (by omega) (by omega)) (by rw [nI_clamp (by omega)]) dJ6_getChars_ba4f3_83 ?_
          refine k_bst (i := (((p - 1) - 1) - 1)) hx hb hK hP hD hS 0 rfl (by omega) (by omega) (nb_ok (by omega)) dJ6_getChars_ba4f3_84 (fun H locs hP7 hD7 hS7 => ?_)
          clear hP hD hS
          have hP := hP7
          have hD := hD7
          have hS := hS7
          clear hP7 hD7 hS7
          replace hP : va_P D CLS [(bv, .inl (g 3, m, .inl (upd (upd (upd bf (p - 1) (nI (48 + (v % 100) % 10))) ((p - 1) - 1) (nI (48 + (v % 100) / 10))) (((p - 1) - 1) - 1) (nI (48 + (v / 100) % 10)))))] H := hP
          replace hD : va_D A [(bv, .inl (g 3, m, .inl (upd (upd (upd bf (p - 1) (nI (48 + (v % 100) % 10))) ((p - 1) - 1) (nI (48 + (v % 100) / 10))) (((p - 1) - 1) - 1) (nI (48 + (v / 100) % 10)))))] := hD
          refine lv_iload_n hx hb dJ6_getChars_ba4f3_85 rfl (lv_at hl 1 rfl) ?_
          refine lv_bipush (v := (-9)) hx hb dJ6_getChars_ba4f3_86 (by decide) ?_
          refine lv_icmp_ge (tgt := 104) hx hb dJ6_getChars_ba4f3_88 (by decide) (fun c_88 => ?_) (fun c_88 => ?_)
          · skip
            have c_88 := (neg_le (a := 9) (b := (v / 100)) (by omega) (by omega)).mp c_88
            refine lv_iload hx hb dJ6_getChars_ba4f3_104 (lv_at hl 4 rfl) ?_
            refine lv_if_eq (tgt := 118) hx hb dJ6_getChars_ba4f3_106 (by decide) (fun c_106 => ?_) (fun c_106 => ?_)
            · skip
              refine lv_iload hx hb dJ6_getChars_ba4f3_118 (lv_at hl 0 rfl) ?_
              have hr9 : (nI (((p - 1) - 1) - 1)) = (nI (p - (dec v).length)) := by first | (rw [hp1 (by omega)]; done) | (rw [hp2 (by omega) (by omega)]; rfl) | (rw [hp3 (by omega)]; rfl)
              have hP9 : va_P D CLS [(bv, .inl (g 3, m, .inl (upd (upd (upd bf (p - 1) (nI (48 + (v % 100) % 10))) ((p - 1) - 1) (nI (48 + (v % 100) / 10))) (((p - 1) - 1) - 1) (nI (48 + (v / 100) % 10)))))] H := by exact kSub hP [0] rfl
              have hD9 : va_D A [(bv, .inl (g 3, m, .inl (upd (upd (upd bf (p - 1) (nI (48 + (v % 100) % 10))) ((p - 1) - 1) (nI (48 + (v % 100) / 10))) (((p - 1) - 1) - 1) (nI (48 + (v / 100) % 10)))))] := by exact hD.sub [0] (by decide +kernel) rfl
              exact W.iret (v := nI (((p - 1) - 1) - 1)) hx hb hr (fun t9 ht9 hW9 => ⟨⟨nI (((p - 1) - 1) - 1), upd (upd (upd bf (p - 1) (nI (48 + (v % 100) % 10))) ((p - 1) - 1) (nI (48 + (v % 100) / 10))) (((p - 1) - 1) - 1) (nI (48 + (v / 100) % 10)), rfl, ⟨hr9, (by first | exact dg_1 (by omega) (by omega) | exact dg_2 (by omega) (by omega) (by omega) | exact dg_3 (by omega) (by omega) (by omega))⟩, by rw [ht9]; exact hP9, va_K.moved hW9.alike hK, hD9⟩, hS.F ht9⟩) hS.2.2 dJ6_getChars_ba4f3_120
            · skip
              exact absurd c_106 (by decide)
          · skip
            have c_88 : ¬ (v / 100) ≤ 9 := fun h => c_88 ((neg_le (a := 9) (b := (v / 100)) (by omega) (by omega)).mpr h)
            omega
        · skip
          have c_25 : ¬ (v / 100) < 100 := fun h => c_25 ((neg_lt (a := 100) (b := (v / 100)) (by omega) (by omega)).mpr h)
          omega
  · skip
    exact absurd (nI_pos' (by omega)) c_4
theorem dJ5_append_c97b9_0 : decode cJ5_append_c97b9 0 = .ok (.aload_n 0, 1) := by decide +kernel
theorem dJ5_append_c97b9_1 : decode cJ5_append_c97b9 1 = .ok (.getfield 79, 3) := by decide +kernel
theorem dJ5_append_c97b9_4 : decode cJ5_append_c97b9 4 = .ok (.istore_n 2, 1) := by decide +kernel
theorem dJ5_append_c97b9_5 : decode cJ5_append_c97b9 5 = .ok (.iload_n 2, 1) := by decide +kernel
theorem dJ5_append_c97b9_6 : decode cJ5_append_c97b9 6 = .ok (.iload_n 1, 1) := by decide +kernel
theorem dJ5_append_c97b9_7 : decode cJ5_append_c97b9 7 = .ok (.invokestatic 245, 3) := by decide +kernel
theorem dJ5_append_c97b9_10 : decode cJ5_append_c97b9 10 = .ok (.iadd, 1) := by decide +kernel
theorem dJ5_append_c97b9_11 : decode cJ5_append_c97b9 11 = .ok (.istore_n 3, 1) := by decide +kernel
theorem dJ5_append_c97b9_12 : decode cJ5_append_c97b9 12 = .ok (.aload_n 0, 1) := by decide +kernel
theorem dJ5_append_c97b9_13 : decode cJ5_append_c97b9 13 = .ok (.iload_n 3, 1) := by decide +kernel
theorem dJ5_append_c97b9_14 : decode cJ5_append_c97b9 14 = .ok (.invokevirtual 100, 3) := by decide +kernel
theorem dJ5_append_c97b9_17 : decode cJ5_append_c97b9 17 = .ok (.aload_n 0, 1) := by decide +kernel
theorem dJ5_append_c97b9_18 : decode cJ5_append_c97b9 18 = .ok (.invokevirtual 83, 3) := by decide +kernel
theorem dJ5_append_c97b9_21 : decode cJ5_append_c97b9 21 = .ok (.ifCond .eq 16, 3) := by decide +kernel
theorem dJ5_append_c97b9_24 : decode cJ5_append_c97b9 24 = .ok (.iload_n 1, 1) := by decide +kernel
theorem dJ5_append_c97b9_25 : decode cJ5_append_c97b9 25 = .ok (.iload_n 3, 1) := by decide +kernel
theorem dJ5_append_c97b9_26 : decode cJ5_append_c97b9 26 = .ok (.aload_n 0, 1) := by decide +kernel
theorem dJ5_append_c97b9_27 : decode cJ5_append_c97b9 27 = .ok (.getfield 15, 3) := by decide +kernel
theorem dJ5_append_c97b9_30 : decode cJ5_append_c97b9 30 = .ok (.invokestatic 248, 3) := by decide +kernel
theorem dJ5_append_c97b9_33 : decode cJ5_append_c97b9 33 = .ok (.pop, 1) := by decide +kernel
theorem dJ5_append_c97b9_34 : decode cJ5_append_c97b9 34 = .ok (.goto 14, 3) := by decide +kernel
theorem dJ5_append_c97b9_48 : decode cJ5_append_c97b9 48 = .ok (.aload_n 0, 1) := by decide +kernel
theorem dJ5_append_c97b9_49 : decode cJ5_append_c97b9 49 = .ok (.iload_n 3, 1) := by decide +kernel
theorem dJ5_append_c97b9_50 : decode cJ5_append_c97b9 50 = .ok (.putfield 79, 3) := by decide +kernel
theorem dJ5_append_c97b9_53 : decode cJ5_append_c97b9 53 = .ok (.aload_n 0, 1) := by decide +kernel
theorem dJ5_append_c97b9_54 : decode cJ5_append_c97b9 54 = .ok (.areturn, 1) := by decide +kernel
set_option maxHeartbeats 4000000 in
set_option maxRecDepth 100000 in
/-- AbstractStringBuilder.append(int) -/
theorem c_J5_append_c97b9 (l9 : Launch) (z : Nat → Nat) (D : va_G) (g : Nat → ClassId) (sb : Nat) (qv : Nat) (ml : Int32) (L : List Nat) (m : Nat) (bf : Nat → Int32) (v : Nat) (hL : SbT L m bf) (hv : v < 1000) (hn : (L ++ dec v).length ≤ 2000) (sz : Nat) : Met l9 yJ5_append_c97b9 (WS yJ5_append_c97b9 cJ5_append_c97b9 4 (some (.object "java/lang/AbstractStringBuilder"))) ({ frames := 4, cells := 1, slots := 4002, locals := 86 }) (va_Pc [.ref sb, .int (nI v)] (kPreL z D g [(sb, .inr (10, [.ref qv, .int 0, .int ml, .int (nI L.length)])), (qv, .inl (g 3, m, .inl bf))] sz)) (va_Qq (fun (r9 : Option Nat) (u9 : Nat × Nat × (Nat → Int32)) => r9 = some sb ∧ SbT (L ++ dec v) u9.2.1 u9.2.2) (kB D g (va_A [(sb, .inr (10, [.ref qv, .int 0, .int ml, .int (nI L.length)])), (qv, .inl (g 3, m, .inl bf))] sz) (fun (u9 : Nat × Nat × (Nat → Int32)) => [(sb, .inr (10, [.ref u9.1, .int 0, .int ml, .int (nI (L ++ dec v).length)])), (u9.1, .inl (g 3, u9.2.1, .inl u9.2.2))])) (va_A [(sb, .inr (10, [.ref qv, .int 0, .int ml, .int (nI L.length)])), (qv, .inl (g 3, m, .inl bf))] sz)) 1 4002 (va_A [(sb, .inr (10, [.ref qv, .int 0, .int ml, .int (nI L.length)])), (qv, .inl (g 3, m, .inl bf))] sz) := by
  refine Met.ofW (cc := cJ5_append_c97b9) (maxL := 4) (ret := (some (.object "java/lang/AbstractStringBuilder"))) (by decide) rfl ?_
  intro p9 e9 s9 m9 args9 below9 meth9 c9 s₁ B hml hv
  obtain ⟨rfl, hsz, hP, hK, hD0, hZ, hY⟩ := hv
  have hx := B.exec
  have hb := B.bytes
  have hr := B.returns
  have hts := ws_sub (atoms_spec (ws := WS yJ5_append_c97b9 cJ5_append_c97b9 4 (some (.object "java/lang/AbstractStringBuilder"))) B.pre)
  have hown : s9.vm.findClass RJ5 = some m9.cls := findClass_of_methodNamed B.named
  have hlocks := B.notSynchronized
  subst hsz
  have hD := hD0.self (sz := s9.heap.size)
  generalize hAe : va_A [(sb, .inr (10, [.ref qv, .int 0, .int ml, .int (nI L.length)])), (qv, .inl (g 3, m, .inl bf))] s9.heap.size = A at hD hZ hY ⊢
  have hA : ∀ q : Nat, s9.heap.size ≤ q → A q := fun q h => by rw [← hAe]; exact Or.inr h
  have hS : va_S A s9.heap s9.heap [] := va_S.rf
  have hP : va_P D CLS [(sb, .inr (10, [.ref qv, .int 0, .int ml, .int (nI L.length)])), (qv, .inl (g 3, m, .inl bf))] s9.heap := hP
  have hl := lv_entry ([.ref sb, .int (nI v)]) (n := 4) (Nat.le_of_ble_eq_true rfl)
  rw [lg_entry_eq]
  generalize (lg_sl ([.ref sb, .int (nI v)]) ++ List.replicate (4 - (lg_sl ([.ref sb, .int (nI v)])).length) Slot.unset).toArray = ls at hl ⊢
  have hl : lv_has ls 4 [(0, .ref sb), (1, .int (nI v))] := hl
  change W p9 l9 e9 ({ frames := 4, cells := 1, slots := 4002, locals := 86 } : Room) s9 m9 _ below9 meth9 c9 _ _ _ _ _ _
  have hA7 : (L ++ dec v).length = L.length + (dec v).length := List.length_append
  have hA8 := hL.1
  have hA9 := hL.2.1
  refine lv_aload_n hx hb dJ5_append_c97b9_0 rfl (lv_at hl 0 rfl) ?_
  refine va_get (D := D) (ci := 10) (v := .int (nI L.length)) (C := RB1) (T := TB1) (N := 4) hx hb hts in_B1 hown hK hP 0 rfl rfl 3 (by decide) (hts _ w_1394) (fun _ h9 => h9) rfl dJ5_append_c97b9_1 ?_
  refine lv_istore_n (lv' := [(2, .int (nI L.length)), (0, .ref sb), (1, .int (nI v))]) hx hb dJ5_append_c97b9_4 rfl hl (by decide) rfl (fun ls hl => ?_)
  refine lv_iload_n hx hb dJ5_append_c97b9_5 rfl (lv_at hl 0 rfl) ?_
  refine lv_iload_n hx hb dJ5_append_c97b9_6 rfl (lv_at hl 2 rfl) ?_
  refine k_i hA hP hD hS [(sb, .inr (10, [.ref qv, .int 0, .int ml, .int (nI L.length)])), (qv, .inl (g 3, m, .inl bf))] (va_runS (As := [.int (nI v)]) (rest := [.int (nI L.length)]) ⟨hx, hb, hml, hown, hts⟩ (c_J6_stringSize_0f7a4 l9 z D g v (by first | assumption | decide | omega) (Array.size s9.heap)) (va_cwS 1 hts gs_J5_245 rfl rfl rfl (by decide +kernel) ⟨Nat.le_of_ble_eq_true rfl, Nat.le_of_ble_eq_true rfl⟩) ⟨kBlind, kPre.pc hK hZ hA hP hD hS [] rfl (by decide +kernel)⟩ rfl rfl hl.1 rfl (lv_room (Nat.le_of_ble_eq_true rfl)) dJ5_append_c97b9_7 ⟨Nat.le_of_ble_eq_true rfl, Nat.le_of_ble_eq_true rfl⟩) [] [0, 1] rfl rfl rfl rfl (fun r_7 u_1 H locs hw_7 hP7 hD7 hS7 => ?_)
  clear hP hD hS
  have hP := hP7
  have hD := hD7
  have hS := hS7
  clear hP7 hD7 hS7
  obtain rfl := hw_7
  replace hP : va_P D CLS [(sb, .inr (10, [.ref qv, .int 0, .int ml, .int (nI L.length)])), (qv, .inl (g 3, m, .inl bf))] H := hP
  replace hD : va_D A [(sb, .inr (10, [.ref qv, .int 0, .int ml, .int (nI L.length)])), (qv, .inl (g 3, m, .inl bf))] := hD
  refine lv_iadd hx hb dJ5_append_c97b9_10 ?_
  refine k_topi (show ((nI L.length) + (nI (dec v).length)) = (nI (L ++ dec v).length) from len_app) ?_
  refine lv_istore_n (lv' := [(3, .int (nI (L ++ dec v).length)), (2, .int (nI L.length)), (0, .ref sb), (1, .int (nI v))]) hx hb dJ5_append_c97b9_11 rfl hl (by decide) rfl (fun ls hl => ?_)
  refine lv_aload_n hx hb dJ5_append_c97b9_12 rfl (lv_at hl 2 rfl) ?_
  refine lv_iload_n hx hb dJ5_append_c97b9_13 rfl (lv_at hl 0 rfl) ?_
  refine k_v hA hP hD hS [] (va_runU (owner := RJ5) (As := [.int (nI (L ++ dec v).length)]) (rest := []) ⟨hx, hb, hml, hown, hts⟩ (c_J5_ensureCapacityInternal_d00df l9 z D g sb qv ml (nI L.length) m bf ((L ++ dec v).length) (by omega) hA9 hL.2.2.2 (Array.size H)) (k_cwUp 1 hts gw_J5_ensureCapacityInternal_d00df rfl w_1258 w_1532 w_1260 w_48 hY.sel (by decide +kernel) rfl rfl rfl (by decide +kernel) ⟨Nat.le_of_ble_eq_true rfl, Nat.le_of_ble_eq_true rfl⟩) ⟨kBlindL, va_recv hK hP (ci := 10) (q0 := 0) rfl rfl, kPreL.pc hY hK hZ hA hP hD hS [0, 1] rfl (by decide +kernel)⟩ rfl rfl hl.1 rfl (lv_room (Nat.le_of_ble_eq_true rfl)) dJ5_append_c97b9_14 ⟨Nat.le_of_ble_eq_true rfl, Nat.le_of_ble_eq_true rfl⟩) [0, 1] [] rfl rfl rfl rfl (fun u_2 H locs hw_14 hP7 hD7 hS7 => ?_)
  clear hP hD hS
  have hP := hP7
  have hD := hD7
  have hS := hS7
  clear hP7 hD7 hS7
  obtain ⟨q2u_3, m2u_4, b2u_5⟩ := u_2
  try dsimp only at hw_14
  replace hP : va_P D CLS [(sb, .inr (10, [.ref q2u_3, .int 0, .int ml, .int (nI L.length)])), (q2u_3, .inl (g 3, m2u_4, .inl b2u_5))] H := hP
  replace hD : va_D A [(sb, .inr (10, [.ref q2u_3, .int 0, .int ml, .int (nI L.length)])), (q2u_3, .inl (g 3, m2u_4, .inl b2u_5))] := hD
  have hg := hL.grow hw_14
  have hg1 := hw_14.1
  have hg2 := hw_14.2.1
  refine lv_aload_n hx hb dJ5_append_c97b9_17 rfl (lv_at hl 2 rfl) ?_
  refine k_i hA hP hD hS [(q2u_3, .inl (g 3, m2u_4, .inl b2u_5))] (va_runU (owner := RJ5) (As := []) (rest := []) ⟨hx, hb, hml, hown, hts⟩ (c_J5_isLatin1_aae02 l9 z D g sb q2u_3 ml (nI L.length)  (Array.size H)) (va_cwU 0 hts gsb_J5_83 rfl rfl rfl rfl (by decide +kernel) ⟨Nat.le_of_ble_eq_true rfl, Nat.le_of_ble_eq_true rfl⟩) ⟨kBlindL, va_recv hK hP (ci := 10) (q0 := 0) rfl rfl, kPreL.pc hY hK hZ hA hP hD hS [0] rfl (by decide +kernel)⟩ rfl rfl hl.1 rfl (lv_room (Nat.le_of_ble_eq_true rfl)) dJ5_append_c97b9_18 ⟨Nat.le_of_ble_eq_true rfl, Nat.le_of_ble_eq_true rfl⟩) [0] [1] rfl rfl rfl rfl (fun r_18 u_6 H locs hw_18 hP7 hD7 hS7 => ?_)
  clear hP hD hS
  have hP := hP7
  have hD := hD7
  have hS := hS7
  clear hP7 hD7 hS7
  obtain rfl := hw_18.symm
  replace hP : va_P D CLS [(q2u_3, .inl (g 3, m2u_4, .inl b2u_5)), (sb, .inr (10, [.ref q2u_3, .int 0, .int ml, .int (nI L.length)]))] H := hP
  replace hD : va_D A [(q2u_3, .inl (g 3, m2u_4, .inl b2u_5)), (sb, .inr (10, [.ref q2u_3, .int 0, .int ml, .int (nI L.length)]))] := hD
  refine lv_if_eq (tgt := 37) hx hb dJ5_append_c97b9_21 (by decide) (fun c_21 => ?_) (fun c_21 => ?_)
  · skip
    exact absurd c_21 (by decide)
  · skip
    refine lv_iload_n hx hb dJ5_append_c97b9_24 rfl (lv_at hl 3 rfl) ?_
    refine lv_iload_n hx hb dJ5_append_c97b9_25 rfl (lv_at hl 0 rfl) ?_
    refine lv_aload_n hx hb dJ5_append_c97b9_26 rfl (lv_at hl 2 rfl) ?_
    refine va_get (D := D) (ci := 10) (v := .ref q2u_3) (C := RB1) (T := TB1) (N := 4) hx hb hts in_B1 hown hK hP 1 rfl rfl 0 (by decide) (hts _ w_1391) (fun _ h9 => h9) rfl dJ5_append_c97b9_27 ?_
    refine k_i hA hP hD hS [(sb, .inr (10, [.ref q2u_3, .int 0, .int ml, .int (nI L.length)]))] (va_runS (As := [.int (nI v), .int (nI (L ++ dec v).length), .ref q2u_3]) (rest := []) ⟨hx, hb, hml, hown, hts⟩ (c_J6_getChars_ba4f3 l9 z D g v ((L ++ dec v).length) q2u_3 m2u_4 b2u_5 hv (by omega) (by omega) (by omega) (Array.size H)) (va_cwS 3 hts gs_J5_248 rfl rfl rfl (by decide +kernel) ⟨Nat.le_of_ble_eq_true rfl, Nat.le_of_ble_eq_true rfl⟩) ⟨kBlindL, kPreL.pc hY hK hZ hA hP hD hS [0] rfl (by decide +kernel)⟩ rfl rfl hl.1 rfl (lv_room (Nat.le_of_ble_eq_true rfl)) dJ5_append_c97b9_30 ⟨Nat.le_of_ble_eq_true rfl, Nat.le_of_ble_eq_true rfl⟩) [0] [1] rfl rfl rfl rfl (fun r_30 u_7 H locs hw_30 hP7 hD7 hS7 => ?_)
    clear hP hD hS
    have hP := hP7
    have hD := hD7
    have hS := hS7
    clear hP7 hD7 hS7
    obtain ⟨b2u_8, rfl⟩ : ∃ q, q = u_7 := ⟨_, rfl⟩
    try dsimp only at hw_30
    obtain ⟨rfl, hw_30⟩ := hw_30
    replace hP : va_P D CLS [(sb, .inr (10, [.ref q2u_3, .int 0, .int ml, .int (nI L.length)])), (q2u_3, .inl (g 3, m2u_4, .inl b2u_8))] H := hP
    replace hD : va_D A [(sb, .inr (10, [.ref q2u_3, .int 0, .int ml, .int (nI L.length)])), (q2u_3, .inl (g 3, m2u_4, .inl b2u_8))] := hD
    refine lv_pop hx hb dJ5_append_c97b9_33 rfl ?_
    refine lv_goto (tgt := 48) hx hb dJ5_append_c97b9_34 (by decide) ?_
    refine lv_aload_n hx hb dJ5_append_c97b9_48 rfl (lv_at hl 2 rfl) ?_
    refine lv_iload_n hx hb dJ5_append_c97b9_49 rfl (lv_at hl 0 rfl) ?_
    refine va_put (D := D) (ci := 10) (v := .int (nI (L ++ dec v).length)) (ty := .int) (C := RB1) (T := TB1) (N := 4) hx hb hts in_B1 tyB1 tyB1_ok nmB1 hown hK hP hD hS 0 rfl rfl 3 (by decide) (hts _ w_1394) (fun _ h9 => h9) rfl (by decide +kernel) rfl rfl (Nat.le_of_ble_eq_true rfl) dJ5_append_c97b9_50 (fun H locs hP7 hD7 hS7 => ?_)
    clear hP hD hS
    have hP := hP7
    have hD := hD7
    have hS := hS7
    clear hP7 hD7 hS7
    replace hP : va_P D CLS [(sb, .inr (10, [.ref q2u_3, .int 0, .int ml, .int (nI (L ++ dec v).length)])), (q2u_3, .inl (g 3, m2u_4, .inl b2u_8))] H := hP
    replace hD : va_D A [(sb, .inr (10, [.ref q2u_3, .int 0, .int ml, .int (nI (L ++ dec v).length)])), (q2u_3, .inl (g 3, m2u_4, .inl b2u_8))] := hD
    refine lv_aload_n hx hb dJ5_append_c97b9_53 rfl (lv_at hl 2 rfl) ?_
    have hr9 : sb = (some sb) := by rfl
    have hP9 : va_P D CLS [(sb, .inr (10, [.ref q2u_3, .int 0, .int ml, .int (nI (L ++ dec v).length)])), (q2u_3, .inl (g 3, m2u_4, .inl b2u_8))] H := by exact kSub hP [0, 1] rfl
    have hD9 : va_D A [(sb, .inr (10, [.ref q2u_3, .int 0, .int ml, .int (nI (L ++ dec v).length)])), (q2u_3, .inl (g 3, m2u_4, .inl b2u_8))] := by exact hD.sub [0, 1] (by decide +kernel) rfl
    refine W.widen (k := 1) (n := 4002) (by omega) (by omega) ?_
    exact W.aret (v := va_rf (some sb)) hx hb hr (Or.inl ⟨_, rfl⟩) (va_rf_or _) (fun t9 ht9 hW9 => ⟨⟨some sb, (q2u_3, m2u_4, b2u_8), rfl, ⟨hr9, (by dsimp only; exact (SbD_app hg hA7 (by omega) hw_30))⟩, by rw [ht9]; exact hP9, va_K.moved hW9.alike hK, hD9⟩, hS.F ht9⟩) hS.2.2 dJ5_append_c97b9_54
theorem dJ4_append_bf812_0 : decode cJ4_append_bf812 0 = .ok (.aload_n 0, 1) := by decide +kernel
theorem dJ4_append_bf812_1 : decode cJ4_append_bf812 1 = .ok (.iload_n 1, 1) := by decide +kernel
theorem dJ4_append_bf812_2 : decode cJ4_append_bf812 2 = .ok (.invokespecial 53, 3) := by decide +kernel
theorem dJ4_append_bf812_5 : decode cJ4_append_bf812 5 = .ok (.pop, 1) := by decide +kernel
theorem dJ4_append_bf812_6 : decode cJ4_append_bf812 6 = .ok (.aload_n 0, 1) := by decide +kernel
theorem dJ4_append_bf812_7 : decode cJ4_append_bf812 7 = .ok (.areturn, 1) := by decide +kernel
set_option maxHeartbeats 4000000 in
set_option maxRecDepth 100000 in
/-- StringBuilder.append(int) -/
theorem c_J4_append_bf812 (l9 : Launch) (z : Nat → Nat) (D : va_G) (g : Nat → ClassId) (sb : Nat) (qv : Nat) (ml : Int32) (L : List Nat) (m : Nat) (bf : Nat → Int32) (v : Nat) (hL : SbT L m bf) (hv : v < 1000) (hn : (L ++ dec v).length ≤ 2000) (sz : Nat) : Met l9 yJ4_append_bf812 (WS yJ4_append_bf812 cJ4_append_bf812 2 (some (.object "java/lang/StringBuilder"))) ({ frames := 5, cells := 1, slots := 4002, locals := 109 }) (va_Pc [.ref sb, .int (nI v)] (kPreL z D g [(sb, .inr (10, [.ref qv, .int 0, .int ml, .int (nI L.length)])), (qv, .inl (g 3, m, .inl bf))] sz)) (va_Qq (fun (r9 : Option Nat) (u9 : Nat × Nat × (Nat → Int32)) => r9 = some sb ∧ SbT (L ++ dec v) u9.2.1 u9.2.2) (kB D g (va_A [(sb, .inr (10, [.ref qv, .int 0, .int ml, .int (nI L.length)])), (qv, .inl (g 3, m, .inl bf))] sz) (fun (u9 : Nat × Nat × (Nat → Int32)) => [(sb, .inr (10, [.ref u9.1, .int 0, .int ml, .int (nI (L ++ dec v).length)])), (u9.1, .inl (g 3, u9.2.1, .inl u9.2.2))])) (va_A [(sb, .inr (10, [.ref qv, .int 0, .int ml, .int (nI L.length)])), (qv, .inl (g 3, m, .inl bf))] sz)) 1 4002 (va_A [(sb, .inr (10, [.ref qv, .int 0, .int ml, .int (nI L.length)])), (qv, .inl (g 3, m, .inl bf))] sz) := by
  refine Met.ofW (cc := cJ4_append_bf812) (maxL := 2) (ret := (some (.object "java/lang/StringBuilder"))) (by decide) rfl ?_
  intro p9 e9 s9 m9 args9 below9 meth9 c9 s₁ B hml hv
  obtain ⟨rfl, hsz, hP, hK, hD0, hZ, hY⟩ := hv
  have hx := B.exec
  have hb := B.bytes
  have hr := B.returns
  have hts := ws_sub (atoms_spec (ws := WS yJ4_append_bf812 cJ4_append_bf812 2 (some (.object "java/lang/StringBuilder"))) B.pre)
  have hown : s9.vm.findClass RJ4 = some m9.cls := findClass_of_methodNamed B.named
  have hlocks := B.notSynchronized
  subst hsz
  have hD := hD0.self (sz := s9.heap.size)
  generalize hAe : va_A [(sb, .inr (10, [.ref qv, .int 0, .int ml, .int (nI L.length)])), (qv, .inl (g 3, m, .inl bf))] s9.heap.size = A at hD hZ hY ⊢
  have hA : ∀ q : Nat, s9.heap.size ≤ q → A q := fun q h => by rw [← hAe]; exact Or.inr h
  have hS : va_S A s9.heap s9.heap [] := va_S.rf
  have hP : va_P D CLS [(sb, .inr (10, [.ref qv, .int 0, .int ml, .int (nI L.length)])), (qv, .inl (g 3, m, .inl bf))] s9.heap := hP
  have hl := lv_entry ([.ref sb, .int (nI v)]) (n := 2) (Nat.le_of_ble_eq_true rfl)
  rw [lg_entry_eq]
  generalize (lg_sl ([.ref sb, .int (nI v)]) ++ List.replicate (2 - (lg_sl ([.ref sb, .int (nI v)])).length) Slot.unset).toArray = ls at hl ⊢
  have hl : lv_has ls 2 [(0, .ref sb), (1, .int (nI v))] := hl
  change W p9 l9 e9 ({ frames := 5, cells := 1, slots := 4002, locals := 109 } : Room) s9 m9 _ below9 meth9 c9 _ _ _ _ _ _
  refine lv_aload_n hx hb dJ4_append_bf812_0 rfl (lv_at hl 0 rfl) ?_
  refine lv_iload_n hx hb dJ4_append_bf812_1 rfl (lv_at hl 1 rfl) ?_
  refine k_q hA hP hD hS [] (va_runSU ((hK.1 10 _ rfl).2) (As := [.int (nI v)]) (rest := []) ⟨hx, hb, hml, hown, hts⟩ (c_J5_append_c97b9 l9 z D g sb qv ml L m bf v (by first | assumption | decide | omega) (by first | assumption | decide | omega) (by first | assumption | decide | omega) (Array.size s9.heap)) (va_cwSU 1 hts gsu_J4_53 rfl rfl rfl (by decide +kernel) ⟨Nat.le_of_ble_eq_true rfl, Nat.le_of_ble_eq_true rfl⟩) ⟨kBlindL, va_recv hK hP (ci := 10) (q0 := 0) rfl rfl, kPreL.pc hY hK hZ hA hP hD hS [0, 1] rfl (by decide +kernel)⟩ rfl rfl hl.1 rfl (lv_room (Nat.le_of_ble_eq_true rfl)) dJ4_append_bf812_2 ⟨Nat.le_of_ble_eq_true rfl, Nat.le_of_ble_eq_true rfl⟩) [0, 1] [] rfl rfl rfl rfl (fun r_2 u_1 H locs hw_2 hP7 hD7 hS7 => ?_)
  clear hP hD hS
  have hP := hP7
  have hD := hD7
  have hS := hS7
  clear hP7 hD7 hS7
  obtain ⟨q2u_2, m2u_3, b2u_4⟩ := u_1
  try dsimp only at hw_2
  obtain ⟨rfl, hw_2⟩ := hw_2
  replace hP : va_P D CLS [(sb, .inr (10, [.ref q2u_2, .int 0, .int ml, .int (nI (L ++ dec v).length)])), (q2u_2, .inl (g 3, m2u_3, .inl b2u_4))] H := hP
  replace hD : va_D A [(sb, .inr (10, [.ref q2u_2, .int 0, .int ml, .int (nI (L ++ dec v).length)])), (q2u_2, .inl (g 3, m2u_3, .inl b2u_4))] := hD
  refine lv_pop hx hb dJ4_append_bf812_5 rfl ?_
  refine lv_aload_n hx hb dJ4_append_bf812_6 rfl (lv_at hl 0 rfl) ?_
  have hr9 : sb = (some sb) := by rfl
  have hP9 : va_P D CLS [(sb, .inr (10, [.ref q2u_2, .int 0, .int ml, .int (nI (L ++ dec v).length)])), (q2u_2, .inl (g 3, m2u_3, .inl b2u_4))] H := by exact kSub hP [0, 1] rfl
  have hD9 : va_D A [(sb, .inr (10, [.ref q2u_2, .int 0, .int ml, .int (nI (L ++ dec v).length)])), (q2u_2, .inl (g 3, m2u_3, .inl b2u_4))] := by exact hD.sub [0, 1] (by decide +kernel) rfl
  refine W.widen (k := 1) (n := 4002) (by omega) (by omega) ?_
  exact W.aret (v := va_rf (some sb)) hx hb hr (Or.inl ⟨_, rfl⟩) (va_rf_or _) (fun t9 ht9 hW9 => ⟨⟨some sb, (q2u_2, m2u_3, b2u_4), rfl, ⟨hr9, (by dsimp only; exact hw_2)⟩, by rw [ht9]; exact hP9, va_K.moved hW9.alike hK, hD9⟩, hS.F ht9⟩) hS.2.2 dJ4_append_bf812_7
theorem dJ5_getValue_6d5f1_0 : decode cJ5_getValue_6d5f1 0 = .ok (.aload_n 0, 1) := by decide +kernel
theorem dJ5_getValue_6d5f1_1 : decode cJ5_getValue_6d5f1 1 = .ok (.getfield 15, 3) := by decide +kernel
theorem dJ5_getValue_6d5f1_4 : decode cJ5_getValue_6d5f1 4 = .ok (.areturn, 1) := by decide +kernel
set_option maxHeartbeats 4000000 in
set_option maxRecDepth 100000 in
/-- AbstractStringBuilder.getValue -/
theorem c_J5_getValue_6d5f1 (l9 : Launch) (z : Nat → Nat) (D : va_G) (g : Nat → ClassId) (sb : Nat) (qv : Nat) (ml : Int32) (cn : Int32) (sz : Nat) : Met l9 yJ5_getValue_6d5f1 (WS yJ5_getValue_6d5f1 cJ5_getValue_6d5f1 1 (some (.array .byte))) ({ frames := 0, cells := 0, slots := 0, locals := 0 }) (va_Pc [.ref sb] (kPreL z D g [(sb, .inr (10, [.ref qv, .int 0, .int ml, .int cn]))] sz)) (va_Qq (fun (r9 : Option Nat) (u9 : Unit) => r9 = some qv) (kB D g (va_A [(sb, .inr (10, [.ref qv, .int 0, .int ml, .int cn]))] sz) (fun (u9 : Unit) => [(sb, .inr (10, [.ref qv, .int 0, .int ml, .int cn]))])) (va_A [(sb, .inr (10, [.ref qv, .int 0, .int ml, .int cn]))] sz)) 0 0 (va_A [(sb, .inr (10, [.ref qv, .int 0, .int ml, .int cn]))] sz) := by
  refine Met.ofW (cc := cJ5_getValue_6d5f1) (maxL := 1) (ret := (some (.array .byte))) (by decide) rfl ?_
  intro p9 e9 s9 m9 args9 below9 meth9 c9 s₁ B hml hv
  obtain ⟨rfl, hsz, hP, hK, hD0, hZ, hY⟩ := hv
  have hx := B.exec
  have hb := B.bytes
  have hr := B.returns
  have hts := ws_sub (atoms_spec (ws := WS yJ5_getValue_6d5f1 cJ5_getValue_6d5f1 1 (some (.array .byte))) B.pre)
  have hown : s9.vm.findClass RJ5 = some m9.cls := findClass_of_methodNamed B.named
  have hlocks := B.notSynchronized
  subst hsz
  have hD := hD0.self (sz := s9.heap.size)
  generalize hAe : va_A [(sb, .inr (10, [.ref qv, .int 0, .int ml, .int cn]))] s9.heap.size = A at hD hZ hY ⊢
  have hA : ∀ q : Nat, s9.heap.size ≤ q → A q := fun q h => by rw [← hAe]; exact Or.inr h
  have hS : va_S A s9.heap s9.heap [] := va_S.rf
  have hP : va_P D CLS [(sb, .inr (10, [.ref qv, .int 0, .int ml, .int cn]))] s9.heap := hP
  have hl := lv_entry ([.ref sb]) (n := 1) (Nat.le_of_ble_eq_true rfl)
  rw [lg_entry_eq]
  generalize (lg_sl ([.ref sb]) ++ List.replicate (1 - (lg_sl ([.ref sb])).length) Slot.unset).toArray = ls at hl ⊢
  have hl : lv_has ls 1 [(0, .ref sb)] := hl
  change W p9 l9 e9 ({ frames := 0, cells := 0, slots := 0, locals := 0 } : Room) s9 m9 _ below9 meth9 c9 _ _ _ _ _ _
  refine lv_aload_n hx hb dJ5_getValue_6d5f1_0 rfl (lv_at hl 0 rfl) ?_
  refine va_get (D := D) (ci := 10) (v := .ref qv) (C := RB1) (T := TB1) (N := 4) hx hb hts in_B1 hown hK hP 0 rfl rfl 0 (by decide) (hts _ w_1391) (fun _ h9 => h9) rfl dJ5_getValue_6d5f1_1 ?_
  have hr9 : qv = (some qv) := by rfl
  have hP9 : va_P D CLS [(sb, .inr (10, [.ref qv, .int 0, .int ml, .int cn]))] s9.heap := by exact kSub hP [0] rfl
  have hD9 : va_D A [(sb, .inr (10, [.ref qv, .int 0, .int ml, .int cn]))] := by exact hD.sub [0] (by decide +kernel) rfl
  exact W.aret (v := va_rf (some qv)) hx hb hr (Or.inr ⟨_, rfl⟩) (va_rf_or _) (fun t9 ht9 hW9 => ⟨⟨some qv, (), rfl, hr9, by rw [ht9]; exact hP9, va_K.moved hW9.alike hK, hD9⟩, hS.F ht9⟩) hS.2.2 dJ5_getValue_6d5f1_4
theorem dJ5_length_8abf5_0 : decode cJ5_length_8abf5 0 = .ok (.aload_n 0, 1) := by decide +kernel
theorem dJ5_length_8abf5_1 : decode cJ5_length_8abf5 1 = .ok (.getfield 79, 3) := by decide +kernel
theorem dJ5_length_8abf5_4 : decode cJ5_length_8abf5 4 = .ok (.ireturn, 1) := by decide +kernel
set_option maxHeartbeats 4000000 in
set_option maxRecDepth 100000 in
/-- AbstractStringBuilder.length -/
theorem c_J5_length_8abf5 (l9 : Launch) (z : Nat → Nat) (D : va_G) (g : Nat → ClassId) (sb : Nat) (qv : Nat) (ml : Int32) (cn : Int32) (sz : Nat) : Met l9 yJ5_length_8abf5 (WS yJ5_length_8abf5 cJ5_length_8abf5 1 (some .int)) ({ frames := 0, cells := 0, slots := 0, locals := 0 }) (va_Pc [.ref sb] (kPreL z D g [(sb, .inr (10, [.ref qv, .int 0, .int ml, .int cn]))] sz)) (va_Qi (fun (r9 : Int32) (u9 : Unit) => r9 = cn) (kB D g (va_A [(sb, .inr (10, [.ref qv, .int 0, .int ml, .int cn]))] sz) (fun (u9 : Unit) => [(sb, .inr (10, [.ref qv, .int 0, .int ml, .int cn]))])) (va_A [(sb, .inr (10, [.ref qv, .int 0, .int ml, .int cn]))] sz)) 0 0 (va_A [(sb, .inr (10, [.ref qv, .int 0, .int ml, .int cn]))] sz) := by
  refine Met.ofW (cc := cJ5_length_8abf5) (maxL := 1) (ret := (some .int)) (by decide) rfl ?_
  intro p9 e9 s9 m9 args9 below9 meth9 c9 s₁ B hml hv
  obtain ⟨rfl, hsz, hP, hK, hD0, hZ, hY⟩ := hv
  have hx := B.exec
  have hb := B.bytes
  have hr := B.returns
  have hts := ws_sub (atoms_spec (ws := WS yJ5_length_8abf5 cJ5_length_8abf5 1 (some .int)) B.pre)
  have hown : s9.vm.findClass RJ5 = some m9.cls := findClass_of_methodNamed B.named
  have hlocks := B.notSynchronized
  subst hsz
  have hD := hD0.self (sz := s9.heap.size)
  generalize hAe : va_A [(sb, .inr (10, [.ref qv, .int 0, .int ml, .int cn]))] s9.heap.size = A at hD hZ hY ⊢
  have hA : ∀ q : Nat, s9.heap.size ≤ q → A q := fun q h => by rw [← hAe]; exact Or.inr h
  have hS : va_S A s9.heap s9.heap [] := va_S.rf
  have hP : va_P D CLS [(sb, .inr (10, [.ref qv, .int 0, .int ml, .int cn]))] s9.heap := hP
  have hl := lv_entry ([.ref sb]) (n := 1) (Nat.le_of_ble_eq_true rfl)
  rw [lg_entry_eq]
  generalize (lg_sl ([.ref sb]) ++ List.replicate (1 - (lg_sl ([.ref sb])).length) Slot.unset).toArray = ls at hl ⊢
  have hl : lv_has ls 1 [(0, .ref sb)] := hl
  change W p9 l9 e9 ({ frames := 0, cells := 0, slots := 0, locals := 0 } : Room) s9 m9 _ below9 meth9 c9 _ _ _ _ _ _
  refine lv_aload_n hx hb dJ5_length_8abf5_0 rfl (lv_at hl 0 rfl) ?_
  refine va_get (D := D) (ci := 10) (v := .int cn) (C := RB1) (T := TB1) (N := 4) hx hb hts in_B1 hown hK hP 0 rfl rfl 3 (by decide) (hts _ w_1394) (fun _ h9 => h9) rfl dJ5_length_8abf5_1 ?_
  have hr9 : cn = cn := by rfl
  have hP9 : va_P D CLS [(sb, .inr (10, [.ref qv, .int 0, .int ml, .int cn]))] s9.heap := by exact kSub hP [0] rfl
  have hD9 : va_D A [(sb, .inr (10, [.ref qv, .int 0, .int ml, .int cn]))] := by exact hD.sub [0] (by decide +kernel) rfl
  exact W.iret (v := cn) hx hb hr (fun t9 ht9 hW9 => ⟨⟨cn, (), rfl, hr9, by rw [ht9]; exact hP9, va_K.moved hW9.alike hK, hD9⟩, hS.F ht9⟩) hS.2.2 dJ5_length_8abf5_4
theorem dJ4_length_8abf5_0 : decode cJ4_length_8abf5 0 = .ok (.aload_n 0, 1) := by decide +kernel
theorem dJ4_length_8abf5_1 : decode cJ4_length_8abf5 1 = .ok (.invokespecial 343, 3) := by decide +kernel
theorem dJ4_length_8abf5_4 : decode cJ4_length_8abf5 4 = .ok (.ireturn, 1) := by decide +kernel
set_option maxHeartbeats 4000000 in
set_option maxRecDepth 100000 in
/-- StringBuilder.length -/
theorem c_J4_length_8abf5 (l9 : Launch) (z : Nat → Nat) (D : va_G) (g : Nat → ClassId) (sb : Nat) (qv : Nat) (ml : Int32) (cn : Int32) (sz : Nat) : Met l9 yJ4_length_8abf5 (WS yJ4_length_8abf5 cJ4_length_8abf5 1 (some .int)) ({ frames := 1, cells := 0, slots := 0, locals := 20 }) (va_Pc [.ref sb] (kPreL z D g [(sb, .inr (10, [.ref qv, .int 0, .int ml, .int cn]))] sz)) (va_Qi (fun (r9 : Int32) (u9 : Unit) => r9 = cn) (kB D g (va_A [(sb, .inr (10, [.ref qv, .int 0, .int ml, .int cn]))] sz) (fun (u9 : Unit) => [(sb, .inr (10, [.ref qv, .int 0, .int ml, .int cn]))])) (va_A [(sb, .inr (10, [.ref qv, .int 0, .int ml, .int cn]))] sz)) 0 0 (va_A [(sb, .inr (10, [.ref qv, .int 0, .int ml, .int cn]))] sz) := by
  refine Met.ofW (cc := cJ4_length_8abf5) (maxL := 1) (ret := (some .int)) (by decide) rfl ?_
  intro p9 e9 s9 m9 args9 below9 meth9 c9 s₁ B hml hv
  obtain ⟨rfl, hsz, hP, hK, hD0, hZ, hY⟩ := hv
  have hx := B.exec
  have hb := B.bytes
  have hr := B.returns
  have hts := ws_sub (atoms_spec (ws := WS yJ4_length_8abf5 cJ4_length_8abf5 1 (some .int)) B.pre)
  have hown : s9.vm.findClass RJ4 = some m9.cls := findClass_of_methodNamed B.named
  have hlocks := B.notSynchronized
  subst hsz
  have hD := hD0.self (sz := s9.heap.size)
  generalize hAe : va_A [(sb, .inr (10, [.ref qv, .int 0, .int ml, .int cn]))] s9.heap.size = A at hD hZ hY ⊢
  have hA : ∀ q : Nat, s9.heap.size ≤ q → A q := fun q h => by rw [← hAe]; exact Or.inr h
  have hS : va_S A s9.heap s9.heap [] := va_S.rf
  have hP : va_P D CLS [(sb, .inr (10, [.ref qv, .int 0, .int ml, .int cn]))] s9.heap := hP
  have hl := lv_entry ([.ref sb]) (n := 1) (Nat.le_of_ble_eq_true rfl)
  rw [lg_entry_eq]
  generalize (lg_sl ([.ref sb]) ++ List.replicate (1 - (lg_sl ([.ref sb])).length) Slot.unset).toArray = ls at hl ⊢
  have hl : lv_has ls 1 [(0, .ref sb)] := hl
  change W p9 l9 e9 ({ frames := 1, cells := 0, slots := 0, locals := 20 } : Room) s9 m9 _ below9 meth9 c9 _ _ _ _ _ _
  refine lv_aload_n hx hb dJ4_length_8abf5_0 rfl (lv_at hl 0 rfl) ?_
  refine k_i hA hP hD hS [] (va_runSU ((hK.1 10 _ rfl).2) (As := []) (rest := []) ⟨hx, hb, hml, hown, hts⟩ (c_J5_length_8abf5 l9 z D g sb qv ml cn  (Array.size s9.heap)) (va_cwSU 0 hts gsu_J4_343 rfl rfl rfl (by decide +kernel) ⟨Nat.le_of_ble_eq_true rfl, Nat.le_of_ble_eq_true rfl⟩) ⟨kBlindL, va_recv hK hP (ci := 10) (q0 := 0) rfl rfl, kPreL.pc hY hK hZ hA hP hD hS [0] rfl (by decide +kernel)⟩ rfl rfl hl.1 rfl (lv_room (Nat.le_of_ble_eq_true rfl)) dJ4_length_8abf5_1 ⟨Nat.le_of_ble_eq_true rfl, Nat.le_of_ble_eq_true rfl⟩) [0] [] rfl rfl rfl rfl (fun r_1 u_1 H locs hw_1 hP7 hD7 hS7 => ?_)
  clear hP hD hS
  have hP := hP7
  have hD := hD7
  have hS := hS7
  clear hP7 hD7 hS7
  obtain rfl := hw_1.symm
  replace hP : va_P D CLS [(sb, .inr (10, [.ref qv, .int 0, .int ml, .int cn]))] H := hP
  replace hD : va_D A [(sb, .inr (10, [.ref qv, .int 0, .int ml, .int cn]))] := hD
  have hr9 : cn = cn := by rfl
  have hP9 : va_P D CLS [(sb, .inr (10, [.ref qv, .int 0, .int ml, .int cn]))] H := by exact kSub hP [0] rfl
  have hD9 : va_D A [(sb, .inr (10, [.ref qv, .int 0, .int ml, .int cn]))] := by exact hD.sub [0] (by decide +kernel) rfl
  exact W.iret (v := cn) hx hb hr (fun t9 ht9 hW9 => ⟨⟨cn, (), rfl, hr9, by rw [ht9]; exact hP9, va_K.moved hW9.alike hK, hD9⟩, hS.F ht9⟩) hS.2.2 dJ4_length_8abf5_4
theorem dJ7_checkLength_df160_0 : decode cJ7_checkLength_df160 0 = .ok (.iload_n 1, 1) := by decide +kernel
theorem dJ7_checkLength_df160_1 : decode cJ7_checkLength_df160 1 = .ok (.iload_n 0, 1) := by decide +kernel
theorem dJ7_checkLength_df160_2 : decode cJ7_checkLength_df160 2 = .ok (.if_icmp .ge 35, 3) := by decide +kernel
theorem dJ7_checkLength_df160_37 : decode cJ7_checkLength_df160 37 = .ok (.return_, 1) := by decide +kernel
set_option maxHeartbeats 4000000 in
set_option maxRecDepth 100000 in
/-- Arrays.checkLength, of none too many -/
theorem c_J7_checkLength_df160 (l9 : Launch) (z : Nat → Nat) (D : va_G) (g : Nat → ClassId) (n : Nat) (hn : n ≤ 4002) (sz : Nat) : Met l9 yJ7_checkLength_df160 (WS yJ7_checkLength_df160 cJ7_checkLength_df160 2 none) ({ frames := 0, cells := 0, slots := 0, locals := 0 }) (va_Pc [.int 0, .int (nI n)] (kPre z D g [] sz)) (va_Qv (fun (u9 : Unit) => True) (kB D g (va_A [] sz) (fun (u9 : Unit) => [])) (va_A [] sz)) 0 0 (va_A [] sz) := by
  refine Met.ofW (cc := cJ7_checkLength_df160) (maxL := 2) (ret := none) (by decide) rfl ?_
  intro p9 e9 s9 m9 args9 below9 meth9 c9 s₁ B hml hv
  obtain ⟨rfl, hsz, hP, hK, hD0, hZ⟩ := hv
  have hx := B.exec
  have hb := B.bytes
  have hr := B.returns
  have hts := ws_sub (atoms_spec (ws := WS yJ7_checkLength_df160 cJ7_checkLength_df160 2 none) B.pre)
  have hown : s9.vm.findClass RJ7 = some m9.cls := findClass_of_methodNamed B.named
  have hlocks := B.notSynchronized
  subst hsz
  have hD := hD0.self (sz := s9.heap.size)
  generalize hAe : va_A [] s9.heap.size = A at hD hZ ⊢
  have hA : ∀ q : Nat, s9.heap.size ≤ q → A q := fun q h => by rw [← hAe]; exact Or.inr h
  have hS : va_S A s9.heap s9.heap [] := va_S.rf
  have hP : va_P D CLS [] s9.heap := hP
  have hl := lv_entry ([.int 0, .int (nI n)]) (n := 2) (Nat.le_of_ble_eq_true rfl)
  rw [lg_entry_eq]
  generalize (lg_sl ([.int 0, .int (nI n)]) ++ List.replicate (2 - (lg_sl ([.int 0, .int (nI n)])).length) Slot.unset).toArray = ls at hl ⊢
  have hl : lv_has ls 2 [(0, .int 0), (1, .int (nI n))] := hl
  change W p9 l9 e9 ({ frames := 0, cells := 0, slots := 0, locals := 0 } : Room) s9 m9 _ below9 meth9 c9 _ _ _ _ _ _
  refine lv_iload_n hx hb dJ7_checkLength_df160_0 rfl (lv_at hl 1 rfl) ?_
  refine lv_iload_n hx hb dJ7_checkLength_df160_1 rfl (lv_at hl 0 rfl) ?_
  refine lv_icmp_ge (tgt := 37) hx hb dJ7_checkLength_df160_2 (by decide) (fun c_2 => ?_) (fun c_2 => ?_)
  · skip
    have hP9 : va_P D CLS [] s9.heap := by exact kSub hP [] rfl
    have hD9 : va_D A [] := by exact hD.sub [] (by decide +kernel) rfl
    exact W.vret hx hb hr (fun t9 ht9 hW9 => ⟨⟨(), rfl, trivial, by rw [ht9]; exact hP9, va_K.moved hW9.alike hK, hD9⟩, hS.F ht9⟩) hS.2.2 dJ7_checkLength_df160_37
  · skip
    exact absurd (nI_pos' (by omega)) c_2
theorem dJ7_copyOfRangeByte_39247_0 : decode cJ7_copyOfRangeByte_39247 0 = .ok (.iload_n 1, 1) := by decide +kernel
theorem dJ7_copyOfRangeByte_39247_1 : decode cJ7_copyOfRangeByte_39247 1 = .ok (.iload_n 2, 1) := by decide +kernel
theorem dJ7_copyOfRangeByte_39247_2 : decode cJ7_copyOfRangeByte_39247 2 = .ok (.invokestatic 343, 3) := by decide +kernel
theorem dJ7_copyOfRangeByte_39247_5 : decode cJ7_copyOfRangeByte_39247 5 = .ok (.iload_n 2, 1) := by decide +kernel
theorem dJ7_copyOfRangeByte_39247_6 : decode cJ7_copyOfRangeByte_39247 6 = .ok (.iload_n 1, 1) := by decide +kernel
theorem dJ7_copyOfRangeByte_39247_7 : decode cJ7_copyOfRangeByte_39247 7 = .ok (.isub, 1) := by decide +kernel
theorem dJ7_copyOfRangeByte_39247_8 : decode cJ7_copyOfRangeByte_39247 8 = .ok (.istore_n 3, 1) := by decide +kernel
theorem dJ7_copyOfRangeByte_39247_9 : decode cJ7_copyOfRangeByte_39247 9 = .ok (.iload_n 3, 1) := by decide +kernel
theorem dJ7_copyOfRangeByte_39247_10 : decode cJ7_copyOfRangeByte_39247 10 = .ok (.newarray .byte, 2) := by decide +kernel
theorem dJ7_copyOfRangeByte_39247_12 : decode cJ7_copyOfRangeByte_39247 12 = .ok (.astore 4, 2) := by decide +kernel
theorem dJ7_copyOfRangeByte_39247_14 : decode cJ7_copyOfRangeByte_39247 14 = .ok (.aload_n 0, 1) := by decide +kernel
theorem dJ7_copyOfRangeByte_39247_15 : decode cJ7_copyOfRangeByte_39247 15 = .ok (.iload_n 1, 1) := by decide +kernel
theorem dJ7_copyOfRangeByte_39247_16 : decode cJ7_copyOfRangeByte_39247 16 = .ok (.aload 4, 2) := by decide +kernel
theorem dJ7_copyOfRangeByte_39247_18 : decode cJ7_copyOfRangeByte_39247 18 = .ok (.iconst 0, 1) := by decide +kernel
theorem dJ7_copyOfRangeByte_39247_19 : decode cJ7_copyOfRangeByte_39247 19 = .ok (.aload_n 0, 1) := by decide +kernel
theorem dJ7_copyOfRangeByte_39247_20 : decode cJ7_copyOfRangeByte_39247 20 = .ok (.arraylength, 1) := by decide +kernel
theorem dJ7_copyOfRangeByte_39247_21 : decode cJ7_copyOfRangeByte_39247 21 = .ok (.iload_n 1, 1) := by decide +kernel
theorem dJ7_copyOfRangeByte_39247_22 : decode cJ7_copyOfRangeByte_39247 22 = .ok (.isub, 1) := by decide +kernel
theorem dJ7_copyOfRangeByte_39247_23 : decode cJ7_copyOfRangeByte_39247 23 = .ok (.iload_n 3, 1) := by decide +kernel
theorem dJ7_copyOfRangeByte_39247_24 : decode cJ7_copyOfRangeByte_39247 24 = .ok (.invokestatic 304, 3) := by decide +kernel
theorem dJ7_copyOfRangeByte_39247_27 : decode cJ7_copyOfRangeByte_39247 27 = .ok (.invokestatic 150, 3) := by decide +kernel
theorem dJ7_copyOfRangeByte_39247_30 : decode cJ7_copyOfRangeByte_39247 30 = .ok (.aload 4, 2) := by decide +kernel
theorem dJ7_copyOfRangeByte_39247_32 : decode cJ7_copyOfRangeByte_39247 32 = .ok (.areturn, 1) := by decide +kernel
set_option maxHeartbeats 4000000 in
set_option maxRecDepth 100000 in
/-- Arrays.copyOfRangeByte, from 0 -/
theorem c_J7_copyOfRangeByte_39247 (l9 : Launch) (z : Nat → Nat) (D : va_G) (g : Nat → ClassId) (qa : Nat) (m : Nat) (bf : Nat → Int32) (n : Nat) (hmn : n ≤ m) (hn : m ≤ 4002) (hf : sb_Fit bf) (sz : Nat) : Met l9 yJ7_copyOfRangeByte_39247 (WS yJ7_copyOfRangeByte_39247 cJ7_copyOfRangeByte_39247 5 (some (.array .byte))) ({ frames := 1, cells := 1, slots := 4002, locals := 40 }) (va_Pc [.ref qa, .int 0, .int (nI n)] (kPreL z D g [(qa, .inl (g 3, m, .inl bf))] sz)) (va_Qq (fun (r9 : Option Nat) (u9 : Nat × Nat × (Nat → Int32)) => r9 = some u9.1 ∧ u9.2.1 = n ∧ ∀ j, j < n → u9.2.2 j = bf j) (kB D g (va_A [(qa, .inl (g 3, m, .inl bf))] sz) (fun (u9 : Nat × Nat × (Nat → Int32)) => [(qa, .inl (g 3, m, .inl bf)), (u9.1, .inl (g 3, u9.2.1, .inl u9.2.2))])) (va_A [(qa, .inl (g 3, m, .inl bf))] sz)) 1 4002 (va_A [(qa, .inl (g 3, m, .inl bf))] sz) := by
  refine Met.ofW (cc := cJ7_copyOfRangeByte_39247) (maxL := 5) (ret := (some (.array .byte))) (by decide) rfl ?_
  intro p9 e9 s9 m9 args9 below9 meth9 c9 s₁ B hml hv
  obtain ⟨rfl, hsz, hP, hK, hD0, hZ, hY⟩ := hv
  have hx := B.exec
  have hb := B.bytes
  have hr := B.returns
  have hts := ws_sub (atoms_spec (ws := WS yJ7_copyOfRangeByte_39247 cJ7_copyOfRangeByte_39247 5 (some (.array .byte))) B.pre)
  have hown : s9.vm.findClass RJ7 = some m9.cls := findClass_of_methodNamed B.named
  have hlocks := B.notSynchronized
  subst hsz
  have hD := hD0.self (sz := s9.heap.size)
  generalize hAe : va_A [(qa, .inl (g 3, m, .inl bf))] s9.heap.size = A at hD hZ hY ⊢
  have hA : ∀ q : Nat, s9.heap.size ≤ q → A q := fun q h => by rw [← hAe]; exact Or.inr h
  have hS : va_S A s9.heap s9.heap [] := va_S.rf
  have hP : va_P D CLS [(qa, .inl (g 3, m, .inl bf))] s9.heap := hP
  have hl := lv_entry ([.ref qa, .int 0, .int (nI n)]) (n := 5) (Nat.le_of_ble_eq_true rfl)
  rw [lg_entry_eq]
  generalize (lg_sl ([.ref qa, .int 0, .int (nI n)]) ++ List.replicate (5 - (lg_sl ([.ref qa, .int 0, .int (nI n)])).length) Slot.unset).toArray = ls at hl ⊢
  have hl : lv_has ls 5 [(0, .ref qa), (1, .int 0), (2, .int (nI n))] := hl
  change W p9 l9 e9 ({ frames := 1, cells := 1, slots := 4002, locals := 40 } : Room) s9 m9 _ below9 meth9 c9 _ _ _ _ _ _
  refine lv_iload_n hx hb dJ7_copyOfRangeByte_39247_0 rfl (lv_at hl 1 rfl) ?_
  refine lv_iload_n hx hb dJ7_copyOfRangeByte_39247_1 rfl (lv_at hl 2 rfl) ?_
  refine k_v hA hP hD hS [(qa, .inl (g 3, m, .inl bf))] (va_runS (As := [.int 0, .int (nI n)]) (rest := []) ⟨hx, hb, hml, hown, hts⟩ (c_J7_checkLength_df160 l9 z D g n (by first | assumption | decide | omega) (Array.size s9.heap)) (va_cwS 2 hts gs_J7_343 rfl rfl rfl (by decide +kernel) ⟨Nat.le_of_ble_eq_true rfl, Nat.le_of_ble_eq_true rfl⟩) ⟨kBlind, kPre.pc hK hZ hA hP hD hS [] rfl (by decide +kernel)⟩ rfl rfl hl.1 rfl (lv_room (Nat.le_of_ble_eq_true rfl)) dJ7_copyOfRangeByte_39247_2 ⟨Nat.le_of_ble_eq_true rfl, Nat.le_of_ble_eq_true rfl⟩) [] [0] rfl rfl rfl rfl (fun u_1 H locs hw_2 hP7 hD7 hS7 => ?_)
  clear hP hD hS
  have hP := hP7
  have hD := hD7
  have hS := hS7
  clear hP7 hD7 hS7
  replace hP : va_P D CLS [(qa, .inl (g 3, m, .inl bf))] H := hP
  replace hD : va_D A [(qa, .inl (g 3, m, .inl bf))] := hD
  refine lv_iload_n hx hb dJ7_copyOfRangeByte_39247_5 rfl (lv_at hl 2 rfl) ?_
  refine lv_iload_n hx hb dJ7_copyOfRangeByte_39247_6 rfl (lv_at hl 1 rfl) ?_
  refine lv_isub hx hb dJ7_copyOfRangeByte_39247_7 ?_
  refine k_topi (show ((nI n) - 0) = (nI n) from (show nI n - 0 = nI n from Int32.sub_zero _)) ?_
  refine lv_istore_n (lv' := [(3, .int (nI n)), (0, .ref qa), (1, .int 0), (2, .int (nI n))]) hx hb dJ7_copyOfRangeByte_39247_8 rfl hl (by decide) rfl (fun ls hl => ?_)
  refine lv_iload_n hx hb dJ7_copyOfRangeByte_39247_9 rfl (lv_at hl 0 rfl) ?_
  refine va_newa (atype := .byte) (ty := .byte) (N' := n) (a0 := (n, .inl (fun _ => 0))) hx hb (hts _ w_505) rfl hK hP hD hS hA (fun _ => rfl) (nI_pos (by omega)) (nI_clamp (by omega)) (by show n * 1 ≤ _; omega) (Nat.le_of_ble_eq_true rfl) (by show 0 + n ≤ 4002; omega) dJ7_copyOfRangeByte_39247_10 (fun q_2 cA H hK9 hP hD hS => ?_)
  obtain rfl := k_clsB hK hK9
  replace hP : va_P D CLS [(qa, .inl (g 3, m, .inl bf)), (q_2, .inl (g 3, n, .inl (fun _ => 0)))] H := hP
  replace hD : va_D A [(qa, .inl (g 3, m, .inl bf)), (q_2, .inl (g 3, n, .inl (fun _ => 0)))] := hD
  refine lv_astore (lv' := [(4, .ref q_2), (3, .int (nI n)), (0, .ref qa), (1, .int 0), (2, .int (nI n))]) hx hb dJ7_copyOfRangeByte_39247_12 hl (by decide) rfl (fun ls hl => ?_)
  refine lv_aload_n hx hb dJ7_copyOfRangeByte_39247_14 rfl (lv_at hl 2 rfl) ?_
  refine lv_iload_n hx hb dJ7_copyOfRangeByte_39247_15 rfl (lv_at hl 3 rfl) ?_
  refine lv_aload hx hb dJ7_copyOfRangeByte_39247_16 (lv_at hl 0 rfl) ?_
  refine lv_iconst (v := 0) hx hb dJ7_copyOfRangeByte_39247_18 (by decide) ?_
  refine lv_aload_n hx hb dJ7_copyOfRangeByte_39247_19 rfl (lv_at hl 2 rfl) ?_
  refine va_alen (v := nI m) hx hb hK hP 0 3 rfl rfl rfl dJ7_copyOfRangeByte_39247_20 ?_
  refine lv_iload_n hx hb dJ7_copyOfRangeByte_39247_21 rfl (lv_at hl 3 rfl) ?_
  refine lv_isub hx hb dJ7_copyOfRangeByte_39247_22 ?_
  refine k_topi (show ((nI m) - 0) = (nI m) from (show nI m - 0 = nI m from Int32.sub_zero _)) ?_
  refine lv_iload_n hx hb dJ7_copyOfRangeByte_39247_23 rfl (lv_at hl 1 rfl) ?_
  refine va_mmin hx hb (by rw [hml]; exact hl.1.symm) hown (hts _ w_1285) (hts _ w_596) (hts _ w_54) (hts _ w_597) (Nat.le_of_ble_eq_true rfl) (Nat.le_of_ble_eq_true rfl) (Nat.le_of_ble_eq_true rfl) (by show 0 + n ≤ 4002; omega) dJ7_copyOfRangeByte_39247_24 ?_
  refine k_topi (show (if (nI n) < (nI m) then (nI n) else (nI m)) = (nI n) from ((mn_nI (by omega) (by omega)).trans (by rw [show min m n = n by omega]))) ?_
  refine va_copyi hx hb (by rw [hml]; exact hl.1.symm) hown (hts _ w_1286) (hts _ w_728) (hts _ w_727) (hts _ w_56) hK hP hD hS 0 1 3 3 rfl rfl rfl rfl rfl (by decide) (by decide) (nI_pos (by omega)) (by rw [(show (0 : Int32).toNatClampNeg = 0 from sb_cl0), (show (nI n).toNatClampNeg = n from nI_clamp (by omega))]; omega) (by rw [(show (0 : Int32).toNatClampNeg = 0 from sb_cl0), (show (nI n).toNatClampNeg = n from nI_clamp (by omega))]; omega) (fun i _ => hf _) (Nat.le_of_ble_eq_true rfl) (Nat.le_of_ble_eq_true rfl) dJ7_copyOfRangeByte_39247_27 (fun H locs hP7 hD7 hS7 => ?_)
  clear hP hD hS
  have hP := hP7
  have hD := hD7
  have hS := hS7
  clear hP7 hD7 hS7
  rw [(show (0 : Int32).toNatClampNeg = 0 from sb_cl0), (show (nI n).toNatClampNeg = n from nI_clamp (by omega))] at hP hD
  replace hP : va_P D CLS [(qa, .inl (g 3, m, .inl bf)), (q_2, .inl (g 3, n, .inl (va_cpy bf (fun _ => 0) 0 0 n)))] H := hP
  replace hD : va_D A [(qa, .inl (g 3, m, .inl bf)), (q_2, .inl (g 3, n, .inl (va_cpy bf (fun _ => 0) 0 0 n)))] := hD
  refine lv_aload hx hb dJ7_copyOfRangeByte_39247_30 (lv_at hl 0 rfl) ?_
  have hr9 : q_2 = (some q_2) := by rfl
  have hP9 : va_P D CLS [(qa, .inl (g 3, m, .inl bf)), (q_2, .inl (g 3, n, .inl (va_cpy bf (fun _ => 0) 0 0 n)))] H := by exact kSub hP [0, 1] rfl
  have hD9 : va_D A [(qa, .inl (g 3, m, .inl bf)), (q_2, .inl (g 3, n, .inl (va_cpy bf (fun _ => 0) 0 0 n)))] := by exact hD.sub [0, 1] (by decide +kernel) rfl
  refine W.widen (k := 1) (n := 4002) (by omega) (by omega) ?_
  exact W.aret (v := va_rf (some q_2)) hx hb hr (Or.inr ⟨_, rfl⟩) (va_rf_or _) (fun t9 ht9 hW9 => ⟨⟨some q_2, (q_2, n, va_cpy bf (fun _ => 0) 0 0 n), rfl, ⟨hr9, (by dsimp only; exact ⟨rfl, fun j hj => by rw [pk_cpy_in (Nat.zero_le _) (by omega), show 0 + (j - 0) = j by omega]⟩)⟩, by rw [ht9]; exact hP9, va_K.moved hW9.alike hK, hD9⟩, hS.F ht9⟩) hS.2.2 dJ7_copyOfRangeByte_39247_32
theorem dJ7_copyOfRange_39247_0 : decode cJ7_copyOfRange_39247 0 = .ok (.iload_n 1, 1) := by decide +kernel
theorem dJ7_copyOfRange_39247_1 : decode cJ7_copyOfRange_39247 1 = .ok (.ifCond .ne 9, 3) := by decide +kernel
theorem dJ7_copyOfRange_39247_4 : decode cJ7_copyOfRange_39247 4 = .ok (.iload_n 2, 1) := by decide +kernel
theorem dJ7_copyOfRange_39247_5 : decode cJ7_copyOfRange_39247 5 = .ok (.aload_n 0, 1) := by decide +kernel
theorem dJ7_copyOfRange_39247_6 : decode cJ7_copyOfRange_39247 6 = .ok (.arraylength, 1) := by decide +kernel
theorem dJ7_copyOfRange_39247_7 : decode cJ7_copyOfRange_39247 7 = .ok (.if_icmp .eq 10, 3) := by decide +kernel
theorem dJ7_copyOfRange_39247_10 : decode cJ7_copyOfRange_39247 10 = .ok (.aload_n 0, 1) := by decide +kernel
theorem dJ7_copyOfRange_39247_11 : decode cJ7_copyOfRange_39247 11 = .ok (.iload_n 1, 1) := by decide +kernel
theorem dJ7_copyOfRange_39247_12 : decode cJ7_copyOfRange_39247 12 = .ok (.iload_n 2, 1) := by decide +kernel
theorem dJ7_copyOfRange_39247_13 : decode cJ7_copyOfRange_39247 13 = .ok (.invokestatic 339, 3) := by decide +kernel
theorem dJ7_copyOfRange_39247_16 : decode cJ7_copyOfRange_39247 16 = .ok (.areturn, 1) := by decide +kernel
theorem dJ7_copyOfRange_39247_17 : decode cJ7_copyOfRange_39247 17 = .ok (.aload_n 0, 1) := by decide +kernel
theorem dJ7_copyOfRange_39247_18 : decode cJ7_copyOfRange_39247 18 = .ok (.invokevirtual 310, 3) := by decide +kernel
theorem dJ7_copyOfRange_39247_21 : decode cJ7_copyOfRange_39247 21 = .ok (.checkcast 311, 3) := by decide +kernel
theorem dJ7_copyOfRange_39247_24 : decode cJ7_copyOfRange_39247 24 = .ok (.areturn, 1) := by decide +kernel
set_option maxHeartbeats 4000000 in
set_option maxRecDepth 100000 in
/-- Arrays.copyOfRange, from 0 -/
theorem c_J7_copyOfRange_39247 (l9 : Launch) (z : Nat → Nat) (D : va_G) (g : Nat → ClassId) (qa : Nat) (m : Nat) (bf : Nat → Int32) (n : Nat) (hmn : n ≤ m) (hn : m ≤ 4002) (hf : sb_Fit bf) (sz : Nat) : Met l9 yJ7_copyOfRange_39247 (WS yJ7_copyOfRange_39247 cJ7_copyOfRange_39247 3 (some (.array .byte))) ({ frames := 2, cells := 1, slots := 4002, locals := 64 }) (va_Pc [.ref qa, .int 0, .int (nI n)] (kPreL z D g [(qa, .inl (g 3, m, .inl bf))] sz)) (va_Qq (fun (r9 : Option Nat) (u9 : Nat × Nat × (Nat → Int32)) => r9 = some u9.1 ∧ u9.2.1 = n ∧ ∀ j, j < n → u9.2.2 j = bf j) (kB D g (va_A [(qa, .inl (g 3, m, .inl bf))] sz) (fun (u9 : Nat × Nat × (Nat → Int32)) => [(qa, .inl (g 3, m, .inl bf)), (u9.1, .inl (g 3, u9.2.1, .inl u9.2.2))])) (va_A [(qa, .inl (g 3, m, .inl bf))] sz)) 1 4002 (va_A [(qa, .inl (g 3, m, .inl bf))] sz) := by
  refine Met.ofW (cc := cJ7_copyOfRange_39247) (maxL := 3) (ret := (some (.array .byte))) (by decide) rfl ?_
  intro p9 e9 s9 m9 args9 below9 meth9 c9 s₁ B hml hv
  obtain ⟨rfl, hsz, hP, hK, hD0, hZ, hY⟩ := hv
  have hx := B.exec
  have hb := B.bytes
  have hr := B.returns
  have hts := ws_sub (atoms_spec (ws := WS yJ7_copyOfRange_39247 cJ7_copyOfRange_39247 3 (some (.array .byte))) B.pre)
  have hown : s9.vm.findClass RJ7 = some m9.cls := findClass_of_methodNamed B.named
  have hlocks := B.notSynchronized
  subst hsz
  have hD := hD0.self (sz := s9.heap.size)
  generalize hAe : va_A [(qa, .inl (g 3, m, .inl bf))] s9.heap.size = A at hD hZ hY ⊢
  have hA : ∀ q : Nat, s9.heap.size ≤ q → A q := fun q h => by rw [← hAe]; exact Or.inr h
  have hS : va_S A s9.heap s9.heap [] := va_S.rf
  have hP : va_P D CLS [(qa, .inl (g 3, m, .inl bf))] s9.heap := hP
  have hl := lv_entry ([.ref qa, .int 0, .int (nI n)]) (n := 3) (Nat.le_of_ble_eq_true rfl)
  rw [lg_entry_eq]
  generalize (lg_sl ([.ref qa, .int 0, .int (nI n)]) ++ List.replicate (3 - (lg_sl ([.ref qa, .int 0, .int (nI n)])).length) Slot.unset).toArray = ls at hl ⊢
  have hl : lv_has ls 3 [(0, .ref qa), (1, .int 0), (2, .int (nI n))] := hl
  change W p9 l9 e9 ({ frames := 2, cells := 1, slots := 4002, locals := 64 } : Room) s9 m9 _ below9 meth9 c9 _ _ _ _ _ _
  refine lv_iload_n hx hb dJ7_copyOfRange_39247_0 rfl (lv_at hl 1 rfl) ?_
  refine lv_if_ne (tgt := 10) hx hb dJ7_copyOfRange_39247_1 (by decide) (fun c_1 => ?_) (fun c_1 => ?_)
  · skip
    exact absurd c_1 (by decide)
  · skip
    refine lv_iload_n hx hb dJ7_copyOfRange_39247_4 rfl (lv_at hl 2 rfl) ?_
    refine lv_aload_n hx hb dJ7_copyOfRange_39247_5 rfl (lv_at hl 0 rfl) ?_
    refine va_alen (v := nI m) hx hb hK hP 0 3 rfl rfl rfl dJ7_copyOfRange_39247_6 ?_
    refine lv_icmp_eq (tgt := 17) hx hb dJ7_copyOfRange_39247_7 (by decide) (fun c_7 => ?_) (fun c_7 => ?_)
    · skip
      have c_7 : n = m := (nI_eq (a := n) (b := m) (by omega) (by omega)).mp c_7
      refine lv_aload_n hx hb dJ7_copyOfRange_39247_17 rfl (lv_at hl 0 rfl) ?_
      refine va_clone (ad := "[B") hx hb (by rw [hml]; exact hl.1.symm) hown (hts _ w_1278) (hts _ w_1279) (hts _ w_1280) (hts _ w_1281) (hts _ w_1282) (hZ.nst _ nw_1283) hK hP hD hS hA 0 3 rfl rfl (va_nm_byte (hK.2 3 _ rfl).2) (bfit hf) (Nat.le_of_ble_eq_true rfl) (Nat.le_of_ble_eq_true rfl) (Nat.le_of_ble_eq_true rfl) (by show 0 + m ≤ 4002; omega) dJ7_copyOfRange_39247_18 (fun q_1 H _ hP7 hD7 hS7 => ?_)
      clear hP hD hS
      have hP := hP7
      have hD := hD7
      have hS := hS7
      clear hP7 hD7 hS7
      replace hP : va_P D CLS [(qa, .inl (g 3, m, .inl bf)), (q_1, .inl (g 3, m, .inl bf))] H := hP
      replace hD : va_D A [(qa, .inl (g 3, m, .inl bf)), (q_1, .inl (g 3, m, .inl bf))] := hD
      refine va_castA hx hb hown (hts _ w_1284) hP 1 rfl (va_nm_byte (hK.2 3 _ rfl).2) dJ7_copyOfRange_39247_21 ?_
      have hr9 : q_1 = (some q_1) := by rfl
      have hP9 : va_P D CLS [(qa, .inl (g 3, m, .inl bf)), (q_1, .inl (g 3, m, .inl bf))] H := by exact kSub hP [0, 1] rfl
      have hD9 : va_D A [(qa, .inl (g 3, m, .inl bf)), (q_1, .inl (g 3, m, .inl bf))] := by exact hD.sub [0, 1] (by decide +kernel) rfl
      refine W.widen (k := 1) (n := 4002) (by omega) (by omega) ?_
      exact W.aret (v := va_rf (some q_1)) hx hb hr (Or.inr ⟨_, rfl⟩) (va_rf_or _) (fun t9 ht9 hW9 => ⟨⟨some q_1, (q_1, m, bf), rfl, ⟨hr9, (by dsimp only; exact ⟨by omega, fun j hj => rfl⟩)⟩, by rw [ht9]; exact hP9, va_K.moved hW9.alike hK, hD9⟩, hS.F ht9⟩) hS.2.2 dJ7_copyOfRange_39247_24
    · skip
      have c_7 : ¬ n = m := fun h => c_7 ((nI_eq (a := n) (b := m) (by omega) (by omega)).mpr h)
      refine lv_aload_n hx hb dJ7_copyOfRange_39247_10 rfl (lv_at hl 0 rfl) ?_
      refine lv_iload_n hx hb dJ7_copyOfRange_39247_11 rfl (lv_at hl 1 rfl) ?_
      refine lv_iload_n hx hb dJ7_copyOfRange_39247_12 rfl (lv_at hl 2 rfl) ?_
      refine k_q hA hP hD hS [] (va_runS (As := [.ref qa, .int 0, .int (nI n)]) (rest := []) ⟨hx, hb, hml, hown, hts⟩ (c_J7_copyOfRangeByte_39247 l9 z D g qa m bf n (by first | assumption | decide | omega) (by first | assumption | decide | omega) (by first | assumption | decide | omega) (Array.size s9.heap)) (va_cwS 3 hts gs_J7_339 rfl rfl rfl (by decide +kernel) ⟨Nat.le_of_ble_eq_true rfl, Nat.le_of_ble_eq_true rfl⟩) ⟨kBlindL, kPreL.pc hY hK hZ hA hP hD hS [0] rfl (by decide +kernel)⟩ rfl rfl hl.1 rfl (lv_room (Nat.le_of_ble_eq_true rfl)) dJ7_copyOfRange_39247_13 ⟨Nat.le_of_ble_eq_true rfl, Nat.le_of_ble_eq_true rfl⟩) [0] [] rfl rfl rfl rfl (fun r_13 u_2 H locs hw_13 hP7 hD7 hS7 => ?_)
      clear hP hD hS
      have hP := hP7
      have hD := hD7
      have hS := hS7
      clear hP7 hD7 hS7
      obtain ⟨qnu_3, m3u_4, b2u_5⟩ := u_2
      try dsimp only at hw_13
      obtain ⟨rfl, hw_13⟩ := hw_13
      replace hP : va_P D CLS [(qa, .inl (g 3, m, .inl bf)), (qnu_3, .inl (g 3, m3u_4, .inl b2u_5))] H := hP
      replace hD : va_D A [(qa, .inl (g 3, m, .inl bf)), (qnu_3, .inl (g 3, m3u_4, .inl b2u_5))] := hD
      have hr9 : qnu_3 = (some qnu_3) := by rfl
      have hP9 : va_P D CLS [(qa, .inl (g 3, m, .inl bf)), (qnu_3, .inl (g 3, m3u_4, .inl b2u_5))] H := by exact kSub hP [0, 1] rfl
      have hD9 : va_D A [(qa, .inl (g 3, m, .inl bf)), (qnu_3, .inl (g 3, m3u_4, .inl b2u_5))] := by exact hD.sub [0, 1] (by decide +kernel) rfl
      refine W.widen (k := 1) (n := 4002) (by omega) (by omega) ?_
      exact W.aret (v := va_rf (some qnu_3)) hx hb hr (Or.inr ⟨_, rfl⟩) (va_rf_or _) (fun t9 ht9 hW9 => ⟨⟨some qnu_3, (qnu_3, m3u_4, b2u_5), rfl, ⟨hr9, (by dsimp only; exact hw_13)⟩, by rw [ht9]; exact hP9, va_K.moved hW9.alike hK, hD9⟩, hS.F ht9⟩) hS.2.2 dJ7_copyOfRange_39247_16
theorem dJ0_init_db425_0 : decode cJ0_init_db425 0 = .ok (.aload_n 0, 1) := by decide +kernel
theorem dJ0_init_db425_1 : decode cJ0_init_db425 1 = .ok (.invokespecial 1, 3) := by decide +kernel
theorem dJ0_init_db425_4 : decode cJ0_init_db425 4 = .ok (.aload_n 1, 1) := by decide +kernel
theorem dJ0_init_db425_5 : decode cJ0_init_db425 5 = .ok (.invokevirtual 552, 3) := by decide +kernel
theorem dJ0_init_db425_8 : decode cJ0_init_db425 8 = .ok (.astore_n 3, 1) := by decide +kernel
theorem dJ0_init_db425_9 : decode cJ0_init_db425 9 = .ok (.aload_n 1, 1) := by decide +kernel
theorem dJ0_init_db425_10 : decode cJ0_init_db425 10 = .ok (.invokevirtual 549, 3) := by decide +kernel
theorem dJ0_init_db425_13 : decode cJ0_init_db425 13 = .ok (.istore 4, 2) := by decide +kernel
theorem dJ0_init_db425_15 : decode cJ0_init_db425 15 = .ok (.aload_n 1, 1) := by decide +kernel
theorem dJ0_init_db425_16 : decode cJ0_init_db425 16 = .ok (.invokevirtual 1047, 3) := by decide +kernel
theorem dJ0_init_db425_19 : decode cJ0_init_db425 19 = .ok (.ifCond .eq 22, 3) := by decide +kernel
theorem dJ0_init_db425_22 : decode cJ0_init_db425 22 = .ok (.aload_n 0, 1) := by decide +kernel
theorem dJ0_init_db425_23 : decode cJ0_init_db425 23 = .ok (.iconst 0, 1) := by decide +kernel
theorem dJ0_init_db425_24 : decode cJ0_init_db425 24 = .ok (.putfield 15, 3) := by decide +kernel
theorem dJ0_init_db425_27 : decode cJ0_init_db425 27 = .ok (.aload_n 0, 1) := by decide +kernel
theorem dJ0_init_db425_28 : decode cJ0_init_db425 28 = .ok (.aload_n 3, 1) := by decide +kernel
theorem dJ0_init_db425_29 : decode cJ0_init_db425 29 = .ok (.iconst 0, 1) := by decide +kernel
theorem dJ0_init_db425_30 : decode cJ0_init_db425 30 = .ok (.iload 4, 2) := by decide +kernel
theorem dJ0_init_db425_32 : decode cJ0_init_db425 32 = .ok (.invokestatic 54, 3) := by decide +kernel
theorem dJ0_init_db425_35 : decode cJ0_init_db425 35 = .ok (.putfield 9, 3) := by decide +kernel
theorem dJ0_init_db425_38 : decode cJ0_init_db425 38 = .ok (.goto 59, 3) := by decide +kernel
theorem dJ0_init_db425_97 : decode cJ0_init_db425 97 = .ok (.return_, 1) := by decide +kernel
set_option maxHeartbeats 4000000 in
set_option maxRecDepth 100000 in
/-- String(AbstractStringBuilder, Void) -/
theorem c_J0_init_db425 (l9 : Launch) (z : Nat → Nat) (D : va_G) (g : Nat → ClassId) (ss : Nat) (sb : Nat) (qv : Nat) (ml : Int32) (L : List Nat) (m : Nat) (bf : Nat → Int32) (hL : SbT L m bf) (sz : Nat) : Met l9 yJ0_init_db425 (WS yJ0_init_db425 cJ0_init_db425 5 none) ({ frames := 3, cells := 1, slots := 4002, locals := 86 }) (va_Pc [.ref ss, .ref sb, .null] (kPreL z D g [(ss, .inr (11, [.null, .int 0, .int 0, .int 0])), (sb, .inr (10, [.ref qv, .int 0, .int ml, .int (nI L.length)])), (qv, .inl (g 3, m, .inl bf))] sz)) (va_Qv (fun (u9 : Nat × Nat × (Nat → Int32)) => u9.2.1 = L.length ∧ ∀ j, j < L.length → u9.2.2 j = nI (L.getD j 0)) (kB D g (va_A [(ss, .inr (11, [.null, .int 0, .int 0, .int 0])), (sb, .inr (10, [.ref qv, .int 0, .int ml, .int (nI L.length)])), (qv, .inl (g 3, m, .inl bf))] sz) (fun (u9 : Nat × Nat × (Nat → Int32)) => [(ss, .inr (11, [.ref u9.1, .int 0, .int 0, .int 0])), (u9.1, .inl (g 3, u9.2.1, .inl u9.2.2)), (sb, .inr (10, [.ref qv, .int 0, .int ml, .int (nI L.length)])), (qv, .inl (g 3, m, .inl bf))])) (va_A [(ss, .inr (11, [.null, .int 0, .int 0, .int 0])), (sb, .inr (10, [.ref qv, .int 0, .int ml, .int (nI L.length)])), (qv, .inl (g 3, m, .inl bf))] sz)) 1 4002 (va_A [(ss, .inr (11, [.null, .int 0, .int 0, .int 0])), (sb, .inr (10, [.ref qv, .int 0, .int ml, .int (nI L.length)])), (qv, .inl (g 3, m, .inl bf))] sz) := by
  refine Met.ofW (cc := cJ0_init_db425) (maxL := 5) (ret := none) (by decide) rfl ?_
  intro p9 e9 s9 m9 args9 below9 meth9 c9 s₁ B hml hv
  obtain ⟨rfl, hsz, hP, hK, hD0, hZ, hY⟩ := hv
  have hx := B.exec
  have hb := B.bytes
  have hr := B.returns
  have hts := ws_sub (atoms_spec (ws := WS yJ0_init_db425 cJ0_init_db425 5 none) B.pre)
  have hown : s9.vm.findClass RJ0 = some m9.cls := findClass_of_methodNamed B.named
  have hlocks := B.notSynchronized
  have hin : meth9.name = "<init>" := (name_of_methodNamed B.named B.method).1
  subst hsz
  have hD := hD0.self (sz := s9.heap.size)
  generalize hAe : va_A [(ss, .inr (11, [.null, .int 0, .int 0, .int 0])), (sb, .inr (10, [.ref qv, .int 0, .int ml, .int (nI L.length)])), (qv, .inl (g 3, m, .inl bf))] s9.heap.size = A at hD hZ hY ⊢
  have hA : ∀ q : Nat, s9.heap.size ≤ q → A q := fun q h => by rw [← hAe]; exact Or.inr h
  have hS : va_S A s9.heap s9.heap [] := va_S.rf
  have hP : va_P D CLS [(ss, .inr (11, [.null, .int 0, .int 0, .int 0])), (sb, .inr (10, [.ref qv, .int 0, .int ml, .int (nI L.length)])), (qv, .inl (g 3, m, .inl bf))] s9.heap := hP
  have hl := lv_entry ([.ref ss, .ref sb, .null]) (n := 5) (Nat.le_of_ble_eq_true rfl)
  rw [lg_entry_eq]
  generalize (lg_sl ([.ref ss, .ref sb, .null]) ++ List.replicate (5 - (lg_sl ([.ref ss, .ref sb, .null])).length) Slot.unset).toArray = ls at hl ⊢
  have hl : lv_has ls 5 [(0, .ref ss), (1, .ref sb), (2, .null)] := hl
  change W p9 l9 e9 ({ frames := 3, cells := 1, slots := 4002, locals := 86 } : Room) s9 m9 _ below9 meth9 c9 _ _ _ _ _ _
  have hA8 := hL.1
  have hA9 := hL.2.1
  refine lv_aload_n hx hb dJ0_init_db425_0 rfl (lv_at hl 0 rfl) ?_
  refine W.objInit hx hb hown (hts _ w_1416) (hts _ w_84) (hts _ w_85) rfl (by rw [hml]; exact hl.1) rfl dJ0_init_db425_1 (Nat.le_of_ble_eq_true rfl) (Nat.le_of_ble_eq_true rfl) ?_
  refine W.eq (g2 := F0 m9 4 ls []) rfl ?_
  refine lv_aload_n hx hb dJ0_init_db425_4 rfl (lv_at hl 1 rfl) ?_
  refine k_q hA hP hD hS [(ss, .inr (11, [.null, .int 0, .int 0, .int 0])), (qv, .inl (g 3, m, .inl bf))] (va_runU (owner := RJ5) (As := []) (rest := []) ⟨hx, hb, hml, hown, hts⟩ (c_J5_getValue_6d5f1 l9 z D g sb qv ml (nI L.length)  (Array.size s9.heap)) (va_cwU 0 hts gsb_J0_552 rfl rfl rfl rfl (by decide +kernel) ⟨Nat.le_of_ble_eq_true rfl, Nat.le_of_ble_eq_true rfl⟩) ⟨kBlindL, va_recv hK hP (ci := 10) (q0 := 1) rfl rfl, kPreL.pc hY hK hZ hA hP hD hS [1] rfl (by decide +kernel)⟩ rfl rfl hl.1 rfl (lv_room (Nat.le_of_ble_eq_true rfl)) dJ0_init_db425_5 ⟨Nat.le_of_ble_eq_true rfl, Nat.le_of_ble_eq_true rfl⟩) [1] [0, 2] rfl rfl rfl rfl (fun r_5 u_1 H locs hw_5 hP7 hD7 hS7 => ?_)
  clear hP hD hS
  have hP := hP7
  have hD := hD7
  have hS := hS7
  clear hP7 hD7 hS7
  obtain rfl := hw_5
  replace hP : va_P D CLS [(ss, .inr (11, [.null, .int 0, .int 0, .int 0])), (qv, .inl (g 3, m, .inl bf)), (sb, .inr (10, [.ref qv, .int 0, .int ml, .int (nI L.length)]))] H := hP
  replace hD : va_D A [(ss, .inr (11, [.null, .int 0, .int 0, .int 0])), (qv, .inl (g 3, m, .inl bf)), (sb, .inr (10, [.ref qv, .int 0, .int ml, .int (nI L.length)]))] := hD
  refine lv_astore_n (lv' := [(3, .ref qv), (0, .ref ss), (1, .ref sb), (2, .null)]) hx hb dJ0_init_db425_8 rfl hl (by decide) rfl (fun ls hl => ?_)
  refine lv_aload_n hx hb dJ0_init_db425_9 rfl (lv_at hl 2 rfl) ?_
  refine k_i hA hP hD hS [(ss, .inr (11, [.null, .int 0, .int 0, .int 0])), (qv, .inl (g 3, m, .inl bf))] (va_runU (owner := RJ5) (As := []) (rest := []) ⟨hx, hb, hml, hown, hts⟩ (c_J4_length_8abf5 l9 z D g sb qv ml (nI L.length)  (Array.size H)) (va_cwO 0 hts gso_J0_549 rfl rfl rfl w_1429 (by decide +kernel) ⟨Nat.le_of_ble_eq_true rfl, Nat.le_of_ble_eq_true rfl⟩) ⟨kBlindL, va_recv hK hP (ci := 10) (q0 := 2) rfl rfl, kPreL.pc hY hK hZ hA hP hD hS [2] rfl (by decide +kernel)⟩ rfl rfl hl.1 rfl (lv_room (Nat.le_of_ble_eq_true rfl)) dJ0_init_db425_10 ⟨Nat.le_of_ble_eq_true rfl, Nat.le_of_ble_eq_true rfl⟩) [2] [0, 1] rfl rfl rfl rfl (fun r_10 u_2 H locs hw_10 hP7 hD7 hS7 => ?_)
  clear hP hD hS
  have hP := hP7
  have hD := hD7
  have hS := hS7
  clear hP7 hD7 hS7
  obtain rfl := hw_10
  replace hP : va_P D CLS [(ss, .inr (11, [.null, .int 0, .int 0, .int 0])), (qv, .inl (g 3, m, .inl bf)), (sb, .inr (10, [.ref qv, .int 0, .int ml, .int (nI L.length)]))] H := hP
  replace hD : va_D A [(ss, .inr (11, [.null, .int 0, .int 0, .int 0])), (qv, .inl (g 3, m, .inl bf)), (sb, .inr (10, [.ref qv, .int 0, .int ml, .int (nI L.length)]))] := hD
  refine lv_istore (lv' := [(4, .int (nI L.length)), (3, .ref qv), (0, .ref ss), (1, .ref sb), (2, .null)]) hx hb dJ0_init_db425_13 hl (by decide) rfl (fun ls hl => ?_)
  refine lv_aload_n hx hb dJ0_init_db425_15 rfl (lv_at hl 3 rfl) ?_
  refine k_i hA hP hD hS [(ss, .inr (11, [.null, .int 0, .int 0, .int 0])), (qv, .inl (g 3, m, .inl bf))] (va_runU (owner := RJ5) (As := []) (rest := []) ⟨hx, hb, hml, hown, hts⟩ (c_J5_isLatin1_aae02 l9 z D g sb qv ml (nI L.length)  (Array.size H)) (va_cwU 0 hts gsb_J0_1047 rfl rfl rfl rfl (by decide +kernel) ⟨Nat.le_of_ble_eq_true rfl, Nat.le_of_ble_eq_true rfl⟩) ⟨kBlindL, va_recv hK hP (ci := 10) (q0 := 2) rfl rfl, kPreL.pc hY hK hZ hA hP hD hS [2] rfl (by decide +kernel)⟩ rfl rfl hl.1 rfl (lv_room (Nat.le_of_ble_eq_true rfl)) dJ0_init_db425_16 ⟨Nat.le_of_ble_eq_true rfl, Nat.le_of_ble_eq_true rfl⟩) [2] [0, 1] rfl rfl rfl rfl (fun r_16 u_3 H locs hw_16 hP7 hD7 hS7 => ?_)
  clear hP hD hS
  have hP := hP7
  have hD := hD7
  have hS := hS7
  clear hP7 hD7 hS7
  obtain rfl := hw_16.symm
  replace hP : va_P D CLS [(ss, .inr (11, [.null, .int 0, .int 0, .int 0])), (qv, .inl (g 3, m, .inl bf)), (sb, .inr (10, [.ref qv, .int 0, .int ml, .int (nI L.length)]))] H := hP
  replace hD : va_D A [(ss, .inr (11, [.null, .int 0, .int 0, .int 0])), (qv, .inl (g 3, m, .inl bf)), (sb, .inr (10, [.ref qv, .int 0, .int ml, .int (nI L.length)]))] := hD
  refine lv_if_eq (tgt := 41) hx hb dJ0_init_db425_19 (by decide) (fun c_19 => ?_) (fun c_19 => ?_)
  · skip
    exact absurd c_19 (by decide)
  · skip
    refine lv_aload_n hx hb dJ0_init_db425_22 rfl (lv_at hl 2 rfl) ?_
    refine lv_iconst (v := 0) hx hb dJ0_init_db425_23 (by decide) ?_
    refine va_putF (D := D) (ci := 11) (v := .int 0) (ty := .byte) (C := RB0) (T := TB0) (N := 4) hx hb hts in_B0 tyB0 tyB0_ok nmB0 hown hK hP hD hS 0 rfl rfl 1 (by decide) (hts _ w_1451) (fun _ h9 => h9) rfl hin rfl (by decide +kernel) rfl rfl (Nat.le_of_ble_eq_true rfl) dJ0_init_db425_24 (fun H locs hP7 hD7 hS7 => ?_)
    clear hP hD hS
    have hP := hP7
    have hD := hD7
    have hS := hS7
    clear hP7 hD7 hS7
    replace hP : va_P D CLS [(ss, .inr (11, [.null, .int 0, .int 0, .int 0])), (qv, .inl (g 3, m, .inl bf)), (sb, .inr (10, [.ref qv, .int 0, .int ml, .int (nI L.length)]))] H := hP
    replace hD : va_D A [(ss, .inr (11, [.null, .int 0, .int 0, .int 0])), (qv, .inl (g 3, m, .inl bf)), (sb, .inr (10, [.ref qv, .int 0, .int ml, .int (nI L.length)]))] := hD
    refine lv_aload_n hx hb dJ0_init_db425_27 rfl (lv_at hl 2 rfl) ?_
    refine lv_aload_n hx hb dJ0_init_db425_28 rfl (lv_at hl 1 rfl) ?_
    refine lv_iconst (v := 0) hx hb dJ0_init_db425_29 (by decide) ?_
    refine lv_iload hx hb dJ0_init_db425_30 (lv_at hl 0 rfl) ?_
    refine k_q hA hP hD hS [(ss, .inr (11, [.null, .int 0, .int 0, .int 0])), (sb, .inr (10, [.ref qv, .int 0, .int ml, .int (nI L.length)]))] (va_runS (As := [.ref qv, .int 0, .int (nI L.length)]) (rest := [.ref ss]) ⟨hx, hb, hml, hown, hts⟩ (c_J7_copyOfRange_39247 l9 z D g qv m bf L.length hA8 hA9 hL.2.2.2 (Array.size H)) (va_cwS 3 hts gs_J0_54 rfl rfl rfl (by decide +kernel) ⟨Nat.le_of_ble_eq_true rfl, Nat.le_of_ble_eq_true rfl⟩) ⟨kBlindL, kPreL.pc hY hK hZ hA hP hD hS [1] rfl (by decide +kernel)⟩ rfl rfl hl.1 rfl (lv_room (Nat.le_of_ble_eq_true rfl)) dJ0_init_db425_32 ⟨Nat.le_of_ble_eq_true rfl, Nat.le_of_ble_eq_true rfl⟩) [1] [0, 2] rfl rfl rfl rfl (fun r_32 u_4 H locs hw_32 hP7 hD7 hS7 => ?_)
    clear hP hD hS
    have hP := hP7
    have hD := hD7
    have hS := hS7
    clear hP7 hD7 hS7
    obtain ⟨qnu_5, m3u_6, b2u_7⟩ := u_4
    try dsimp only at hw_32
    obtain ⟨rfl, hw_32⟩ := hw_32
    replace hP : va_P D CLS [(ss, .inr (11, [.null, .int 0, .int 0, .int 0])), (sb, .inr (10, [.ref qv, .int 0, .int ml, .int (nI L.length)])), (qv, .inl (g 3, m, .inl bf)), (qnu_5, .inl (g 3, m3u_6, .inl b2u_7))] H := hP
    replace hD : va_D A [(ss, .inr (11, [.null, .int 0, .int 0, .int 0])), (sb, .inr (10, [.ref qv, .int 0, .int ml, .int (nI L.length)])), (qv, .inl (g 3, m, .inl bf)), (qnu_5, .inl (g 3, m3u_6, .inl b2u_7))] := hD
    refine va_putF (D := D) (ci := 11) (v := .ref qnu_5) (ty := .array .byte) (C := RB0) (T := TB0) (N := 4) hx hb hts in_B0 tyB0 tyB0_ok nmB0 hown hK hP hD hS 0 rfl rfl 0 (by decide) (hts _ w_1450) (fun _ h9 => h9) rfl hin rfl (by decide +kernel) rfl rfl (Nat.le_of_ble_eq_true rfl) dJ0_init_db425_35 (fun H locs hP7 hD7 hS7 => ?_)
    clear hP hD hS
    have hP := hP7
    have hD := hD7
    have hS := hS7
    clear hP7 hD7 hS7
    replace hP : va_P D CLS [(ss, .inr (11, [.ref qnu_5, .int 0, .int 0, .int 0])), (sb, .inr (10, [.ref qv, .int 0, .int ml, .int (nI L.length)])), (qv, .inl (g 3, m, .inl bf)), (qnu_5, .inl (g 3, m3u_6, .inl b2u_7))] H := hP
    replace hD : va_D A [(ss, .inr (11, [.ref qnu_5, .int 0, .int 0, .int 0])), (sb, .inr (10, [.ref qv, .int 0, .int ml, .int (nI L.length)])), (qv, .inl (g 3, m, .inl bf)), (qnu_5, .inl (g 3, m3u_6, .inl b2u_7))] := hD
    refine lv_goto (tgt := 97) hx hb dJ0_init_db425_38 (by decide) ?_
    have hP9 : va_P D CLS [(ss, .inr (11, [.ref qnu_5, .int 0, .int 0, .int 0])), (qnu_5, .inl (g 3, m3u_6, .inl b2u_7)), (sb, .inr (10, [.ref qv, .int 0, .int ml, .int (nI L.length)])), (qv, .inl (g 3, m, .inl bf))] H := by exact kSub hP [0, 3, 1, 2] rfl
    have hD9 : va_D A [(ss, .inr (11, [.ref qnu_5, .int 0, .int 0, .int 0])), (qnu_5, .inl (g 3, m3u_6, .inl b2u_7)), (sb, .inr (10, [.ref qv, .int 0, .int ml, .int (nI L.length)])), (qv, .inl (g 3, m, .inl bf))] := by exact hD.sub [0, 3, 1, 2] (by decide +kernel) rfl
    refine W.widen (k := 1) (n := 4002) (by omega) (by omega) ?_
    exact W.vret hx hb hr (fun t9 ht9 hW9 => ⟨⟨(qnu_5, m3u_6, b2u_7), rfl, (by dsimp only; exact ⟨hw_32.1, fun j hj => (hw_32.2 j hj).trans (hL.2.2.1 j hj)⟩), by rw [ht9]; exact hP9, va_K.moved hW9.alike hK, hD9⟩, hS.F ht9⟩) hS.2.2 dJ0_init_db425_97
theorem dJ0_init_81219_0 : decode cJ0_init_81219 0 = .ok (.aload_n 0, 1) := by decide +kernel
theorem dJ0_init_81219_1 : decode cJ0_init_81219 1 = .ok (.aload_n 1, 1) := by decide +kernel
theorem dJ0_init_81219_2 : decode cJ0_init_81219 2 = .ok (.aconst_null, 1) := by decide +kernel
theorem dJ0_init_81219_3 : decode cJ0_init_81219 3 = .ok (.invokespecial 489, 3) := by decide +kernel
theorem dJ0_init_81219_6 : decode cJ0_init_81219 6 = .ok (.return_, 1) := by decide +kernel
set_option maxHeartbeats 4000000 in
set_option maxRecDepth 100000 in
/-- String(StringBuilder) -/
theorem c_J0_init_81219 (l9 : Launch) (z : Nat → Nat) (D : va_G) (g : Nat → ClassId) (ss : Nat) (sb : Nat) (qv : Nat) (ml : Int32) (L : List Nat) (m : Nat) (bf : Nat → Int32) (hL : SbT L m bf) (sz : Nat) : Met l9 yJ0_init_81219 (WS yJ0_init_81219 cJ0_init_81219 2 none) ({ frames := 4, cells := 1, slots := 4002, locals := 110 }) (va_Pc [.ref ss, .ref sb] (kPreL z D g [(ss, .inr (11, [.null, .int 0, .int 0, .int 0])), (sb, .inr (10, [.ref qv, .int 0, .int ml, .int (nI L.length)])), (qv, .inl (g 3, m, .inl bf))] sz)) (va_Qv (fun (u9 : Nat × Nat × (Nat → Int32)) => u9.2.1 = L.length ∧ ∀ j, j < L.length → u9.2.2 j = nI (L.getD j 0)) (kB D g (va_A [(ss, .inr (11, [.null, .int 0, .int 0, .int 0])), (sb, .inr (10, [.ref qv, .int 0, .int ml, .int (nI L.length)])), (qv, .inl (g 3, m, .inl bf))] sz) (fun (u9 : Nat × Nat × (Nat → Int32)) => [(ss, .inr (11, [.ref u9.1, .int 0, .int 0, .int 0])), (u9.1, .inl (g 3, u9.2.1, .inl u9.2.2)), (sb, .inr (10, [.ref qv, .int 0, .int ml, .int (nI L.length)])), (qv, .inl (g 3, m, .inl bf))])) (va_A [(ss, .inr (11, [.null, .int 0, .int 0, .int 0])), (sb, .inr (10, [.ref qv, .int 0, .int ml, .int (nI L.length)])), (qv, .inl (g 3, m, .inl bf))] sz)) 1 4002 (va_A [(ss, .inr (11, [.null, .int 0, .int 0, .int 0])), (sb, .inr (10, [.ref qv, .int 0, .int ml, .int (nI L.length)])), (qv, .inl (g 3, m, .inl bf))] sz) := by
  refine Met.ofW (cc := cJ0_init_81219) (maxL := 2) (ret := none) (by decide) rfl ?_
  intro p9 e9 s9 m9 args9 below9 meth9 c9 s₁ B hml hv
  obtain ⟨rfl, hsz, hP, hK, hD0, hZ, hY⟩ := hv
  have hx := B.exec
  have hb := B.bytes
  have hr := B.returns
  have hts := ws_sub (atoms_spec (ws := WS yJ0_init_81219 cJ0_init_81219 2 none) B.pre)
  have hown : s9.vm.findClass RJ0 = some m9.cls := findClass_of_methodNamed B.named
  have hlocks := B.notSynchronized
  have hin : meth9.name = "<init>" := (name_of_methodNamed B.named B.method).1
  subst hsz
  have hD := hD0.self (sz := s9.heap.size)
  generalize hAe : va_A [(ss, .inr (11, [.null, .int 0, .int 0, .int 0])), (sb, .inr (10, [.ref qv, .int 0, .int ml, .int (nI L.length)])), (qv, .inl (g 3, m, .inl bf))] s9.heap.size = A at hD hZ hY ⊢
  have hA : ∀ q : Nat, s9.heap.size ≤ q → A q := fun q h => by rw [← hAe]; exact Or.inr h
  have hS : va_S A s9.heap s9.heap [] := va_S.rf
  have hP : va_P D CLS [(ss, .inr (11, [.null, .int 0, .int 0, .int 0])), (sb, .inr (10, [.ref qv, .int 0, .int ml, .int (nI L.length)])), (qv, .inl (g 3, m, .inl bf))] s9.heap := hP
  have hl := lv_entry ([.ref ss, .ref sb]) (n := 2) (Nat.le_of_ble_eq_true rfl)
  rw [lg_entry_eq]
  generalize (lg_sl ([.ref ss, .ref sb]) ++ List.replicate (2 - (lg_sl ([.ref ss, .ref sb])).length) Slot.unset).toArray = ls at hl ⊢
  have hl : lv_has ls 2 [(0, .ref ss), (1, .ref sb)] := hl
  change W p9 l9 e9 ({ frames := 4, cells := 1, slots := 4002, locals := 110 } : Room) s9 m9 _ below9 meth9 c9 _ _ _ _ _ _
  refine lv_aload_n hx hb dJ0_init_81219_0 rfl (lv_at hl 0 rfl) ?_
  refine lv_aload_n hx hb dJ0_init_81219_1 rfl (lv_at hl 1 rfl) ?_
  refine lv_null hx hb dJ0_init_81219_2 ?_
  refine k_v hA hP hD hS [] (va_runI (As := [.ref sb, .null]) (rest := []) ⟨hx, hb, hml, hown, hts⟩ (c_J0_init_db425 l9 z D g ss sb qv ml L m bf (by first | assumption | decide | omega) (Array.size s9.heap)) (cwI 2 hts gw_J0_init_db425 rfl rfl rfl (hts _ w_50) (hts _ w_1413) (hts _ w_1414) rfl (by decide +kernel) ⟨Nat.le_of_ble_eq_true rfl, Nat.le_of_ble_eq_true rfl⟩) ⟨kBlindL, kPreL.pc hY hK hZ hA hP hD hS [0, 1, 2] rfl (by decide +kernel)⟩ rfl rfl hl.1 rfl (lv_room (Nat.le_of_ble_eq_true rfl)) dJ0_init_81219_3 ⟨Nat.le_of_ble_eq_true rfl, Nat.le_of_ble_eq_true rfl⟩) [0, 1, 2] [] rfl rfl rfl rfl (fun u_1 H locs hw_3 hP7 hD7 hS7 => ?_)
  clear hP hD hS
  have hP := hP7
  have hD := hD7
  have hS := hS7
  clear hP7 hD7 hS7
  obtain ⟨qnu_2, m3u_3, b2u_4⟩ := u_1
  try dsimp only at hw_3
  replace hP : va_P D CLS [(ss, .inr (11, [.ref qnu_2, .int 0, .int 0, .int 0])), (qnu_2, .inl (g 3, m3u_3, .inl b2u_4)), (sb, .inr (10, [.ref qv, .int 0, .int ml, .int (nI L.length)])), (qv, .inl (g 3, m, .inl bf))] H := hP
  replace hD : va_D A [(ss, .inr (11, [.ref qnu_2, .int 0, .int 0, .int 0])), (qnu_2, .inl (g 3, m3u_3, .inl b2u_4)), (sb, .inr (10, [.ref qv, .int 0, .int ml, .int (nI L.length)])), (qv, .inl (g 3, m, .inl bf))] := hD
  have hP9 : va_P D CLS [(ss, .inr (11, [.ref qnu_2, .int 0, .int 0, .int 0])), (qnu_2, .inl (g 3, m3u_3, .inl b2u_4)), (sb, .inr (10, [.ref qv, .int 0, .int ml, .int (nI L.length)])), (qv, .inl (g 3, m, .inl bf))] H := by exact kSub hP [0, 1, 2, 3] rfl
  have hD9 : va_D A [(ss, .inr (11, [.ref qnu_2, .int 0, .int 0, .int 0])), (qnu_2, .inl (g 3, m3u_3, .inl b2u_4)), (sb, .inr (10, [.ref qv, .int 0, .int ml, .int (nI L.length)])), (qv, .inl (g 3, m, .inl bf))] := by exact hD.sub [0, 1, 2, 3] (by decide +kernel) rfl
  refine W.widen (k := 1) (n := 4002) (by omega) (by omega) ?_
  exact W.vret hx hb hr (fun t9 ht9 hW9 => ⟨⟨(qnu_2, m3u_3, b2u_4), rfl, (by dsimp only; exact hw_3), by rw [ht9]; exact hP9, va_K.moved hW9.alike hK, hD9⟩, hS.F ht9⟩) hS.2.2 dJ0_init_81219_6
theorem dJ4_toString_0e30d_0 : decode cJ4_toString_0e30d 0 = .ok (.new 18, 3) := by decide +kernel
theorem dJ4_toString_0e30d_3 : decode cJ4_toString_0e30d 3 = .ok (.dup, 1) := by decide +kernel
theorem dJ4_toString_0e30d_4 : decode cJ4_toString_0e30d 4 = .ok (.aload_n 0, 1) := by decide +kernel
theorem dJ4_toString_0e30d_5 : decode cJ4_toString_0e30d 5 = .ok (.invokespecial 137, 3) := by decide +kernel
theorem dJ4_toString_0e30d_8 : decode cJ4_toString_0e30d 8 = .ok (.areturn, 1) := by decide +kernel
set_option maxHeartbeats 4000000 in
set_option maxRecDepth 100000 in
/-- StringBuilder.toString -/
theorem c_J4_toString_0e30d (l9 : Launch) (z : Nat → Nat) (D : va_G) (g : Nat → ClassId) (sb : Nat) (qv : Nat) (ml : Int32) (L : List Nat) (m : Nat) (bf : Nat → Int32) (hL : SbT L m bf) (sz : Nat) : Met l9 yJ4_toString_0e30d (WS yJ4_toString_0e30d cJ4_toString_0e30d 1 (some (.object "java/lang/String"))) ({ frames := 5, cells := 2, slots := 4006, locals := 131 }) (va_Pc [.ref sb] (kPreL z D g [(sb, .inr (10, [.ref qv, .int 0, .int ml, .int (nI L.length)])), (qv, .inl (g 3, m, .inl bf))] sz)) (va_Qq (fun (r9 : Option Nat) (u9 : Nat × Nat × Nat × (Nat → Int32)) => r9 = some u9.1 ∧ u9.2.2.1 = L.length ∧ ∀ j, j < L.length → u9.2.2.2 j = nI (L.getD j 0)) (kB D g (va_A [(sb, .inr (10, [.ref qv, .int 0, .int ml, .int (nI L.length)])), (qv, .inl (g 3, m, .inl bf))] sz) (fun (u9 : Nat × Nat × Nat × (Nat → Int32)) => [(sb, .inr (10, [.ref qv, .int 0, .int ml, .int (nI L.length)])), (qv, .inl (g 3, m, .inl bf)), (u9.1, .inr (11, [.ref u9.2.1, .int 0, .int 0, .int 0])), (u9.2.1, .inl (g 3, u9.2.2.1, .inl u9.2.2.2))])) (va_A [(sb, .inr (10, [.ref qv, .int 0, .int ml, .int (nI L.length)])), (qv, .inl (g 3, m, .inl bf))] sz)) 2 4006 (va_A [(sb, .inr (10, [.ref qv, .int 0, .int ml, .int (nI L.length)])), (qv, .inl (g 3, m, .inl bf))] sz) := by
  refine Met.ofW (cc := cJ4_toString_0e30d) (maxL := 1) (ret := (some (.object "java/lang/String"))) (by decide) rfl ?_
  intro p9 e9 s9 m9 args9 below9 meth9 c9 s₁ B hml hv
  obtain ⟨rfl, hsz, hP, hK, hD0, hZ, hY⟩ := hv
  have hx := B.exec
  have hb := B.bytes
  have hr := B.returns
  have hts := ws_sub (atoms_spec (ws := WS yJ4_toString_0e30d cJ4_toString_0e30d 1 (some (.object "java/lang/String"))) B.pre)
  have hown : s9.vm.findClass RJ4 = some m9.cls := findClass_of_methodNamed B.named
  have hlocks := B.notSynchronized
  subst hsz
  have hD := hD0.self (sz := s9.heap.size)
  generalize hAe : va_A [(sb, .inr (10, [.ref qv, .int 0, .int ml, .int (nI L.length)])), (qv, .inl (g 3, m, .inl bf))] s9.heap.size = A at hD hZ hY ⊢
  have hA : ∀ q : Nat, s9.heap.size ≤ q → A q := fun q h => by rw [← hAe]; exact Or.inr h
  have hS : va_S A s9.heap s9.heap [] := va_S.rf
  have hP : va_P D CLS [(sb, .inr (10, [.ref qv, .int 0, .int ml, .int (nI L.length)])), (qv, .inl (g 3, m, .inl bf))] s9.heap := hP
  have hl := lv_entry ([.ref sb]) (n := 1) (Nat.le_of_ble_eq_true rfl)
  rw [lg_entry_eq]
  generalize (lg_sl ([.ref sb]) ++ List.replicate (1 - (lg_sl ([.ref sb])).length) Slot.unset).toArray = ls at hl ⊢
  have hl : lv_has ls 1 [(0, .ref sb)] := hl
  change W p9 l9 e9 ({ frames := 5, cells := 2, slots := 4006, locals := 131 } : Room) s9 m9 _ below9 meth9 c9 _ _ _ _ _ _
  refine va_new (ci := 11) (fs := [.null, .int 0, .int 0, .int 0]) (C := RB0) (T := TB0) (N := 4) hx hb hts in_B0 tyB0 tyB0_ok hown (hts _ w_1408) (hts _ w_1409) (hts _ w_50) hK hP hD hS hA rfl (by decide +kernel) (Nat.le_of_ble_eq_true rfl) (Nat.le_of_ble_eq_true rfl) dJ4_toString_0e30d_0 (fun q_1 H hP7 hD7 hS7 => ?_)
  clear hP hD hS
  have hP := hP7
  have hD := hD7
  have hS := hS7
  clear hP7 hD7 hS7
  replace hP : va_P D CLS [(sb, .inr (10, [.ref qv, .int 0, .int ml, .int (nI L.length)])), (qv, .inl (g 3, m, .inl bf)), (q_1, .inr (11, [.null, .int 0, .int 0, .int 0]))] H := hP
  replace hD : va_D A [(sb, .inr (10, [.ref qv, .int 0, .int ml, .int (nI L.length)])), (qv, .inl (g 3, m, .inl bf)), (q_1, .inr (11, [.null, .int 0, .int 0, .int 0]))] := hD
  refine lv_dup hx hb dJ4_toString_0e30d_3 rfl ?_
  refine lv_aload_n hx hb dJ4_toString_0e30d_4 rfl (lv_at hl 0 rfl) ?_
  refine k_v hA hP hD hS [] (va_runI (As := [.ref sb]) (rest := [.ref q_1]) ⟨hx, hb, hml, hown, hts⟩ (c_J0_init_81219 l9 z D g q_1 sb qv ml L m bf (by first | assumption | decide | omega) (Array.size H)) (cwI 1 hts gw_J0_init_81219 rfl rfl rfl (hts _ w_50) (hts _ w_1410) (hts _ w_1411) rfl (by decide +kernel) ⟨Nat.le_of_ble_eq_true rfl, Nat.le_of_ble_eq_true rfl⟩) ⟨kBlindL, kPreL.pc hY hK hZ hA hP hD hS [2, 0, 1] rfl (by decide +kernel)⟩ rfl rfl hl.1 rfl (lv_room (Nat.le_of_ble_eq_true rfl)) dJ4_toString_0e30d_5 ⟨Nat.le_of_ble_eq_true rfl, Nat.le_of_ble_eq_true rfl⟩) [2, 0, 1] [] rfl rfl rfl rfl (fun u_2 H locs hw_5 hP7 hD7 hS7 => ?_)
  clear hP hD hS
  have hP := hP7
  have hD := hD7
  have hS := hS7
  clear hP7 hD7 hS7
  obtain ⟨qnu_3, m3u_4, b2u_5⟩ := u_2
  try dsimp only at hw_5
  replace hP : va_P D CLS [(q_1, .inr (11, [.ref qnu_3, .int 0, .int 0, .int 0])), (qnu_3, .inl (g 3, m3u_4, .inl b2u_5)), (sb, .inr (10, [.ref qv, .int 0, .int ml, .int (nI L.length)])), (qv, .inl (g 3, m, .inl bf))] H := hP
  replace hD : va_D A [(q_1, .inr (11, [.ref qnu_3, .int 0, .int 0, .int 0])), (qnu_3, .inl (g 3, m3u_4, .inl b2u_5)), (sb, .inr (10, [.ref qv, .int 0, .int ml, .int (nI L.length)])), (qv, .inl (g 3, m, .inl bf))] := hD
  have hr9 : q_1 = (some q_1) := by rfl
  have hP9 : va_P D CLS [(sb, .inr (10, [.ref qv, .int 0, .int ml, .int (nI L.length)])), (qv, .inl (g 3, m, .inl bf)), (q_1, .inr (11, [.ref qnu_3, .int 0, .int 0, .int 0])), (qnu_3, .inl (g 3, m3u_4, .inl b2u_5))] H := by exact kSub hP [2, 3, 0, 1] rfl
  have hD9 : va_D A [(sb, .inr (10, [.ref qv, .int 0, .int ml, .int (nI L.length)])), (qv, .inl (g 3, m, .inl bf)), (q_1, .inr (11, [.ref qnu_3, .int 0, .int 0, .int 0])), (qnu_3, .inl (g 3, m3u_4, .inl b2u_5))] := by exact hD.sub [2, 3, 0, 1] (by decide +kernel) rfl
  refine W.widen (k := 2) (n := 4006) (by omega) (by omega) ?_
  exact W.aret (v := va_rf (some q_1)) hx hb hr (Or.inl ⟨_, rfl⟩) (va_rf_or _) (fun t9 ht9 hW9 => ⟨⟨some q_1, (q_1, qnu_3, m3u_4, b2u_5), rfl, ⟨hr9, (by dsimp only; exact hw_5)⟩, by rw [ht9]; exact hP9, va_K.moved hW9.alike hK, hD9⟩, hS.F ht9⟩) hS.2.2 dJ4_toString_0e30d_8
