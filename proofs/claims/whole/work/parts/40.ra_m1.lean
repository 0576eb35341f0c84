theorem dX13_thrown_0 : decode cX13_thrown 0 = .ok (.aload_n 0, 1) := by decide +kernel
theorem dX13_thrown_1 : decode cX13_thrown 1 = .ok (.getfield 40, 3) := by decide +kernel
theorem dX13_thrown_4 : decode cX13_thrown 4 = .ok (.ireturn, 1) := by decide +kernel
set_option maxHeartbeats 4000000 in
set_option maxRecDepth 100000 in
/-- Model.thrown -/
theorem c_X13_thrown (l9 : Launch) (z : Nat → Nat) (D : va_G) (g : Nat → ClassId) (mo : Nat) (ma : Nat → Nat) (th : Int32) (tl : Nat) (ea : Int32) (tk : Int32) (dp : Int32) (sh : Nat) (wk : Int32) (sn : Nat) (sz : Nat) : Met l9 yX13_thrown (WS yX13_thrown cX13_thrown 1 (some .int)) ({ frames := 0, cells := 0, slots := 0, locals := 0 }) (va_Pc [.ref mo] (kPre z D g [(mo, .inr (11, [.int th, .ref (ma 1), .int (nI tl), .int ea, .int tk, .int dp, .ref sh, .ref (ma 2), .ref (ma 3), .ref (ma 4), .int wk, .ref sn]))] sz)) (va_Qi (fun (r9 : Int32) (u9 : Unit) => r9 = th) (kB D g (va_A [(mo, .inr (11, [.int th, .ref (ma 1), .int (nI tl), .int ea, .int tk, .int dp, .ref sh, .ref (ma 2), .ref (ma 3), .ref (ma 4), .int wk, .ref sn]))] sz) (fun (u9 : Unit) => [(mo, .inr (11, [.int th, .ref (ma 1), .int (nI tl), .int ea, .int tk, .int dp, .ref sh, .ref (ma 2), .ref (ma 3), .ref (ma 4), .int wk, .ref sn]))])) (va_A [(mo, .inr (11, [.int th, .ref (ma 1), .int (nI tl), .int ea, .int tk, .int dp, .ref sh, .ref (ma 2), .ref (ma 3), .ref (ma 4), .int wk, .ref sn]))] sz)) 0 0 (va_A [(mo, .inr (11, [.int th, .ref (ma 1), .int (nI tl), .int ea, .int tk, .int dp, .ref sh, .ref (ma 2), .ref (ma 3), .ref (ma 4), .int wk, .ref sn]))] sz) := by
  refine Met.ofW (cc := cX13_thrown) (maxL := 1) (ret := (some .int)) (by decide) rfl ?_
  intro p9 e9 s9 m9 args9 below9 meth9 c9 s₁ B hml hv
  obtain ⟨rfl, hsz, hP, hK, hD0, hZ⟩ := hv
  have hx := B.exec
  have hb := B.bytes
  have hr := B.returns
  have hts := ws_sub (atoms_spec (ws := WS yX13_thrown cX13_thrown 1 (some .int)) B.pre)
  have hown : s9.vm.findClass RX13 = some m9.cls := findClass_of_methodNamed B.named
  have hlocks := B.notSynchronized
  subst hsz
  have hD := hD0.self (sz := s9.heap.size)
  generalize hAe : va_A [(mo, .inr (11, [.int th, .ref (ma 1), .int (nI tl), .int ea, .int tk, .int dp, .ref sh, .ref (ma 2), .ref (ma 3), .ref (ma 4), .int wk, .ref sn]))] s9.heap.size = A at hD hZ ⊢
  have hA : ∀ q : Nat, s9.heap.size ≤ q → A q := fun q h => by rw [← hAe]; exact Or.inr h
  have hS : va_S A s9.heap s9.heap [] := va_S.rf
  have hP : va_P D CLS [(mo, .inr (11, [.int th, .ref (ma 1), .int (nI tl), .int ea, .int tk, .int dp, .ref sh, .ref (ma 2), .ref (ma 3), .ref (ma 4), .int wk, .ref sn]))] s9.heap := hP
  have hl := lv_entry ([.ref mo]) (n := 1) (Nat.le_of_ble_eq_true rfl)
  rw [lg_entry_eq]
  generalize (lg_sl ([.ref mo]) ++ List.replicate (1 - (lg_sl ([.ref mo])).length) Slot.unset).toArray = ls at hl ⊢
  have hl : lv_has ls 1 [(0, .ref mo)] := hl
  change W p9 l9 e9 ({ frames := 0, cells := 0, slots := 0, locals := 0 } : Room) s9 m9 _ below9 meth9 c9 _ _ _ _ _ _
  refine lv_aload_n hx hb dX13_thrown_0 rfl (lv_at hl 0 rfl) ?_
  refine va_get (D := D) (ci := 11) (v := .int th) (C := RX13) (T := TX13) (N := 12) hx hb hts in_X13 hown hK hP 0 rfl rfl 0 (by decide) (hts _ w_1391) (fun _ h9 => h9) rfl dX13_thrown_1 ?_
  have hr9 : th = th := by rfl
  have hP9 : va_P D CLS [(mo, .inr (11, [.int th, .ref (ma 1), .int (nI tl), .int ea, .int tk, .int dp, .ref sh, .ref (ma 2), .ref (ma 3), .ref (ma 4), .int wk, .ref sn]))] s9.heap := by exact kSub hP [0] rfl
  have hD9 : va_D A [(mo, .inr (11, [.int th, .ref (ma 1), .int (nI tl), .int ea, .int tk, .int dp, .ref sh, .ref (ma 2), .ref (ma 3), .ref (ma 4), .int wk, .ref sn]))] := by exact hD.sub [0] (by decide +kernel) rfl
  exact W.iret (v := th) hx hb hr (fun t9 ht9 hW9 => ⟨⟨th, (), rfl, hr9, by rw [ht9]; exact hP9, va_K.moved hW9.alike hK, hD9⟩, hS.F ht9⟩) hS.2.2 dX13_thrown_4
theorem dX13_no_0 : decode cX13_no 0 = .ok (.aload_n 0, 1) := by decide +kernel
theorem dX13_no_1 : decode cX13_no 1 = .ok (.iload_n 1, 1) := by decide +kernel
theorem dX13_no_2 : decode cX13_no 2 = .ok (.putfield 40, 3) := by decide +kernel
theorem dX13_no_5 : decode cX13_no 5 = .ok (.iconst 0, 1) := by decide +kernel
theorem dX13_no_6 : decode cX13_no 6 = .ok (.ireturn, 1) := by decide +kernel
set_option maxHeartbeats 4000000 in
set_option maxRecDepth 100000 in
/-- Model.no -/
theorem c_X13_no (l9 : Launch) (z : Nat → Nat) (D : va_G) (g : Nat → ClassId) (mo : Nat) (ma : Nat → Nat) (th : Int32) (tl : Nat) (ea : Int32) (tk : Int32) (dp : Int32) (sh : Nat) (wk : Int32) (sn : Nat) (p0 : Int32) (sz : Nat) : Met l9 yX13_no (WS yX13_no cX13_no 2 (some .int)) ({ frames := 0, cells := 0, slots := 0, locals := 0 }) (va_Pc [.ref mo, .int p0] (kPre z D g [(mo, .inr (11, [.int th, .ref (ma 1), .int (nI tl), .int ea, .int tk, .int dp, .ref sh, .ref (ma 2), .ref (ma 3), .ref (ma 4), .int wk, .ref sn]))] sz)) (va_Qi (fun (r9 : Int32) (u9 : Unit) => r9 = (0 : Int32)) (kB D g (va_A [(mo, .inr (11, [.int th, .ref (ma 1), .int (nI tl), .int ea, .int tk, .int dp, .ref sh, .ref (ma 2), .ref (ma 3), .ref (ma 4), .int wk, .ref sn]))] sz) (fun (u9 : Unit) => [(mo, .inr (11, [.int p0, .ref (ma 1), .int (nI tl), .int ea, .int tk, .int dp, .ref sh, .ref (ma 2), .ref (ma 3), .ref (ma 4), .int wk, .ref sn]))])) (va_A [(mo, .inr (11, [.int th, .ref (ma 1), .int (nI tl), .int ea, .int tk, .int dp, .ref sh, .ref (ma 2), .ref (ma 3), .ref (ma 4), .int wk, .ref sn]))] sz)) 0 0 (va_A [(mo, .inr (11, [.int th, .ref (ma 1), .int (nI tl), .int ea, .int tk, .int dp, .ref sh, .ref (ma 2), .ref (ma 3), .ref (ma 4), .int wk, .ref sn]))] sz) := by
  refine Met.ofW (cc := cX13_no) (maxL := 2) (ret := (some .int)) (by decide) rfl ?_
  intro p9 e9 s9 m9 args9 below9 meth9 c9 s₁ B hml hv
  obtain ⟨rfl, hsz, hP, hK, hD0, hZ⟩ := hv
  have hx := B.exec
  have hb := B.bytes
  have hr := B.returns
  have hts := ws_sub (atoms_spec (ws := WS yX13_no cX13_no 2 (some .int)) B.pre)
  have hown : s9.vm.findClass RX13 = some m9.cls := findClass_of_methodNamed B.named
  have hlocks := B.notSynchronized
  subst hsz
  have hD := hD0.self (sz := s9.heap.size)
  generalize hAe : va_A [(mo, .inr (11, [.int th, .ref (ma 1), .int (nI tl), .int ea, .int tk, .int dp, .ref sh, .ref (ma 2), .ref (ma 3), .ref (ma 4), .int wk, .ref sn]))] s9.heap.size = A at hD hZ ⊢
  have hA : ∀ q : Nat, s9.heap.size ≤ q → A q := fun q h => by rw [← hAe]; exact Or.inr h
  have hS : va_S A s9.heap s9.heap [] := va_S.rf
  have hP : va_P D CLS [(mo, .inr (11, [.int th, .ref (ma 1), .int (nI tl), .int ea, .int tk, .int dp, .ref sh, .ref (ma 2), .ref (ma 3), .ref (ma 4), .int wk, .ref sn]))] s9.heap := hP
  have hl := lv_entry ([.ref mo, .int p0]) (n := 2) (Nat.le_of_ble_eq_true rfl)
  rw [lg_entry_eq]
  generalize (lg_sl ([.ref mo, .int p0]) ++ List.replicate (2 - (lg_sl ([.ref mo, .int p0])).length) Slot.unset).toArray = ls at hl ⊢
  have hl : lv_has ls 2 [(0, .ref mo), (1, .int p0)] := hl
  change W p9 l9 e9 ({ frames := 0, cells := 0, slots := 0, locals := 0 } : Room) s9 m9 _ below9 meth9 c9 _ _ _ _ _ _
  refine lv_aload_n hx hb dX13_no_0 rfl (lv_at hl 0 rfl) ?_
  refine lv_iload_n hx hb dX13_no_1 rfl (lv_at hl 1 rfl) ?_
  refine va_put (D := D) (ci := 11) (v := .int p0) (ty := .int) (C := RX13) (T := TX13) (N := 12) hx hb hts in_X13 tyX13 tyX13_ok nmX13 hown hK hP hD hS 0 rfl rfl 0 (by decide) (hts _ w_1391) (fun _ h9 => h9) rfl (by decide +kernel) rfl rfl (Nat.le_of_ble_eq_true rfl) dX13_no_2 (fun H locs hP7 hD7 hS7 => ?_)
  clear hP hD hS
  have hP := hP7
  have hD := hD7
  have hS := hS7
  clear hP7 hD7 hS7
  replace hP : va_P D CLS [(mo, .inr (11, [.int p0, .ref (ma 1), .int (nI tl), .int ea, .int tk, .int dp, .ref sh, .ref (ma 2), .ref (ma 3), .ref (ma 4), .int wk, .ref sn]))] H := hP
  replace hD : va_D A [(mo, .inr (11, [.int p0, .ref (ma 1), .int (nI tl), .int ea, .int tk, .int dp, .ref sh, .ref (ma 2), .ref (ma 3), .ref (ma 4), .int wk, .ref sn]))] := hD
  refine lv_iconst (v := 0) hx hb dX13_no_5 (by decide) ?_
  have hr9 : 0 = (0 : Int32) := by simp_all
  have hP9 : va_P D CLS [(mo, .inr (11, [.int p0, .ref (ma 1), .int (nI tl), .int ea, .int tk, .int dp, .ref sh, .ref (ma 2), .ref (ma 3), .ref (ma 4), .int wk, .ref sn]))] H := by exact kSub hP [0] rfl
  have hD9 : va_D A [(mo, .inr (11, [.int p0, .ref (ma 1), .int (nI tl), .int ea, .int tk, .int dp, .ref sh, .ref (ma 2), .ref (ma 3), .ref (ma 4), .int wk, .ref sn]))] := by exact hD.sub [0] (by decide +kernel) rfl
  exact W.iret (v := 0) hx hb hr (fun t9 ht9 hW9 => ⟨⟨0, (), rfl, hr9, by rw [ht9]; exact hP9, va_K.moved hW9.alike hK, hD9⟩, hS.F ht9⟩) hS.2.2 dX13_no_6
theorem dX13_isIn_0 : decode cX13_isIn 0 = .ok (.iload_n 0, 1) := by decide +kernel
theorem dX13_isIn_1 : decode cX13_isIn 1 = .ok (.iload_n 1, 1) := by decide +kernel
theorem dX13_isIn_2 : decode cX13_isIn 2 = .ok (.if_icmp .lt 12, 3) := by decide +kernel
theorem dX13_isIn_5 : decode cX13_isIn 5 = .ok (.iload_n 0, 1) := by decide +kernel
theorem dX13_isIn_6 : decode cX13_isIn 6 = .ok (.iload_n 2, 1) := by decide +kernel
theorem dX13_isIn_7 : decode cX13_isIn 7 = .ok (.if_icmp .gt 7, 3) := by decide +kernel
theorem dX13_isIn_10 : decode cX13_isIn 10 = .ok (.iconst 1, 1) := by decide +kernel
theorem dX13_isIn_11 : decode cX13_isIn 11 = .ok (.goto 4, 3) := by decide +kernel
theorem dX13_isIn_14 : decode cX13_isIn 14 = .ok (.iconst 0, 1) := by decide +kernel
theorem dX13_isIn_15 : decode cX13_isIn 15 = .ok (.ireturn, 1) := by decide +kernel
set_option maxHeartbeats 4000000 in
set_option maxRecDepth 100000 in
/-- Model.isIn -/
theorem c_X13_isIn (l9 : Launch) (z : Nat → Nat) (D : va_G) (g : Nat → ClassId) (p0 : Int32) (p1 : Int32) (p2 : Int32) (sz : Nat) : Met l9 yX13_isIn (WS yX13_isIn cX13_isIn 3 (some .boolean)) ({ frames := 0, cells := 0, slots := 0, locals := 0 }) (va_Pc [.int p0, .int p1, .int p2] (kPre z D g [] sz)) (va_Qi (fun (r9 : Int32) (u9 : Unit) => r9 = bI (decide (p1 ≤ p0 ∧ p0 ≤ p2))) (kB D g (va_A [] sz) (fun (u9 : Unit) => [])) (va_A [] sz)) 0 0 (va_A [] sz) := by
  refine Met.ofW (cc := cX13_isIn) (maxL := 3) (ret := (some .boolean)) (by decide) rfl ?_
  intro p9 e9 s9 m9 args9 below9 meth9 c9 s₁ B hml hv
  obtain ⟨rfl, hsz, hP, hK, hD0, hZ⟩ := hv
  have hx := B.exec
  have hb := B.bytes
  have hr := B.returns
  have hts := ws_sub (atoms_spec (ws := WS yX13_isIn cX13_isIn 3 (some .boolean)) B.pre)
  have hown : s9.vm.findClass RX13 = some m9.cls := findClass_of_methodNamed B.named
  have hlocks := B.notSynchronized
  subst hsz
  have hD := hD0.self (sz := s9.heap.size)
  generalize hAe : va_A [] s9.heap.size = A at hD hZ ⊢
  have hA : ∀ q : Nat, s9.heap.size ≤ q → A q := fun q h => by rw [← hAe]; exact Or.inr h
  have hS : va_S A s9.heap s9.heap [] := va_S.rf
  have hP : va_P D CLS [] s9.heap := hP
  have hl := lv_entry ([.int p0, .int p1, .int p2]) (n := 3) (Nat.le_of_ble_eq_true rfl)
  rw [lg_entry_eq]
  generalize (lg_sl ([.int p0, .int p1, .int p2]) ++ List.replicate (3 - (lg_sl ([.int p0, .int p1, .int p2])).length) Slot.unset).toArray = ls at hl ⊢
  have hl : lv_has ls 3 [(0, .int p0), (1, .int p1), (2, .int p2)] := hl
  change W p9 l9 e9 ({ frames := 0, cells := 0, slots := 0, locals := 0 } : Room) s9 m9 _ below9 meth9 c9 _ _ _ _ _ _
  refine lv_iload_n hx hb dX13_isIn_0 rfl (lv_at hl 0 rfl) ?_
  refine lv_iload_n hx hb dX13_isIn_1 rfl (lv_at hl 1 rfl) ?_
  refine lv_icmp_lt (tgt := 14) hx hb dX13_isIn_2 (by decide) (fun c_2 => ?_) (fun c_2 => ?_)
  · skip
    refine lv_iconst (v := 0) hx hb dX13_isIn_14 (by decide) ?_
    have hr9 : 0 = (bI (decide (p1 ≤ p0 ∧ p0 ≤ p2))) := by first | exact (bI_dt ⟨Int32.not_lt.mp c_2, Int32.not_lt.mp c_7⟩).symm | exact (bI_df (fun h => absurd h.1 (Int32.not_le.mpr c_2))).symm | exact (bI_df (fun h => absurd h.2 (Int32.not_le.mpr c_7))).symm
    have hP9 : va_P D CLS [] s9.heap := by exact kSub hP [] rfl
    have hD9 : va_D A [] := by exact hD.sub [] (by decide +kernel) rfl
    exact W.zret (v := 0) hx hb hr (by first | exact k_nb0 | exact k_nb1 | exact k_nbI _ | simp) (fun t9 ht9 hW9 => ⟨⟨0, (), rfl, hr9, by rw [ht9]; exact hP9, va_K.moved hW9.alike hK, hD9⟩, hS.F ht9⟩) hS.2.2 dX13_isIn_15
  · skip
    refine lv_iload_n hx hb dX13_isIn_5 rfl (lv_at hl 0 rfl) ?_
    refine lv_iload_n hx hb dX13_isIn_6 rfl (lv_at hl 2 rfl) ?_
    refine lv_icmp_gt (tgt := 14) hx hb dX13_isIn_7 (by decide) (fun c_7 => ?_) (fun c_7 => ?_)
    · skip
      refine lv_iconst (v := 0) hx hb dX13_isIn_14 (by decide) ?_
      have hr9 : 0 = (bI (decide (p1 ≤ p0 ∧ p0 ≤ p2))) := by first | exact (bI_dt ⟨Int32.not_lt.mp c_2, Int32.not_lt.mp c_7⟩).symm | exact (bI_df (fun h => absurd h.1 (Int32.not_le.mpr c_2))).symm | exact (bI_df (fun h => absurd h.2 (Int32.not_le.mpr c_7))).symm
      have hP9 : va_P D CLS [] s9.heap := by exact kSub hP [] rfl
      have hD9 : va_D A [] := by exact hD.sub [] (by decide +kernel) rfl
      exact W.zret (v := 0) hx hb hr (by first | exact k_nb0 | exact k_nb1 | exact k_nbI _ | simp) (fun t9 ht9 hW9 => ⟨⟨0, (), rfl, hr9, by rw [ht9]; exact hP9, va_K.moved hW9.alike hK, hD9⟩, hS.F ht9⟩) hS.2.2 dX13_isIn_15
    · skip
      refine lv_iconst (v := 1) hx hb dX13_isIn_10 (by decide) ?_
      refine lv_goto (tgt := 15) hx hb dX13_isIn_11 (by decide) ?_
      have hr9 : 1 = (bI (decide (p1 ≤ p0 ∧ p0 ≤ p2))) := by first | exact (bI_dt ⟨Int32.not_lt.mp c_2, Int32.not_lt.mp c_7⟩).symm | exact (bI_df (fun h => absurd h.1 (Int32.not_le.mpr c_2))).symm | exact (bI_df (fun h => absurd h.2 (Int32.not_le.mpr c_7))).symm
      have hP9 : va_P D CLS [] s9.heap := by exact kSub hP [] rfl
      have hD9 : va_D A [] := by exact hD.sub [] (by decide +kernel) rfl
      exact W.zret (v := 1) hx hb hr (by first | exact k_nb0 | exact k_nb1 | exact k_nbI _ | simp) (fun t9 ht9 hW9 => ⟨⟨1, (), rfl, hr9, by rw [ht9]; exact hP9, va_K.moved hW9.alike hK, hD9⟩, hS.F ht9⟩) hS.2.2 dX13_isIn_15
theorem dX13_isStall_0 : decode cX13_isStall 0 = .ok (.iload_n 1, 1) := by decide +kernel
theorem dX13_isStall_1 : decode cX13_isStall 1 = .ok (.iconst 0, 1) := by decide +kernel
theorem dX13_isStall_2 : decode cX13_isStall 2 = .ok (.aload_n 0, 1) := by decide +kernel
theorem dX13_isStall_3 : decode cX13_isStall 3 = .ok (.getfield 20, 3) := by decide +kernel
theorem dX13_isStall_6 : decode cX13_isStall 6 = .ok (.getfield 43, 3) := by decide +kernel
theorem dX13_isStall_9 : decode cX13_isStall 9 = .ok (.iconst 1, 1) := by decide +kernel
theorem dX13_isStall_10 : decode cX13_isStall 10 = .ok (.isub, 1) := by decide +kernel
theorem dX13_isStall_11 : decode cX13_isStall 11 = .ok (.invokestatic 46, 3) := by decide +kernel
theorem dX13_isStall_14 : decode cX13_isStall 14 = .ok (.ireturn, 1) := by decide +kernel
set_option maxHeartbeats 4000000 in
set_option maxRecDepth 100000 in
/-- Model.isStall -/
theorem c_X13_isStall (l9 : Launch) (z : Nat → Nat) (D : va_G) (g : Nat → ClassId) (mo : Nat) (ma : Nat → Nat) (th : Int32) (tl : Nat) (ea : Int32) (tk : Int32) (dp : Int32) (sh : Nat) (wk : Int32) (sn : Nat) (ha : Nat → Nat) (tn : Nat → Nat) (ln : Int32) (p0 : Int32) (hn : tn 2 < 1000) (sz : Nat) : Met l9 yX13_isStall (WS yX13_isStall cX13_isStall 2 (some .boolean)) ({ frames := 1, cells := 0, slots := 0, locals := 22 }) (va_Pc [.ref mo, .int p0] (kPre z D g [(mo, .inr (11, [.int th, .ref (ma 1), .int (nI tl), .int ea, .int tk, .int dp, .ref sh, .ref (ma 2), .ref (ma 3), .ref (ma 4), .int wk, .ref sn])), (sh, .inr (9, [.ref (ha 0), .ref (ha 1), .ref (ha 2), .ref (ha 3), .int (nI (tn 0)), .ref (ha 4), .ref (ha 5), .ref (ha 6), .int (nI (tn 1)), .ref (ha 7), .ref (ha 8), .ref (ha 9), .ref (ha 10), .int (nI (tn 2)), .ref (ha 11), .ref (ha 12), .int (nI (tn 3)), .ref (ha 13), .ref (ha 14), .ref (ha 15), .int (nI (tn 4)), .ref (ha 16), .ref (ha 17), .ref (ha 18), .ref (ha 19), .ref (ha 20), .int ln]))] sz)) (va_Qi (fun (r9 : Int32) (u9 : Unit) => r9 = bI (fIn p0 (tn 2))) (kB D g (va_A [(mo, .inr (11, [.int th, .ref (ma 1), .int (nI tl), .int ea, .int tk, .int dp, .ref sh, .ref (ma 2), .ref (ma 3), .ref (ma 4), .int wk, .ref sn])), (sh, .inr (9, [.ref (ha 0), .ref (ha 1), .ref (ha 2), .ref (ha 3), .int (nI (tn 0)), .ref (ha 4), .ref (ha 5), .ref (ha 6), .int (nI (tn 1)), .ref (ha 7), .ref (ha 8), .ref (ha 9), .ref (ha 10), .int (nI (tn 2)), .ref (ha 11), .ref (ha 12), .int (nI (tn 3)), .ref (ha 13), .ref (ha 14), .ref (ha 15), .int (nI (tn 4)), .ref (ha 16), .ref (ha 17), .ref (ha 18), .ref (ha 19), .ref (ha 20), .int ln]))] sz) (fun (u9 : Unit) => [(mo, .inr (11, [.int th, .ref (ma 1), .int (nI tl), .int ea, .int tk, .int dp, .ref sh, .ref (ma 2), .ref (ma 3), .ref (ma 4), .int wk, .ref sn])), (sh, .inr (9, [.ref (ha 0), .ref (ha 1), .ref (ha 2), .ref (ha 3), .int (nI (tn 0)), .ref (ha 4), .ref (ha 5), .ref (ha 6), .int (nI (tn 1)), .ref (ha 7), .ref (ha 8), .ref (ha 9), .ref (ha 10), .int (nI (tn 2)), .ref (ha 11), .ref (ha 12), .int (nI (tn 3)), .ref (ha 13), .ref (ha 14), .ref (ha 15), .int (nI (tn 4)), .ref (ha 16), .ref (ha 17), .ref (ha 18), .ref (ha 19), .ref (ha 20), .int ln]))])) (va_A [(mo, .inr (11, [.int th, .ref (ma 1), .int (nI tl), .int ea, .int tk, .int dp, .ref sh, .ref (ma 2), .ref (ma 3), .ref (ma 4), .int wk, .ref sn])), (sh, .inr (9, [.ref (ha 0), .ref (ha 1), .ref (ha 2), .ref (ha 3), .int (nI (tn 0)), .ref (ha 4), .ref (ha 5), .ref (ha 6), .int (nI (tn 1)), .ref (ha 7), .ref (ha 8), .ref (ha 9), .ref (ha 10), .int (nI (tn 2)), .ref (ha 11), .ref (ha 12), .int (nI (tn 3)), .ref (ha 13), .ref (ha 14), .ref (ha 15), .int (nI (tn 4)), .ref (ha 16), .ref (ha 17), .ref (ha 18), .ref (ha 19), .ref (ha 20), .int ln]))] sz)) 0 0 (va_A [(mo, .inr (11, [.int th, .ref (ma 1), .int (nI tl), .int ea, .int tk, .int dp, .ref sh, .ref (ma 2), .ref (ma 3), .ref (ma 4), .int wk, .ref sn])), (sh, .inr (9, [.ref (ha 0), .ref (ha 1), .ref (ha 2), .ref (ha 3), .int (nI (tn 0)), .ref (ha 4), .ref (ha 5), .ref (ha 6), .int (nI (tn 1)), .ref (ha 7), .ref (ha 8), .ref (ha 9), .ref (ha 10), .int (nI (tn 2)), .ref (ha 11), .ref (ha 12), .int (nI (tn 3)), .ref (ha 13), .ref (ha 14), .ref (ha 15), .int (nI (tn 4)), .ref (ha 16), .ref (ha 17), .ref (ha 18), .ref (ha 19), .ref (ha 20), .int ln]))] sz) := by
  refine Met.ofW (cc := cX13_isStall) (maxL := 2) (ret := (some .boolean)) (by decide) rfl ?_
  intro p9 e9 s9 m9 args9 below9 meth9 c9 s₁ B hml hv
  obtain ⟨rfl, hsz, hP, hK, hD0, hZ⟩ := hv
  have hx := B.exec
  have hb := B.bytes
  have hr := B.returns
  have hts := ws_sub (atoms_spec (ws := WS yX13_isStall cX13_isStall 2 (some .boolean)) B.pre)
  have hown : s9.vm.findClass RX13 = some m9.cls := findClass_of_methodNamed B.named
  have hlocks := B.notSynchronized
  subst hsz
  have hD := hD0.self (sz := s9.heap.size)
  generalize hAe : va_A [(mo, .inr (11, [.int th, .ref (ma 1), .int (nI tl), .int ea, .int tk, .int dp, .ref sh, .ref (ma 2), .ref (ma 3), .ref (ma 4), .int wk, .ref sn])), (sh, .inr (9, [.ref (ha 0), .ref (ha 1), .ref (ha 2), .ref (ha 3), .int (nI (tn 0)), .ref (ha 4), .ref (ha 5), .ref (ha 6), .int (nI (tn 1)), .ref (ha 7), .ref (ha 8), .ref (ha 9), .ref (ha 10), .int (nI (tn 2)), .ref (ha 11), .ref (ha 12), .int (nI (tn 3)), .ref (ha 13), .ref (ha 14), .ref (ha 15), .int (nI (tn 4)), .ref (ha 16), .ref (ha 17), .ref (ha 18), .ref (ha 19), .ref (ha 20), .int ln]))] s9.heap.size = A at hD hZ ⊢
  have hA : ∀ q : Nat, s9.heap.size ≤ q → A q := fun q h => by rw [← hAe]; exact Or.inr h
  have hS : va_S A s9.heap s9.heap [] := va_S.rf
  have hP : va_P D CLS [(mo, .inr (11, [.int th, .ref (ma 1), .int (nI tl), .int ea, .int tk, .int dp, .ref sh, .ref (ma 2), .ref (ma 3), .ref (ma 4), .int wk, .ref sn])), (sh, .inr (9, [.ref (ha 0), .ref (ha 1), .ref (ha 2), .ref (ha 3), .int (nI (tn 0)), .ref (ha 4), .ref (ha 5), .ref (ha 6), .int (nI (tn 1)), .ref (ha 7), .ref (ha 8), .ref (ha 9), .ref (ha 10), .int (nI (tn 2)), .ref (ha 11), .ref (ha 12), .int (nI (tn 3)), .ref (ha 13), .ref (ha 14), .ref (ha 15), .int (nI (tn 4)), .ref (ha 16), .ref (ha 17), .ref (ha 18), .ref (ha 19), .ref (ha 20), .int ln]))] s9.heap := hP
  have hl := lv_entry ([.ref mo, .int p0]) (n := 2) (Nat.le_of_ble_eq_true rfl)
  rw [lg_entry_eq]
  generalize (lg_sl ([.ref mo, .int p0]) ++ List.replicate (2 - (lg_sl ([.ref mo, .int p0])).length) Slot.unset).toArray = ls at hl ⊢
  have hl : lv_has ls 2 [(0, .ref mo), (1, .int p0)] := hl
  change W p9 l9 e9 ({ frames := 1, cells := 0, slots := 0, locals := 22 } : Room) s9 m9 _ below9 meth9 c9 _ _ _ _ _ _
  refine lv_iload_n hx hb dX13_isStall_0 rfl (lv_at hl 1 rfl) ?_
  refine lv_iconst (v := 0) hx hb dX13_isStall_1 (by decide) ?_
  refine lv_aload_n hx hb dX13_isStall_2 rfl (lv_at hl 0 rfl) ?_
  refine va_get (D := D) (ci := 11) (v := .ref sh) (C := RX13) (T := TX13) (N := 12) hx hb hts in_X13 hown hK hP 0 rfl rfl 6 (by decide) (hts _ w_1397) (fun _ h9 => h9) rfl dX13_isStall_3 ?_
  refine va_getN (D := D) (ci := 9) (v := .int (nI (tn 2))) (C := RX11) (T := TX11) (N := 27) hx hb hts in_X11 hown hK hP 1 rfl rfl 13 (by decide) (hZ.nst.use nw_1265) (fun _ h9 => h9) rfl dX13_isStall_6 ?_
  refine lv_iconst (v := 1) hx hb dX13_isStall_9 (by decide) ?_
  refine lv_isub hx hb dX13_isStall_10 ?_
  refine k_i hA hP hD hS [(mo, .inr (11, [.int th, .ref (ma 1), .int (nI tl), .int ea, .int tk, .int dp, .ref sh, .ref (ma 2), .ref (ma 3), .ref (ma 4), .int wk, .ref sn])), (sh, .inr (9, [.ref (ha 0), .ref (ha 1), .ref (ha 2), .ref (ha 3), .int (nI (tn 0)), .ref (ha 4), .ref (ha 5), .ref (ha 6), .int (nI (tn 1)), .ref (ha 7), .ref (ha 8), .ref (ha 9), .ref (ha 10), .int (nI (tn 2)), .ref (ha 11), .ref (ha 12), .int (nI (tn 3)), .ref (ha 13), .ref (ha 14), .ref (ha 15), .int (nI (tn 4)), .ref (ha 16), .ref (ha 17), .ref (ha 18), .ref (ha 19), .ref (ha 20), .int ln]))] (va_runS (As := [.int p0, .int 0, .int ((nI (tn 2)) - 1)]) (rest := []) ⟨hx, hb, hml, hown, hts⟩ (c_X13_isIn l9 z D g p0 0 ((nI (tn 2)) - 1)  (Array.size s9.heap)) (va_cwS 3 hts gs_X13_46 rfl rfl rfl (by decide +kernel) ⟨Nat.le_of_ble_eq_true rfl, Nat.le_of_ble_eq_true rfl⟩) ⟨kBlind, kPre.pc hK hZ hA hP hD hS [] rfl (by decide +kernel)⟩ rfl rfl hl.1 rfl (lv_room (Nat.le_of_ble_eq_true rfl)) dX13_isStall_11 ⟨Nat.le_of_ble_eq_true rfl, Nat.le_of_ble_eq_true rfl⟩) [] [0, 1] rfl rfl rfl rfl (fun r_11 u_1 H locs hw_11 hP7 hD7 hS7 => ?_)
  clear hP hD hS
  have hP := hP7
  have hD := hD7
  have hS := hS7
  clear hP7 hD7 hS7
  obtain rfl := hw_11
  replace hP : va_P D CLS [(mo, .inr (11, [.int th, .ref (ma 1), .int (nI tl), .int ea, .int tk, .int dp, .ref sh, .ref (ma 2), .ref (ma 3), .ref (ma 4), .int wk, .ref sn])), (sh, .inr (9, [.ref (ha 0), .ref (ha 1), .ref (ha 2), .ref (ha 3), .int (nI (tn 0)), .ref (ha 4), .ref (ha 5), .ref (ha 6), .int (nI (tn 1)), .ref (ha 7), .ref (ha 8), .ref (ha 9), .ref (ha 10), .int (nI (tn 2)), .ref (ha 11), .ref (ha 12), .int (nI (tn 3)), .ref (ha 13), .ref (ha 14), .ref (ha 15), .int (nI (tn 4)), .ref (ha 16), .ref (ha 17), .ref (ha 18), .ref (ha 19), .ref (ha 20), .int ln]))] H := hP
  replace hD : va_D A [(mo, .inr (11, [.int th, .ref (ma 1), .int (nI tl), .int ea, .int tk, .int dp, .ref sh, .ref (ma 2), .ref (ma 3), .ref (ma 4), .int wk, .ref sn])), (sh, .inr (9, [.ref (ha 0), .ref (ha 1), .ref (ha 2), .ref (ha 3), .int (nI (tn 0)), .ref (ha 4), .ref (ha 5), .ref (ha 6), .int (nI (tn 1)), .ref (ha 7), .ref (ha 8), .ref (ha 9), .ref (ha 10), .int (nI (tn 2)), .ref (ha 11), .ref (ha 12), .int (nI (tn 3)), .ref (ha 13), .ref (ha 14), .ref (ha 15), .int (nI (tn 4)), .ref (ha 16), .ref (ha 17), .ref (ha 18), .ref (ha 19), .ref (ha 20), .int ln]))] := hD
  have hr9 : (bI (decide (0 ≤ p0 ∧ p0 ≤ ((nI (tn 2)) - 1)))) = (bI (fIn p0 (tn 2))) := by rw [fIn_is hn]
  have hP9 : va_P D CLS [(mo, .inr (11, [.int th, .ref (ma 1), .int (nI tl), .int ea, .int tk, .int dp, .ref sh, .ref (ma 2), .ref (ma 3), .ref (ma 4), .int wk, .ref sn])), (sh, .inr (9, [.ref (ha 0), .ref (ha 1), .ref (ha 2), .ref (ha 3), .int (nI (tn 0)), .ref (ha 4), .ref (ha 5), .ref (ha 6), .int (nI (tn 1)), .ref (ha 7), .ref (ha 8), .ref (ha 9), .ref (ha 10), .int (nI (tn 2)), .ref (ha 11), .ref (ha 12), .int (nI (tn 3)), .ref (ha 13), .ref (ha 14), .ref (ha 15), .int (nI (tn 4)), .ref (ha 16), .ref (ha 17), .ref (ha 18), .ref (ha 19), .ref (ha 20), .int ln]))] H := by exact kSub hP [0, 1] rfl
  have hD9 : va_D A [(mo, .inr (11, [.int th, .ref (ma 1), .int (nI tl), .int ea, .int tk, .int dp, .ref sh, .ref (ma 2), .ref (ma 3), .ref (ma 4), .int wk, .ref sn])), (sh, .inr (9, [.ref (ha 0), .ref (ha 1), .ref (ha 2), .ref (ha 3), .int (nI (tn 0)), .ref (ha 4), .ref (ha 5), .ref (ha 6), .int (nI (tn 1)), .ref (ha 7), .ref (ha 8), .ref (ha 9), .ref (ha 10), .int (nI (tn 2)), .ref (ha 11), .ref (ha 12), .int (nI (tn 3)), .ref (ha 13), .ref (ha 14), .ref (ha 15), .int (nI (tn 4)), .ref (ha 16), .ref (ha 17), .ref (ha 18), .ref (ha 19), .ref (ha 20), .int ln]))] := by exact hD.sub [0, 1] (by decide +kernel) rfl
  exact W.zret (v := bI (decide (0 ≤ p0 ∧ p0 ≤ ((nI (tn 2)) - 1)))) hx hb hr (by first | exact k_nb0 | exact k_nb1 | exact k_nbI _ | simp) (fun t9 ht9 hW9 => ⟨⟨bI (decide (0 ≤ p0 ∧ p0 ≤ ((nI (tn 2)) - 1))), (), rfl, hr9, by rw [ht9]; exact hP9, va_K.moved hW9.alike hK, hD9⟩, hS.F ht9⟩) hS.2.2 dX13_isStall_14
theorem dX13_isBishop_0 : decode cX13_isBishop 0 = .ok (.iload_n 1, 1) := by decide +kernel
theorem dX13_isBishop_1 : decode cX13_isBishop 1 = .ok (.iconst 0, 1) := by decide +kernel
theorem dX13_isBishop_2 : decode cX13_isBishop 2 = .ok (.aload_n 0, 1) := by decide +kernel
theorem dX13_isBishop_3 : decode cX13_isBishop 3 = .ok (.getfield 20, 3) := by decide +kernel
theorem dX13_isBishop_6 : decode cX13_isBishop 6 = .ok (.getfield 50, 3) := by decide +kernel
theorem dX13_isBishop_9 : decode cX13_isBishop 9 = .ok (.iconst 1, 1) := by decide +kernel
theorem dX13_isBishop_10 : decode cX13_isBishop 10 = .ok (.isub, 1) := by decide +kernel
theorem dX13_isBishop_11 : decode cX13_isBishop 11 = .ok (.invokestatic 46, 3) := by decide +kernel
theorem dX13_isBishop_14 : decode cX13_isBishop 14 = .ok (.ireturn, 1) := by decide +kernel
set_option maxHeartbeats 4000000 in
set_option maxRecDepth 100000 in
/-- Model.isBishop -/
theorem c_X13_isBishop (l9 : Launch) (z : Nat → Nat) (D : va_G) (g : Nat → ClassId) (mo : Nat) (ma : Nat → Nat) (th : Int32) (tl : Nat) (ea : Int32) (tk : Int32) (dp : Int32) (sh : Nat) (wk : Int32) (sn : Nat) (ha : Nat → Nat) (tn : Nat → Nat) (ln : Int32) (p0 : Int32) (hn : tn 3 < 1000) (sz : Nat) : Met l9 yX13_isBishop (WS yX13_isBishop cX13_isBishop 2 (some .boolean)) ({ frames := 1, cells := 0, slots := 0, locals := 22 }) (va_Pc [.ref mo, .int p0] (kPre z D g [(mo, .inr (11, [.int th, .ref (ma 1), .int (nI tl), .int ea, .int tk, .int dp, .ref sh, .ref (ma 2), .ref (ma 3), .ref (ma 4), .int wk, .ref sn])), (sh, .inr (9, [.ref (ha 0), .ref (ha 1), .ref (ha 2), .ref (ha 3), .int (nI (tn 0)), .ref (ha 4), .ref (ha 5), .ref (ha 6), .int (nI (tn 1)), .ref (ha 7), .ref (ha 8), .ref (ha 9), .ref (ha 10), .int (nI (tn 2)), .ref (ha 11), .ref (ha 12), .int (nI (tn 3)), .ref (ha 13), .ref (ha 14), .ref (ha 15), .int (nI (tn 4)), .ref (ha 16), .ref (ha 17), .ref (ha 18), .ref (ha 19), .ref (ha 20), .int ln]))] sz)) (va_Qi (fun (r9 : Int32) (u9 : Unit) => r9 = bI (fIn p0 (tn 3))) (kB D g (va_A [(mo, .inr (11, [.int th, .ref (ma 1), .int (nI tl), .int ea, .int tk, .int dp, .ref sh, .ref (ma 2), .ref (ma 3), .ref (ma 4), .int wk, .ref sn])), (sh, .inr (9, [.ref (ha 0), .ref (ha 1), .ref (ha 2), .ref (ha 3), .int (nI (tn 0)), .ref (ha 4), .ref (ha 5), .ref (ha 6), .int (nI (tn 1)), .ref (ha 7), .ref (ha 8), .ref (ha 9), .ref (ha 10), .int (nI (tn 2)), .ref (ha 11), .ref (ha 12), .int (nI (tn 3)), .ref (ha 13), .ref (ha 14), .ref (ha 15), .int (nI (tn 4)), .ref (ha 16), .ref (ha 17), .ref (ha 18), .ref (ha 19), .ref (ha 20), .int ln]))] sz) (fun (u9 : Unit) => [(mo, .inr (11, [.int th, .ref (ma 1), .int (nI tl), .int ea, .int tk, .int dp, .ref sh, .ref (ma 2), .ref (ma 3), .ref (ma 4), .int wk, .ref sn])), (sh, .inr (9, [.ref (ha 0), .ref (ha 1), .ref (ha 2), .ref (ha 3), .int (nI (tn 0)), .ref (ha 4), .ref (ha 5), .ref (ha 6), .int (nI (tn 1)), .ref (ha 7), .ref (ha 8), .ref (ha 9), .ref (ha 10), .int (nI (tn 2)), .ref (ha 11), .ref (ha 12), .int (nI (tn 3)), .ref (ha 13), .ref (ha 14), .ref (ha 15), .int (nI (tn 4)), .ref (ha 16), .ref (ha 17), .ref (ha 18), .ref (ha 19), .ref (ha 20), .int ln]))])) (va_A [(mo, .inr (11, [.int th, .ref (ma 1), .int (nI tl), .int ea, .int tk, .int dp, .ref sh, .ref (ma 2), .ref (ma 3), .ref (ma 4), .int wk, .ref sn])), (sh, .inr (9, [.ref (ha 0), .ref (ha 1), .ref (ha 2), .ref (ha 3), .int (nI (tn 0)), .ref (ha 4), .ref (ha 5), .ref (ha 6), .int (nI (tn 1)), .ref (ha 7), .ref (ha 8), .ref (ha 9), .ref (ha 10), .int (nI (tn 2)), .ref (ha 11), .ref (ha 12), .int (nI (tn 3)), .ref (ha 13), .ref (ha 14), .ref (ha 15), .int (nI (tn 4)), .ref (ha 16), .ref (ha 17), .ref (ha 18), .ref (ha 19), .ref (ha 20), .int ln]))] sz)) 0 0 (va_A [(mo, .inr (11, [.int th, .ref (ma 1), .int (nI tl), .int ea, .int tk, .int dp, .ref sh, .ref (ma 2), .ref (ma 3), .ref (ma 4), .int wk, .ref sn])), (sh, .inr (9, [.ref (ha 0), .ref (ha 1), .ref (ha 2), .ref (ha 3), .int (nI (tn 0)), .ref (ha 4), .ref (ha 5), .ref (ha 6), .int (nI (tn 1)), .ref (ha 7), .ref (ha 8), .ref (ha 9), .ref (ha 10), .int (nI (tn 2)), .ref (ha 11), .ref (ha 12), .int (nI (tn 3)), .ref (ha 13), .ref (ha 14), .ref (ha 15), .int (nI (tn 4)), .ref (ha 16), .ref (ha 17), .ref (ha 18), .ref (ha 19), .ref (ha 20), .int ln]))] sz) := by
  refine Met.ofW (cc := cX13_isBishop) (maxL := 2) (ret := (some .boolean)) (by decide) rfl ?_
  intro p9 e9 s9 m9 args9 below9 meth9 c9 s₁ B hml hv
  obtain ⟨rfl, hsz, hP, hK, hD0, hZ⟩ := hv
  have hx := B.exec
  have hb := B.bytes
  have hr := B.returns
  have hts := ws_sub (atoms_spec (ws := WS yX13_isBishop cX13_isBishop 2 (some .boolean)) B.pre)
  have hown : s9.vm.findClass RX13 = some m9.cls := findClass_of_methodNamed B.named
  have hlocks := B.notSynchronized
  subst hsz
  have hD := hD0.self (sz := s9.heap.size)
  generalize hAe : va_A [(mo, .inr (11, [.int th, .ref (ma 1), .int (nI tl), .int ea, .int tk, .int dp, .ref sh, .ref (ma 2), .ref (ma 3), .ref (ma 4), .int wk, .ref sn])), (sh, .inr (9, [.ref (ha 0), .ref (ha 1), .ref (ha 2), .ref (ha 3), .int (nI (tn 0)), .ref (ha 4), .ref (ha 5), .ref (ha 6), .int (nI (tn 1)), .ref (ha 7), .ref (ha 8), .ref (ha 9), .ref (ha 10), .int (nI (tn 2)), .ref (ha 11), .ref (ha 12), .int (nI (tn 3)), .ref (ha 13), .ref (ha 14), .ref (ha 15), .int (nI (tn 4)), .ref (ha 16), .ref (ha 17), .ref (ha 18), .ref (ha 19), .ref (ha 20), .int ln]))] s9.heap.size = A at hD hZ ⊢
  have hA : ∀ q : Nat, s9.heap.size ≤ q → A q := fun q h => by rw [← hAe]; exact Or.inr h
  have hS : va_S A s9.heap s9.heap [] := va_S.rf
  have hP : va_P D CLS [(mo, .inr (11, [.int th, .ref (ma 1), .int (nI tl), .int ea, .int tk, .int dp, .ref sh, .ref (ma 2), .ref (ma 3), .ref (ma 4), .int wk, .ref sn])), (sh, .inr (9, [.ref (ha 0), .ref (ha 1), .ref (ha 2), .ref (ha 3), .int (nI (tn 0)), .ref (ha 4), .ref (ha 5), .ref (ha 6), .int (nI (tn 1)), .ref (ha 7), .ref (ha 8), .ref (ha 9), .ref (ha 10), .int (nI (tn 2)), .ref (ha 11), .ref (ha 12), .int (nI (tn 3)), .ref (ha 13), .ref (ha 14), .ref (ha 15), .int (nI (tn 4)), .ref (ha 16), .ref (ha 17), .ref (ha 18), .ref (ha 19), .ref (ha 20), .int ln]))] s9.heap := hP
  have hl := lv_entry ([.ref mo, .int p0]) (n := 2) (Nat.le_of_ble_eq_true rfl)
  rw [lg_entry_eq]
  generalize (lg_sl ([.ref mo, .int p0]) ++ List.replicate (2 - (lg_sl ([.ref mo, .int p0])).length) Slot.unset).toArray = ls at hl ⊢
  have hl : lv_has ls 2 [(0, .ref mo), (1, .int p0)] := hl
  change W p9 l9 e9 ({ frames := 1, cells := 0, slots := 0, locals := 22 } : Room) s9 m9 _ below9 meth9 c9 _ _ _ _ _ _
  refine lv_iload_n hx hb dX13_isBishop_0 rfl (lv_at hl 1 rfl) ?_
  refine lv_iconst (v := 0) hx hb dX13_isBishop_1 (by decide) ?_
  refine lv_aload_n hx hb dX13_isBishop_2 rfl (lv_at hl 0 rfl) ?_
  refine va_get (D := D) (ci := 11) (v := .ref sh) (C := RX13) (T := TX13) (N := 12) hx hb hts in_X13 hown hK hP 0 rfl rfl 6 (by decide) (hts _ w_1397) (fun _ h9 => h9) rfl dX13_isBishop_3 ?_
  refine va_getN (D := D) (ci := 9) (v := .int (nI (tn 3))) (C := RX11) (T := TX11) (N := 27) hx hb hts in_X11 hown hK hP 1 rfl rfl 16 (by decide) (hZ.nst.use nw_1270) (fun _ h9 => h9) rfl dX13_isBishop_6 ?_
  refine lv_iconst (v := 1) hx hb dX13_isBishop_9 (by decide) ?_
  refine lv_isub hx hb dX13_isBishop_10 ?_
  refine k_i hA hP hD hS [(mo, .inr (11, [.int th, .ref (ma 1), .int (nI tl), .int ea, .int tk, .int dp, .ref sh, .ref (ma 2), .ref (ma 3), .ref (ma 4), .int wk, .ref sn])), (sh, .inr (9, [.ref (ha 0), .ref (ha 1), .ref (ha 2), .ref (ha 3), .int (nI (tn 0)), .ref (ha 4), .ref (ha 5), .ref (ha 6), .int (nI (tn 1)), .ref (ha 7), .ref (ha 8), .ref (ha 9), .ref (ha 10), .int (nI (tn 2)), .ref (ha 11), .ref (ha 12), .int (nI (tn 3)), .ref (ha 13), .ref (ha 14), .ref (ha 15), .int (nI (tn 4)), .ref (ha 16), .ref (ha 17), .ref (ha 18), .ref (ha 19), .ref (ha 20), .int ln]))] (va_runS (As := [.int p0, .int 0, .int ((nI (tn 3)) - 1)]) (rest := []) ⟨hx, hb, hml, hown, hts⟩ (c_X13_isIn l9 z D g p0 0 ((nI (tn 3)) - 1)  (Array.size s9.heap)) (va_cwS 3 hts gs_X13_46 rfl rfl rfl (by decide +kernel) ⟨Nat.le_of_ble_eq_true rfl, Nat.le_of_ble_eq_true rfl⟩) ⟨kBlind, kPre.pc hK hZ hA hP hD hS [] rfl (by decide +kernel)⟩ rfl rfl hl.1 rfl (lv_room (Nat.le_of_ble_eq_true rfl)) dX13_isBishop_11 ⟨Nat.le_of_ble_eq_true rfl, Nat.le_of_ble_eq_true rfl⟩) [] [0, 1] rfl rfl rfl rfl (fun r_11 u_1 H locs hw_11 hP7 hD7 hS7 => ?_)
  clear hP hD hS
  have hP := hP7
  have hD := hD7
  have hS := hS7
  clear hP7 hD7 hS7
  obtain rfl := hw_11
  replace hP : va_P D CLS [(mo, .inr (11, [.int th, .ref (ma 1), .int (nI tl), .int ea, .int tk, .int dp, .ref sh, .ref (ma 2), .ref (ma 3), .ref (ma 4), .int wk, .ref sn])), (sh, .inr (9, [.ref (ha 0), .ref (ha 1), .ref (ha 2), .ref (ha 3), .int (nI (tn 0)), .ref (ha 4), .ref (ha 5), .ref (ha 6), .int (nI (tn 1)), .ref (ha 7), .ref (ha 8), .ref (ha 9), .ref (ha 10), .int (nI (tn 2)), .ref (ha 11), .ref (ha 12), .int (nI (tn 3)), .ref (ha 13), .ref (ha 14), .ref (ha 15), .int (nI (tn 4)), .ref (ha 16), .ref (ha 17), .ref (ha 18), .ref (ha 19), .ref (ha 20), .int ln]))] H := hP
  replace hD : va_D A [(mo, .inr (11, [.int th, .ref (ma 1), .int (nI tl), .int ea, .int tk, .int dp, .ref sh, .ref (ma 2), .ref (ma 3), .ref (ma 4), .int wk, .ref sn])), (sh, .inr (9, [.ref (ha 0), .ref (ha 1), .ref (ha 2), .ref (ha 3), .int (nI (tn 0)), .ref (ha 4), .ref (ha 5), .ref (ha 6), .int (nI (tn 1)), .ref (ha 7), .ref (ha 8), .ref (ha 9), .ref (ha 10), .int (nI (tn 2)), .ref (ha 11), .ref (ha 12), .int (nI (tn 3)), .ref (ha 13), .ref (ha 14), .ref (ha 15), .int (nI (tn 4)), .ref (ha 16), .ref (ha 17), .ref (ha 18), .ref (ha 19), .ref (ha 20), .int ln]))] := hD
  have hr9 : (bI (decide (0 ≤ p0 ∧ p0 ≤ ((nI (tn 3)) - 1)))) = (bI (fIn p0 (tn 3))) := by rw [fIn_is hn]
  have hP9 : va_P D CLS [(mo, .inr (11, [.int th, .ref (ma 1), .int (nI tl), .int ea, .int tk, .int dp, .ref sh, .ref (ma 2), .ref (ma 3), .ref (ma 4), .int wk, .ref sn])), (sh, .inr (9, [.ref (ha 0), .ref (ha 1), .ref (ha 2), .ref (ha 3), .int (nI (tn 0)), .ref (ha 4), .ref (ha 5), .ref (ha 6), .int (nI (tn 1)), .ref (ha 7), .ref (ha 8), .ref (ha 9), .ref (ha 10), .int (nI (tn 2)), .ref (ha 11), .ref (ha 12), .int (nI (tn 3)), .ref (ha 13), .ref (ha 14), .ref (ha 15), .int (nI (tn 4)), .ref (ha 16), .ref (ha 17), .ref (ha 18), .ref (ha 19), .ref (ha 20), .int ln]))] H := by exact kSub hP [0, 1] rfl
  have hD9 : va_D A [(mo, .inr (11, [.int th, .ref (ma 1), .int (nI tl), .int ea, .int tk, .int dp, .ref sh, .ref (ma 2), .ref (ma 3), .ref (ma 4), .int wk, .ref sn])), (sh, .inr (9, [.ref (ha 0), .ref (ha 1), .ref (ha 2), .ref (ha 3), .int (nI (tn 0)), .ref (ha 4), .ref (ha 5), .ref (ha 6), .int (nI (tn 1)), .ref (ha 7), .ref (ha 8), .ref (ha 9), .ref (ha 10), .int (nI (tn 2)), .ref (ha 11), .ref (ha 12), .int (nI (tn 3)), .ref (ha 13), .ref (ha 14), .ref (ha 15), .int (nI (tn 4)), .ref (ha 16), .ref (ha 17), .ref (ha 18), .ref (ha 19), .ref (ha 20), .int ln]))] := by exact hD.sub [0, 1] (by decide +kernel) rfl
  exact W.zret (v := bI (decide (0 ≤ p0 ∧ p0 ≤ ((nI (tn 3)) - 1)))) hx hb hr (by first | exact k_nb0 | exact k_nb1 | exact k_nbI _ | simp) (fun t9 ht9 hW9 => ⟨⟨bI (decide (0 ≤ p0 ∧ p0 ≤ ((nI (tn 3)) - 1))), (), rfl, hr9, by rw [ht9]; exact hP9, va_K.moved hW9.alike hK, hD9⟩, hS.F ht9⟩) hS.2.2 dX13_isBishop_14
theorem dX13_isLetter_0 : decode cX13_isLetter 0 = .ok (.iload_n 0, 1) := by decide +kernel
theorem dX13_isLetter_1 : decode cX13_isLetter 1 = .ok (.bipush 97, 2) := by decide +kernel
theorem dX13_isLetter_3 : decode cX13_isLetter 3 = .ok (.if_icmp .lt 13, 3) := by decide +kernel
theorem dX13_isLetter_6 : decode cX13_isLetter 6 = .ok (.iload_n 0, 1) := by decide +kernel
theorem dX13_isLetter_7 : decode cX13_isLetter 7 = .ok (.bipush 122, 2) := by decide +kernel
theorem dX13_isLetter_9 : decode cX13_isLetter 9 = .ok (.if_icmp .gt 7, 3) := by decide +kernel
theorem dX13_isLetter_12 : decode cX13_isLetter 12 = .ok (.iconst 1, 1) := by decide +kernel
theorem dX13_isLetter_13 : decode cX13_isLetter 13 = .ok (.goto 4, 3) := by decide +kernel
theorem dX13_isLetter_16 : decode cX13_isLetter 16 = .ok (.iconst 0, 1) := by decide +kernel
theorem dX13_isLetter_17 : decode cX13_isLetter 17 = .ok (.ireturn, 1) := by decide +kernel
set_option maxHeartbeats 4000000 in
set_option maxRecDepth 100000 in
/-- Model.isLetter -/
theorem c_X13_isLetter (l9 : Launch) (z : Nat → Nat) (D : va_G) (g : Nat → ClassId) (p0 : Int32) (sz : Nat) : Met l9 yX13_isLetter (WS yX13_isLetter cX13_isLetter 1 (some .boolean)) ({ frames := 0, cells := 0, slots := 0, locals := 0 }) (va_Pc [.int p0] (kPre z D g [] sz)) (va_Qi (fun (r9 : Int32) (u9 : Unit) => r9 = bI (isL p0)) (kB D g (va_A [] sz) (fun (u9 : Unit) => [])) (va_A [] sz)) 0 0 (va_A [] sz) := by
  refine Met.ofW (cc := cX13_isLetter) (maxL := 1) (ret := (some .boolean)) (by decide) rfl ?_
  intro p9 e9 s9 m9 args9 below9 meth9 c9 s₁ B hml hv
  obtain ⟨rfl, hsz, hP, hK, hD0, hZ⟩ := hv
  have hx := B.exec
  have hb := B.bytes
  have hr := B.returns
  have hts := ws_sub (atoms_spec (ws := WS yX13_isLetter cX13_isLetter 1 (some .boolean)) B.pre)
  have hown : s9.vm.findClass RX13 = some m9.cls := findClass_of_methodNamed B.named
  have hlocks := B.notSynchronized
  subst hsz
  have hD := hD0.self (sz := s9.heap.size)
  generalize hAe : va_A [] s9.heap.size = A at hD hZ ⊢
  have hA : ∀ q : Nat, s9.heap.size ≤ q → A q := fun q h => by rw [← hAe]; exact Or.inr h
  have hS : va_S A s9.heap s9.heap [] := va_S.rf
  have hP : va_P D CLS [] s9.heap := hP
  have hl := lv_entry ([.int p0]) (n := 1) (Nat.le_of_ble_eq_true rfl)
  rw [lg_entry_eq]
  generalize (lg_sl ([.int p0]) ++ List.replicate (1 - (lg_sl ([.int p0])).length) Slot.unset).toArray = ls at hl ⊢
  have hl : lv_has ls 1 [(0, .int p0)] := hl
  change W p9 l9 e9 ({ frames := 0, cells := 0, slots := 0, locals := 0 } : Room) s9 m9 _ below9 meth9 c9 _ _ _ _ _ _
  refine lv_iload_n hx hb dX13_isLetter_0 rfl (lv_at hl 0 rfl) ?_
  refine lv_bipush (v := 97) hx hb dX13_isLetter_1 (by decide) ?_
  refine lv_icmp_lt (tgt := 16) hx hb dX13_isLetter_3 (by decide) (fun c_3 => ?_) (fun c_3 => ?_)
  · skip
    refine lv_iconst (v := 0) hx hb dX13_isLetter_16 (by decide) ?_
    have hr9 : 0 = (bI (isL p0)) := by first | (rw [show isL p0 = true from decide_eq_true ⟨Int32.not_lt.mp c_3, Int32.not_lt.mp c_9⟩]; rfl) | (rw [show isL p0 = false from decide_eq_false (fun h => absurd h.1 (Int32.not_le.mpr c_3))]; rfl) | (rw [show isL p0 = false from decide_eq_false (fun h => absurd h.2 (Int32.not_le.mpr c_9))]; rfl)
    have hP9 : va_P D CLS [] s9.heap := by exact kSub hP [] rfl
    have hD9 : va_D A [] := by exact hD.sub [] (by decide +kernel) rfl
    exact W.zret (v := 0) hx hb hr (by first | exact k_nb0 | exact k_nb1 | exact k_nbI _ | simp) (fun t9 ht9 hW9 => ⟨⟨0, (), rfl, hr9, by rw [ht9]; exact hP9, va_K.moved hW9.alike hK, hD9⟩, hS.F ht9⟩) hS.2.2 dX13_isLetter_17
  · skip
    refine lv_iload_n hx hb dX13_isLetter_6 rfl (lv_at hl 0 rfl) ?_
    refine lv_bipush (v := 122) hx hb dX13_isLetter_7 (by decide) ?_
    refine lv_icmp_gt (tgt := 16) hx hb dX13_isLetter_9 (by decide) (fun c_9 => ?_) (fun c_9 => ?_)
    · skip
      refine lv_iconst (v := 0) hx hb dX13_isLetter_16 (by decide) ?_
      have hr9 : 0 = (bI (isL p0)) := by first | (rw [show isL p0 = true from decide_eq_true ⟨Int32.not_lt.mp c_3, Int32.not_lt.mp c_9⟩]; rfl) | (rw [show isL p0 = false from decide_eq_false (fun h => absurd h.1 (Int32.not_le.mpr c_3))]; rfl) | (rw [show isL p0 = false from decide_eq_false (fun h => absurd h.2 (Int32.not_le.mpr c_9))]; rfl)
      have hP9 : va_P D CLS [] s9.heap := by exact kSub hP [] rfl
      have hD9 : va_D A [] := by exact hD.sub [] (by decide +kernel) rfl
      exact W.zret (v := 0) hx hb hr (by first | exact k_nb0 | exact k_nb1 | exact k_nbI _ | simp) (fun t9 ht9 hW9 => ⟨⟨0, (), rfl, hr9, by rw [ht9]; exact hP9, va_K.moved hW9.alike hK, hD9⟩, hS.F ht9⟩) hS.2.2 dX13_isLetter_17
    · skip
      refine lv_iconst (v := 1) hx hb dX13_isLetter_12 (by decide) ?_
      refine lv_goto (tgt := 17) hx hb dX13_isLetter_13 (by decide) ?_
      have hr9 : 1 = (bI (isL p0)) := by first | (rw [show isL p0 = true from decide_eq_true ⟨Int32.not_lt.mp c_3, Int32.not_lt.mp c_9⟩]; rfl) | (rw [show isL p0 = false from decide_eq_false (fun h => absurd h.1 (Int32.not_le.mpr c_3))]; rfl) | (rw [show isL p0 = false from decide_eq_false (fun h => absurd h.2 (Int32.not_le.mpr c_9))]; rfl)
      have hP9 : va_P D CLS [] s9.heap := by exact kSub hP [] rfl
      have hD9 : va_D A [] := by exact hD.sub [] (by decide +kernel) rfl
      exact W.zret (v := 1) hx hb hr (by first | exact k_nb0 | exact k_nb1 | exact k_nbI _ | simp) (fun t9 ht9 hW9 => ⟨⟨1, (), rfl, hr9, by rw [ht9]; exact hP9, va_K.moved hW9.alike hK, hD9⟩, hS.F ht9⟩) hS.2.2 dX13_isLetter_17
theorem dX13_isDigit_0 : decode cX13_isDigit 0 = .ok (.iload_n 0, 1) := by decide +kernel
theorem dX13_isDigit_1 : decode cX13_isDigit 1 = .ok (.bipush 48, 2) := by decide +kernel
theorem dX13_isDigit_3 : decode cX13_isDigit 3 = .ok (.if_icmp .lt 13, 3) := by decide +kernel
theorem dX13_isDigit_6 : decode cX13_isDigit 6 = .ok (.iload_n 0, 1) := by decide +kernel
theorem dX13_isDigit_7 : decode cX13_isDigit 7 = .ok (.bipush 57, 2) := by decide +kernel
theorem dX13_isDigit_9 : decode cX13_isDigit 9 = .ok (.if_icmp .gt 7, 3) := by decide +kernel
theorem dX13_isDigit_12 : decode cX13_isDigit 12 = .ok (.iconst 1, 1) := by decide +kernel
theorem dX13_isDigit_13 : decode cX13_isDigit 13 = .ok (.goto 4, 3) := by decide +kernel
theorem dX13_isDigit_16 : decode cX13_isDigit 16 = .ok (.iconst 0, 1) := by decide +kernel
theorem dX13_isDigit_17 : decode cX13_isDigit 17 = .ok (.ireturn, 1) := by decide +kernel
set_option maxHeartbeats 4000000 in
set_option maxRecDepth 100000 in
/-- Model.isDigit -/
theorem c_X13_isDigit (l9 : Launch) (z : Nat → Nat) (D : va_G) (g : Nat → ClassId) (p0 : Int32) (sz : Nat) : Met l9 yX13_isDigit (WS yX13_isDigit cX13_isDigit 1 (some .boolean)) ({ frames := 0, cells := 0, slots := 0, locals := 0 }) (va_Pc [.int p0] (kPre z D g [] sz)) (va_Qi (fun (r9 : Int32) (u9 : Unit) => r9 = bI (isD p0)) (kB D g (va_A [] sz) (fun (u9 : Unit) => [])) (va_A [] sz)) 0 0 (va_A [] sz) := by
  refine Met.ofW (cc := cX13_isDigit) (maxL := 1) (ret := (some .boolean)) (by decide) rfl ?_
  intro p9 e9 s9 m9 args9 below9 meth9 c9 s₁ B hml hv
  obtain ⟨rfl, hsz, hP, hK, hD0, hZ⟩ := hv
  have hx := B.exec
  have hb := B.bytes
  have hr := B.returns
  have hts := ws_sub (atoms_spec (ws := WS yX13_isDigit cX13_isDigit 1 (some .boolean)) B.pre)
  have hown : s9.vm.findClass RX13 = some m9.cls := findClass_of_methodNamed B.named
  have hlocks := B.notSynchronized
  subst hsz
  have hD := hD0.self (sz := s9.heap.size)
  generalize hAe : va_A [] s9.heap.size = A at hD hZ ⊢
  have hA : ∀ q : Nat, s9.heap.size ≤ q → A q := fun q h => by rw [← hAe]; exact Or.inr h
  have hS : va_S A s9.heap s9.heap [] := va_S.rf
  have hP : va_P D CLS [] s9.heap := hP
  have hl := lv_entry ([.int p0]) (n := 1) (Nat.le_of_ble_eq_true rfl)
  rw [lg_entry_eq]
  generalize (lg_sl ([.int p0]) ++ List.replicate (1 - (lg_sl ([.int p0])).length) Slot.unset).toArray = ls at hl ⊢
  have hl : lv_has ls 1 [(0, .int p0)] := hl
  change W p9 l9 e9 ({ frames := 0, cells := 0, slots := 0, locals := 0 } : Room) s9 m9 _ below9 meth9 c9 _ _ _ _ _ _
  refine lv_iload_n hx hb dX13_isDigit_0 rfl (lv_at hl 0 rfl) ?_
  refine lv_bipush (v := 48) hx hb dX13_isDigit_1 (by decide) ?_
  refine lv_icmp_lt (tgt := 16) hx hb dX13_isDigit_3 (by decide) (fun c_3 => ?_) (fun c_3 => ?_)
  · skip
    refine lv_iconst (v := 0) hx hb dX13_isDigit_16 (by decide) ?_
    have hr9 : 0 = (bI (isD p0)) := by first | (rw [show isD p0 = true from decide_eq_true ⟨Int32.not_lt.mp c_3, Int32.not_lt.mp c_9⟩]; rfl) | (rw [show isD p0 = false from decide_eq_false (fun h => absurd h.1 (Int32.not_le.mpr c_3))]; rfl) | (rw [show isD p0 = false from decide_eq_false (fun h => absurd h.2 (Int32.not_le.mpr c_9))]; rfl)
    have hP9 : va_P D CLS [] s9.heap := by exact kSub hP [] rfl
    have hD9 : va_D A [] := by exact hD.sub [] (by decide +kernel) rfl
    exact W.zret (v := 0) hx hb hr (by first | exact k_nb0 | exact k_nb1 | exact k_nbI _ | simp) (fun t9 ht9 hW9 => ⟨⟨0, (), rfl, hr9, by rw [ht9]; exact hP9, va_K.moved hW9.alike hK, hD9⟩, hS.F ht9⟩) hS.2.2 dX13_isDigit_17
  · skip
    refine lv_iload_n hx hb dX13_isDigit_6 rfl (lv_at hl 0 rfl) ?_
    refine lv_bipush (v := 57) hx hb dX13_isDigit_7 (by decide) ?_
    refine lv_icmp_gt (tgt := 16) hx hb dX13_isDigit_9 (by decide) (fun c_9 => ?_) (fun c_9 => ?_)
    · skip
      refine lv_iconst (v := 0) hx hb dX13_isDigit_16 (by decide) ?_
      have hr9 : 0 = (bI (isD p0)) := by first | (rw [show isD p0 = true from decide_eq_true ⟨Int32.not_lt.mp c_3, Int32.not_lt.mp c_9⟩]; rfl) | (rw [show isD p0 = false from decide_eq_false (fun h => absurd h.1 (Int32.not_le.mpr c_3))]; rfl) | (rw [show isD p0 = false from decide_eq_false (fun h => absurd h.2 (Int32.not_le.mpr c_9))]; rfl)
      have hP9 : va_P D CLS [] s9.heap := by exact kSub hP [] rfl
      have hD9 : va_D A [] := by exact hD.sub [] (by decide +kernel) rfl
      exact W.zret (v := 0) hx hb hr (by first | exact k_nb0 | exact k_nb1 | exact k_nbI _ | simp) (fun t9 ht9 hW9 => ⟨⟨0, (), rfl, hr9, by rw [ht9]; exact hP9, va_K.moved hW9.alike hK, hD9⟩, hS.F ht9⟩) hS.2.2 dX13_isDigit_17
    · skip
      refine lv_iconst (v := 1) hx hb dX13_isDigit_12 (by decide) ?_
      refine lv_goto (tgt := 17) hx hb dX13_isDigit_13 (by decide) ?_
      have hr9 : 1 = (bI (isD p0)) := by first | (rw [show isD p0 = true from decide_eq_true ⟨Int32.not_lt.mp c_3, Int32.not_lt.mp c_9⟩]; rfl) | (rw [show isD p0 = false from decide_eq_false (fun h => absurd h.1 (Int32.not_le.mpr c_3))]; rfl) | (rw [show isD p0 = false from decide_eq_false (fun h => absurd h.2 (Int32.not_le.mpr c_9))]; rfl)
      have hP9 : va_P D CLS [] s9.heap := by exact kSub hP [] rfl
      have hD9 : va_D A [] := by exact hD.sub [] (by decide +kernel) rfl
      exact W.zret (v := 1) hx hb hr (by first | exact k_nb0 | exact k_nb1 | exact k_nbI _ | simp) (fun t9 ht9 hW9 => ⟨⟨1, (), rfl, hr9, by rw [ht9]; exact hP9, va_K.moved hW9.alike hK, hD9⟩, hS.F ht9⟩) hS.2.2 dX13_isDigit_17
theorem dX13_byteAt_0 : decode cX13_byteAt 0 = .ok (.iload_n 1, 1) := by decide +kernel
theorem dX13_byteAt_1 : decode cX13_byteAt 1 = .ok (.aload_n 0, 1) := by decide +kernel
theorem dX13_byteAt_2 : decode cX13_byteAt 2 = .ok (.getfield 53, 3) := by decide +kernel
theorem dX13_byteAt_5 : decode cX13_byteAt 5 = .ok (.if_icmp .ge 12, 3) := by decide +kernel
theorem dX13_byteAt_8 : decode cX13_byteAt 8 = .ok (.aload_n 0, 1) := by decide +kernel
theorem dX13_byteAt_9 : decode cX13_byteAt 9 = .ok (.getfield 9, 3) := by decide +kernel
theorem dX13_byteAt_12 : decode cX13_byteAt 12 = .ok (.iload_n 1, 1) := by decide +kernel
theorem dX13_byteAt_13 : decode cX13_byteAt 13 = .ok (.iaload, 1) := by decide +kernel
theorem dX13_byteAt_14 : decode cX13_byteAt 14 = .ok (.goto 4, 3) := by decide +kernel
theorem dX13_byteAt_17 : decode cX13_byteAt 17 = .ok (.iconst (-1), 1) := by decide +kernel
theorem dX13_byteAt_18 : decode cX13_byteAt 18 = .ok (.ireturn, 1) := by decide +kernel
set_option maxHeartbeats 4000000 in
set_option maxRecDepth 100000 in
/-- Model.byteAt -/
theorem c_X13_byteAt (l9 : Launch) (z : Nat → Nat) (D : va_G) (g : Nat → ClassId) (mo : Nat) (ma : Nat → Nat) (th : Int32) (tl : Nat) (ea : Int32) (tk : Int32) (dp : Int32) (sh : Nat) (wk : Int32) (sn : Nat) (tf : Nat → Int32) (k : Nat) (htl : tl ≤ 2000) (hk : k < 100000) (sz : Nat) : Met l9 yX13_byteAt (WS yX13_byteAt cX13_byteAt 2 (some .int)) ({ frames := 0, cells := 0, slots := 0, locals := 0 }) (va_Pc [.ref mo, .int (nI k)] (kPre z D g [(mo, .inr (11, [.int th, .ref (ma 1), .int (nI tl), .int ea, .int tk, .int dp, .ref sh, .ref (ma 2), .ref (ma 3), .ref (ma 4), .int wk, .ref sn])), (ma 1, .inl (g 0, 2000, .inl tf))] sz)) (va_Qi (fun (r9 : Int32) (u9 : Unit) => r9 = fB tf tl k) (kB D g (va_A [(mo, .inr (11, [.int th, .ref (ma 1), .int (nI tl), .int ea, .int tk, .int dp, .ref sh, .ref (ma 2), .ref (ma 3), .ref (ma 4), .int wk, .ref sn])), (ma 1, .inl (g 0, 2000, .inl tf))] sz) (fun (u9 : Unit) => [(mo, .inr (11, [.int th, .ref (ma 1), .int (nI tl), .int ea, .int tk, .int dp, .ref sh, .ref (ma 2), .ref (ma 3), .ref (ma 4), .int wk, .ref sn])), (ma 1, .inl (g 0, 2000, .inl tf))])) (va_A [(mo, .inr (11, [.int th, .ref (ma 1), .int (nI tl), .int ea, .int tk, .int dp, .ref sh, .ref (ma 2), .ref (ma 3), .ref (ma 4), .int wk, .ref sn])), (ma 1, .inl (g 0, 2000, .inl tf))] sz)) 0 0 (va_A [(mo, .inr (11, [.int th, .ref (ma 1), .int (nI tl), .int ea, .int tk, .int dp, .ref sh, .ref (ma 2), .ref (ma 3), .ref (ma 4), .int wk, .ref sn])), (ma 1, .inl (g 0, 2000, .inl tf))] sz) := by
  refine Met.ofW (cc := cX13_byteAt) (maxL := 2) (ret := (some .int)) (by decide) rfl ?_
  intro p9 e9 s9 m9 args9 below9 meth9 c9 s₁ B hml hv
  obtain ⟨rfl, hsz, hP, hK, hD0, hZ⟩ := hv
  have hx := B.exec
  have hb := B.bytes
  have hr := B.returns
  have hts := ws_sub (atoms_spec (ws := WS yX13_byteAt cX13_byteAt 2 (some .int)) B.pre)
  have hown : s9.vm.findClass RX13 = some m9.cls := findClass_of_methodNamed B.named
  have hlocks := B.notSynchronized
  subst hsz
  have hD := hD0.self (sz := s9.heap.size)
  generalize hAe : va_A [(mo, .inr (11, [.int th, .ref (ma 1), .int (nI tl), .int ea, .int tk, .int dp, .ref sh, .ref (ma 2), .ref (ma 3), .ref (ma 4), .int wk, .ref sn])), (ma 1, .inl (g 0, 2000, .inl tf))] s9.heap.size = A at hD hZ ⊢
  have hA : ∀ q : Nat, s9.heap.size ≤ q → A q := fun q h => by rw [← hAe]; exact Or.inr h
  have hS : va_S A s9.heap s9.heap [] := va_S.rf
  have hP : va_P D CLS [(mo, .inr (11, [.int th, .ref (ma 1), .int (nI tl), .int ea, .int tk, .int dp, .ref sh, .ref (ma 2), .ref (ma 3), .ref (ma 4), .int wk, .ref sn])), (ma 1, .inl (g 0, 2000, .inl tf))] s9.heap := hP
  have hl := lv_entry ([.ref mo, .int (nI k)]) (n := 2) (Nat.le_of_ble_eq_true rfl)
  rw [lg_entry_eq]
  generalize (lg_sl ([.ref mo, .int (nI k)]) ++ List.replicate (2 - (lg_sl ([.ref mo, .int (nI k)])).length) Slot.unset).toArray = ls at hl ⊢
  have hl : lv_has ls 2 [(0, .ref mo), (1, .int (nI k))] := hl
  change W p9 l9 e9 ({ frames := 0, cells := 0, slots := 0, locals := 0 } : Room) s9 m9 _ below9 meth9 c9 _ _ _ _ _ _
  refine lv_iload_n hx hb dX13_byteAt_0 rfl (lv_at hl 1 rfl) ?_
  refine lv_aload_n hx hb dX13_byteAt_1 rfl (lv_at hl 0 rfl) ?_
  refine va_get (D := D) (ci := 11) (v := .int (nI tl)) (C := RX13) (T := TX13) (N := 12) hx hb hts in_X13 hown hK hP 0 rfl rfl 2 (by decide) (hts _ w_1393) (fun _ h9 => h9) rfl dX13_byteAt_2 ?_
  refine lv_icmp_ge (tgt := 17) hx hb dX13_byteAt_5 (by decide) (fun c_5 => ?_) (fun c_5 => ?_)
  · skip
    have c_5 : tl ≤ k := (nI_leI (a := tl) (b := k) (by omega) (by omega)).mp c_5
    refine lv_iconst (v := (-1)) hx hb dX13_byteAt_17 (by decide) ?_
    have hr9 : (-1) = (fB tf tl k) := by first | exact (fB_lt (by omega)).symm | exact (fB_ge (by omega)).symm
    have hP9 : va_P D CLS [(mo, .inr (11, [.int th, .ref (ma 1), .int (nI tl), .int ea, .int tk, .int dp, .ref sh, .ref (ma 2), .ref (ma 3), .ref (ma 4), .int wk, .ref sn])), (ma 1, .inl (g 0, 2000, .inl tf))] s9.heap := by exact kSub hP [0, 1] rfl
    have hD9 : va_D A [(mo, .inr (11, [.int th, .ref (ma 1), .int (nI tl), .int ea, .int tk, .int dp, .ref sh, .ref (ma 2), .ref (ma 3), .ref (ma 4), .int wk, .ref sn])), (ma 1, .inl (g 0, 2000, .inl tf))] := by exact hD.sub [0, 1] (by decide +kernel) rfl
    exact W.iret (v := (-1)) hx hb hr (fun t9 ht9 hW9 => ⟨⟨(-1), (), rfl, hr9, by rw [ht9]; exact hP9, va_K.moved hW9.alike hK, hD9⟩, hS.F ht9⟩) hS.2.2 dX13_byteAt_18
  · skip
    have c_5 : ¬ tl ≤ k := fun h => c_5 ((nI_leI (a := tl) (b := k) (by omega) (by omega)).mpr h)
    refine lv_aload_n hx hb dX13_byteAt_8 rfl (lv_at hl 0 rfl) ?_
    refine va_get (D := D) (ci := 11) (v := .ref (ma 1)) (C := RX13) (T := TX13) (N := 12) hx hb hts in_X13 hown hK hP 0 rfl rfl 1 (by decide) (hts _ w_1392) (fun _ h9 => h9) rfl dX13_byteAt_9 ?_
    refine lv_iload_n hx hb dX13_byteAt_12 rfl (lv_at hl 1 rfl) ?_
    refine k_ialdN hx hb hK hP 1 0 rfl rfl (by omega) (by first | decide | omega) dX13_byteAt_13 ?_
    refine lv_goto (tgt := 18) hx hb dX13_byteAt_14 (by decide) ?_
    have hr9 : (tf k) = (fB tf tl k) := by first | exact (fB_lt (by omega)).symm | exact (fB_ge (by omega)).symm
    have hP9 : va_P D CLS [(mo, .inr (11, [.int th, .ref (ma 1), .int (nI tl), .int ea, .int tk, .int dp, .ref sh, .ref (ma 2), .ref (ma 3), .ref (ma 4), .int wk, .ref sn])), (ma 1, .inl (g 0, 2000, .inl tf))] s9.heap := by exact kSub hP [0, 1] rfl
    have hD9 : va_D A [(mo, .inr (11, [.int th, .ref (ma 1), .int (nI tl), .int ea, .int tk, .int dp, .ref sh, .ref (ma 2), .ref (ma 3), .ref (ma 4), .int wk, .ref sn])), (ma 1, .inl (g 0, 2000, .inl tf))] := by exact hD.sub [0, 1] (by decide +kernel) rfl
    exact W.iret (v := tf k) hx hb hr (fun t9 ht9 hW9 => ⟨⟨tf k, (), rfl, hr9, by rw [ht9]; exact hP9, va_K.moved hW9.alike hK, hD9⟩, hS.F ht9⟩) hS.2.2 dX13_byteAt_18
theorem dX13_lengthAt_0 : decode cX13_lengthAt 0 = .ok (.aload_n 0, 1) := by decide +kernel
theorem dX13_lengthAt_1 : decode cX13_lengthAt 1 = .ok (.iload_n 1, 1) := by decide +kernel
theorem dX13_lengthAt_2 : decode cX13_lengthAt 2 = .ok (.invokevirtual 56, 3) := by decide +kernel
theorem dX13_lengthAt_5 : decode cX13_lengthAt 5 = .ok (.istore_n 2, 1) := by decide +kernel
theorem dX13_lengthAt_6 : decode cX13_lengthAt 6 = .ok (.iload_n 1, 1) := by decide +kernel
theorem dX13_lengthAt_7 : decode cX13_lengthAt 7 = .ok (.iconst 1, 1) := by decide +kernel
theorem dX13_lengthAt_8 : decode cX13_lengthAt 8 = .ok (.iadd, 1) := by decide +kernel
theorem dX13_lengthAt_9 : decode cX13_lengthAt 9 = .ok (.istore_n 3, 1) := by decide +kernel
theorem dX13_lengthAt_10 : decode cX13_lengthAt 10 = .ok (.iload_n 2, 1) := by decide +kernel
theorem dX13_lengthAt_11 : decode cX13_lengthAt 11 = .ok (.invokestatic 60, 3) := by decide +kernel
theorem dX13_lengthAt_14 : decode cX13_lengthAt 14 = .ok (.ifCond .ne 10, 3) := by decide +kernel
theorem dX13_lengthAt_17 : decode cX13_lengthAt 17 = .ok (.iload_n 2, 1) := by decide +kernel
theorem dX13_lengthAt_18 : decode cX13_lengthAt 18 = .ok (.invokestatic 64, 3) := by decide +kernel
theorem dX13_lengthAt_21 : decode cX13_lengthAt 21 = .ok (.ifCond .eq 38, 3) := by decide +kernel
theorem dX13_lengthAt_24 : decode cX13_lengthAt 24 = .ok (.aload_n 0, 1) := by decide +kernel
theorem dX13_lengthAt_25 : decode cX13_lengthAt 25 = .ok (.iload_n 3, 1) := by decide +kernel
theorem dX13_lengthAt_26 : decode cX13_lengthAt 26 = .ok (.invokevirtual 56, 3) := by decide +kernel
theorem dX13_lengthAt_29 : decode cX13_lengthAt 29 = .ok (.invokestatic 64, 3) := by decide +kernel
theorem dX13_lengthAt_32 : decode cX13_lengthAt 32 = .ok (.ifCond .ne 21, 3) := by decide +kernel
theorem dX13_lengthAt_35 : decode cX13_lengthAt 35 = .ok (.iload_n 2, 1) := by decide +kernel
theorem dX13_lengthAt_36 : decode cX13_lengthAt 36 = .ok (.invokestatic 60, 3) := by decide +kernel
theorem dX13_lengthAt_39 : decode cX13_lengthAt 39 = .ok (.ifCond .eq 45, 3) := by decide +kernel
theorem dX13_lengthAt_42 : decode cX13_lengthAt 42 = .ok (.aload_n 0, 1) := by decide +kernel
theorem dX13_lengthAt_43 : decode cX13_lengthAt 43 = .ok (.iload_n 3, 1) := by decide +kernel
theorem dX13_lengthAt_44 : decode cX13_lengthAt 44 = .ok (.invokevirtual 56, 3) := by decide +kernel
theorem dX13_lengthAt_47 : decode cX13_lengthAt 47 = .ok (.invokestatic 60, 3) := by decide +kernel
theorem dX13_lengthAt_50 : decode cX13_lengthAt 50 = .ok (.ifCond .eq 34, 3) := by decide +kernel
theorem dX13_lengthAt_53 : decode cX13_lengthAt 53 = .ok (.iinc 3 1, 3) := by decide +kernel
theorem dX13_lengthAt_56 : decode cX13_lengthAt 56 = .ok (.goto (-32), 3) := by decide +kernel
theorem dX13_lengthAt_59 : decode cX13_lengthAt 59 = .ok (.iload_n 2, 1) := by decide +kernel
theorem dX13_lengthAt_60 : decode cX13_lengthAt 60 = .ok (.bipush 60, 2) := by decide +kernel
theorem dX13_lengthAt_62 : decode cX13_lengthAt 62 = .ok (.if_icmp .eq 9, 3) := by decide +kernel
theorem dX13_lengthAt_65 : decode cX13_lengthAt 65 = .ok (.iload_n 2, 1) := by decide +kernel
theorem dX13_lengthAt_66 : decode cX13_lengthAt 66 = .ok (.bipush 62, 2) := by decide +kernel
theorem dX13_lengthAt_68 : decode cX13_lengthAt 68 = .ok (.if_icmp .ne 16, 3) := by decide +kernel
theorem dX13_lengthAt_71 : decode cX13_lengthAt 71 = .ok (.aload_n 0, 1) := by decide +kernel
theorem dX13_lengthAt_72 : decode cX13_lengthAt 72 = .ok (.iload_n 3, 1) := by decide +kernel
theorem dX13_lengthAt_73 : decode cX13_lengthAt 73 = .ok (.invokevirtual 56, 3) := by decide +kernel
theorem dX13_lengthAt_76 : decode cX13_lengthAt 76 = .ok (.bipush 61, 2) := by decide +kernel
theorem dX13_lengthAt_78 : decode cX13_lengthAt 78 = .ok (.if_icmp .ne 6, 3) := by decide +kernel
theorem dX13_lengthAt_81 : decode cX13_lengthAt 81 = .ok (.iinc 3 1, 3) := by decide +kernel
theorem dX13_lengthAt_84 : decode cX13_lengthAt 84 = .ok (.iload_n 3, 1) := by decide +kernel
theorem dX13_lengthAt_85 : decode cX13_lengthAt 85 = .ok (.iload_n 1, 1) := by decide +kernel
theorem dX13_lengthAt_86 : decode cX13_lengthAt 86 = .ok (.isub, 1) := by decide +kernel
theorem dX13_lengthAt_87 : decode cX13_lengthAt 87 = .ok (.ireturn, 1) := by decide +kernel
set_option maxHeartbeats 4000000 in
set_option maxRecDepth 100000 in
/-- Model.lengthAt -/
theorem c_X13_lengthAt (l9 : Launch) (z : Nat → Nat) (D : va_G) (g : Nat → ClassId) (mo : Nat) (ma : Nat → Nat) (th : Int32) (tl : Nat) (ea : Int32) (tk : Int32) (dp : Int32) (sh : Nat) (wk : Int32) (sn : Nat) (tf : Nat → Int32) (p : Nat) (htl : tl ≤ 2000) (hp : p ≤ tl) (sz : Nat) : Met l9 yX13_lengthAt (WS yX13_lengthAt cX13_lengthAt 4 (some .int)) ({ frames := 1, cells := 0, slots := 0, locals := 21 }) (va_Pc [.ref mo, .int (nI p)] (kPre z D g [(mo, .inr (11, [.int th, .ref (ma 1), .int (nI tl), .int ea, .int tk, .int dp, .ref sh, .ref (ma 2), .ref (ma 3), .ref (ma 4), .int wk, .ref sn])), (ma 1, .inl (g 0, 2000, .inl tf))] sz)) (va_Qi (fun (r9 : Int32) (u9 : Unit) => r9 = nI (rln tf tl p)) (kB D g (va_A [(mo, .inr (11, [.int th, .ref (ma 1), .int (nI tl), .int ea, .int tk, .int dp, .ref sh, .ref (ma 2), .ref (ma 3), .ref (ma 4), .int wk, .ref sn])), (ma 1, .inl (g 0, 2000, .inl tf))] sz) (fun (u9 : Unit) => [(mo, .inr (11, [.int th, .ref (ma 1), .int (nI tl), .int ea, .int tk, .int dp, .ref sh, .ref (ma 2), .ref (ma 3), .ref (ma 4), .int wk, .ref sn])), (ma 1, .inl (g 0, 2000, .inl tf))])) (va_A [(mo, .inr (11, [.int th, .ref (ma 1), .int (nI tl), .int ea, .int tk, .int dp, .ref sh, .ref (ma 2), .ref (ma 3), .ref (ma 4), .int wk, .ref sn])), (ma 1, .inl (g 0, 2000, .inl tf))] sz)) 0 0 (va_A [(mo, .inr (11, [.int th, .ref (ma 1), .int (nI tl), .int ea, .int tk, .int dp, .ref sh, .ref (ma 2), .ref (ma 3), .ref (ma 4), .int wk, .ref sn])), (ma 1, .inl (g 0, 2000, .inl tf))] sz) := by
  refine Met.ofW (cc := cX13_lengthAt) (maxL := 4) (ret := (some .int)) (by decide) rfl ?_
  intro p9 e9 s9 m9 args9 below9 meth9 c9 s₁ B hml hv
  obtain ⟨rfl, hsz, hP, hK, hD0, hZ⟩ := hv
  have hx := B.exec
  have hb := B.bytes
  have hr := B.returns
  have hts := ws_sub (atoms_spec (ws := WS yX13_lengthAt cX13_lengthAt 4 (some .int)) B.pre)
  have hown : s9.vm.findClass RX13 = some m9.cls := findClass_of_methodNamed B.named
  have hlocks := B.notSynchronized
  subst hsz
  have hD := hD0.self (sz := s9.heap.size)
  generalize hAe : va_A [(mo, .inr (11, [.int th, .ref (ma 1), .int (nI tl), .int ea, .int tk, .int dp, .ref sh, .ref (ma 2), .ref (ma 3), .ref (ma 4), .int wk, .ref sn])), (ma 1, .inl (g 0, 2000, .inl tf))] s9.heap.size = A at hD hZ ⊢
  have hA : ∀ q : Nat, s9.heap.size ≤ q → A q := fun q h => by rw [← hAe]; exact Or.inr h
  have hS : va_S A s9.heap s9.heap [] := va_S.rf
  have hP : va_P D CLS [(mo, .inr (11, [.int th, .ref (ma 1), .int (nI tl), .int ea, .int tk, .int dp, .ref sh, .ref (ma 2), .ref (ma 3), .ref (ma 4), .int wk, .ref sn])), (ma 1, .inl (g 0, 2000, .inl tf))] s9.heap := hP
  have hl := lv_entry ([.ref mo, .int (nI p)]) (n := 4) (Nat.le_of_ble_eq_true rfl)
  rw [lg_entry_eq]
  generalize (lg_sl ([.ref mo, .int (nI p)]) ++ List.replicate (4 - (lg_sl ([.ref mo, .int (nI p)])).length) Slot.unset).toArray = ls at hl ⊢
  have hl : lv_has ls 4 [(0, .ref mo), (1, .int (nI p))] := hl
  change W p9 l9 e9 ({ frames := 1, cells := 0, slots := 0, locals := 21 } : Room) s9 m9 _ below9 meth9 c9 _ _ _ _ _ _
  refine lv_aload_n hx hb dX13_lengthAt_0 rfl (lv_at hl 0 rfl) ?_
  refine lv_iload_n hx hb dX13_lengthAt_1 rfl (lv_at hl 1 rfl) ?_
  refine k_i hA hP hD hS [] (va_runV (As := [.int (nI p)]) (rest := []) ⟨hx, hb, hml, hown, hts⟩ (c_X13_byteAt l9 z D g mo ma th tl ea tk dp sh wk sn tf p (by first | assumption | decide | omega) (by first | assumption | decide | omega) (Array.size s9.heap)) (cwV 1 hts gv_X13_56 rfl rfl rfl (by decide +kernel) ⟨Nat.le_of_ble_eq_true rfl, Nat.le_of_ble_eq_true rfl⟩) ⟨kBlind, va_recv hK hP (ci := 11) (q0 := 0) rfl rfl, kPre.pc hK hZ hA hP hD hS [0, 1] rfl (by decide +kernel)⟩ rfl rfl hl.1 rfl (lv_room (Nat.le_of_ble_eq_true rfl)) dX13_lengthAt_2 ⟨Nat.le_of_ble_eq_true rfl, Nat.le_of_ble_eq_true rfl⟩) [0, 1] [] rfl rfl rfl rfl (fun r_2 u_1 H locs hw_2 hP7 hD7 hS7 => ?_)
  clear hP hD hS
  have hP := hP7
  have hD := hD7
  have hS := hS7
  clear hP7 hD7 hS7
  obtain rfl := hw_2
  replace hP : va_P D CLS [(mo, .inr (11, [.int th, .ref (ma 1), .int (nI tl), .int ea, .int tk, .int dp, .ref sh, .ref (ma 2), .ref (ma 3), .ref (ma 4), .int wk, .ref sn])), (ma 1, .inl (g 0, 2000, .inl tf))] H := hP
  replace hD : va_D A [(mo, .inr (11, [.int th, .ref (ma 1), .int (nI tl), .int ea, .int tk, .int dp, .ref sh, .ref (ma 2), .ref (ma 3), .ref (ma 4), .int wk, .ref sn])), (ma 1, .inl (g 0, 2000, .inl tf))] := hD
  refine lv_istore_n (lv' := [(2, .int (fB tf tl p)), (0, .ref mo), (1, .int (nI p))]) hx hb dX13_lengthAt_5 rfl hl (by decide) rfl (fun ls hl => ?_)
  refine lv_iload_n hx hb dX13_lengthAt_6 rfl (lv_at hl 2 rfl) ?_
  refine lv_iconst (v := 1) hx hb dX13_lengthAt_7 (by decide) ?_
  refine k_inc hx hb dX13_lengthAt_8 ?_
  refine lv_istore_n (lv' := [(3, .int (nI (p + 1))), (2, .int (fB tf tl p)), (0, .ref mo), (1, .int (nI p))]) hx hb dX13_lengthAt_9 rfl hl (by decide) rfl (fun ls hl => ?_)
  refine lv_iload_n hx hb dX13_lengthAt_10 rfl (lv_at hl 1 rfl) ?_
  refine k_i hA hP hD hS [(mo, .inr (11, [.int th, .ref (ma 1), .int (nI tl), .int ea, .int tk, .int dp, .ref sh, .ref (ma 2), .ref (ma 3), .ref (ma 4), .int wk, .ref sn])), (ma 1, .inl (g 0, 2000, .inl tf))] (va_runS (As := [.int (fB tf tl p)]) (rest := []) ⟨hx, hb, hml, hown, hts⟩ (c_X13_isLetter l9 z D g (fB tf tl p)  (Array.size H)) (va_cwS 1 hts gs_X13_60 rfl rfl rfl (by decide +kernel) ⟨Nat.le_of_ble_eq_true rfl, Nat.le_of_ble_eq_true rfl⟩) ⟨kBlind, kPre.pc hK hZ hA hP hD hS [] rfl (by decide +kernel)⟩ rfl rfl hl.1 rfl (lv_room (Nat.le_of_ble_eq_true rfl)) dX13_lengthAt_11 ⟨Nat.le_of_ble_eq_true rfl, Nat.le_of_ble_eq_true rfl⟩) [] [0, 1] rfl rfl rfl rfl (fun r_11 u_2 H locs hw_11 hP7 hD7 hS7 => ?_)
  clear hP hD hS
  have hP := hP7
  have hD := hD7
  have hS := hS7
  clear hP7 hD7 hS7
  obtain rfl := hw_11
  replace hP : va_P D CLS [(mo, .inr (11, [.int th, .ref (ma 1), .int (nI tl), .int ea, .int tk, .int dp, .ref sh, .ref (ma 2), .ref (ma 3), .ref (ma 4), .int wk, .ref sn])), (ma 1, .inl (g 0, 2000, .inl tf))] H := hP
  replace hD : va_D A [(mo, .inr (11, [.int th, .ref (ma 1), .int (nI tl), .int ea, .int tk, .int dp, .ref sh, .ref (ma 2), .ref (ma 3), .ref (ma 4), .int wk, .ref sn])), (ma 1, .inl (g 0, 2000, .inl tf))] := hD
  refine lv_if_ne (tgt := 24) hx hb dX13_lengthAt_14 (by decide) (fun c_14 => ?_) (fun c_14 => ?_)
  · skip
    have c_14 := bI_1.mp c_14
    have loop_24 : ∀ (n9 : Nat) (i : Nat) (l : Bool), n9 > tl + 1 - i → (i ≤ tl) → (p < i) → (p < tl) → (isL (fB tf tl p) = l) → (l = true ∨ isD (fB tf tl p) = true) → (rwe tf tl l i = rwe tf tl l (p + 1)) → ∀ (H : Heap) (locs : List Loc), va_P D CLS [(mo, .inr (11, [.int th, .ref (ma 1), .int (nI tl), .int ea, .int tk, .int dp, .ref sh, .ref (ma 2), .ref (ma 3), .ref (ma 4), .int wk, .ref sn])), (ma 1, .inl (g 0, 2000, .inl tf))] H → va_D A [(mo, .inr (11, [.int th, .ref (ma 1), .int (nI tl), .int ea, .int tk, .int dp, .ref sh, .ref (ma 2), .ref (ma 3), .ref (ma 4), .int wk, .ref sn])), (ma 1, .inl (g 0, 2000, .inl tf))] → va_S A s9.heap H locs → ∀ (ls : Array Slot), lv_has ls 4 [(0, .ref mo), (1, .int (nI p)), (2, .int (fB tf tl p)), (3, .int (nI i))] → W p9 l9 e9 ({ frames := 1, cells := 0, slots := 0, locals := 21 } : Room) s9 m9 ([.ref mo, .int (nI p)] : List Value).toArray below9 meth9 c9 H locs 0 0 (MQ below9 (va_Qi (fun (r9 : Int32) (u9 : Unit) => r9 = nI (rln tf tl p)) (kB D g A (fun (u9 : Unit) => [(mo, .inr (11, [.int th, .ref (ma 1), .int (nI tl), .int ea, .int tk, .int dp, .ref sh, .ref (ma 2), .ref (ma 3), .ref (ma 4), .int wk, .ref sn])), (ma 1, .inl (g 0, 2000, .inl tf))])) A) ([.ref mo, .int (nI p)] : List Value).toArray s9 0 0 A) (F0 m9 24 ls []) := by
      intro n9
      induction n9 with
      | zero => intro i l hm9; exact absurd hm9 (by omega)
      | succ n9 ih_24 =>
        intro i l hm9 hi hpi hpl hb9 hd9 hs H locs hP hD hS ls hl
        refine lv_aload_n hx hb dX13_lengthAt_24 rfl (lv_at hl 0 rfl) ?_
        refine lv_iload_n hx hb dX13_lengthAt_25 rfl (lv_at hl 3 rfl) ?_
        refine k_i hA hP hD hS [] (va_runV (As := [.int (nI i)]) (rest := []) ⟨hx, hb, hml, hown, hts⟩ (c_X13_byteAt l9 z D g mo ma th tl ea tk dp sh wk sn tf i (by first | assumption | decide | omega) (by first | assumption | decide | omega) (Array.size H)) (cwV 1 hts gv_X13_56 rfl rfl rfl (by decide +kernel) ⟨Nat.le_of_ble_eq_true rfl, Nat.le_of_ble_eq_true rfl⟩) ⟨kBlind, va_recv hK hP (ci := 11) (q0 := 0) rfl rfl, kPre.pc hK hZ hA hP hD hS [0, 1] rfl (by decide +kernel)⟩ rfl rfl hl.1 rfl (lv_room (Nat.le_of_ble_eq_true rfl)) dX13_lengthAt_26 ⟨Nat.le_of_ble_eq_true rfl, Nat.le_of_ble_eq_true rfl⟩) [0, 1] [] rfl rfl rfl rfl (fun r_26 u_3 H locs hw_26 hP7 hD7 hS7 => ?_)
        clear hP hD hS
        have hP := hP7
        have hD := hD7
        have hS := hS7
        clear hP7 hD7 hS7
        obtain rfl := hw_26
        replace hP : va_P D CLS [(mo, .inr (11, [.int th, .ref (ma 1), .int (nI tl), .int ea, .int tk, .int dp, .ref sh, .ref (ma 2), .ref (ma 3), .ref (ma 4), .int wk, .ref sn])), (ma 1, .inl (g 0, 2000, .inl tf))] H := hP
        replace hD : va_D A [(mo, .inr (11, [.int th, .ref (ma 1), .int (nI tl), .int ea, .int tk, .int dp, .ref sh, .ref (ma 2), .ref (ma 3), .ref (ma 4), .int wk, .ref sn])), (ma 1, .inl (g 0, 2000, .inl tf))] := hD
        refine k_i hA hP hD hS [(mo, .inr (11, [.int th, .ref (ma 1), .int (nI tl), .int ea, .int tk, .int dp, .ref sh, .ref (ma 2), .ref (ma 3), .ref (ma 4), .int wk, .ref sn])), (ma 1, .inl (g 0, 2000, .inl tf))] (va_runS (As := [.int (fB tf tl i)]) (rest := []) ⟨hx, hb, hml, hown, hts⟩ (c_X13_isDigit l9 z D g (fB tf tl i)  (Array.size H)) (va_cwS 1 hts gs_X13_64 rfl rfl rfl (by decide +kernel) ⟨Nat.le_of_ble_eq_true rfl, Nat.le_of_ble_eq_true rfl⟩) ⟨kBlind, kPre.pc hK hZ hA hP hD hS [] rfl (by decide +kernel)⟩ rfl rfl hl.1 rfl (lv_room (Nat.le_of_ble_eq_true rfl)) dX13_lengthAt_29 ⟨Nat.le_of_ble_eq_true rfl, Nat.le_of_ble_eq_true rfl⟩) [] [0, 1] rfl rfl rfl rfl (fun r_29 u_4 H locs hw_29 hP7 hD7 hS7 => ?_)
        clear hP hD hS
        have hP := hP7
        have hD := hD7
        have hS := hS7
        clear hP7 hD7 hS7
        obtain rfl := hw_29
        replace hP : va_P D CLS [(mo, .inr (11, [.int th, .ref (ma 1), .int (nI tl), .int ea, .int tk, .int dp, .ref sh, .ref (ma 2), .ref (ma 3), .ref (ma 4), .int wk, .ref sn])), (ma 1, .inl (g 0, 2000, .inl tf))] H := hP
        replace hD : va_D A [(mo, .inr (11, [.int th, .ref (ma 1), .int (nI tl), .int ea, .int tk, .int dp, .ref sh, .ref (ma 2), .ref (ma 3), .ref (ma 4), .int wk, .ref sn])), (ma 1, .inl (g 0, 2000, .inl tf))] := hD
        refine lv_if_ne (tgt := 53) hx hb dX13_lengthAt_32 (by decide) (fun c_32 => ?_) (fun c_32 => ?_)
        · skip
          have c_32 := bI_1.mp c_32
          refine lv_iinc (v := nI (i + 1)) (lv' := [(3, .int (nI (i + 1))), (0, .ref mo), (1, .int (nI p)), (2, .int (fB tf tl p))]) hx hb dX13_lengthAt_53 hl (k := 3) rfl (nI_1 i) (by decide) rfl (fun ls hl => ?_)
          refine lv_goto (tgt := 24) hx hb dX13_lengthAt_56 (by decide) ?_
          exact ih_24  (i + 1) l (by omega) (by first | (have := fB_D c_32; omega) | (have := fB_L c_50; omega)) (by omega) hpl hb9 hd9 (by rw [← hs]; first | exact (rwe_go (fB_D c_32) (by rw [c_32]; rfl)).symm | exact (rwe_go (fB_L c_50) (by rw [← hb9, c_39, c_50, c_32]; rfl)).symm) _ _ (kSub hP [0, 1] rfl) (hD.sub [0, 1] (by decide +kernel) rfl) hS ls (lv_sub hl [1, 2, 3, 0] rfl)
        · skip
          have c_32 := bI_0.mp c_32
          refine lv_iload_n hx hb dX13_lengthAt_35 rfl (lv_at hl 2 rfl) ?_
          refine k_i hA hP hD hS [(mo, .inr (11, [.int th, .ref (ma 1), .int (nI tl), .int ea, .int tk, .int dp, .ref sh, .ref (ma 2), .ref (ma 3), .ref (ma 4), .int wk, .ref sn])), (ma 1, .inl (g 0, 2000, .inl tf))] (va_runS (As := [.int (fB tf tl p)]) (rest := []) ⟨hx, hb, hml, hown, hts⟩ (c_X13_isLetter l9 z D g (fB tf tl p)  (Array.size H)) (va_cwS 1 hts gs_X13_60 rfl rfl rfl (by decide +kernel) ⟨Nat.le_of_ble_eq_true rfl, Nat.le_of_ble_eq_true rfl⟩) ⟨kBlind, kPre.pc hK hZ hA hP hD hS [] rfl (by decide +kernel)⟩ rfl rfl hl.1 rfl (lv_room (Nat.le_of_ble_eq_true rfl)) dX13_lengthAt_36 ⟨Nat.le_of_ble_eq_true rfl, Nat.le_of_ble_eq_true rfl⟩) [] [0, 1] rfl rfl rfl rfl (fun r_36 u_5 H locs hw_36 hP7 hD7 hS7 => ?_)
          clear hP hD hS
          have hP := hP7
          have hD := hD7
          have hS := hS7
          clear hP7 hD7 hS7
          obtain rfl := hw_36
          replace hP : va_P D CLS [(mo, .inr (11, [.int th, .ref (ma 1), .int (nI tl), .int ea, .int tk, .int dp, .ref sh, .ref (ma 2), .ref (ma 3), .ref (ma 4), .int wk, .ref sn])), (ma 1, .inl (g 0, 2000, .inl tf))] H := hP
          replace hD : va_D A [(mo, .inr (11, [.int th, .ref (ma 1), .int (nI tl), .int ea, .int tk, .int dp, .ref sh, .ref (ma 2), .ref (ma 3), .ref (ma 4), .int wk, .ref sn])), (ma 1, .inl (g 0, 2000, .inl tf))] := hD
          refine lv_if_eq (tgt := 84) hx hb dX13_lengthAt_39 (by decide) (fun c_39 => ?_) (fun c_39 => ?_)
          · skip
            have c_39 := bI_0.mp c_39
            refine lv_iload_n hx hb dX13_lengthAt_84 rfl (lv_at hl 3 rfl) ?_
            refine lv_iload_n hx hb dX13_lengthAt_85 rfl (lv_at hl 1 rfl) ?_
            refine lv_isub hx hb dX13_lengthAt_86 ?_
            refine k_topi (show ((nI i) - (nI p)) = (nI (i - p)) from pk_sub (by omega)) ?_
            have hr9 : (nI (i - p)) = (nI (rln tf tl p)) := by first | exact congrArg nI (rln_l hpl hb9 hd9 hs (rwe_stop c_32 (Or.inl (hb9.symm.trans c_39)))) | exact congrArg nI (rln_l hpl hb9 hd9 hs (rwe_stop c_32 (Or.inr c_50))) | (rw [rln_0 c_14 c_21 (Or.inl ⟨c_62, c_68⟩), show p + 1 - p = 1 by omega]; done) | (rw [rln_0 c_14 c_21 (Or.inr c_78), show p + 1 - p = 1 by omega]; done) | (rw [rln_2 c_14 c_21 (Or.inl c_62) c_78, show p + 1 + 1 - p = 2 by omega]; done) | (rw [rln_2 c_14 c_21 (Or.inr c_68) c_78, show p + 1 + 1 - p = 2 by omega]; done)
            have hP9 : va_P D CLS [(mo, .inr (11, [.int th, .ref (ma 1), .int (nI tl), .int ea, .int tk, .int dp, .ref sh, .ref (ma 2), .ref (ma 3), .ref (ma 4), .int wk, .ref sn])), (ma 1, .inl (g 0, 2000, .inl tf))] H := by exact kSub hP [0, 1] rfl
            have hD9 : va_D A [(mo, .inr (11, [.int th, .ref (ma 1), .int (nI tl), .int ea, .int tk, .int dp, .ref sh, .ref (ma 2), .ref (ma 3), .ref (ma 4), .int wk, .ref sn])), (ma 1, .inl (g 0, 2000, .inl tf))] := by exact hD.sub [0, 1] (by decide +kernel) rfl
            exact W.iret (v := nI (i - p)) hx hb hr (fun t9 ht9 hW9 => ⟨⟨nI (i - p), (), rfl, hr9, by rw [ht9]; exact hP9, va_K.moved hW9.alike hK, hD9⟩, hS.F ht9⟩) hS.2.2 dX13_lengthAt_87
          · skip
            have c_39 := bI_1.mp c_39
            refine lv_aload_n hx hb dX13_lengthAt_42 rfl (lv_at hl 0 rfl) ?_
            refine lv_iload_n hx hb dX13_lengthAt_43 rfl (lv_at hl 3 rfl) ?_
            refine k_i hA hP hD hS [] (va_runV (As := [.int (nI i)]) (rest := []) ⟨hx, hb, hml, hown, hts⟩ (c_X13_byteAt l9 z D g mo ma th tl ea tk dp sh wk sn tf i (by first | assumption | decide | omega) (by first | assumption | decide | omega) (Array.size H)) (cwV 1 hts gv_X13_56 rfl rfl rfl (by decide +kernel) ⟨Nat.le_of_ble_eq_true rfl, Nat.le_of_ble_eq_true rfl⟩) ⟨kBlind, va_recv hK hP (ci := 11) (q0 := 0) rfl rfl, kPre.pc hK hZ hA hP hD hS [0, 1] rfl (by decide +kernel)⟩ rfl rfl hl.1 rfl (lv_room (Nat.le_of_ble_eq_true rfl)) dX13_lengthAt_44 ⟨Nat.le_of_ble_eq_true rfl, Nat.le_of_ble_eq_true rfl⟩) [0, 1] [] rfl rfl rfl rfl (fun r_44 u_6 H locs hw_44 hP7 hD7 hS7 => ?_)
            clear hP hD hS
            have hP := hP7
            have hD := hD7
            have hS := hS7
            clear hP7 hD7 hS7
            obtain rfl := hw_44
            replace hP : va_P D CLS [(mo, .inr (11, [.int th, .ref (ma 1), .int (nI tl), .int ea, .int tk, .int dp, .ref sh, .ref (ma 2), .ref (ma 3), .ref (ma 4), .int wk, .ref sn])), (ma 1, .inl (g 0, 2000, .inl tf))] H := hP
            replace hD : va_D A [(mo, .inr (11, [.int th, .ref (ma 1), .int (nI tl), .int ea, .int tk, .int dp, .ref sh, .ref (ma 2), .ref (ma 3), .ref (ma 4), .int wk, .ref sn])), (ma 1, .inl (g 0, 2000, .inl tf))] := hD
            refine k_i hA hP hD hS [(mo, .inr (11, [.int th, .ref (ma 1), .int (nI tl), .int ea, .int tk, .int dp, .ref sh, .ref (ma 2), .ref (ma 3), .ref (ma 4), .int wk, .ref sn])), (ma 1, .inl (g 0, 2000, .inl tf))] (va_runS (As := [.int (fB tf tl i)]) (rest := []) ⟨hx, hb, hml, hown, hts⟩ (c_X13_isLetter l9 z D g (fB tf tl i)  (Array.size H)) (va_cwS 1 hts gs_X13_60 rfl rfl rfl (by decide +kernel) ⟨Nat.le_of_ble_eq_true rfl, Nat.le_of_ble_eq_true rfl⟩) ⟨kBlind, kPre.pc hK hZ hA hP hD hS [] rfl (by decide +kernel)⟩ rfl rfl hl.1 rfl (lv_room (Nat.le_of_ble_eq_true rfl)) dX13_lengthAt_47 ⟨Nat.le_of_ble_eq_true rfl, Nat.le_of_ble_eq_true rfl⟩) [] [0, 1] rfl rfl rfl rfl (fun r_47 u_7 H locs hw_47 hP7 hD7 hS7 => ?_)
            clear hP hD hS
            have hP := hP7
            have hD := hD7
            have hS := hS7
            clear hP7 hD7 hS7
            obtain rfl := hw_47
            replace hP : va_P D CLS [(mo, .inr (11, [.int th, .ref (ma 1), .int (nI tl), .int ea, .int tk, .int dp, .ref sh, .ref (ma 2), .ref (ma 3), .ref (ma 4), .int wk, .ref sn])), (ma 1, .inl (g 0, 2000, .inl tf))] H := hP
            replace hD : va_D A [(mo, .inr (11, [.int th, .ref (ma 1), .int (nI tl), .int ea, .int tk, .int dp, .ref sh, .ref (ma 2), .ref (ma 3), .ref (ma 4), .int wk, .ref sn])), (ma 1, .inl (g 0, 2000, .inl tf))] := hD
            refine lv_if_eq (tgt := 84) hx hb dX13_lengthAt_50 (by decide) (fun c_50 => ?_) (fun c_50 => ?_)
            · skip
              have c_50 := bI_0.mp c_50
              refine lv_iload_n hx hb dX13_lengthAt_84 rfl (lv_at hl 3 rfl) ?_
              refine lv_iload_n hx hb dX13_lengthAt_85 rfl (lv_at hl 1 rfl) ?_
              refine lv_isub hx hb dX13_lengthAt_86 ?_
              refine k_topi (show ((nI i) - (nI p)) = (nI (i - p)) from pk_sub (by omega)) ?_
              have hr9 : (nI (i - p)) = (nI (rln tf tl p)) := by first | exact congrArg nI (rln_l hpl hb9 hd9 hs (rwe_stop c_32 (Or.inl (hb9.symm.trans c_39)))) | exact congrArg nI (rln_l hpl hb9 hd9 hs (rwe_stop c_32 (Or.inr c_50))) | (rw [rln_0 c_14 c_21 (Or.inl ⟨c_62, c_68⟩), show p + 1 - p = 1 by omega]; done) | (rw [rln_0 c_14 c_21 (Or.inr c_78), show p + 1 - p = 1 by omega]; done) | (rw [rln_2 c_14 c_21 (Or.inl c_62) c_78, show p + 1 + 1 - p = 2 by omega]; done) | (rw [rln_2 c_14 c_21 (Or.inr c_68) c_78, show p + 1 + 1 - p = 2 by omega]; done)
              have hP9 : va_P D CLS [(mo, .inr (11, [.int th, .ref (ma 1), .int (nI tl), .int ea, .int tk, .int dp, .ref sh, .ref (ma 2), .ref (ma 3), .ref (ma 4), .int wk, .ref sn])), (ma 1, .inl (g 0, 2000, .inl tf))] H := by exact kSub hP [0, 1] rfl
              have hD9 : va_D A [(mo, .inr (11, [.int th, .ref (ma 1), .int (nI tl), .int ea, .int tk, .int dp, .ref sh, .ref (ma 2), .ref (ma 3), .ref (ma 4), .int wk, .ref sn])), (ma 1, .inl (g 0, 2000, .inl tf))] := by exact hD.sub [0, 1] (by decide +kernel) rfl
              exact W.iret (v := nI (i - p)) hx hb hr (fun t9 ht9 hW9 => ⟨⟨nI (i - p), (), rfl, hr9, by rw [ht9]; exact hP9, va_K.moved hW9.alike hK, hD9⟩, hS.F ht9⟩) hS.2.2 dX13_lengthAt_87
            · skip
              have c_50 := bI_1.mp c_50
              refine lv_iinc (v := nI (i + 1)) (lv' := [(3, .int (nI (i + 1))), (0, .ref mo), (1, .int (nI p)), (2, .int (fB tf tl p))]) hx hb dX13_lengthAt_53 hl (k := 3) rfl (nI_1 i) (by decide) rfl (fun ls hl => ?_)
              refine lv_goto (tgt := 24) hx hb dX13_lengthAt_56 (by decide) ?_
              exact ih_24  (i + 1) l (by omega) (by first | (have := fB_D c_32; omega) | (have := fB_L c_50; omega)) (by omega) hpl hb9 hd9 (by rw [← hs]; first | exact (rwe_go (fB_D c_32) (by rw [c_32]; rfl)).symm | exact (rwe_go (fB_L c_50) (by rw [← hb9, c_39, c_50, c_32]; rfl)).symm) _ _ (kSub hP [0, 1] rfl) (hD.sub [0, 1] (by decide +kernel) rfl) hS ls (lv_sub hl [1, 2, 3, 0] rfl)
    exact loop_24 (tl + 1 - (p + 1) + 1) (p + 1) true (by omega) (by first | (have := fB_L c_14; omega) | (have := fB_D c_21; omega)) (by omega) (by first | exact fB_L c_14 | exact fB_D c_21) (by first | exact c_14) (by first | exact Or.inr c_21 | exact Or.inl rfl) rfl _ _ (kSub hP [0, 1] rfl) (hD.sub [0, 1] (by decide +kernel) rfl) hS ls (lv_sub hl [2, 3, 1, 0] rfl)
  · skip
    have c_14 := bI_0.mp c_14
    refine lv_iload_n hx hb dX13_lengthAt_17 rfl (lv_at hl 1 rfl) ?_
    refine k_i hA hP hD hS [(mo, .inr (11, [.int th, .ref (ma 1), .int (nI tl), .int ea, .int tk, .int dp, .ref sh, .ref (ma 2), .ref (ma 3), .ref (ma 4), .int wk, .ref sn])), (ma 1, .inl (g 0, 2000, .inl tf))] (va_runS (As := [.int (fB tf tl p)]) (rest := []) ⟨hx, hb, hml, hown, hts⟩ (c_X13_isDigit l9 z D g (fB tf tl p)  (Array.size H)) (va_cwS 1 hts gs_X13_64 rfl rfl rfl (by decide +kernel) ⟨Nat.le_of_ble_eq_true rfl, Nat.le_of_ble_eq_true rfl⟩) ⟨kBlind, kPre.pc hK hZ hA hP hD hS [] rfl (by decide +kernel)⟩ rfl rfl hl.1 rfl (lv_room (Nat.le_of_ble_eq_true rfl)) dX13_lengthAt_18 ⟨Nat.le_of_ble_eq_true rfl, Nat.le_of_ble_eq_true rfl⟩) [] [0, 1] rfl rfl rfl rfl (fun r_18 u_8 H locs hw_18 hP7 hD7 hS7 => ?_)
    clear hP hD hS
    have hP := hP7
    have hD := hD7
    have hS := hS7
    clear hP7 hD7 hS7
    obtain rfl := hw_18
    replace hP : va_P D CLS [(mo, .inr (11, [.int th, .ref (ma 1), .int (nI tl), .int ea, .int tk, .int dp, .ref sh, .ref (ma 2), .ref (ma 3), .ref (ma 4), .int wk, .ref sn])), (ma 1, .inl (g 0, 2000, .inl tf))] H := hP
    replace hD : va_D A [(mo, .inr (11, [.int th, .ref (ma 1), .int (nI tl), .int ea, .int tk, .int dp, .ref sh, .ref (ma 2), .ref (ma 3), .ref (ma 4), .int wk, .ref sn])), (ma 1, .inl (g 0, 2000, .inl tf))] := hD
    refine lv_if_eq (tgt := 59) hx hb dX13_lengthAt_21 (by decide) (fun c_21 => ?_) (fun c_21 => ?_)
    · skip
      have c_21 := bI_0.mp c_21
      refine lv_iload_n hx hb dX13_lengthAt_59 rfl (lv_at hl 1 rfl) ?_
      refine lv_bipush (v := 60) hx hb dX13_lengthAt_60 (by decide) ?_
      refine lv_icmp_eq (tgt := 71) hx hb dX13_lengthAt_62 (by decide) (fun c_62 => ?_) (fun c_62 => ?_)
      · skip
        refine lv_aload_n hx hb dX13_lengthAt_71 rfl (lv_at hl 2 rfl) ?_
        refine lv_iload_n hx hb dX13_lengthAt_72 rfl (lv_at hl 0 rfl) ?_
        refine k_i hA hP hD hS [] (va_runV (As := [.int (nI (p + 1))]) (rest := []) ⟨hx, hb, hml, hown, hts⟩ (c_X13_byteAt l9 z D g mo ma th tl ea tk dp sh wk sn tf (p + 1) (by first | assumption | decide | omega) (by first | assumption | decide | omega) (Array.size H)) (cwV 1 hts gv_X13_56 rfl rfl rfl (by decide +kernel) ⟨Nat.le_of_ble_eq_true rfl, Nat.le_of_ble_eq_true rfl⟩) ⟨kBlind, va_recv hK hP (ci := 11) (q0 := 0) rfl rfl, kPre.pc hK hZ hA hP hD hS [0, 1] rfl (by decide +kernel)⟩ rfl rfl hl.1 rfl (lv_room (Nat.le_of_ble_eq_true rfl)) dX13_lengthAt_73 ⟨Nat.le_of_ble_eq_true rfl, Nat.le_of_ble_eq_true rfl⟩) [0, 1] [] rfl rfl rfl rfl (fun r_73 u_9 H locs hw_73 hP7 hD7 hS7 => ?_)
        clear hP hD hS
        have hP := hP7
        have hD := hD7
        have hS := hS7
        clear hP7 hD7 hS7
        obtain rfl := hw_73
        replace hP : va_P D CLS [(mo, .inr (11, [.int th, .ref (ma 1), .int (nI tl), .int ea, .int tk, .int dp, .ref sh, .ref (ma 2), .ref (ma 3), .ref (ma 4), .int wk, .ref sn])), (ma 1, .inl (g 0, 2000, .inl tf))] H := hP
        replace hD : va_D A [(mo, .inr (11, [.int th, .ref (ma 1), .int (nI tl), .int ea, .int tk, .int dp, .ref sh, .ref (ma 2), .ref (ma 3), .ref (ma 4), .int wk, .ref sn])), (ma 1, .inl (g 0, 2000, .inl tf))] := hD
        refine lv_bipush (v := 61) hx hb dX13_lengthAt_76 (by decide) ?_
        refine lv_icmp_ne (tgt := 84) hx hb dX13_lengthAt_78 (by decide) (fun c_78 => ?_) (fun c_78 => ?_)
        · skip
          refine lv_iload_n hx hb dX13_lengthAt_84 rfl (lv_at hl 0 rfl) ?_
          refine lv_iload_n hx hb dX13_lengthAt_85 rfl (lv_at hl 3 rfl) ?_
          refine lv_isub hx hb dX13_lengthAt_86 ?_
          refine k_topi (show ((nI (p + 1)) - (nI p)) = (nI (p + 1 - p)) from pk_sub (by omega)) ?_
          have hr9 : (nI (p + 1 - p)) = (nI (rln tf tl p)) := by first | exact congrArg nI (rln_l hpl hb9 hd9 hs (rwe_stop c_32 (Or.inl (hb9.symm.trans c_39)))) | exact congrArg nI (rln_l hpl hb9 hd9 hs (rwe_stop c_32 (Or.inr c_50))) | (rw [rln_0 c_14 c_21 (Or.inl ⟨c_62, c_68⟩), show p + 1 - p = 1 by omega]; done) | (rw [rln_0 c_14 c_21 (Or.inr c_78), show p + 1 - p = 1 by omega]; done) | (rw [rln_2 c_14 c_21 (Or.inl c_62) c_78, show p + 1 + 1 - p = 2 by omega]; done) | (rw [rln_2 c_14 c_21 (Or.inr c_68) c_78, show p + 1 + 1 - p = 2 by omega]; done)
          have hP9 : va_P D CLS [(mo, .inr (11, [.int th, .ref (ma 1), .int (nI tl), .int ea, .int tk, .int dp, .ref sh, .ref (ma 2), .ref (ma 3), .ref (ma 4), .int wk, .ref sn])), (ma 1, .inl (g 0, 2000, .inl tf))] H := by exact kSub hP [0, 1] rfl
          have hD9 : va_D A [(mo, .inr (11, [.int th, .ref (ma 1), .int (nI tl), .int ea, .int tk, .int dp, .ref sh, .ref (ma 2), .ref (ma 3), .ref (ma 4), .int wk, .ref sn])), (ma 1, .inl (g 0, 2000, .inl tf))] := by exact hD.sub [0, 1] (by decide +kernel) rfl
          exact W.iret (v := nI (p + 1 - p)) hx hb hr (fun t9 ht9 hW9 => ⟨⟨nI (p + 1 - p), (), rfl, hr9, by rw [ht9]; exact hP9, va_K.moved hW9.alike hK, hD9⟩, hS.F ht9⟩) hS.2.2 dX13_lengthAt_87
        · skip
          refine lv_iinc (v := nI ((p + 1) + 1)) (lv' := [(3, .int (nI ((p + 1) + 1))), (2, .int (fB tf tl p)), (0, .ref mo), (1, .int (nI p))]) hx hb dX13_lengthAt_81 hl (k := 0) rfl (nI_1 (p + 1)) (by decide) rfl (fun ls hl => ?_)
          refine lv_iload_n hx hb dX13_lengthAt_84 rfl (lv_at hl 0 rfl) ?_
          refine lv_iload_n hx hb dX13_lengthAt_85 rfl (lv_at hl 3 rfl) ?_
          refine lv_isub hx hb dX13_lengthAt_86 ?_
          refine k_topi (show ((nI ((p + 1) + 1)) - (nI p)) = (nI ((p + 1) + 1 - p)) from pk_sub (by omega)) ?_
          have hr9 : (nI ((p + 1) + 1 - p)) = (nI (rln tf tl p)) := by first | exact congrArg nI (rln_l hpl hb9 hd9 hs (rwe_stop c_32 (Or.inl (hb9.symm.trans c_39)))) | exact congrArg nI (rln_l hpl hb9 hd9 hs (rwe_stop c_32 (Or.inr c_50))) | (rw [rln_0 c_14 c_21 (Or.inl ⟨c_62, c_68⟩), show p + 1 - p = 1 by omega]; done) | (rw [rln_0 c_14 c_21 (Or.inr c_78), show p + 1 - p = 1 by omega]; done) | (rw [rln_2 c_14 c_21 (Or.inl c_62) c_78, show p + 1 + 1 - p = 2 by omega]; done) | (rw [rln_2 c_14 c_21 (Or.inr c_68) c_78, show p + 1 + 1 - p = 2 by omega]; done)
          have hP9 : va_P D CLS [(mo, .inr (11, [.int th, .ref (ma 1), .int (nI tl), .int ea, .int tk, .int dp, .ref sh, .ref (ma 2), .ref (ma 3), .ref (ma 4), .int wk, .ref sn])), (ma 1, .inl (g 0, 2000, .inl tf))] H := by exact kSub hP [0, 1] rfl
          have hD9 : va_D A [(mo, .inr (11, [.int th, .ref (ma 1), .int (nI tl), .int ea, .int tk, .int dp, .ref sh, .ref (ma 2), .ref (ma 3), .ref (ma 4), .int wk, .ref sn])), (ma 1, .inl (g 0, 2000, .inl tf))] := by exact hD.sub [0, 1] (by decide +kernel) rfl
          exact W.iret (v := nI ((p + 1) + 1 - p)) hx hb hr (fun t9 ht9 hW9 => ⟨⟨nI ((p + 1) + 1 - p), (), rfl, hr9, by rw [ht9]; exact hP9, va_K.moved hW9.alike hK, hD9⟩, hS.F ht9⟩) hS.2.2 dX13_lengthAt_87
      · skip
        refine lv_iload_n hx hb dX13_lengthAt_65 rfl (lv_at hl 1 rfl) ?_
        refine lv_bipush (v := 62) hx hb dX13_lengthAt_66 (by decide) ?_
        refine lv_icmp_ne (tgt := 84) hx hb dX13_lengthAt_68 (by decide) (fun c_68 => ?_) (fun c_68 => ?_)
        · skip
          refine lv_iload_n hx hb dX13_lengthAt_84 rfl (lv_at hl 0 rfl) ?_
          refine lv_iload_n hx hb dX13_lengthAt_85 rfl (lv_at hl 3 rfl) ?_
          refine lv_isub hx hb dX13_lengthAt_86 ?_
          refine k_topi (show ((nI (p + 1)) - (nI p)) = (nI (p + 1 - p)) from pk_sub (by omega)) ?_
          have hr9 : (nI (p + 1 - p)) = (nI (rln tf tl p)) := by first | exact congrArg nI (rln_l hpl hb9 hd9 hs (rwe_stop c_32 (Or.inl (hb9.symm.trans c_39)))) | exact congrArg nI (rln_l hpl hb9 hd9 hs (rwe_stop c_32 (Or.inr c_50))) | (rw [rln_0 c_14 c_21 (Or.inl ⟨c_62, c_68⟩), show p + 1 - p = 1 by omega]; done) | (rw [rln_0 c_14 c_21 (Or.inr c_78), show p + 1 - p = 1 by omega]; done) | (rw [rln_2 c_14 c_21 (Or.inl c_62) c_78, show p + 1 + 1 - p = 2 by omega]; done) | (rw [rln_2 c_14 c_21 (Or.inr c_68) c_78, show p + 1 + 1 - p = 2 by omega]; done)
          have hP9 : va_P D CLS [(mo, .inr (11, [.int th, .ref (ma 1), .int (nI tl), .int ea, .int tk, .int dp, .ref sh, .ref (ma 2), .ref (ma 3), .ref (ma 4), .int wk, .ref sn])), (ma 1, .inl (g 0, 2000, .inl tf))] H := by exact kSub hP [0, 1] rfl
          have hD9 : va_D A [(mo, .inr (11, [.int th, .ref (ma 1), .int (nI tl), .int ea, .int tk, .int dp, .ref sh, .ref (ma 2), .ref (ma 3), .ref (ma 4), .int wk, .ref sn])), (ma 1, .inl (g 0, 2000, .inl tf))] := by exact hD.sub [0, 1] (by decide +kernel) rfl
          exact W.iret (v := nI (p + 1 - p)) hx hb hr (fun t9 ht9 hW9 => ⟨⟨nI (p + 1 - p), (), rfl, hr9, by rw [ht9]; exact hP9, va_K.moved hW9.alike hK, hD9⟩, hS.F ht9⟩) hS.2.2 dX13_lengthAt_87
        · skip
          refine lv_aload_n hx hb dX13_lengthAt_71 rfl (lv_at hl 2 rfl) ?_
          refine lv_iload_n hx hb dX13_lengthAt_72 rfl (lv_at hl 0 rfl) ?_
          refine k_i hA hP hD hS [] (va_runV (As := [.int (nI (p + 1))]) (rest := []) ⟨hx, hb, hml, hown, hts⟩ (c_X13_byteAt l9 z D g mo ma th tl ea tk dp sh wk sn tf (p + 1) (by first | assumption | decide | omega) (by first | assumption | decide | omega) (Array.size H)) (cwV 1 hts gv_X13_56 rfl rfl rfl (by decide +kernel) ⟨Nat.le_of_ble_eq_true rfl, Nat.le_of_ble_eq_true rfl⟩) ⟨kBlind, va_recv hK hP (ci := 11) (q0 := 0) rfl rfl, kPre.pc hK hZ hA hP hD hS [0, 1] rfl (by decide +kernel)⟩ rfl rfl hl.1 rfl (lv_room (Nat.le_of_ble_eq_true rfl)) dX13_lengthAt_73 ⟨Nat.le_of_ble_eq_true rfl, Nat.le_of_ble_eq_true rfl⟩) [0, 1] [] rfl rfl rfl rfl (fun r_73 u_10 H locs hw_73 hP7 hD7 hS7 => ?_)
          clear hP hD hS
          have hP := hP7
          have hD := hD7
          have hS := hS7
          clear hP7 hD7 hS7
          obtain rfl := hw_73
          replace hP : va_P D CLS [(mo, .inr (11, [.int th, .ref (ma 1), .int (nI tl), .int ea, .int tk, .int dp, .ref sh, .ref (ma 2), .ref (ma 3), .ref (ma 4), .int wk, .ref sn])), (ma 1, .inl (g 0, 2000, .inl tf))] H := hP
          replace hD : va_D A [(mo, .inr (11, [.int th, .ref (ma 1), .int (nI tl), .int ea, .int tk, .int dp, .ref sh, .ref (ma 2), .ref (ma 3), .ref (ma 4), .int wk, .ref sn])), (ma 1, .inl (g 0, 2000, .inl tf))] := hD
          refine lv_bipush (v := 61) hx hb dX13_lengthAt_76 (by decide) ?_
          refine lv_icmp_ne (tgt := 84) hx hb dX13_lengthAt_78 (by decide) (fun c_78 => ?_) (fun c_78 => ?_)
          · skip
            refine lv_iload_n hx hb dX13_lengthAt_84 rfl (lv_at hl 0 rfl) ?_
            refine lv_iload_n hx hb dX13_lengthAt_85 rfl (lv_at hl 3 rfl) ?_
            refine lv_isub hx hb dX13_lengthAt_86 ?_
            refine k_topi (show ((nI (p + 1)) - (nI p)) = (nI (p + 1 - p)) from pk_sub (by omega)) ?_
            have hr9 : (nI (p + 1 - p)) = (nI (rln tf tl p)) := by first | exact congrArg nI (rln_l hpl hb9 hd9 hs (rwe_stop c_32 (Or.inl (hb9.symm.trans c_39)))) | exact congrArg nI (rln_l hpl hb9 hd9 hs (rwe_stop c_32 (Or.inr c_50))) | (rw [rln_0 c_14 c_21 (Or.inl ⟨c_62, c_68⟩), show p + 1 - p = 1 by omega]; done) | (rw [rln_0 c_14 c_21 (Or.inr c_78), show p + 1 - p = 1 by omega]; done) | (rw [rln_2 c_14 c_21 (Or.inl c_62) c_78, show p + 1 + 1 - p = 2 by omega]; done) | (rw [rln_2 c_14 c_21 (Or.inr c_68) c_78, show p + 1 + 1 - p = 2 by omega]; done)
            have hP9 : va_P D CLS [(mo, .inr (11, [.int th, .ref (ma 1), .int (nI tl), .int ea, .int tk, .int dp, .ref sh, .ref (ma 2), .ref (ma 3), .ref (ma 4), .int wk, .ref sn])), (ma 1, .inl (g 0, 2000, .inl tf))] H := by exact kSub hP [0, 1] rfl
            have hD9 : va_D A [(mo, .inr (11, [.int th, .ref (ma 1), .int (nI tl), .int ea, .int tk, .int dp, .ref sh, .ref (ma 2), .ref (ma 3), .ref (ma 4), .int wk, .ref sn])), (ma 1, .inl (g 0, 2000, .inl tf))] := by exact hD.sub [0, 1] (by decide +kernel) rfl
            exact W.iret (v := nI (p + 1 - p)) hx hb hr (fun t9 ht9 hW9 => ⟨⟨nI (p + 1 - p), (), rfl, hr9, by rw [ht9]; exact hP9, va_K.moved hW9.alike hK, hD9⟩, hS.F ht9⟩) hS.2.2 dX13_lengthAt_87
          · skip
            refine lv_iinc (v := nI ((p + 1) + 1)) (lv' := [(3, .int (nI ((p + 1) + 1))), (2, .int (fB tf tl p)), (0, .ref mo), (1, .int (nI p))]) hx hb dX13_lengthAt_81 hl (k := 0) rfl (nI_1 (p + 1)) (by decide) rfl (fun ls hl => ?_)
            refine lv_iload_n hx hb dX13_lengthAt_84 rfl (lv_at hl 0 rfl) ?_
            refine lv_iload_n hx hb dX13_lengthAt_85 rfl (lv_at hl 3 rfl) ?_
            refine lv_isub hx hb dX13_lengthAt_86 ?_
            refine k_topi (show ((nI ((p + 1) + 1)) - (nI p)) = (nI ((p + 1) + 1 - p)) from pk_sub (by omega)) ?_
            have hr9 : (nI ((p + 1) + 1 - p)) = (nI (rln tf tl p)) := by first | exact congrArg nI (rln_l hpl hb9 hd9 hs (rwe_stop c_32 (Or.inl (hb9.symm.trans c_39)))) | exact congrArg nI (rln_l hpl hb9 hd9 hs (rwe_stop c_32 (Or.inr c_50))) | (rw [rln_0 c_14 c_21 (Or.inl ⟨c_62, c_68⟩), show p + 1 - p = 1 by omega]; done) | (rw [rln_0 c_14 c_21 (Or.inr c_78), show p + 1 - p = 1 by omega]; done) | (rw [rln_2 c_14 c_21 (Or.inl c_62) c_78, show p + 1 + 1 - p = 2 by omega]; done) | (rw [rln_2 c_14 c_21 (Or.inr c_68) c_78, show p + 1 + 1 - p = 2 by omega]; done)
            have hP9 : va_P D CLS [(mo, .inr (11, [.int th, .ref (ma 1), .int (nI tl), .int ea, .int tk, .int dp, .ref sh, .ref (ma 2), .ref (ma 3), .ref (ma 4), .int wk, .ref sn])), (ma 1, .inl (g 0, 2000, .inl tf))] H := by exact kSub hP [0, 1] rfl
            have hD9 : va_D A [(mo, .inr (11, [.int th, .ref (ma 1), .int (nI tl), .int ea, .int tk, .int dp, .ref sh, .ref (ma 2), .ref (ma 3), .ref (ma 4), .int wk, .ref sn])), (ma 1, .inl (g 0, 2000, .inl tf))] := by exact hD.sub [0, 1] (by decide +kernel) rfl
            exact W.iret (v := nI ((p + 1) + 1 - p)) hx hb hr (fun t9 ht9 hW9 => ⟨⟨nI ((p + 1) + 1 - p), (), rfl, hr9, by rw [ht9]; exact hP9, va_K.moved hW9.alike hK, hD9⟩, hS.F ht9⟩) hS.2.2 dX13_lengthAt_87
    · skip
      have c_21 := bI_1.mp c_21
      have loop_24 : ∀ (n9 : Nat) (i : Nat) (l : Bool), n9 > tl + 1 - i → (i ≤ tl) → (p < i) → (p < tl) → (isL (fB tf tl p) = l) → (l = true ∨ isD (fB tf tl p) = true) → (rwe tf tl l i = rwe tf tl l (p + 1)) → ∀ (H : Heap) (locs : List Loc), va_P D CLS [(mo, .inr (11, [.int th, .ref (ma 1), .int (nI tl), .int ea, .int tk, .int dp, .ref sh, .ref (ma 2), .ref (ma 3), .ref (ma 4), .int wk, .ref sn])), (ma 1, .inl (g 0, 2000, .inl tf))] H → va_D A [(mo, .inr (11, [.int th, .ref (ma 1), .int (nI tl), .int ea, .int tk, .int dp, .ref sh, .ref (ma 2), .ref (ma 3), .ref (ma 4), .int wk, .ref sn])), (ma 1, .inl (g 0, 2000, .inl tf))] → va_S A s9.heap H locs → ∀ (ls : Array Slot), lv_has ls 4 [(0, .ref mo), (1, .int (nI p)), (2, .int (fB tf tl p)), (3, .int (nI i))] → W p9 l9 e9 ({ frames := 1, cells := 0, slots := 0, locals := 21 } : Room) s9 m9 ([.ref mo, .int (nI p)] : List Value).toArray below9 meth9 c9 H locs 0 0 (MQ below9 (va_Qi (fun (r9 : Int32) (u9 : Unit) => r9 = nI (rln tf tl p)) (kB D g A (fun (u9 : Unit) => [(mo, .inr (11, [.int th, .ref (ma 1), .int (nI tl), .int ea, .int tk, .int dp, .ref sh, .ref (ma 2), .ref (ma 3), .ref (ma 4), .int wk, .ref sn])), (ma 1, .inl (g 0, 2000, .inl tf))])) A) ([.ref mo, .int (nI p)] : List Value).toArray s9 0 0 A) (F0 m9 24 ls []) := by
        intro n9
        induction n9 with
        | zero => intro i l hm9; exact absurd hm9 (by omega)
        | succ n9 ih_24 =>
          intro i l hm9 hi hpi hpl hb9 hd9 hs H locs hP hD hS ls hl
          refine lv_aload_n hx hb dX13_lengthAt_24 rfl (lv_at hl 0 rfl) ?_
          refine lv_iload_n hx hb dX13_lengthAt_25 rfl (lv_at hl 3 rfl) ?_
          refine k_i hA hP hD hS [] (va_runV (As := [.int (nI i)]) (rest := []) ⟨hx, hb, hml, hown, hts⟩ (c_X13_byteAt l9 z D g mo ma th tl ea tk dp sh wk sn tf i (by first | assumption | decide | omega) (by first | assumption | decide | omega) (Array.size H)) (cwV 1 hts gv_X13_56 rfl rfl rfl (by decide +kernel) ⟨Nat.le_of_ble_eq_true rfl, Nat.le_of_ble_eq_true rfl⟩) ⟨kBlind, va_recv hK hP (ci := 11) (q0 := 0) rfl rfl, kPre.pc hK hZ hA hP hD hS [0, 1] rfl (by decide +kernel)⟩ rfl rfl hl.1 rfl (lv_room (Nat.le_of_ble_eq_true rfl)) dX13_lengthAt_26 ⟨Nat.le_of_ble_eq_true rfl, Nat.le_of_ble_eq_true rfl⟩) [0, 1] [] rfl rfl rfl rfl (fun r_26 u_11 H locs hw_26 hP7 hD7 hS7 => ?_)
          clear hP hD hS
          have hP := hP7
          have hD := hD7
          have hS := hS7
          clear hP7 hD7 hS7
          obtain rfl := hw_26
          replace hP : va_P D CLS [(mo, .inr (11, [.int th, .ref (ma 1), .int (nI tl), .int ea, .int tk, .int dp, .ref sh, .ref (ma 2), .ref (ma 3), .ref (ma 4), .int wk, .ref sn])), (ma 1, .inl (g 0, 2000, .inl tf))] H := hP
          replace hD : va_D A [(mo, .inr (11, [.int th, .ref (ma 1), .int (nI tl), .int ea, .int tk, .int dp, .ref sh, .ref (ma 2), .ref (ma 3), .ref (ma 4), .int wk, .ref sn])), (ma 1, .inl (g 0, 2000, .inl tf))] := hD
          refine k_i hA hP hD hS [(mo, .inr (11, [.int th, .ref (ma 1), .int (nI tl), .int ea, .int tk, .int dp, .ref sh, .ref (ma 2), .ref (ma 3), .ref (ma 4), .int wk, .ref sn])), (ma 1, .inl (g 0, 2000, .inl tf))] (va_runS (As := [.int (fB tf tl i)]) (rest := []) ⟨hx, hb, hml, hown, hts⟩ (c_X13_isDigit l9 z D g (fB tf tl i)  (Array.size H)) (va_cwS 1 hts gs_X13_64 rfl rfl rfl (by decide +kernel) ⟨Nat.le_of_ble_eq_true rfl, Nat.le_of_ble_eq_true rfl⟩) ⟨kBlind, kPre.pc hK hZ hA hP hD hS [] rfl (by decide +kernel)⟩ rfl rfl hl.1 rfl (lv_room (Nat.le_of_ble_eq_true rfl)) dX13_lengthAt_29 ⟨Nat.le_of_ble_eq_true rfl, Nat.le_of_ble_eq_true rfl⟩) [] [0, 1] rfl rfl rfl rfl (fun r_29 u_12 H locs hw_29 hP7 hD7 hS7 => ?_)
          clear hP hD hS
          have hP := hP7
          have hD := hD7
          have hS := hS7
          clear hP7 hD7 hS7
          obtain rfl := hw_29
          replace hP : va_P D CLS [(mo, .inr (11, [.int th, .ref (ma 1), .int (nI tl), .int ea, .int tk, .int dp, .ref sh, .ref (ma 2), .ref (ma 3), .ref (ma 4), .int wk, .ref sn])), (ma 1, .inl (g 0, 2000, .inl tf))] H := hP
          replace hD : va_D A [(mo, .inr (11, [.int th, .ref (ma 1), .int (nI tl), .int ea, .int tk, .int dp, .ref sh, .ref (ma 2), .ref (ma 3), .ref (ma 4), .int wk, .ref sn])), (ma 1, .inl (g 0, 2000, .inl tf))] := hD
          refine lv_if_ne (tgt := 53) hx hb dX13_lengthAt_32 (by decide) (fun c_32 => ?_) (fun c_32 => ?_)
          · skip
            have c_32 := bI_1.mp c_32
            refine lv_iinc (v := nI (i + 1)) (lv' := [(3, .int (nI (i + 1))), (0, .ref mo), (1, .int (nI p)), (2, .int (fB tf tl p))]) hx hb dX13_lengthAt_53 hl (k := 3) rfl (nI_1 i) (by decide) rfl (fun ls hl => ?_)
            refine lv_goto (tgt := 24) hx hb dX13_lengthAt_56 (by decide) ?_
            exact ih_24  (i + 1) l (by omega) (by first | (have := fB_D c_32; omega) | (have := fB_L c_50; omega)) (by omega) hpl hb9 hd9 (by rw [← hs]; first | exact (rwe_go (fB_D c_32) (by rw [c_32]; rfl)).symm | exact (rwe_go (fB_L c_50) (by rw [← hb9, c_39, c_50, c_32]; rfl)).symm) _ _ (kSub hP [0, 1] rfl) (hD.sub [0, 1] (by decide +kernel) rfl) hS ls (lv_sub hl [1, 2, 3, 0] rfl)
          · skip
            have c_32 := bI_0.mp c_32
            refine lv_iload_n hx hb dX13_lengthAt_35 rfl (lv_at hl 2 rfl) ?_
            refine k_i hA hP hD hS [(mo, .inr (11, [.int th, .ref (ma 1), .int (nI tl), .int ea, .int tk, .int dp, .ref sh, .ref (ma 2), .ref (ma 3), .ref (ma 4), .int wk, .ref sn])), (ma 1, .inl (g 0, 2000, .inl tf))] (va_runS (As := [.int (fB tf tl p)]) (rest := []) ⟨hx, hb, hml, hown, hts⟩ (c_X13_isLetter l9 z D g (fB tf tl p)  (Array.size H)) (va_cwS 1 hts gs_X13_60 rfl rfl rfl (by decide +kernel) ⟨Nat.le_of_ble_eq_true rfl, Nat.le_of_ble_eq_true rfl⟩) ⟨kBlind, kPre.pc hK hZ hA hP hD hS [] rfl (by decide +kernel)⟩ rfl rfl hl.1 rfl (lv_room (Nat.le_of_ble_eq_true rfl)) dX13_lengthAt_36 ⟨Nat.le_of_ble_eq_true rfl, Nat.le_of_ble_eq_true rfl⟩) [] [0, 1] rfl rfl rfl rfl (fun r_36 u_13 H locs hw_36 hP7 hD7 hS7 => ?_)
            clear hP hD hS
            have hP := hP7
            have hD := hD7
            have hS := hS7
            clear hP7 hD7 hS7
            obtain rfl := hw_36
            replace hP : va_P D CLS [(mo, .inr (11, [.int th, .ref (ma 1), .int (nI tl), .int ea, .int tk, .int dp, .ref sh, .ref (ma 2), .ref (ma 3), .ref (ma 4), .int wk, .ref sn])), (ma 1, .inl (g 0, 2000, .inl tf))] H := hP
            replace hD : va_D A [(mo, .inr (11, [.int th, .ref (ma 1), .int (nI tl), .int ea, .int tk, .int dp, .ref sh, .ref (ma 2), .ref (ma 3), .ref (ma 4), .int wk, .ref sn])), (ma 1, .inl (g 0, 2000, .inl tf))] := hD
            refine lv_if_eq (tgt := 84) hx hb dX13_lengthAt_39 (by decide) (fun c_39 => ?_) (fun c_39 => ?_)
            · skip
              have c_39 := bI_0.mp c_39
              refine lv_iload_n hx hb dX13_lengthAt_84 rfl (lv_at hl 3 rfl) ?_
              refine lv_iload_n hx hb dX13_lengthAt_85 rfl (lv_at hl 1 rfl) ?_
              refine lv_isub hx hb dX13_lengthAt_86 ?_
              refine k_topi (show ((nI i) - (nI p)) = (nI (i - p)) from pk_sub (by omega)) ?_
              have hr9 : (nI (i - p)) = (nI (rln tf tl p)) := by first | exact congrArg nI (rln_l hpl hb9 hd9 hs (rwe_stop c_32 (Or.inl (hb9.symm.trans c_39)))) | exact congrArg nI (rln_l hpl hb9 hd9 hs (rwe_stop c_32 (Or.inr c_50))) | (rw [rln_0 c_14 c_21 (Or.inl ⟨c_62, c_68⟩), show p + 1 - p = 1 by omega]; done) | (rw [rln_0 c_14 c_21 (Or.inr c_78), show p + 1 - p = 1 by omega]; done) | (rw [rln_2 c_14 c_21 (Or.inl c_62) c_78, show p + 1 + 1 - p = 2 by omega]; done) | (rw [rln_2 c_14 c_21 (Or.inr c_68) c_78, show p + 1 + 1 - p = 2 by omega]; done)
              have hP9 : va_P D CLS [(mo, .inr (11, [.int th, .ref (ma 1), .int (nI tl), .int ea, .int tk, .int dp, .ref sh, .ref (ma 2), .ref (ma 3), .ref (ma 4), .int wk, .ref sn])), (ma 1, .inl (g 0, 2000, .inl tf))] H := by exact kSub hP [0, 1] rfl
              have hD9 : va_D A [(mo, .inr (11, [.int th, .ref (ma 1), .int (nI tl), .int ea, .int tk, .int dp, .ref sh, .ref (ma 2), .ref (ma 3), .ref (ma 4), .int wk, .ref sn])), (ma 1, .inl (g 0, 2000, .inl tf))] := by exact hD.sub [0, 1] (by decide +kernel) rfl
              exact W.iret (v := nI (i - p)) hx hb hr (fun t9 ht9 hW9 => ⟨⟨nI (i - p), (), rfl, hr9, by rw [ht9]; exact hP9, va_K.moved hW9.alike hK, hD9⟩, hS.F ht9⟩) hS.2.2 dX13_lengthAt_87
            · skip
              have c_39 := bI_1.mp c_39
              refine lv_aload_n hx hb dX13_lengthAt_42 rfl (lv_at hl 0 rfl) ?_
              refine lv_iload_n hx hb dX13_lengthAt_43 rfl (lv_at hl 3 rfl) ?_
              refine k_i hA hP hD hS [] (va_runV (As := [.int (nI i)]) (rest := []) ⟨hx, hb, hml, hown, hts⟩ (c_X13_byteAt l9 z D g mo ma th tl ea tk dp sh wk sn tf i (by first | assumption | decide | omega) (by first | assumption | decide | omega) (Array.size H)) (cwV 1 hts gv_X13_56 rfl rfl rfl (by decide +kernel) ⟨Nat.le_of_ble_eq_true rfl, Nat.le_of_ble_eq_true rfl⟩) ⟨kBlind, va_recv hK hP (ci := 11) (q0 := 0) rfl rfl, kPre.pc hK hZ hA hP hD hS [0, 1] rfl (by decide +kernel)⟩ rfl rfl hl.1 rfl (lv_room (Nat.le_of_ble_eq_true rfl)) dX13_lengthAt_44 ⟨Nat.le_of_ble_eq_true rfl, Nat.le_of_ble_eq_true rfl⟩) [0, 1] [] rfl rfl rfl rfl (fun r_44 u_14 H locs hw_44 hP7 hD7 hS7 => ?_)
              clear hP hD hS
              have hP := hP7
              have hD := hD7
              have hS := hS7
              clear hP7 hD7 hS7
              obtain rfl := hw_44
              replace hP : va_P D CLS [(mo, .inr (11, [.int th, .ref (ma 1), .int (nI tl), .int ea, .int tk, .int dp, .ref sh, .ref (ma 2), .ref (ma 3), .ref (ma 4), .int wk, .ref sn])), (ma 1, .inl (g 0, 2000, .inl tf))] H := hP
              replace hD : va_D A [(mo, .inr (11, [.int th, .ref (ma 1), .int (nI tl), .int ea, .int tk, .int dp, .ref sh, .ref (ma 2), .ref (ma 3), .ref (ma 4), .int wk, .ref sn])), (ma 1, .inl (g 0, 2000, .inl tf))] := hD
              refine k_i hA hP hD hS [(mo, .inr (11, [.int th, .ref (ma 1), .int (nI tl), .int ea, .int tk, .int dp, .ref sh, .ref (ma 2), .ref (ma 3), .ref (ma 4), .int wk, .ref sn])), (ma 1, .inl (g 0, 2000, .inl tf))] (va_runS (As := [.int (fB tf tl i)]) (rest := []) ⟨hx, hb, hml, hown, hts⟩ (c_X13_isLetter l9 z D g (fB tf tl i)  (Array.size H)) (va_cwS 1 hts gs_X13_60 rfl rfl rfl (by decide +kernel) ⟨Nat.le_of_ble_eq_true rfl, Nat.le_of_ble_eq_true rfl⟩) ⟨kBlind, kPre.pc hK hZ hA hP hD hS [] rfl (by decide +kernel)⟩ rfl rfl hl.1 rfl (lv_room (Nat.le_of_ble_eq_true rfl)) dX13_lengthAt_47 ⟨Nat.le_of_ble_eq_true rfl, Nat.le_of_ble_eq_true rfl⟩) [] [0, 1] rfl rfl rfl rfl (fun r_47 u_15 H locs hw_47 hP7 hD7 hS7 => ?_)
              clear hP hD hS
              have hP := hP7
              have hD := hD7
              have hS := hS7
              clear hP7 hD7 hS7
              obtain rfl := hw_47
              replace hP : va_P D CLS [(mo, .inr (11, [.int th, .ref (ma 1), .int (nI tl), .int ea, .int tk, .int dp, .ref sh, .ref (ma 2), .ref (ma 3), .ref (ma 4), .int wk, .ref sn])), (ma 1, .inl (g 0, 2000, .inl tf))] H := hP
              replace hD : va_D A [(mo, .inr (11, [.int th, .ref (ma 1), .int (nI tl), .int ea, .int tk, .int dp, .ref sh, .ref (ma 2), .ref (ma 3), .ref (ma 4), .int wk, .ref sn])), (ma 1, .inl (g 0, 2000, .inl tf))] := hD
              refine lv_if_eq (tgt := 84) hx hb dX13_lengthAt_50 (by decide) (fun c_50 => ?_) (fun c_50 => ?_)
              · skip
                have c_50 := bI_0.mp c_50
                refine lv_iload_n hx hb dX13_lengthAt_84 rfl (lv_at hl 3 rfl) ?_
                refine lv_iload_n hx hb dX13_lengthAt_85 rfl (lv_at hl 1 rfl) ?_
                refine lv_isub hx hb dX13_lengthAt_86 ?_
                refine k_topi (show ((nI i) - (nI p)) = (nI (i - p)) from pk_sub (by omega)) ?_
                have hr9 : (nI (i - p)) = (nI (rln tf tl p)) := by first | exact congrArg nI (rln_l hpl hb9 hd9 hs (rwe_stop c_32 (Or.inl (hb9.symm.trans c_39)))) | exact congrArg nI (rln_l hpl hb9 hd9 hs (rwe_stop c_32 (Or.inr c_50))) | (rw [rln_0 c_14 c_21 (Or.inl ⟨c_62, c_68⟩), show p + 1 - p = 1 by omega]; done) | (rw [rln_0 c_14 c_21 (Or.inr c_78), show p + 1 - p = 1 by omega]; done) | (rw [rln_2 c_14 c_21 (Or.inl c_62) c_78, show p + 1 + 1 - p = 2 by omega]; done) | (rw [rln_2 c_14 c_21 (Or.inr c_68) c_78, show p + 1 + 1 - p = 2 by omega]; done)
                have hP9 : va_P D CLS [(mo, .inr (11, [.int th, .ref (ma 1), .int (nI tl), .int ea, .int tk, .int dp, .ref sh, .ref (ma 2), .ref (ma 3), .ref (ma 4), .int wk, .ref sn])), (ma 1, .inl (g 0, 2000, .inl tf))] H := by exact kSub hP [0, 1] rfl
                have hD9 : va_D A [(mo, .inr (11, [.int th, .ref (ma 1), .int (nI tl), .int ea, .int tk, .int dp, .ref sh, .ref (ma 2), .ref (ma 3), .ref (ma 4), .int wk, .ref sn])), (ma 1, .inl (g 0, 2000, .inl tf))] := by exact hD.sub [0, 1] (by decide +kernel) rfl
                exact W.iret (v := nI (i - p)) hx hb hr (fun t9 ht9 hW9 => ⟨⟨nI (i - p), (), rfl, hr9, by rw [ht9]; exact hP9, va_K.moved hW9.alike hK, hD9⟩, hS.F ht9⟩) hS.2.2 dX13_lengthAt_87
              · skip
                have c_50 := bI_1.mp c_50
                refine lv_iinc (v := nI (i + 1)) (lv' := [(3, .int (nI (i + 1))), (0, .ref mo), (1, .int (nI p)), (2, .int (fB tf tl p))]) hx hb dX13_lengthAt_53 hl (k := 3) rfl (nI_1 i) (by decide) rfl (fun ls hl => ?_)
                refine lv_goto (tgt := 24) hx hb dX13_lengthAt_56 (by decide) ?_
                exact ih_24  (i + 1) l (by omega) (by first | (have := fB_D c_32; omega) | (have := fB_L c_50; omega)) (by omega) hpl hb9 hd9 (by rw [← hs]; first | exact (rwe_go (fB_D c_32) (by rw [c_32]; rfl)).symm | exact (rwe_go (fB_L c_50) (by rw [← hb9, c_39, c_50, c_32]; rfl)).symm) _ _ (kSub hP [0, 1] rfl) (hD.sub [0, 1] (by decide +kernel) rfl) hS ls (lv_sub hl [1, 2, 3, 0] rfl)
      exact loop_24 (tl + 1 - (p + 1) + 1) (p + 1) false (by omega) (by first | (have := fB_L c_14; omega) | (have := fB_D c_21; omega)) (by omega) (by first | exact fB_L c_14 | exact fB_D c_21) (by first | exact c_14) (by first | exact Or.inr c_21 | exact Or.inl rfl) rfl _ _ (kSub hP [0, 1] rfl) (hD.sub [0, 1] (by decide +kernel) rfl) hS ls (lv_sub hl [2, 3, 1, 0] rfl)
theorem dX13_eat_0 : decode cX13_eat 0 = .ok (.aload_n 1, 1) := by decide +kernel
theorem dX13_eat_1 : decode cX13_eat 1 = .ok (.getfield 99, 3) := by decide +kernel
theorem dX13_eat_4 : decode cX13_eat 4 = .ok (.aload_n 0, 1) := by decide +kernel
theorem dX13_eat_5 : decode cX13_eat 5 = .ok (.getfield 105, 3) := by decide +kernel
theorem dX13_eat_8 : decode cX13_eat 8 = .ok (.iaload, 1) := by decide +kernel
theorem dX13_eat_9 : decode cX13_eat 9 = .ok (.iload_n 2, 1) := by decide +kernel
theorem dX13_eat_10 : decode cX13_eat 10 = .ok (.if_icmp .eq 5, 3) := by decide +kernel
theorem dX13_eat_13 : decode cX13_eat 13 = .ok (.iconst 0, 1) := by decide +kernel
theorem dX13_eat_14 : decode cX13_eat 14 = .ok (.ireturn, 1) := by decide +kernel
theorem dX13_eat_15 : decode cX13_eat 15 = .ok (.aload_n 0, 1) := by decide +kernel
theorem dX13_eat_16 : decode cX13_eat 16 = .ok (.dup, 1) := by decide +kernel
theorem dX13_eat_17 : decode cX13_eat 17 = .ok (.getfield 105, 3) := by decide +kernel
theorem dX13_eat_20 : decode cX13_eat 20 = .ok (.iconst 1, 1) := by decide +kernel
theorem dX13_eat_21 : decode cX13_eat 21 = .ok (.iadd, 1) := by decide +kernel
theorem dX13_eat_22 : decode cX13_eat 22 = .ok (.putfield 105, 3) := by decide +kernel
theorem dX13_eat_25 : decode cX13_eat 25 = .ok (.iconst 1, 1) := by decide +kernel
theorem dX13_eat_26 : decode cX13_eat 26 = .ok (.ireturn, 1) := by decide +kernel
set_option maxHeartbeats 4000000 in
set_option maxRecDepth 100000 in
/-- Model.eat -/
theorem c_X13_eat (l9 : Launch) (z : Nat → Nat) (D : va_G) (g : Nat → ClassId) (mo : Nat) (ma : Nat → Nat) (th : Int32) (tl : Nat) (ea : Int32) (sh : Nat) (wk : Int32) (sn : Nat) (sf : Nat) (ha : Nat → Nat) (tn : Nat → Nat) (ln : Int32) (sq : Nat → Nat) (K : Nat) (kF : Nat → Int32) (t : Nat) (d : Nat) (s : Nat) (hT : TKO sq K kF) (ht : t ≤ K) (hd : d ≤ 8) (hs : s < 49) (sz : Nat) : Met l9 yX13_eat (WS yX13_eat cX13_eat 3 (some .boolean)) ({ frames := 0, cells := 0, slots := 0, locals := 0 }) (va_Pc [.ref mo, .ref sh, .int (km s)] (kPre z D g [(mo, .inr (11, [.int th, .ref (ma 1), .int (nI tl), .int ea, .int (nI t), .int (nI d), .ref sf, .ref (ma 2), .ref (ma 3), .ref (ma 4), .int wk, .ref sn])), (sh, .inr (9, [.ref (ha 0), .ref (ha 1), .ref (ha 2), .ref (ha 3), .int (nI (tn 0)), .ref (ha 4), .ref (ha 5), .ref (ha 6), .int (nI (tn 1)), .ref (ha 7), .ref (ha 8), .ref (ha 9), .ref (ha 10), .int (nI (tn 2)), .ref (ha 11), .ref (ha 12), .int (nI (tn 3)), .ref (ha 13), .ref (ha 14), .ref (ha 15), .int (nI (tn 4)), .ref (ha 16), .ref (ha 17), .ref (ha 18), .ref (ha 19), .ref (ha 20), .int ln])), (ha 0, .inl (g 0, 401, .inl kF))] sz)) (va_Qi (fun (r9 : Int32) (u9 : Unit) => r9 = bI (rEat sq s t).1) (kB D g (va_A [(mo, .inr (11, [.int th, .ref (ma 1), .int (nI tl), .int ea, .int (nI t), .int (nI d), .ref sf, .ref (ma 2), .ref (ma 3), .ref (ma 4), .int wk, .ref sn])), (sh, .inr (9, [.ref (ha 0), .ref (ha 1), .ref (ha 2), .ref (ha 3), .int (nI (tn 0)), .ref (ha 4), .ref (ha 5), .ref (ha 6), .int (nI (tn 1)), .ref (ha 7), .ref (ha 8), .ref (ha 9), .ref (ha 10), .int (nI (tn 2)), .ref (ha 11), .ref (ha 12), .int (nI (tn 3)), .ref (ha 13), .ref (ha 14), .ref (ha 15), .int (nI (tn 4)), .ref (ha 16), .ref (ha 17), .ref (ha 18), .ref (ha 19), .ref (ha 20), .int ln])), (ha 0, .inl (g 0, 401, .inl kF))] sz) (fun (u9 : Unit) => [(mo, .inr (11, [.int th, .ref (ma 1), .int (nI tl), .int ea, .int (nI ((rEat sq s t).2)), .int (nI d), .ref sf, .ref (ma 2), .ref (ma 3), .ref (ma 4), .int wk, .ref sn])), (sh, .inr (9, [.ref (ha 0), .ref (ha 1), .ref (ha 2), .ref (ha 3), .int (nI (tn 0)), .ref (ha 4), .ref (ha 5), .ref (ha 6), .int (nI (tn 1)), .ref (ha 7), .ref (ha 8), .ref (ha 9), .ref (ha 10), .int (nI (tn 2)), .ref (ha 11), .ref (ha 12), .int (nI (tn 3)), .ref (ha 13), .ref (ha 14), .ref (ha 15), .int (nI (tn 4)), .ref (ha 16), .ref (ha 17), .ref (ha 18), .ref (ha 19), .ref (ha 20), .int ln])), (ha 0, .inl (g 0, 401, .inl kF))])) (va_A [(mo, .inr (11, [.int th, .ref (ma 1), .int (nI tl), .int ea, .int (nI t), .int (nI d), .ref sf, .ref (ma 2), .ref (ma 3), .ref (ma 4), .int wk, .ref sn])), (sh, .inr (9, [.ref (ha 0), .ref (ha 1), .ref (ha 2), .ref (ha 3), .int (nI (tn 0)), .ref (ha 4), .ref (ha 5), .ref (ha 6), .int (nI (tn 1)), .ref (ha 7), .ref (ha 8), .ref (ha 9), .ref (ha 10), .int (nI (tn 2)), .ref (ha 11), .ref (ha 12), .int (nI (tn 3)), .ref (ha 13), .ref (ha 14), .ref (ha 15), .int (nI (tn 4)), .ref (ha 16), .ref (ha 17), .ref (ha 18), .ref (ha 19), .ref (ha 20), .int ln])), (ha 0, .inl (g 0, 401, .inl kF))] sz)) 0 0 (va_A [(mo, .inr (11, [.int th, .ref (ma 1), .int (nI tl), .int ea, .int (nI t), .int (nI d), .ref sf, .ref (ma 2), .ref (ma 3), .ref (ma 4), .int wk, .ref sn])), (sh, .inr (9, [.ref (ha 0), .ref (ha 1), .ref (ha 2), .ref (ha 3), .int (nI (tn 0)), .ref (ha 4), .ref (ha 5), .ref (ha 6), .int (nI (tn 1)), .ref (ha 7), .ref (ha 8), .ref (ha 9), .ref (ha 10), .int (nI (tn 2)), .ref (ha 11), .ref (ha 12), .int (nI (tn 3)), .ref (ha 13), .ref (ha 14), .ref (ha 15), .int (nI (tn 4)), .ref (ha 16), .ref (ha 17), .ref (ha 18), .ref (ha 19), .ref (ha 20), .int ln])), (ha 0, .inl (g 0, 401, .inl kF))] sz) := by
  refine Met.ofW (cc := cX13_eat) (maxL := 3) (ret := (some .boolean)) (by decide) rfl ?_
  intro p9 e9 s9 m9 args9 below9 meth9 c9 s₁ B hml hv
  obtain ⟨rfl, hsz, hP, hK, hD0, hZ⟩ := hv
  have hx := B.exec
  have hb := B.bytes
  have hr := B.returns
  have hts := ws_sub (atoms_spec (ws := WS yX13_eat cX13_eat 3 (some .boolean)) B.pre)
  have hown : s9.vm.findClass RX13 = some m9.cls := findClass_of_methodNamed B.named
  have hlocks := B.notSynchronized
  subst hsz
  have hD := hD0.self (sz := s9.heap.size)
  generalize hAe : va_A [(mo, .inr (11, [.int th, .ref (ma 1), .int (nI tl), .int ea, .int (nI t), .int (nI d), .ref sf, .ref (ma 2), .ref (ma 3), .ref (ma 4), .int wk, .ref sn])), (sh, .inr (9, [.ref (ha 0), .ref (ha 1), .ref (ha 2), .ref (ha 3), .int (nI (tn 0)), .ref (ha 4), .ref (ha 5), .ref (ha 6), .int (nI (tn 1)), .ref (ha 7), .ref (ha 8), .ref (ha 9), .ref (ha 10), .int (nI (tn 2)), .ref (ha 11), .ref (ha 12), .int (nI (tn 3)), .ref (ha 13), .ref (ha 14), .ref (ha 15), .int (nI (tn 4)), .ref (ha 16), .ref (ha 17), .ref (ha 18), .ref (ha 19), .ref (ha 20), .int ln])), (ha 0, .inl (g 0, 401, .inl kF))] s9.heap.size = A at hD hZ ⊢
  have hA : ∀ q : Nat, s9.heap.size ≤ q → A q := fun q h => by rw [← hAe]; exact Or.inr h
  have hS : va_S A s9.heap s9.heap [] := va_S.rf
  have hP : va_P D CLS [(mo, .inr (11, [.int th, .ref (ma 1), .int (nI tl), .int ea, .int (nI t), .int (nI d), .ref sf, .ref (ma 2), .ref (ma 3), .ref (ma 4), .int wk, .ref sn])), (sh, .inr (9, [.ref (ha 0), .ref (ha 1), .ref (ha 2), .ref (ha 3), .int (nI (tn 0)), .ref (ha 4), .ref (ha 5), .ref (ha 6), .int (nI (tn 1)), .ref (ha 7), .ref (ha 8), .ref (ha 9), .ref (ha 10), .int (nI (tn 2)), .ref (ha 11), .ref (ha 12), .int (nI (tn 3)), .ref (ha 13), .ref (ha 14), .ref (ha 15), .int (nI (tn 4)), .ref (ha 16), .ref (ha 17), .ref (ha 18), .ref (ha 19), .ref (ha 20), .int ln])), (ha 0, .inl (g 0, 401, .inl kF))] s9.heap := hP
  have hl := lv_entry ([.ref mo, .ref sh, .int (km s)]) (n := 3) (Nat.le_of_ble_eq_true rfl)
  rw [lg_entry_eq]
  generalize (lg_sl ([.ref mo, .ref sh, .int (km s)]) ++ List.replicate (3 - (lg_sl ([.ref mo, .ref sh, .int (km s)])).length) Slot.unset).toArray = ls at hl ⊢
  have hl : lv_has ls 3 [(0, .ref mo), (1, .ref sh), (2, .int (km s))] := hl
  change W p9 l9 e9 ({ frames := 0, cells := 0, slots := 0, locals := 0 } : Room) s9 m9 _ below9 meth9 c9 _ _ _ _ _ _
  have hK4 := hT.1
  have hkf := hT.2.1
  have hsq := hT.2.2.1
  refine lv_aload_n hx hb dX13_eat_0 rfl (lv_at hl 1 rfl) ?_
  refine va_getN (D := D) (ci := 9) (v := .ref (ha 0)) (C := RX11) (T := TX11) (N := 27) hx hb hts in_X11 hown hK hP 1 rfl rfl 0 (by decide) (hZ.nst.use nw_1242) (fun _ h9 => h9) rfl dX13_eat_1 ?_
  refine lv_aload_n hx hb dX13_eat_4 rfl (lv_at hl 0 rfl) ?_
  refine va_get (D := D) (ci := 11) (v := .int (nI t)) (C := RX13) (T := TX13) (N := 12) hx hb hts in_X13 hown hK hP 0 rfl rfl 4 (by decide) (hts _ w_1395) (fun _ h9 => h9) rfl dX13_eat_5 ?_
  refine k_ialdN hx hb hK hP 2 0 rfl rfl (by omega) (by first | decide | omega) dX13_eat_8 ?_
  refine k_topi (show (kF t) = (km (sq t)) from hkf _ (by omega)) ?_
  refine lv_iload_n hx hb dX13_eat_9 rfl (lv_at hl 2 rfl) ?_
  refine lv_icmp_eq (tgt := 15) hx hb dX13_eat_10 (by decide) (fun c_10 => ?_) (fun c_10 => ?_)
  · skip
    have c_10 : (sq t) = s := (km_eq (a := (sq t)) (b := s) (by first | decide | assumption | exact hsq _) (by first | decide | assumption | exact hsq _)).mp c_10
    refine lv_aload_n hx hb dX13_eat_15 rfl (lv_at hl 0 rfl) ?_
    refine lv_dup hx hb dX13_eat_16 rfl ?_
    refine va_get (D := D) (ci := 11) (v := .int (nI t)) (C := RX13) (T := TX13) (N := 12) hx hb hts in_X13 hown hK hP 0 rfl rfl 4 (by decide) (hts _ w_1395) (fun _ h9 => h9) rfl dX13_eat_17 ?_
    refine lv_iconst (v := 1) hx hb dX13_eat_20 (by decide) ?_
    refine k_inc hx hb dX13_eat_21 ?_
    refine va_put (D := D) (ci := 11) (v := .int (nI (t + 1))) (ty := .int) (C := RX13) (T := TX13) (N := 12) hx hb hts in_X13 tyX13 tyX13_ok nmX13 hown hK hP hD hS 0 rfl rfl 4 (by decide) (hts _ w_1395) (fun _ h9 => h9) rfl (by decide +kernel) rfl rfl (Nat.le_of_ble_eq_true rfl) dX13_eat_22 (fun H locs hP7 hD7 hS7 => ?_)
    clear hP hD hS
    have hP := hP7
    have hD := hD7
    have hS := hS7
    clear hP7 hD7 hS7
    replace hP : va_P D CLS [(mo, .inr (11, [.int th, .ref (ma 1), .int (nI tl), .int ea, .int (nI (t + 1)), .int (nI d), .ref sf, .ref (ma 2), .ref (ma 3), .ref (ma 4), .int wk, .ref sn])), (sh, .inr (9, [.ref (ha 0), .ref (ha 1), .ref (ha 2), .ref (ha 3), .int (nI (tn 0)), .ref (ha 4), .ref (ha 5), .ref (ha 6), .int (nI (tn 1)), .ref (ha 7), .ref (ha 8), .ref (ha 9), .ref (ha 10), .int (nI (tn 2)), .ref (ha 11), .ref (ha 12), .int (nI (tn 3)), .ref (ha 13), .ref (ha 14), .ref (ha 15), .int (nI (tn 4)), .ref (ha 16), .ref (ha 17), .ref (ha 18), .ref (ha 19), .ref (ha 20), .int ln])), (ha 0, .inl (g 0, 401, .inl kF))] H := hP
    replace hD : va_D A [(mo, .inr (11, [.int th, .ref (ma 1), .int (nI tl), .int ea, .int (nI (t + 1)), .int (nI d), .ref sf, .ref (ma 2), .ref (ma 3), .ref (ma 4), .int wk, .ref sn])), (sh, .inr (9, [.ref (ha 0), .ref (ha 1), .ref (ha 2), .ref (ha 3), .int (nI (tn 0)), .ref (ha 4), .ref (ha 5), .ref (ha 6), .int (nI (tn 1)), .ref (ha 7), .ref (ha 8), .ref (ha 9), .ref (ha 10), .int (nI (tn 2)), .ref (ha 11), .ref (ha 12), .int (nI (tn 3)), .ref (ha 13), .ref (ha 14), .ref (ha 15), .int (nI (tn 4)), .ref (ha 16), .ref (ha 17), .ref (ha 18), .ref (ha 19), .ref (ha 20), .int ln])), (ha 0, .inl (g 0, 401, .inl kF))] := hD
    refine lv_iconst (v := 1) hx hb dX13_eat_25 (by decide) ?_
    have he_1 : (nI ((rEat sq s t).2)) = (nI (t + 1)) := by first | (rw [rEat_a c_10]; done) | (rw [rEat_b c_10]; done)
    have hr9 : 1 = (bI (rEat sq s t).1) := by first | (rw [rEat_a c_10]; rfl) | (rw [rEat_b c_10]; rfl)
    have hP9 : va_P D CLS [(mo, .inr (11, [.int th, .ref (ma 1), .int (nI tl), .int ea, .int (nI ((rEat sq s t).2)), .int (nI d), .ref sf, .ref (ma 2), .ref (ma 3), .ref (ma 4), .int wk, .ref sn])), (sh, .inr (9, [.ref (ha 0), .ref (ha 1), .ref (ha 2), .ref (ha 3), .int (nI (tn 0)), .ref (ha 4), .ref (ha 5), .ref (ha 6), .int (nI (tn 1)), .ref (ha 7), .ref (ha 8), .ref (ha 9), .ref (ha 10), .int (nI (tn 2)), .ref (ha 11), .ref (ha 12), .int (nI (tn 3)), .ref (ha 13), .ref (ha 14), .ref (ha 15), .int (nI (tn 4)), .ref (ha 16), .ref (ha 17), .ref (ha 18), .ref (ha 19), .ref (ha 20), .int ln])), (ha 0, .inl (g 0, 401, .inl kF))] H := by rw [he_1]; exact kSub hP [0, 1, 2] rfl
    have hD9 : va_D A [(mo, .inr (11, [.int th, .ref (ma 1), .int (nI tl), .int ea, .int (nI ((rEat sq s t).2)), .int (nI d), .ref sf, .ref (ma 2), .ref (ma 3), .ref (ma 4), .int wk, .ref sn])), (sh, .inr (9, [.ref (ha 0), .ref (ha 1), .ref (ha 2), .ref (ha 3), .int (nI (tn 0)), .ref (ha 4), .ref (ha 5), .ref (ha 6), .int (nI (tn 1)), .ref (ha 7), .ref (ha 8), .ref (ha 9), .ref (ha 10), .int (nI (tn 2)), .ref (ha 11), .ref (ha 12), .int (nI (tn 3)), .ref (ha 13), .ref (ha 14), .ref (ha 15), .int (nI (tn 4)), .ref (ha 16), .ref (ha 17), .ref (ha 18), .ref (ha 19), .ref (ha 20), .int ln])), (ha 0, .inl (g 0, 401, .inl kF))] := by rw [he_1]; exact hD.sub [0, 1, 2] (by decide +kernel) rfl
    exact W.zret (v := 1) hx hb hr (by first | exact k_nb0 | exact k_nb1 | exact k_nbI _ | simp) (fun t9 ht9 hW9 => ⟨⟨1, (), rfl, hr9, by rw [ht9]; exact hP9, va_K.moved hW9.alike hK, hD9⟩, hS.F ht9⟩) hS.2.2 dX13_eat_26
  · skip
    have c_10 : ¬ (sq t) = s := fun h => c_10 ((km_eq (a := (sq t)) (b := s) (by first | decide | assumption | exact hsq _) (by first | decide | assumption | exact hsq _)).mpr h)
    refine lv_iconst (v := 0) hx hb dX13_eat_13 (by decide) ?_
    have he_2 : (nI ((rEat sq s t).2)) = (nI t) := by first | (rw [rEat_a c_10]; done) | (rw [rEat_b c_10]; done)
    have hr9 : 0 = (bI (rEat sq s t).1) := by first | (rw [rEat_a c_10]; rfl) | (rw [rEat_b c_10]; rfl)
    have hP9 : va_P D CLS [(mo, .inr (11, [.int th, .ref (ma 1), .int (nI tl), .int ea, .int (nI ((rEat sq s t).2)), .int (nI d), .ref sf, .ref (ma 2), .ref (ma 3), .ref (ma 4), .int wk, .ref sn])), (sh, .inr (9, [.ref (ha 0), .ref (ha 1), .ref (ha 2), .ref (ha 3), .int (nI (tn 0)), .ref (ha 4), .ref (ha 5), .ref (ha 6), .int (nI (tn 1)), .ref (ha 7), .ref (ha 8), .ref (ha 9), .ref (ha 10), .int (nI (tn 2)), .ref (ha 11), .ref (ha 12), .int (nI (tn 3)), .ref (ha 13), .ref (ha 14), .ref (ha 15), .int (nI (tn 4)), .ref (ha 16), .ref (ha 17), .ref (ha 18), .ref (ha 19), .ref (ha 20), .int ln])), (ha 0, .inl (g 0, 401, .inl kF))] s9.heap := by rw [he_2]; exact kSub hP [0, 1, 2] rfl
    have hD9 : va_D A [(mo, .inr (11, [.int th, .ref (ma 1), .int (nI tl), .int ea, .int (nI ((rEat sq s t).2)), .int (nI d), .ref sf, .ref (ma 2), .ref (ma 3), .ref (ma 4), .int wk, .ref sn])), (sh, .inr (9, [.ref (ha 0), .ref (ha 1), .ref (ha 2), .ref (ha 3), .int (nI (tn 0)), .ref (ha 4), .ref (ha 5), .ref (ha 6), .int (nI (tn 1)), .ref (ha 7), .ref (ha 8), .ref (ha 9), .ref (ha 10), .int (nI (tn 2)), .ref (ha 11), .ref (ha 12), .int (nI (tn 3)), .ref (ha 13), .ref (ha 14), .ref (ha 15), .int (nI (tn 4)), .ref (ha 16), .ref (ha 17), .ref (ha 18), .ref (ha 19), .ref (ha 20), .int ln])), (ha 0, .inl (g 0, 401, .inl kF))] := by rw [he_2]; exact hD.sub [0, 1, 2] (by decide +kernel) rfl
    exact W.zret (v := 0) hx hb hr (by first | exact k_nb0 | exact k_nb1 | exact k_nbI _ | simp) (fun t9 ht9 hW9 => ⟨⟨0, (), rfl, hr9, by rw [ht9]; exact hP9, va_K.moved hW9.alike hK, hD9⟩, hS.F ht9⟩) hS.2.2 dX13_eat_14
theorem dX13_eatIn_0 : decode cX13_eatIn 0 = .ok (.aload_n 1, 1) := by decide +kernel
theorem dX13_eatIn_1 : decode cX13_eatIn 1 = .ok (.getfield 99, 3) := by decide +kernel
theorem dX13_eatIn_4 : decode cX13_eatIn 4 = .ok (.aload_n 0, 1) := by decide +kernel
theorem dX13_eatIn_5 : decode cX13_eatIn 5 = .ok (.getfield 105, 3) := by decide +kernel
theorem dX13_eatIn_8 : decode cX13_eatIn 8 = .ok (.iaload, 1) := by decide +kernel
theorem dX13_eatIn_9 : decode cX13_eatIn 9 = .ok (.iload_n 2, 1) := by decide +kernel
theorem dX13_eatIn_10 : decode cX13_eatIn 10 = .ok (.iload_n 3, 1) := by decide +kernel
theorem dX13_eatIn_11 : decode cX13_eatIn 11 = .ok (.invokestatic 46, 3) := by decide +kernel
theorem dX13_eatIn_14 : decode cX13_eatIn 14 = .ok (.ifCond .ne 5, 3) := by decide +kernel
theorem dX13_eatIn_17 : decode cX13_eatIn 17 = .ok (.iconst 0, 1) := by decide +kernel
theorem dX13_eatIn_18 : decode cX13_eatIn 18 = .ok (.ireturn, 1) := by decide +kernel
theorem dX13_eatIn_19 : decode cX13_eatIn 19 = .ok (.aload_n 0, 1) := by decide +kernel
theorem dX13_eatIn_20 : decode cX13_eatIn 20 = .ok (.dup, 1) := by decide +kernel
theorem dX13_eatIn_21 : decode cX13_eatIn 21 = .ok (.getfield 105, 3) := by decide +kernel
theorem dX13_eatIn_24 : decode cX13_eatIn 24 = .ok (.iconst 1, 1) := by decide +kernel
theorem dX13_eatIn_25 : decode cX13_eatIn 25 = .ok (.iadd, 1) := by decide +kernel
theorem dX13_eatIn_26 : decode cX13_eatIn 26 = .ok (.putfield 105, 3) := by decide +kernel
theorem dX13_eatIn_29 : decode cX13_eatIn 29 = .ok (.iconst 1, 1) := by decide +kernel
theorem dX13_eatIn_30 : decode cX13_eatIn 30 = .ok (.ireturn, 1) := by decide +kernel
set_option maxHeartbeats 4000000 in
set_option maxRecDepth 100000 in
/-- Model.eatIn -/
theorem c_X13_eatIn (l9 : Launch) (z : Nat → Nat) (D : va_G) (g : Nat → ClassId) (mo : Nat) (ma : Nat → Nat) (th : Int32) (tl : Nat) (ea : Int32) (sh : Nat) (wk : Int32) (sn : Nat) (sf : Nat) (ha : Nat → Nat) (tn : Nat → Nat) (ln : Int32) (sq : Nat → Nat) (K : Nat) (kF : Nat → Int32) (t : Nat) (d : Nat) (a : Nat) (b : Nat) (hT : TKO sq K kF) (ht : t ≤ K) (hd : d ≤ 8) (hab : ∀ s, s < 49 → ((km a ≤ km s ∧ km s ≤ km b) ↔ (a ≤ s ∧ s ≤ b))) (sz : Nat) : Met l9 yX13_eatIn (WS yX13_eatIn cX13_eatIn 4 (some .boolean)) ({ frames := 1, cells := 0, slots := 0, locals := 22 }) (va_Pc [.ref mo, .ref sh, .int (km a), .int (km b)] (kPre z D g [(mo, .inr (11, [.int th, .ref (ma 1), .int (nI tl), .int ea, .int (nI t), .int (nI d), .ref sf, .ref (ma 2), .ref (ma 3), .ref (ma 4), .int wk, .ref sn])), (sh, .inr (9, [.ref (ha 0), .ref (ha 1), .ref (ha 2), .ref (ha 3), .int (nI (tn 0)), .ref (ha 4), .ref (ha 5), .ref (ha 6), .int (nI (tn 1)), .ref (ha 7), .ref (ha 8), .ref (ha 9), .ref (ha 10), .int (nI (tn 2)), .ref (ha 11), .ref (ha 12), .int (nI (tn 3)), .ref (ha 13), .ref (ha 14), .ref (ha 15), .int (nI (tn 4)), .ref (ha 16), .ref (ha 17), .ref (ha 18), .ref (ha 19), .ref (ha 20), .int ln])), (ha 0, .inl (g 0, 401, .inl kF))] sz)) (va_Qi (fun (r9 : Int32) (u9 : Unit) => r9 = bI (rIn sq a b t).1) (kB D g (va_A [(mo, .inr (11, [.int th, .ref (ma 1), .int (nI tl), .int ea, .int (nI t), .int (nI d), .ref sf, .ref (ma 2), .ref (ma 3), .ref (ma 4), .int wk, .ref sn])), (sh, .inr (9, [.ref (ha 0), .ref (ha 1), .ref (ha 2), .ref (ha 3), .int (nI (tn 0)), .ref (ha 4), .ref (ha 5), .ref (ha 6), .int (nI (tn 1)), .ref (ha 7), .ref (ha 8), .ref (ha 9), .ref (ha 10), .int (nI (tn 2)), .ref (ha 11), .ref (ha 12), .int (nI (tn 3)), .ref (ha 13), .ref (ha 14), .ref (ha 15), .int (nI (tn 4)), .ref (ha 16), .ref (ha 17), .ref (ha 18), .ref (ha 19), .ref (ha 20), .int ln])), (ha 0, .inl (g 0, 401, .inl kF))] sz) (fun (u9 : Unit) => [(mo, .inr (11, [.int th, .ref (ma 1), .int (nI tl), .int ea, .int (nI ((rIn sq a b t).2)), .int (nI d), .ref sf, .ref (ma 2), .ref (ma 3), .ref (ma 4), .int wk, .ref sn])), (sh, .inr (9, [.ref (ha 0), .ref (ha 1), .ref (ha 2), .ref (ha 3), .int (nI (tn 0)), .ref (ha 4), .ref (ha 5), .ref (ha 6), .int (nI (tn 1)), .ref (ha 7), .ref (ha 8), .ref (ha 9), .ref (ha 10), .int (nI (tn 2)), .ref (ha 11), .ref (ha 12), .int (nI (tn 3)), .ref (ha 13), .ref (ha 14), .ref (ha 15), .int (nI (tn 4)), .ref (ha 16), .ref (ha 17), .ref (ha 18), .ref (ha 19), .ref (ha 20), .int ln])), (ha 0, .inl (g 0, 401, .inl kF))])) (va_A [(mo, .inr (11, [.int th, .ref (ma 1), .int (nI tl), .int ea, .int (nI t), .int (nI d), .ref sf, .ref (ma 2), .ref (ma 3), .ref (ma 4), .int wk, .ref sn])), (sh, .inr (9, [.ref (ha 0), .ref (ha 1), .ref (ha 2), .ref (ha 3), .int (nI (tn 0)), .ref (ha 4), .ref (ha 5), .ref (ha 6), .int (nI (tn 1)), .ref (ha 7), .ref (ha 8), .ref (ha 9), .ref (ha 10), .int (nI (tn 2)), .ref (ha 11), .ref (ha 12), .int (nI (tn 3)), .ref (ha 13), .ref (ha 14), .ref (ha 15), .int (nI (tn 4)), .ref (ha 16), .ref (ha 17), .ref (ha 18), .ref (ha 19), .ref (ha 20), .int ln])), (ha 0, .inl (g 0, 401, .inl kF))] sz)) 0 0 (va_A [(mo, .inr (11, [.int th, .ref (ma 1), .int (nI tl), .int ea, .int (nI t), .int (nI d), .ref sf, .ref (ma 2), .ref (ma 3), .ref (ma 4), .int wk, .ref sn])), (sh, .inr (9, [.ref (ha 0), .ref (ha 1), .ref (ha 2), .ref (ha 3), .int (nI (tn 0)), .ref (ha 4), .ref (ha 5), .ref (ha 6), .int (nI (tn 1)), .ref (ha 7), .ref (ha 8), .ref (ha 9), .ref (ha 10), .int (nI (tn 2)), .ref (ha 11), .ref (ha 12), .int (nI (tn 3)), .ref (ha 13), .ref (ha 14), .ref (ha 15), .int (nI (tn 4)), .ref (ha 16), .ref (ha 17), .ref (ha 18), .ref (ha 19), .ref (ha 20), .int ln])), (ha 0, .inl (g 0, 401, .inl kF))] sz) := by
  refine Met.ofW (cc := cX13_eatIn) (maxL := 4) (ret := (some .boolean)) (by decide) rfl ?_
  intro p9 e9 s9 m9 args9 below9 meth9 c9 s₁ B hml hv
  obtain ⟨rfl, hsz, hP, hK, hD0, hZ⟩ := hv
  have hx := B.exec
  have hb := B.bytes
  have hr := B.returns
  have hts := ws_sub (atoms_spec (ws := WS yX13_eatIn cX13_eatIn 4 (some .boolean)) B.pre)
  have hown : s9.vm.findClass RX13 = some m9.cls := findClass_of_methodNamed B.named
  have hlocks := B.notSynchronized
  subst hsz
  have hD := hD0.self (sz := s9.heap.size)
  generalize hAe : va_A [(mo, .inr (11, [.int th, .ref (ma 1), .int (nI tl), .int ea, .int (nI t), .int (nI d), .ref sf, .ref (ma 2), .ref (ma 3), .ref (ma 4), .int wk, .ref sn])), (sh, .inr (9, [.ref (ha 0), .ref (ha 1), .ref (ha 2), .ref (ha 3), .int (nI (tn 0)), .ref (ha 4), .ref (ha 5), .ref (ha 6), .int (nI (tn 1)), .ref (ha 7), .ref (ha 8), .ref (ha 9), .ref (ha 10), .int (nI (tn 2)), .ref (ha 11), .ref (ha 12), .int (nI (tn 3)), .ref (ha 13), .ref (ha 14), .ref (ha 15), .int (nI (tn 4)), .ref (ha 16), .ref (ha 17), .ref (ha 18), .ref (ha 19), .ref (ha 20), .int ln])), (ha 0, .inl (g 0, 401, .inl kF))] s9.heap.size = A at hD hZ ⊢
  have hA : ∀ q : Nat, s9.heap.size ≤ q → A q := fun q h => by rw [← hAe]; exact Or.inr h
  have hS : va_S A s9.heap s9.heap [] := va_S.rf
  have hP : va_P D CLS [(mo, .inr (11, [.int th, .ref (ma 1), .int (nI tl), .int ea, .int (nI t), .int (nI d), .ref sf, .ref (ma 2), .ref (ma 3), .ref (ma 4), .int wk, .ref sn])), (sh, .inr (9, [.ref (ha 0), .ref (ha 1), .ref (ha 2), .ref (ha 3), .int (nI (tn 0)), .ref (ha 4), .ref (ha 5), .ref (ha 6), .int (nI (tn 1)), .ref (ha 7), .ref (ha 8), .ref (ha 9), .ref (ha 10), .int (nI (tn 2)), .ref (ha 11), .ref (ha 12), .int (nI (tn 3)), .ref (ha 13), .ref (ha 14), .ref (ha 15), .int (nI (tn 4)), .ref (ha 16), .ref (ha 17), .ref (ha 18), .ref (ha 19), .ref (ha 20), .int ln])), (ha 0, .inl (g 0, 401, .inl kF))] s9.heap := hP
  have hl := lv_entry ([.ref mo, .ref sh, .int (km a), .int (km b)]) (n := 4) (Nat.le_of_ble_eq_true rfl)
  rw [lg_entry_eq]
  generalize (lg_sl ([.ref mo, .ref sh, .int (km a), .int (km b)]) ++ List.replicate (4 - (lg_sl ([.ref mo, .ref sh, .int (km a), .int (km b)])).length) Slot.unset).toArray = ls at hl ⊢
  have hl : lv_has ls 4 [(0, .ref mo), (1, .ref sh), (2, .int (km a)), (3, .int (km b))] := hl
  change W p9 l9 e9 ({ frames := 1, cells := 0, slots := 0, locals := 22 } : Room) s9 m9 _ below9 meth9 c9 _ _ _ _ _ _
  have hK4 := hT.1
  have hkf := hT.2.1
  have hsq := hT.2.2.1
  refine lv_aload_n hx hb dX13_eatIn_0 rfl (lv_at hl 1 rfl) ?_
  refine va_getN (D := D) (ci := 9) (v := .ref (ha 0)) (C := RX11) (T := TX11) (N := 27) hx hb hts in_X11 hown hK hP 1 rfl rfl 0 (by decide) (hZ.nst.use nw_1242) (fun _ h9 => h9) rfl dX13_eatIn_1 ?_
  refine lv_aload_n hx hb dX13_eatIn_4 rfl (lv_at hl 0 rfl) ?_
  refine va_get (D := D) (ci := 11) (v := .int (nI t)) (C := RX13) (T := TX13) (N := 12) hx hb hts in_X13 hown hK hP 0 rfl rfl 4 (by decide) (hts _ w_1395) (fun _ h9 => h9) rfl dX13_eatIn_5 ?_
  refine k_ialdN hx hb hK hP 2 0 rfl rfl (by omega) (by first | decide | omega) dX13_eatIn_8 ?_
  refine k_topi (show (kF t) = (km (sq t)) from hkf _ (by omega)) ?_
  refine lv_iload_n hx hb dX13_eatIn_9 rfl (lv_at hl 2 rfl) ?_
  refine lv_iload_n hx hb dX13_eatIn_10 rfl (lv_at hl 3 rfl) ?_
  refine k_i hA hP hD hS [(mo, .inr (11, [.int th, .ref (ma 1), .int (nI tl), .int ea, .int (nI t), .int (nI d), .ref sf, .ref (ma 2), .ref (ma 3), .ref (ma 4), .int wk, .ref sn])), (sh, .inr (9, [.ref (ha 0), .ref (ha 1), .ref (ha 2), .ref (ha 3), .int (nI (tn 0)), .ref (ha 4), .ref (ha 5), .ref (ha 6), .int (nI (tn 1)), .ref (ha 7), .ref (ha 8), .ref (ha 9), .ref (ha 10), .int (nI (tn 2)), .ref (ha 11), .ref (ha 12), .int (nI (tn 3)), .ref (ha 13), .ref (ha 14), .ref (ha 15), .int (nI (tn 4)), .ref (ha 16), .ref (ha 17), .ref (ha 18), .ref (ha 19), .ref (ha 20), .int ln])), (ha 0, .inl (g 0, 401, .inl kF))] (va_runS (As := [.int (km (sq t)), .int (km a), .int (km b)]) (rest := []) ⟨hx, hb, hml, hown, hts⟩ (c_X13_isIn l9 z D g (km (sq t)) (km a) (km b)  (Array.size s9.heap)) (va_cwS 3 hts gs_X13_46 rfl rfl rfl (by decide +kernel) ⟨Nat.le_of_ble_eq_true rfl, Nat.le_of_ble_eq_true rfl⟩) ⟨kBlind, kPre.pc hK hZ hA hP hD hS [] rfl (by decide +kernel)⟩ rfl rfl hl.1 rfl (lv_room (Nat.le_of_ble_eq_true rfl)) dX13_eatIn_11 ⟨Nat.le_of_ble_eq_true rfl, Nat.le_of_ble_eq_true rfl⟩) [] [0, 1, 2] rfl rfl rfl rfl (fun r_11 u_1 H locs hw_11 hP7 hD7 hS7 => ?_)
  clear hP hD hS
  have hP := hP7
  have hD := hD7
  have hS := hS7
  clear hP7 hD7 hS7
  obtain rfl := hw_11
  replace hP : va_P D CLS [(mo, .inr (11, [.int th, .ref (ma 1), .int (nI tl), .int ea, .int (nI t), .int (nI d), .ref sf, .ref (ma 2), .ref (ma 3), .ref (ma 4), .int wk, .ref sn])), (sh, .inr (9, [.ref (ha 0), .ref (ha 1), .ref (ha 2), .ref (ha 3), .int (nI (tn 0)), .ref (ha 4), .ref (ha 5), .ref (ha 6), .int (nI (tn 1)), .ref (ha 7), .ref (ha 8), .ref (ha 9), .ref (ha 10), .int (nI (tn 2)), .ref (ha 11), .ref (ha 12), .int (nI (tn 3)), .ref (ha 13), .ref (ha 14), .ref (ha 15), .int (nI (tn 4)), .ref (ha 16), .ref (ha 17), .ref (ha 18), .ref (ha 19), .ref (ha 20), .int ln])), (ha 0, .inl (g 0, 401, .inl kF))] H := hP
  replace hD : va_D A [(mo, .inr (11, [.int th, .ref (ma 1), .int (nI tl), .int ea, .int (nI t), .int (nI d), .ref sf, .ref (ma 2), .ref (ma 3), .ref (ma 4), .int wk, .ref sn])), (sh, .inr (9, [.ref (ha 0), .ref (ha 1), .ref (ha 2), .ref (ha 3), .int (nI (tn 0)), .ref (ha 4), .ref (ha 5), .ref (ha 6), .int (nI (tn 1)), .ref (ha 7), .ref (ha 8), .ref (ha 9), .ref (ha 10), .int (nI (tn 2)), .ref (ha 11), .ref (ha 12), .int (nI (tn 3)), .ref (ha 13), .ref (ha 14), .ref (ha 15), .int (nI (tn 4)), .ref (ha 16), .ref (ha 17), .ref (ha 18), .ref (ha 19), .ref (ha 20), .int ln])), (ha 0, .inl (g 0, 401, .inl kF))] := hD
  refine lv_if_ne (tgt := 19) hx hb dX13_eatIn_14 (by decide) (fun c_14 => ?_) (fun c_14 => ?_)
  · skip
    have c_14 := bI_1.mp c_14
    refine lv_aload_n hx hb dX13_eatIn_19 rfl (lv_at hl 0 rfl) ?_
    refine lv_dup hx hb dX13_eatIn_20 rfl ?_
    refine va_get (D := D) (ci := 11) (v := .int (nI t)) (C := RX13) (T := TX13) (N := 12) hx hb hts in_X13 hown hK hP 0 rfl rfl 4 (by decide) (hts _ w_1395) (fun _ h9 => h9) rfl dX13_eatIn_21 ?_
    refine lv_iconst (v := 1) hx hb dX13_eatIn_24 (by decide) ?_
    refine k_inc hx hb dX13_eatIn_25 ?_
    refine va_put (D := D) (ci := 11) (v := .int (nI (t + 1))) (ty := .int) (C := RX13) (T := TX13) (N := 12) hx hb hts in_X13 tyX13 tyX13_ok nmX13 hown hK hP hD hS 0 rfl rfl 4 (by decide) (hts _ w_1395) (fun _ h9 => h9) rfl (by decide +kernel) rfl rfl (Nat.le_of_ble_eq_true rfl) dX13_eatIn_26 (fun H locs hP7 hD7 hS7 => ?_)
    clear hP hD hS
    have hP := hP7
    have hD := hD7
    have hS := hS7
    clear hP7 hD7 hS7
    replace hP : va_P D CLS [(mo, .inr (11, [.int th, .ref (ma 1), .int (nI tl), .int ea, .int (nI (t + 1)), .int (nI d), .ref sf, .ref (ma 2), .ref (ma 3), .ref (ma 4), .int wk, .ref sn])), (sh, .inr (9, [.ref (ha 0), .ref (ha 1), .ref (ha 2), .ref (ha 3), .int (nI (tn 0)), .ref (ha 4), .ref (ha 5), .ref (ha 6), .int (nI (tn 1)), .ref (ha 7), .ref (ha 8), .ref (ha 9), .ref (ha 10), .int (nI (tn 2)), .ref (ha 11), .ref (ha 12), .int (nI (tn 3)), .ref (ha 13), .ref (ha 14), .ref (ha 15), .int (nI (tn 4)), .ref (ha 16), .ref (ha 17), .ref (ha 18), .ref (ha 19), .ref (ha 20), .int ln])), (ha 0, .inl (g 0, 401, .inl kF))] H := hP
    replace hD : va_D A [(mo, .inr (11, [.int th, .ref (ma 1), .int (nI tl), .int ea, .int (nI (t + 1)), .int (nI d), .ref sf, .ref (ma 2), .ref (ma 3), .ref (ma 4), .int wk, .ref sn])), (sh, .inr (9, [.ref (ha 0), .ref (ha 1), .ref (ha 2), .ref (ha 3), .int (nI (tn 0)), .ref (ha 4), .ref (ha 5), .ref (ha 6), .int (nI (tn 1)), .ref (ha 7), .ref (ha 8), .ref (ha 9), .ref (ha 10), .int (nI (tn 2)), .ref (ha 11), .ref (ha 12), .int (nI (tn 3)), .ref (ha 13), .ref (ha 14), .ref (ha 15), .int (nI (tn 4)), .ref (ha 16), .ref (ha 17), .ref (ha 18), .ref (ha 19), .ref (ha 20), .int ln])), (ha 0, .inl (g 0, 401, .inl kF))] := hD
    refine lv_iconst (v := 1) hx hb dX13_eatIn_29 (by decide) ?_
    have he_2 : (nI ((rIn sq a b t).2)) = (nI (t + 1)) := by first | (rw [rIn_a ((hab _ (hsq _)).mp (dt' c_14))]; done) | (rw [rIn_b (fun h => df' c_14 ((hab _ (hsq _)).mpr h))]; done)
    have hr9 : 1 = (bI (rIn sq a b t).1) := by first | (rw [rIn_a ((hab _ (hsq _)).mp (dt' c_14))]; rfl) | (rw [rIn_b (fun h => df' c_14 ((hab _ (hsq _)).mpr h))]; rfl)
    have hP9 : va_P D CLS [(mo, .inr (11, [.int th, .ref (ma 1), .int (nI tl), .int ea, .int (nI ((rIn sq a b t).2)), .int (nI d), .ref sf, .ref (ma 2), .ref (ma 3), .ref (ma 4), .int wk, .ref sn])), (sh, .inr (9, [.ref (ha 0), .ref (ha 1), .ref (ha 2), .ref (ha 3), .int (nI (tn 0)), .ref (ha 4), .ref (ha 5), .ref (ha 6), .int (nI (tn 1)), .ref (ha 7), .ref (ha 8), .ref (ha 9), .ref (ha 10), .int (nI (tn 2)), .ref (ha 11), .ref (ha 12), .int (nI (tn 3)), .ref (ha 13), .ref (ha 14), .ref (ha 15), .int (nI (tn 4)), .ref (ha 16), .ref (ha 17), .ref (ha 18), .ref (ha 19), .ref (ha 20), .int ln])), (ha 0, .inl (g 0, 401, .inl kF))] H := by rw [he_2]; exact kSub hP [0, 1, 2] rfl
    have hD9 : va_D A [(mo, .inr (11, [.int th, .ref (ma 1), .int (nI tl), .int ea, .int (nI ((rIn sq a b t).2)), .int (nI d), .ref sf, .ref (ma 2), .ref (ma 3), .ref (ma 4), .int wk, .ref sn])), (sh, .inr (9, [.ref (ha 0), .ref (ha 1), .ref (ha 2), .ref (ha 3), .int (nI (tn 0)), .ref (ha 4), .ref (ha 5), .ref (ha 6), .int (nI (tn 1)), .ref (ha 7), .ref (ha 8), .ref (ha 9), .ref (ha 10), .int (nI (tn 2)), .ref (ha 11), .ref (ha 12), .int (nI (tn 3)), .ref (ha 13), .ref (ha 14), .ref (ha 15), .int (nI (tn 4)), .ref (ha 16), .ref (ha 17), .ref (ha 18), .ref (ha 19), .ref (ha 20), .int ln])), (ha 0, .inl (g 0, 401, .inl kF))] := by rw [he_2]; exact hD.sub [0, 1, 2] (by decide +kernel) rfl
    exact W.zret (v := 1) hx hb hr (by first | exact k_nb0 | exact k_nb1 | exact k_nbI _ | simp) (fun t9 ht9 hW9 => ⟨⟨1, (), rfl, hr9, by rw [ht9]; exact hP9, va_K.moved hW9.alike hK, hD9⟩, hS.F ht9⟩) hS.2.2 dX13_eatIn_30
  · skip
    have c_14 := bI_0.mp c_14
    refine lv_iconst (v := 0) hx hb dX13_eatIn_17 (by decide) ?_
    have he_3 : (nI ((rIn sq a b t).2)) = (nI t) := by first | (rw [rIn_a ((hab _ (hsq _)).mp (dt' c_14))]; done) | (rw [rIn_b (fun h => df' c_14 ((hab _ (hsq _)).mpr h))]; done)
    have hr9 : 0 = (bI (rIn sq a b t).1) := by first | (rw [rIn_a ((hab _ (hsq _)).mp (dt' c_14))]; rfl) | (rw [rIn_b (fun h => df' c_14 ((hab _ (hsq _)).mpr h))]; rfl)
    have hP9 : va_P D CLS [(mo, .inr (11, [.int th, .ref (ma 1), .int (nI tl), .int ea, .int (nI ((rIn sq a b t).2)), .int (nI d), .ref sf, .ref (ma 2), .ref (ma 3), .ref (ma 4), .int wk, .ref sn])), (sh, .inr (9, [.ref (ha 0), .ref (ha 1), .ref (ha 2), .ref (ha 3), .int (nI (tn 0)), .ref (ha 4), .ref (ha 5), .ref (ha 6), .int (nI (tn 1)), .ref (ha 7), .ref (ha 8), .ref (ha 9), .ref (ha 10), .int (nI (tn 2)), .ref (ha 11), .ref (ha 12), .int (nI (tn 3)), .ref (ha 13), .ref (ha 14), .ref (ha 15), .int (nI (tn 4)), .ref (ha 16), .ref (ha 17), .ref (ha 18), .ref (ha 19), .ref (ha 20), .int ln])), (ha 0, .inl (g 0, 401, .inl kF))] H := by rw [he_3]; exact kSub hP [0, 1, 2] rfl
    have hD9 : va_D A [(mo, .inr (11, [.int th, .ref (ma 1), .int (nI tl), .int ea, .int (nI ((rIn sq a b t).2)), .int (nI d), .ref sf, .ref (ma 2), .ref (ma 3), .ref (ma 4), .int wk, .ref sn])), (sh, .inr (9, [.ref (ha 0), .ref (ha 1), .ref (ha 2), .ref (ha 3), .int (nI (tn 0)), .ref (ha 4), .ref (ha 5), .ref (ha 6), .int (nI (tn 1)), .ref (ha 7), .ref (ha 8), .ref (ha 9), .ref (ha 10), .int (nI (tn 2)), .ref (ha 11), .ref (ha 12), .int (nI (tn 3)), .ref (ha 13), .ref (ha 14), .ref (ha 15), .int (nI (tn 4)), .ref (ha 16), .ref (ha 17), .ref (ha 18), .ref (ha 19), .ref (ha 20), .int ln])), (ha 0, .inl (g 0, 401, .inl kF))] := by rw [he_3]; exact hD.sub [0, 1, 2] (by decide +kernel) rfl
    exact W.zret (v := 0) hx hb hr (by first | exact k_nb0 | exact k_nb1 | exact k_nbI _ | simp) (fun t9 ht9 hW9 => ⟨⟨0, (), rfl, hr9, by rw [ht9]; exact hP9, va_K.moved hW9.alike hK, hD9⟩, hS.F ht9⟩) hS.2.2 dX13_eatIn_18
theorem dX13_goDown_0 : decode cX13_goDown 0 = .ok (.aload_n 1, 1) := by decide +kernel
theorem dX13_goDown_1 : decode cX13_goDown 1 = .ok (.getfield 99, 3) := by decide +kernel
theorem dX13_goDown_4 : decode cX13_goDown 4 = .ok (.aload_n 0, 1) := by decide +kernel
theorem dX13_goDown_5 : decode cX13_goDown 5 = .ok (.getfield 105, 3) := by decide +kernel
theorem dX13_goDown_8 : decode cX13_goDown 8 = .ok (.iaload, 1) := by decide +kernel
theorem dX13_goDown_9 : decode cX13_goDown 9 = .ok (.iload_n 2, 1) := by decide +kernel
theorem dX13_goDown_10 : decode cX13_goDown 10 = .ok (.if_icmp .ne 12, 3) := by decide +kernel
theorem dX13_goDown_13 : decode cX13_goDown 13 = .ok (.aload_n 0, 1) := by decide +kernel
theorem dX13_goDown_14 : decode cX13_goDown 14 = .ok (.getfield 108, 3) := by decide +kernel
theorem dX13_goDown_17 : decode cX13_goDown 17 = .ok (.bipush 8, 2) := by decide +kernel
theorem dX13_goDown_19 : decode cX13_goDown 19 = .ok (.if_icmp .ne 5, 3) := by decide +kernel
theorem dX13_goDown_22 : decode cX13_goDown 22 = .ok (.iconst 0, 1) := by decide +kernel
theorem dX13_goDown_23 : decode cX13_goDown 23 = .ok (.ireturn, 1) := by decide +kernel
theorem dX13_goDown_24 : decode cX13_goDown 24 = .ok (.aload_n 0, 1) := by decide +kernel
theorem dX13_goDown_25 : decode cX13_goDown 25 = .ok (.dup, 1) := by decide +kernel
theorem dX13_goDown_26 : decode cX13_goDown 26 = .ok (.getfield 108, 3) := by decide +kernel
theorem dX13_goDown_29 : decode cX13_goDown 29 = .ok (.iconst 1, 1) := by decide +kernel
theorem dX13_goDown_30 : decode cX13_goDown 30 = .ok (.iadd, 1) := by decide +kernel
theorem dX13_goDown_31 : decode cX13_goDown 31 = .ok (.putfield 108, 3) := by decide +kernel
theorem dX13_goDown_34 : decode cX13_goDown 34 = .ok (.aload_n 0, 1) := by decide +kernel
theorem dX13_goDown_35 : decode cX13_goDown 35 = .ok (.dup, 1) := by decide +kernel
theorem dX13_goDown_36 : decode cX13_goDown 36 = .ok (.getfield 105, 3) := by decide +kernel
theorem dX13_goDown_39 : decode cX13_goDown 39 = .ok (.iconst 1, 1) := by decide +kernel
theorem dX13_goDown_40 : decode cX13_goDown 40 = .ok (.iadd, 1) := by decide +kernel
theorem dX13_goDown_41 : decode cX13_goDown 41 = .ok (.putfield 105, 3) := by decide +kernel
theorem dX13_goDown_44 : decode cX13_goDown 44 = .ok (.iconst 1, 1) := by decide +kernel
theorem dX13_goDown_45 : decode cX13_goDown 45 = .ok (.ireturn, 1) := by decide +kernel
set_option maxHeartbeats 4000000 in
set_option maxRecDepth 100000 in
/-- Model.goDown -/
theorem c_X13_goDown (l9 : Launch) (z : Nat → Nat) (D : va_G) (g : Nat → ClassId) (mo : Nat) (ma : Nat → Nat) (th : Int32) (tl : Nat) (ea : Int32) (sh : Nat) (wk : Int32) (sn : Nat) (sf : Nat) (ha : Nat → Nat) (tn : Nat → Nat) (ln : Int32) (sq : Nat → Nat) (K : Nat) (kF : Nat → Int32) (t : Nat) (d : Nat) (s : Nat) (hT : TKO sq K kF) (ht : t ≤ K) (hd : d ≤ 8) (hs : s < 49) (sz : Nat) : Met l9 yX13_goDown (WS yX13_goDown cX13_goDown 3 (some .boolean)) ({ frames := 0, cells := 0, slots := 0, locals := 0 }) (va_Pc [.ref mo, .ref sh, .int (km s)] (kPre z D g [(mo, .inr (11, [.int th, .ref (ma 1), .int (nI tl), .int ea, .int (nI t), .int (nI d), .ref sf, .ref (ma 2), .ref (ma 3), .ref (ma 4), .int wk, .ref sn])), (sh, .inr (9, [.ref (ha 0), .ref (ha 1), .ref (ha 2), .ref (ha 3), .int (nI (tn 0)), .ref (ha 4), .ref (ha 5), .ref (ha 6), .int (nI (tn 1)), .ref (ha 7), .ref (ha 8), .ref (ha 9), .ref (ha 10), .int (nI (tn 2)), .ref (ha 11), .ref (ha 12), .int (nI (tn 3)), .ref (ha 13), .ref (ha 14), .ref (ha 15), .int (nI (tn 4)), .ref (ha 16), .ref (ha 17), .ref (ha 18), .ref (ha 19), .ref (ha 20), .int ln])), (ha 0, .inl (g 0, 401, .inl kF))] sz)) (va_Qi (fun (r9 : Int32) (u9 : Unit) => r9 = bI (rDn sq s d t).1) (kB D g (va_A [(mo, .inr (11, [.int th, .ref (ma 1), .int (nI tl), .int ea, .int (nI t), .int (nI d), .ref sf, .ref (ma 2), .ref (ma 3), .ref (ma 4), .int wk, .ref sn])), (sh, .inr (9, [.ref (ha 0), .ref (ha 1), .ref (ha 2), .ref (ha 3), .int (nI (tn 0)), .ref (ha 4), .ref (ha 5), .ref (ha 6), .int (nI (tn 1)), .ref (ha 7), .ref (ha 8), .ref (ha 9), .ref (ha 10), .int (nI (tn 2)), .ref (ha 11), .ref (ha 12), .int (nI (tn 3)), .ref (ha 13), .ref (ha 14), .ref (ha 15), .int (nI (tn 4)), .ref (ha 16), .ref (ha 17), .ref (ha 18), .ref (ha 19), .ref (ha 20), .int ln])), (ha 0, .inl (g 0, 401, .inl kF))] sz) (fun (u9 : Unit) => [(mo, .inr (11, [.int th, .ref (ma 1), .int (nI tl), .int ea, .int (nI ((rDn sq s d t).2.1)), .int (nI ((rDn sq s d t).2.2)), .ref sf, .ref (ma 2), .ref (ma 3), .ref (ma 4), .int wk, .ref sn])), (sh, .inr (9, [.ref (ha 0), .ref (ha 1), .ref (ha 2), .ref (ha 3), .int (nI (tn 0)), .ref (ha 4), .ref (ha 5), .ref (ha 6), .int (nI (tn 1)), .ref (ha 7), .ref (ha 8), .ref (ha 9), .ref (ha 10), .int (nI (tn 2)), .ref (ha 11), .ref (ha 12), .int (nI (tn 3)), .ref (ha 13), .ref (ha 14), .ref (ha 15), .int (nI (tn 4)), .ref (ha 16), .ref (ha 17), .ref (ha 18), .ref (ha 19), .ref (ha 20), .int ln])), (ha 0, .inl (g 0, 401, .inl kF))])) (va_A [(mo, .inr (11, [.int th, .ref (ma 1), .int (nI tl), .int ea, .int (nI t), .int (nI d), .ref sf, .ref (ma 2), .ref (ma 3), .ref (ma 4), .int wk, .ref sn])), (sh, .inr (9, [.ref (ha 0), .ref (ha 1), .ref (ha 2), .ref (ha 3), .int (nI (tn 0)), .ref (ha 4), .ref (ha 5), .ref (ha 6), .int (nI (tn 1)), .ref (ha 7), .ref (ha 8), .ref (ha 9), .ref (ha 10), .int (nI (tn 2)), .ref (ha 11), .ref (ha 12), .int (nI (tn 3)), .ref (ha 13), .ref (ha 14), .ref (ha 15), .int (nI (tn 4)), .ref (ha 16), .ref (ha 17), .ref (ha 18), .ref (ha 19), .ref (ha 20), .int ln])), (ha 0, .inl (g 0, 401, .inl kF))] sz)) 0 0 (va_A [(mo, .inr (11, [.int th, .ref (ma 1), .int (nI tl), .int ea, .int (nI t), .int (nI d), .ref sf, .ref (ma 2), .ref (ma 3), .ref (ma 4), .int wk, .ref sn])), (sh, .inr (9, [.ref (ha 0), .ref (ha 1), .ref (ha 2), .ref (ha 3), .int (nI (tn 0)), .ref (ha 4), .ref (ha 5), .ref (ha 6), .int (nI (tn 1)), .ref (ha 7), .ref (ha 8), .ref (ha 9), .ref (ha 10), .int (nI (tn 2)), .ref (ha 11), .ref (ha 12), .int (nI (tn 3)), .ref (ha 13), .ref (ha 14), .ref (ha 15), .int (nI (tn 4)), .ref (ha 16), .ref (ha 17), .ref (ha 18), .ref (ha 19), .ref (ha 20), .int ln])), (ha 0, .inl (g 0, 401, .inl kF))] sz) := by
  refine Met.ofW (cc := cX13_goDown) (maxL := 3) (ret := (some .boolean)) (by decide) rfl ?_
  intro p9 e9 s9 m9 args9 below9 meth9 c9 s₁ B hml hv
  obtain ⟨rfl, hsz, hP, hK, hD0, hZ⟩ := hv
  have hx := B.exec
  have hb := B.bytes
  have hr := B.returns
  have hts := ws_sub (atoms_spec (ws := WS yX13_goDown cX13_goDown 3 (some .boolean)) B.pre)
  have hown : s9.vm.findClass RX13 = some m9.cls := findClass_of_methodNamed B.named
  have hlocks := B.notSynchronized
  subst hsz
  have hD := hD0.self (sz := s9.heap.size)
  generalize hAe : va_A [(mo, .inr (11, [.int th, .ref (ma 1), .int (nI tl), .int ea, .int (nI t), .int (nI d), .ref sf, .ref (ma 2), .ref (ma 3), .ref (ma 4), .int wk, .ref sn])), (sh, .inr (9, [.ref (ha 0), .ref (ha 1), .ref (ha 2), .ref (ha 3), .int (nI (tn 0)), .ref (ha 4), .ref (ha 5), .ref (ha 6), .int (nI (tn 1)), .ref (ha 7), .ref (ha 8), .ref (ha 9), .ref (ha 10), .int (nI (tn 2)), .ref (ha 11), .ref (ha 12), .int (nI (tn 3)), .ref (ha 13), .ref (ha 14), .ref (ha 15), .int (nI (tn 4)), .ref (ha 16), .ref (ha 17), .ref (ha 18), .ref (ha 19), .ref (ha 20), .int ln])), (ha 0, .inl (g 0, 401, .inl kF))] s9.heap.size = A at hD hZ ⊢
  have hA : ∀ q : Nat, s9.heap.size ≤ q → A q := fun q h => by rw [← hAe]; exact Or.inr h
  have hS : va_S A s9.heap s9.heap [] := va_S.rf
  have hP : va_P D CLS [(mo, .inr (11, [.int th, .ref (ma 1), .int (nI tl), .int ea, .int (nI t), .int (nI d), .ref sf, .ref (ma 2), .ref (ma 3), .ref (ma 4), .int wk, .ref sn])), (sh, .inr (9, [.ref (ha 0), .ref (ha 1), .ref (ha 2), .ref (ha 3), .int (nI (tn 0)), .ref (ha 4), .ref (ha 5), .ref (ha 6), .int (nI (tn 1)), .ref (ha 7), .ref (ha 8), .ref (ha 9), .ref (ha 10), .int (nI (tn 2)), .ref (ha 11), .ref (ha 12), .int (nI (tn 3)), .ref (ha 13), .ref (ha 14), .ref (ha 15), .int (nI (tn 4)), .ref (ha 16), .ref (ha 17), .ref (ha 18), .ref (ha 19), .ref (ha 20), .int ln])), (ha 0, .inl (g 0, 401, .inl kF))] s9.heap := hP
  have hl := lv_entry ([.ref mo, .ref sh, .int (km s)]) (n := 3) (Nat.le_of_ble_eq_true rfl)
  rw [lg_entry_eq]
  generalize (lg_sl ([.ref mo, .ref sh, .int (km s)]) ++ List.replicate (3 - (lg_sl ([.ref mo, .ref sh, .int (km s)])).length) Slot.unset).toArray = ls at hl ⊢
  have hl : lv_has ls 3 [(0, .ref mo), (1, .ref sh), (2, .int (km s))] := hl
  change W p9 l9 e9 ({ frames := 0, cells := 0, slots := 0, locals := 0 } : Room) s9 m9 _ below9 meth9 c9 _ _ _ _ _ _
  have hK4 := hT.1
  have hkf := hT.2.1
  have hsq := hT.2.2.1
  refine lv_aload_n hx hb dX13_goDown_0 rfl (lv_at hl 1 rfl) ?_
  refine va_getN (D := D) (ci := 9) (v := .ref (ha 0)) (C := RX11) (T := TX11) (N := 27) hx hb hts in_X11 hown hK hP 1 rfl rfl 0 (by decide) (hZ.nst.use nw_1242) (fun _ h9 => h9) rfl dX13_goDown_1 ?_
  refine lv_aload_n hx hb dX13_goDown_4 rfl (lv_at hl 0 rfl) ?_
  refine va_get (D := D) (ci := 11) (v := .int (nI t)) (C := RX13) (T := TX13) (N := 12) hx hb hts in_X13 hown hK hP 0 rfl rfl 4 (by decide) (hts _ w_1395) (fun _ h9 => h9) rfl dX13_goDown_5 ?_
  refine k_ialdN hx hb hK hP 2 0 rfl rfl (by omega) (by first | decide | omega) dX13_goDown_8 ?_
  refine k_topi (show (kF t) = (km (sq t)) from hkf _ (by omega)) ?_
  refine lv_iload_n hx hb dX13_goDown_9 rfl (lv_at hl 2 rfl) ?_
  refine lv_icmp_ne (tgt := 22) hx hb dX13_goDown_10 (by decide) (fun c_10 => ?_) (fun c_10 => ?_)
  · skip
    have c_10 : ¬ (sq t) = s := fun h => c_10 ((km_eq (a := (sq t)) (b := s) (by first | decide | assumption | exact hsq _) (by first | decide | assumption | exact hsq _)).mpr h)
    refine lv_iconst (v := 0) hx hb dX13_goDown_22 (by decide) ?_
    have he_1 : (nI ((rDn sq s d t).2.1)) = (nI t) := by first | (rw [rDn_a c_10 c_19 hd]; done) | (rw [rDn_b c_10]; done) | (rw [rDn_c c_19]; done)
    have he_2 : (nI ((rDn sq s d t).2.2)) = (nI d) := by first | (rw [rDn_a c_10 c_19 hd]; done) | (rw [rDn_b c_10]; done) | (rw [rDn_c c_19]; done)
    have hr9 : 0 = (bI (rDn sq s d t).1) := by first | (rw [rDn_a c_10 c_19 hd]; rfl) | (rw [rDn_b c_10]; rfl) | (rw [rDn_c c_19]; rfl)
    have hP9 : va_P D CLS [(mo, .inr (11, [.int th, .ref (ma 1), .int (nI tl), .int ea, .int (nI ((rDn sq s d t).2.1)), .int (nI ((rDn sq s d t).2.2)), .ref sf, .ref (ma 2), .ref (ma 3), .ref (ma 4), .int wk, .ref sn])), (sh, .inr (9, [.ref (ha 0), .ref (ha 1), .ref (ha 2), .ref (ha 3), .int (nI (tn 0)), .ref (ha 4), .ref (ha 5), .ref (ha 6), .int (nI (tn 1)), .ref (ha 7), .ref (ha 8), .ref (ha 9), .ref (ha 10), .int (nI (tn 2)), .ref (ha 11), .ref (ha 12), .int (nI (tn 3)), .ref (ha 13), .ref (ha 14), .ref (ha 15), .int (nI (tn 4)), .ref (ha 16), .ref (ha 17), .ref (ha 18), .ref (ha 19), .ref (ha 20), .int ln])), (ha 0, .inl (g 0, 401, .inl kF))] s9.heap := by rw [he_1, he_2]; exact kSub hP [0, 1, 2] rfl
    have hD9 : va_D A [(mo, .inr (11, [.int th, .ref (ma 1), .int (nI tl), .int ea, .int (nI ((rDn sq s d t).2.1)), .int (nI ((rDn sq s d t).2.2)), .ref sf, .ref (ma 2), .ref (ma 3), .ref (ma 4), .int wk, .ref sn])), (sh, .inr (9, [.ref (ha 0), .ref (ha 1), .ref (ha 2), .ref (ha 3), .int (nI (tn 0)), .ref (ha 4), .ref (ha 5), .ref (ha 6), .int (nI (tn 1)), .ref (ha 7), .ref (ha 8), .ref (ha 9), .ref (ha 10), .int (nI (tn 2)), .ref (ha 11), .ref (ha 12), .int (nI (tn 3)), .ref (ha 13), .ref (ha 14), .ref (ha 15), .int (nI (tn 4)), .ref (ha 16), .ref (ha 17), .ref (ha 18), .ref (ha 19), .ref (ha 20), .int ln])), (ha 0, .inl (g 0, 401, .inl kF))] := by rw [he_1, he_2]; exact hD.sub [0, 1, 2] (by decide +kernel) rfl
    exact W.zret (v := 0) hx hb hr (by first | exact k_nb0 | exact k_nb1 | exact k_nbI _ | simp) (fun t9 ht9 hW9 => ⟨⟨0, (), rfl, hr9, by rw [ht9]; exact hP9, va_K.moved hW9.alike hK, hD9⟩, hS.F ht9⟩) hS.2.2 dX13_goDown_23
  · skip
    have c_10 : (sq t) = s := (km_eq (a := (sq t)) (b := s) (by first | decide | assumption | exact hsq _) (by first | decide | assumption | exact hsq _)).mp c_10
    refine lv_aload_n hx hb dX13_goDown_13 rfl (lv_at hl 0 rfl) ?_
    refine va_get (D := D) (ci := 11) (v := .int (nI d)) (C := RX13) (T := TX13) (N := 12) hx hb hts in_X13 hown hK hP 0 rfl rfl 5 (by decide) (hts _ w_1396) (fun _ h9 => h9) rfl dX13_goDown_14 ?_
    refine lv_bipush (v := 8) hx hb dX13_goDown_17 (by decide) ?_
    refine lv_icmp_ne (tgt := 24) hx hb dX13_goDown_19 (by decide) (fun c_19 => ?_) (fun c_19 => ?_)
    · skip
      have c_19 : ¬ d = 8 := fun h => c_19 ((nI_eq (a := d) (b := 8) (by omega) (by omega)).mpr h)
      refine lv_aload_n hx hb dX13_goDown_24 rfl (lv_at hl 0 rfl) ?_
      refine lv_dup hx hb dX13_goDown_25 rfl ?_
      refine va_get (D := D) (ci := 11) (v := .int (nI d)) (C := RX13) (T := TX13) (N := 12) hx hb hts in_X13 hown hK hP 0 rfl rfl 5 (by decide) (hts _ w_1396) (fun _ h9 => h9) rfl dX13_goDown_26 ?_
      refine lv_iconst (v := 1) hx hb dX13_goDown_29 (by decide) ?_
      refine k_inc hx hb dX13_goDown_30 ?_
      refine va_put (D := D) (ci := 11) (v := .int (nI (d + 1))) (ty := .int) (C := RX13) (T := TX13) (N := 12) hx hb hts in_X13 tyX13 tyX13_ok nmX13 hown hK hP hD hS 0 rfl rfl 5 (by decide) (hts _ w_1396) (fun _ h9 => h9) rfl (by decide +kernel) rfl rfl (Nat.le_of_ble_eq_true rfl) dX13_goDown_31 (fun H locs hP7 hD7 hS7 => ?_)
      clear hP hD hS
      have hP := hP7
      have hD := hD7
      have hS := hS7
      clear hP7 hD7 hS7
      replace hP : va_P D CLS [(mo, .inr (11, [.int th, .ref (ma 1), .int (nI tl), .int ea, .int (nI t), .int (nI (d + 1)), .ref sf, .ref (ma 2), .ref (ma 3), .ref (ma 4), .int wk, .ref sn])), (sh, .inr (9, [.ref (ha 0), .ref (ha 1), .ref (ha 2), .ref (ha 3), .int (nI (tn 0)), .ref (ha 4), .ref (ha 5), .ref (ha 6), .int (nI (tn 1)), .ref (ha 7), .ref (ha 8), .ref (ha 9), .ref (ha 10), .int (nI (tn 2)), .ref (ha 11), .ref (ha 12), .int (nI (tn 3)), .ref (ha 13), .ref (ha 14), .ref (ha 15), .int (nI (tn 4)), .ref (ha 16), .ref (ha 17), .ref (ha 18), .ref (ha 19), .ref (ha 20), .int ln])), (ha 0, .inl (g 0, 401, .inl kF))] H := hP
      replace hD : va_D A [(mo, .inr (11, [.int th, .ref (ma 1), .int (nI tl), .int ea, .int (nI t), .int (nI (d + 1)), .ref sf, .ref (ma 2), .ref (ma 3), .ref (ma 4), .int wk, .ref sn])), (sh, .inr (9, [.ref (ha 0), .ref (ha 1), .ref (ha 2), .ref (ha 3), .int (nI (tn 0)), .ref (ha 4), .ref (ha 5), .ref (ha 6), .int (nI (tn 1)), .ref (ha 7), .ref (ha 8), .ref (ha 9), .ref (ha 10), .int (nI (tn 2)), .ref (ha 11), .ref (ha 12), .int (nI (tn 3)), .ref (ha 13), .ref (ha 14), .ref (ha 15), .int (nI (tn 4)), .ref (ha 16), .ref (ha 17), .ref (ha 18), .ref (ha 19), .ref (ha 20), .int ln])), (ha 0, .inl (g 0, 401, .inl kF))] := hD
      refine lv_aload_n hx hb dX13_goDown_34 rfl (lv_at hl 0 rfl) ?_
      refine lv_dup hx hb dX13_goDown_35 rfl ?_
      refine va_get (D := D) (ci := 11) (v := .int (nI t)) (C := RX13) (T := TX13) (N := 12) hx hb hts in_X13 hown hK hP 0 rfl rfl 4 (by decide) (hts _ w_1395) (fun _ h9 => h9) rfl dX13_goDown_36 ?_
      refine lv_iconst (v := 1) hx hb dX13_goDown_39 (by decide) ?_
      refine k_inc hx hb dX13_goDown_40 ?_
      refine va_put (D := D) (ci := 11) (v := .int (nI (t + 1))) (ty := .int) (C := RX13) (T := TX13) (N := 12) hx hb hts in_X13 tyX13 tyX13_ok nmX13 hown hK hP hD hS 0 rfl rfl 4 (by decide) (hts _ w_1395) (fun _ h9 => h9) rfl (by decide +kernel) rfl rfl (Nat.le_of_ble_eq_true rfl) dX13_goDown_41 (fun H locs hP7 hD7 hS7 => ?_)
      clear hP hD hS
      have hP := hP7
      have hD := hD7
      have hS := hS7
      clear hP7 hD7 hS7
      replace hP : va_P D CLS [(mo, .inr (11, [.int th, .ref (ma 1), .int (nI tl), .int ea, .int (nI (t + 1)), .int (nI (d + 1)), .ref sf, .ref (ma 2), .ref (ma 3), .ref (ma 4), .int wk, .ref sn])), (sh, .inr (9, [.ref (ha 0), .ref (ha 1), .ref (ha 2), .ref (ha 3), .int (nI (tn 0)), .ref (ha 4), .ref (ha 5), .ref (ha 6), .int (nI (tn 1)), .ref (ha 7), .ref (ha 8), .ref (ha 9), .ref (ha 10), .int (nI (tn 2)), .ref (ha 11), .ref (ha 12), .int (nI (tn 3)), .ref (ha 13), .ref (ha 14), .ref (ha 15), .int (nI (tn 4)), .ref (ha 16), .ref (ha 17), .ref (ha 18), .ref (ha 19), .ref (ha 20), .int ln])), (ha 0, .inl (g 0, 401, .inl kF))] H := hP
      replace hD : va_D A [(mo, .inr (11, [.int th, .ref (ma 1), .int (nI tl), .int ea, .int (nI (t + 1)), .int (nI (d + 1)), .ref sf, .ref (ma 2), .ref (ma 3), .ref (ma 4), .int wk, .ref sn])), (sh, .inr (9, [.ref (ha 0), .ref (ha 1), .ref (ha 2), .ref (ha 3), .int (nI (tn 0)), .ref (ha 4), .ref (ha 5), .ref (ha 6), .int (nI (tn 1)), .ref (ha 7), .ref (ha 8), .ref (ha 9), .ref (ha 10), .int (nI (tn 2)), .ref (ha 11), .ref (ha 12), .int (nI (tn 3)), .ref (ha 13), .ref (ha 14), .ref (ha 15), .int (nI (tn 4)), .ref (ha 16), .ref (ha 17), .ref (ha 18), .ref (ha 19), .ref (ha 20), .int ln])), (ha 0, .inl (g 0, 401, .inl kF))] := hD
      refine lv_iconst (v := 1) hx hb dX13_goDown_44 (by decide) ?_
      have he_3 : (nI ((rDn sq s d t).2.1)) = (nI (t + 1)) := by first | (rw [rDn_a c_10 c_19 hd]; done) | (rw [rDn_b c_10]; done) | (rw [rDn_c c_19]; done)
      have he_4 : (nI ((rDn sq s d t).2.2)) = (nI (d + 1)) := by first | (rw [rDn_a c_10 c_19 hd]; done) | (rw [rDn_b c_10]; done) | (rw [rDn_c c_19]; done)
      have hr9 : 1 = (bI (rDn sq s d t).1) := by first | (rw [rDn_a c_10 c_19 hd]; rfl) | (rw [rDn_b c_10]; rfl) | (rw [rDn_c c_19]; rfl)
      have hP9 : va_P D CLS [(mo, .inr (11, [.int th, .ref (ma 1), .int (nI tl), .int ea, .int (nI ((rDn sq s d t).2.1)), .int (nI ((rDn sq s d t).2.2)), .ref sf, .ref (ma 2), .ref (ma 3), .ref (ma 4), .int wk, .ref sn])), (sh, .inr (9, [.ref (ha 0), .ref (ha 1), .ref (ha 2), .ref (ha 3), .int (nI (tn 0)), .ref (ha 4), .ref (ha 5), .ref (ha 6), .int (nI (tn 1)), .ref (ha 7), .ref (ha 8), .ref (ha 9), .ref (ha 10), .int (nI (tn 2)), .ref (ha 11), .ref (ha 12), .int (nI (tn 3)), .ref (ha 13), .ref (ha 14), .ref (ha 15), .int (nI (tn 4)), .ref (ha 16), .ref (ha 17), .ref (ha 18), .ref (ha 19), .ref (ha 20), .int ln])), (ha 0, .inl (g 0, 401, .inl kF))] H := by rw [he_3, he_4]; exact kSub hP [0, 1, 2] rfl
      have hD9 : va_D A [(mo, .inr (11, [.int th, .ref (ma 1), .int (nI tl), .int ea, .int (nI ((rDn sq s d t).2.1)), .int (nI ((rDn sq s d t).2.2)), .ref sf, .ref (ma 2), .ref (ma 3), .ref (ma 4), .int wk, .ref sn])), (sh, .inr (9, [.ref (ha 0), .ref (ha 1), .ref (ha 2), .ref (ha 3), .int (nI (tn 0)), .ref (ha 4), .ref (ha 5), .ref (ha 6), .int (nI (tn 1)), .ref (ha 7), .ref (ha 8), .ref (ha 9), .ref (ha 10), .int (nI (tn 2)), .ref (ha 11), .ref (ha 12), .int (nI (tn 3)), .ref (ha 13), .ref (ha 14), .ref (ha 15), .int (nI (tn 4)), .ref (ha 16), .ref (ha 17), .ref (ha 18), .ref (ha 19), .ref (ha 20), .int ln])), (ha 0, .inl (g 0, 401, .inl kF))] := by rw [he_3, he_4]; exact hD.sub [0, 1, 2] (by decide +kernel) rfl
      exact W.zret (v := 1) hx hb hr (by first | exact k_nb0 | exact k_nb1 | exact k_nbI _ | simp) (fun t9 ht9 hW9 => ⟨⟨1, (), rfl, hr9, by rw [ht9]; exact hP9, va_K.moved hW9.alike hK, hD9⟩, hS.F ht9⟩) hS.2.2 dX13_goDown_45
    · skip
      have c_19 : d = 8 := (nI_eq (a := d) (b := 8) (by omega) (by omega)).mp c_19
      refine lv_iconst (v := 0) hx hb dX13_goDown_22 (by decide) ?_
      have he_5 : (nI ((rDn sq s d t).2.1)) = (nI t) := by first | (rw [rDn_a c_10 c_19 hd]; done) | (rw [rDn_b c_10]; done) | (rw [rDn_c c_19]; done)
      have he_6 : (nI ((rDn sq s d t).2.2)) = (nI d) := by first | (rw [rDn_a c_10 c_19 hd]; done) | (rw [rDn_b c_10]; done) | (rw [rDn_c c_19]; done)
      have hr9 : 0 = (bI (rDn sq s d t).1) := by first | (rw [rDn_a c_10 c_19 hd]; rfl) | (rw [rDn_b c_10]; rfl) | (rw [rDn_c c_19]; rfl)
      have hP9 : va_P D CLS [(mo, .inr (11, [.int th, .ref (ma 1), .int (nI tl), .int ea, .int (nI ((rDn sq s d t).2.1)), .int (nI ((rDn sq s d t).2.2)), .ref sf, .ref (ma 2), .ref (ma 3), .ref (ma 4), .int wk, .ref sn])), (sh, .inr (9, [.ref (ha 0), .ref (ha 1), .ref (ha 2), .ref (ha 3), .int (nI (tn 0)), .ref (ha 4), .ref (ha 5), .ref (ha 6), .int (nI (tn 1)), .ref (ha 7), .ref (ha 8), .ref (ha 9), .ref (ha 10), .int (nI (tn 2)), .ref (ha 11), .ref (ha 12), .int (nI (tn 3)), .ref (ha 13), .ref (ha 14), .ref (ha 15), .int (nI (tn 4)), .ref (ha 16), .ref (ha 17), .ref (ha 18), .ref (ha 19), .ref (ha 20), .int ln])), (ha 0, .inl (g 0, 401, .inl kF))] s9.heap := by rw [he_5, he_6]; exact kSub hP [0, 1, 2] rfl
      have hD9 : va_D A [(mo, .inr (11, [.int th, .ref (ma 1), .int (nI tl), .int ea, .int (nI ((rDn sq s d t).2.1)), .int (nI ((rDn sq s d t).2.2)), .ref sf, .ref (ma 2), .ref (ma 3), .ref (ma 4), .int wk, .ref sn])), (sh, .inr (9, [.ref (ha 0), .ref (ha 1), .ref (ha 2), .ref (ha 3), .int (nI (tn 0)), .ref (ha 4), .ref (ha 5), .ref (ha 6), .int (nI (tn 1)), .ref (ha 7), .ref (ha 8), .ref (ha 9), .ref (ha 10), .int (nI (tn 2)), .ref (ha 11), .ref (ha 12), .int (nI (tn 3)), .ref (ha 13), .ref (ha 14), .ref (ha 15), .int (nI (tn 4)), .ref (ha 16), .ref (ha 17), .ref (ha 18), .ref (ha 19), .ref (ha 20), .int ln])), (ha 0, .inl (g 0, 401, .inl kF))] := by rw [he_5, he_6]; exact hD.sub [0, 1, 2] (by decide +kernel) rfl
      exact W.zret (v := 0) hx hb hr (by first | exact k_nb0 | exact k_nb1 | exact k_nbI _ | simp) (fun t9 ht9 hW9 => ⟨⟨0, (), rfl, hr9, by rw [ht9]; exact hP9, va_K.moved hW9.alike hK, hD9⟩, hS.F ht9⟩) hS.2.2 dX13_goDown_23
