theorem dX5_init_0 : decode cX5_init 0 = .ok (.aload_n 0, 1) := by decide +kernel
theorem dX5_init_1 : decode cX5_init 1 = .ok (.invokespecial 1, 3) := by decide +kernel
theorem dX5_init_4 : decode cX5_init 4 = .ok (.aload_n 0, 1) := by decide +kernel
theorem dX5_init_5 : decode cX5_init 5 = .ok (.iload_n 1, 1) := by decide +kernel
theorem dX5_init_6 : decode cX5_init 6 = .ok (.iconst 0, 1) := by decide +kernel
theorem dX5_init_7 : decode cX5_init 7 = .ok (.invokestatic 7, 3) := by decide +kernel
theorem dX5_init_10 : decode cX5_init 10 = .ok (.newarray .int, 2) := by decide +kernel
theorem dX5_init_12 : decode cX5_init 12 = .ok (.putfield 13, 3) := by decide +kernel
theorem dX5_init_15 : decode cX5_init 15 = .ok (.return_, 1) := by decide +kernel
set_option maxHeartbeats 4000000 in
set_option maxRecDepth 100000 in
/-- Row(N): a new row of zeros -/
theorem c_X5_init (l9 : Launch) (z : Nat → Nat) (D : va_G) (g : Nat → ClassId) (r : Nat) (N : Nat) (hN : N ≤ 100000) (sz : Nat) : Met l9 yX5_init (WS yX5_init cX5_init 2 none) ({ frames := 1, cells := 1, slots := N, locals := 16 }) (va_Pc [.ref r, .int (nI N)] (kPre z D g [(r, .inr (4, [.null]))] sz)) (va_Qv (fun (u9 : Nat) => True) (kB D g (va_A [(r, .inr (4, [.null]))] sz) (fun (u9 : Nat) => [(r, .inr (4, [.ref u9])), (u9, .inl (g 0, N, .inl (fun _ => 0)))])) (va_A [(r, .inr (4, [.null]))] sz)) 1 N (va_A [(r, .inr (4, [.null]))] sz) := by
  refine Met.ofW (cc := cX5_init) (maxL := 2) (ret := none) (by decide) rfl ?_
  intro p9 e9 s9 m9 args9 below9 meth9 c9 s₁ B hml hv
  obtain ⟨rfl, hsz, hP, hK, hD0, hZ⟩ := hv
  have hx := B.exec
  have hb := B.bytes
  have hr := B.returns
  have hts := ws_sub (atoms_spec (ws := WS yX5_init cX5_init 2 none) B.pre)
  have hown : s9.vm.findClass RX5 = some m9.cls := findClass_of_methodNamed B.named
  have hlocks := B.notSynchronized
  have hin : meth9.name = "<init>" := (name_of_methodNamed B.named B.method).1
  subst hsz
  have hD := hD0.self (sz := s9.heap.size)
  generalize hAe : va_A [(r, .inr (4, [.null]))] s9.heap.size = A at hD hZ ⊢
  have hA : ∀ q : Nat, s9.heap.size ≤ q → A q := fun q h => by rw [← hAe]; exact Or.inr h
  have hS : va_S A s9.heap s9.heap [] := va_S.rf
  have hP : va_P D CLS [(r, .inr (4, [.null]))] s9.heap := hP
  have hl := lv_entry ([.ref r, .int (nI N)]) (n := 2) (Nat.le_of_ble_eq_true rfl)
  rw [lg_entry_eq]
  generalize (lg_sl ([.ref r, .int (nI N)]) ++ List.replicate (2 - (lg_sl ([.ref r, .int (nI N)])).length) Slot.unset).toArray = ls at hl ⊢
  have hl : lv_has ls 2 [(0, .ref r), (1, .int (nI N))] := hl
  change W p9 l9 e9 ({ frames := 1, cells := 1, slots := N, locals := 16 } : Room) s9 m9 _ below9 meth9 c9 _ _ _ _ _ _
  refine lv_aload_n hx hb dX5_init_0 rfl (lv_at hl 0 rfl) ?_
  refine W.objInit hx hb hown (hts _ w_91) (hts _ w_84) (hts _ w_85) rfl (by rw [hml]; exact hl.1) rfl dX5_init_1 (Nat.le_of_ble_eq_true rfl) (Nat.le_of_ble_eq_true rfl) ?_
  refine W.eq (g2 := F0 m9 4 ls []) rfl ?_
  refine lv_aload_n hx hb dX5_init_4 rfl (lv_at hl 0 rfl) ?_
  refine lv_iload_n hx hb dX5_init_5 rfl (lv_at hl 1 rfl) ?_
  refine lv_iconst (v := 0) hx hb dX5_init_6 (by decide) ?_
  refine va_mmax hx hb (by rw [hml]; exact hl.1.symm) hown (hts _ w_92) (hts _ w_93) (hts _ w_54) (hts _ w_94) (Nat.le_of_ble_eq_true rfl) (Nat.le_of_ble_eq_true rfl) (Nat.le_of_ble_eq_true rfl) (Nat.le_of_ble_eq_true rfl) dX5_init_7 ?_
  refine k_topi (show (if (nI N) < 0 then 0 else (nI N)) = (nI N) from by rw [if_neg]; exact fun h => absurd h (by rw [← nI_0]; exact nI_nlt (Nat.zero_le _) (by omega))) ?_
  refine va_newa (atype := .int) (ty := .int) (N' := N) (a0 := (N, .inl (fun _ => 0))) hx hb (hts _ w_99) rfl hK hP hD hS hA (fun _ => rfl) (nI_pos (by omega)) (nI_clamp (by omega)) (by show N * 4 ≤ _; omega) (Nat.le_of_ble_eq_true rfl) (by show 0 + N ≤ N; omega) dX5_init_10 (fun q_1 cA H hK9 hP hD hS => ?_)
  obtain rfl := k_clsI hK hK9
  replace hP : va_P D CLS [(r, .inr (4, [.null])), (q_1, .inl (g 0, N, .inl (fun _ => 0)))] H := hP
  replace hD : va_D A [(r, .inr (4, [.null])), (q_1, .inl (g 0, N, .inl (fun _ => 0)))] := hD
  refine va_putF (D := D) (ci := 4) (v := .ref q_1) (ty := .array .int) (C := RX5) (T := TX5) (N := 1) hx hb hts in_X5 tyX5 tyX5_ok nmX5 hown hK hP hD hS 0 rfl rfl 0 (by decide) (hts _ w_95) (fun _ h9 => h9) rfl hin rfl (by decide +kernel) rfl rfl (Nat.le_of_ble_eq_true rfl) dX5_init_12 (fun H locs hP7 hD7 hS7 => ?_)
  clear hP hD hS
  have hP := hP7
  have hD := hD7
  have hS := hS7
  clear hP7 hD7 hS7
  replace hP : va_P D CLS [(r, .inr (4, [.ref q_1])), (q_1, .inl (g 0, N, .inl (fun _ => 0)))] H := hP
  replace hD : va_D A [(r, .inr (4, [.ref q_1])), (q_1, .inl (g 0, N, .inl (fun _ => 0)))] := hD
  have hP9 : va_P D CLS [(r, .inr (4, [.ref q_1])), (q_1, .inl (g 0, N, .inl (fun _ => 0)))] H := by exact kSub hP [0, 1] rfl
  have hD9 : va_D A [(r, .inr (4, [.ref q_1])), (q_1, .inl (g 0, N, .inl (fun _ => 0)))] := by exact hD.sub [0, 1] (by decide +kernel) rfl
  refine W.widen (k := 1) (n := N) (by omega) (by omega) ?_
  exact W.vret hx hb hr (fun t9 ht9 hW9 => ⟨⟨q_1, rfl, trivial, by rw [ht9]; exact hP9, va_K.moved hW9.alike hK, hD9⟩, hS.F ht9⟩) hS.2.2 dX5_init_15
theorem dX5_at_0 : decode cX5_at 0 = .ok (.iload_n 1, 1) := by decide +kernel
theorem dX5_at_1 : decode cX5_at 1 = .ok (.ifCond .lt 21, 3) := by decide +kernel
theorem dX5_at_4 : decode cX5_at 4 = .ok (.iload_n 1, 1) := by decide +kernel
theorem dX5_at_5 : decode cX5_at 5 = .ok (.aload_n 0, 1) := by decide +kernel
theorem dX5_at_6 : decode cX5_at 6 = .ok (.getfield 13, 3) := by decide +kernel
theorem dX5_at_9 : decode cX5_at 9 = .ok (.arraylength, 1) := by decide +kernel
theorem dX5_at_10 : decode cX5_at 10 = .ok (.if_icmp .ge 12, 3) := by decide +kernel
theorem dX5_at_13 : decode cX5_at 13 = .ok (.aload_n 0, 1) := by decide +kernel
theorem dX5_at_14 : decode cX5_at 14 = .ok (.getfield 13, 3) := by decide +kernel
theorem dX5_at_17 : decode cX5_at 17 = .ok (.iload_n 1, 1) := by decide +kernel
theorem dX5_at_18 : decode cX5_at 18 = .ok (.iaload, 1) := by decide +kernel
theorem dX5_at_19 : decode cX5_at 19 = .ok (.goto 4, 3) := by decide +kernel
theorem dX5_at_22 : decode cX5_at 22 = .ok (.iconst 0, 1) := by decide +kernel
theorem dX5_at_23 : decode cX5_at 23 = .ok (.ireturn, 1) := by decide +kernel
set_option maxHeartbeats 4000000 in
set_option maxRecDepth 100000 in
/-- Row.at -/
theorem c_X5_at (l9 : Launch) (z : Nat → Nat) (D : va_G) (g : Nat → ClassId) (r : Nat) (a : Nat) (n : Nat) (f : Nat → Int32) (p0 : Int32) (hn : n < 2147483648) (sz : Nat) : Met l9 yX5_at (WS yX5_at cX5_at 2 (some .int)) ({ frames := 0, cells := 0, slots := 0, locals := 0 }) (va_Pc [.ref r, .int p0] (kPre z D g [(r, .inr (4, [.ref a])), (a, .inl (g 0, n, .inl f))] sz)) (va_Qi (fun (r9 : Int32) (u9 : Unit) => r9 = rat n f p0) (kB D g (va_A [(r, .inr (4, [.ref a])), (a, .inl (g 0, n, .inl f))] sz) (fun (u9 : Unit) => [(r, .inr (4, [.ref a])), (a, .inl (g 0, n, .inl f))])) (va_A [(r, .inr (4, [.ref a])), (a, .inl (g 0, n, .inl f))] sz)) 0 0 (va_A [(r, .inr (4, [.ref a])), (a, .inl (g 0, n, .inl f))] sz) := by
  refine Met.ofW (cc := cX5_at) (maxL := 2) (ret := (some .int)) (by decide) rfl ?_
  intro p9 e9 s9 m9 args9 below9 meth9 c9 s₁ B hml hv
  obtain ⟨rfl, hsz, hP, hK, hD0, hZ⟩ := hv
  have hx := B.exec
  have hb := B.bytes
  have hr := B.returns
  have hts := ws_sub (atoms_spec (ws := WS yX5_at cX5_at 2 (some .int)) B.pre)
  have hown : s9.vm.findClass RX5 = some m9.cls := findClass_of_methodNamed B.named
  have hlocks := B.notSynchronized
  subst hsz
  have hD := hD0.self (sz := s9.heap.size)
  generalize hAe : va_A [(r, .inr (4, [.ref a])), (a, .inl (g 0, n, .inl f))] s9.heap.size = A at hD hZ ⊢
  have hA : ∀ q : Nat, s9.heap.size ≤ q → A q := fun q h => by rw [← hAe]; exact Or.inr h
  have hS : va_S A s9.heap s9.heap [] := va_S.rf
  have hP : va_P D CLS [(r, .inr (4, [.ref a])), (a, .inl (g 0, n, .inl f))] s9.heap := hP
  have hl := lv_entry ([.ref r, .int p0]) (n := 2) (Nat.le_of_ble_eq_true rfl)
  rw [lg_entry_eq]
  generalize (lg_sl ([.ref r, .int p0]) ++ List.replicate (2 - (lg_sl ([.ref r, .int p0])).length) Slot.unset).toArray = ls at hl ⊢
  have hl : lv_has ls 2 [(0, .ref r), (1, .int p0)] := hl
  change W p9 l9 e9 ({ frames := 0, cells := 0, slots := 0, locals := 0 } : Room) s9 m9 _ below9 meth9 c9 _ _ _ _ _ _
  refine lv_iload_n hx hb dX5_at_0 rfl (lv_at hl 1 rfl) ?_
  refine lv_if_lt (tgt := 22) hx hb dX5_at_1 (by decide) (fun c_1 => ?_) (fun c_1 => ?_)
  · skip
    refine lv_iconst (v := 0) hx hb dX5_at_22 (by decide) ?_
    have hP9 : va_P D CLS [(r, .inr (4, [.ref a])), (a, .inl (g 0, n, .inl f))] s9.heap := by exact kSub hP [0, 1] rfl
    have hD9 : va_D A [(r, .inr (4, [.ref a])), (a, .inl (g 0, n, .inl f))] := by exact hD.sub [0, 1] (by decide +kernel) rfl
    have hr9 : 0 = (rat n f p0) := by first | exact rat_lo c_1 | exact rat_hi hn c_10 | exact rat_ok (row_in c_1 c_10 hn)
    exact W.iret (v := 0) hx hb hr (fun t9 ht9 hW9 => ⟨⟨0, (), rfl, hr9, by rw [ht9]; exact hP9, va_K.moved hW9.alike hK, hD9⟩, hS.F ht9⟩) hS.2.2 dX5_at_23
  · skip
    refine lv_iload_n hx hb dX5_at_4 rfl (lv_at hl 1 rfl) ?_
    refine lv_aload_n hx hb dX5_at_5 rfl (lv_at hl 0 rfl) ?_
    refine va_get (D := D) (ci := 4) (v := .ref a) (C := RX5) (T := TX5) (N := 1) hx hb hts in_X5 hown hK hP 0 rfl rfl 0 (by decide) (hts _ w_95) (fun _ h9 => h9) rfl dX5_at_6 ?_
    refine va_alen (v := nI n) hx hb hK hP 1 0 rfl rfl rfl dX5_at_9 ?_
    refine lv_icmp_ge (tgt := 22) hx hb dX5_at_10 (by decide) (fun c_10 => ?_) (fun c_10 => ?_)
    · skip
      refine lv_iconst (v := 0) hx hb dX5_at_22 (by decide) ?_
      have hP9 : va_P D CLS [(r, .inr (4, [.ref a])), (a, .inl (g 0, n, .inl f))] s9.heap := by exact kSub hP [0, 1] rfl
      have hD9 : va_D A [(r, .inr (4, [.ref a])), (a, .inl (g 0, n, .inl f))] := by exact hD.sub [0, 1] (by decide +kernel) rfl
      have hr9 : 0 = (rat n f p0) := by first | exact rat_lo c_1 | exact rat_hi hn c_10 | exact rat_ok (row_in c_1 c_10 hn)
      exact W.iret (v := 0) hx hb hr (fun t9 ht9 hW9 => ⟨⟨0, (), rfl, hr9, by rw [ht9]; exact hP9, va_K.moved hW9.alike hK, hD9⟩, hS.F ht9⟩) hS.2.2 dX5_at_23
    · skip
      refine lv_aload_n hx hb dX5_at_13 rfl (lv_at hl 0 rfl) ?_
      refine va_get (D := D) (ci := 4) (v := .ref a) (C := RX5) (T := TX5) (N := 1) hx hb hts in_X5 hown hK hP 0 rfl rfl 0 (by decide) (hts _ w_95) (fun _ h9 => h9) rfl dX5_at_14 ?_
      refine lv_iload_n hx hb dX5_at_17 rfl (lv_at hl 1 rfl) ?_
      refine va_iald hx hb hK hP 1 0 rfl rfl (row_in c_1 c_10 hn) dX5_at_18 ?_
      refine lv_goto (tgt := 23) hx hb dX5_at_19 (by decide) ?_
      have hP9 : va_P D CLS [(r, .inr (4, [.ref a])), (a, .inl (g 0, n, .inl f))] s9.heap := by exact kSub hP [0, 1] rfl
      have hD9 : va_D A [(r, .inr (4, [.ref a])), (a, .inl (g 0, n, .inl f))] := by exact hD.sub [0, 1] (by decide +kernel) rfl
      have hr9 : (f p0.toNatClampNeg) = (rat n f p0) := by first | exact rat_lo c_1 | exact rat_hi hn c_10 | exact rat_ok (row_in c_1 c_10 hn)
      exact W.iret (v := f p0.toNatClampNeg) hx hb hr (fun t9 ht9 hW9 => ⟨⟨f p0.toNatClampNeg, (), rfl, hr9, by rw [ht9]; exact hP9, va_K.moved hW9.alike hK, hD9⟩, hS.F ht9⟩) hS.2.2 dX5_at_23
theorem dX5_put_0 : decode cX5_put 0 = .ok (.iload_n 1, 1) := by decide +kernel
theorem dX5_put_1 : decode cX5_put 1 = .ok (.ifCond .lt 19, 3) := by decide +kernel
theorem dX5_put_4 : decode cX5_put 4 = .ok (.iload_n 1, 1) := by decide +kernel
theorem dX5_put_5 : decode cX5_put 5 = .ok (.aload_n 0, 1) := by decide +kernel
theorem dX5_put_6 : decode cX5_put 6 = .ok (.getfield 13, 3) := by decide +kernel
theorem dX5_put_9 : decode cX5_put 9 = .ok (.arraylength, 1) := by decide +kernel
theorem dX5_put_10 : decode cX5_put 10 = .ok (.if_icmp .ge 10, 3) := by decide +kernel
theorem dX5_put_13 : decode cX5_put 13 = .ok (.aload_n 0, 1) := by decide +kernel
theorem dX5_put_14 : decode cX5_put 14 = .ok (.getfield 13, 3) := by decide +kernel
theorem dX5_put_17 : decode cX5_put 17 = .ok (.iload_n 1, 1) := by decide +kernel
theorem dX5_put_18 : decode cX5_put 18 = .ok (.iload_n 2, 1) := by decide +kernel
theorem dX5_put_19 : decode cX5_put 19 = .ok (.iastore, 1) := by decide +kernel
theorem dX5_put_20 : decode cX5_put 20 = .ok (.return_, 1) := by decide +kernel
set_option maxHeartbeats 4000000 in
set_option maxRecDepth 100000 in
/-- Row.put -/
theorem c_X5_put (l9 : Launch) (z : Nat → Nat) (D : va_G) (g : Nat → ClassId) (r : Nat) (a : Nat) (n : Nat) (f : Nat → Int32) (p0 : Int32) (p1 : Int32) (hn : n < 2147483648) (sz : Nat) : Met l9 yX5_put (WS yX5_put cX5_put 3 none) ({ frames := 0, cells := 0, slots := 0, locals := 0 }) (va_Pc [.ref r, .int p0, .int p1] (kPre z D g [(r, .inr (4, [.ref a])), (a, .inl (g 0, n, .inl f))] sz)) (va_Qv (fun (u9 : Unit) => True) (kB D g (va_A [(r, .inr (4, [.ref a])), (a, .inl (g 0, n, .inl f))] sz) (fun (u9 : Unit) => [(r, .inr (4, [.ref a])), (a, .inl (g 0, n, .inl (rput n f p0 p1)))])) (va_A [(r, .inr (4, [.ref a])), (a, .inl (g 0, n, .inl f))] sz)) 0 0 (va_A [(r, .inr (4, [.ref a])), (a, .inl (g 0, n, .inl f))] sz) := by
  refine Met.ofW (cc := cX5_put) (maxL := 3) (ret := none) (by decide) rfl ?_
  intro p9 e9 s9 m9 args9 below9 meth9 c9 s₁ B hml hv
  obtain ⟨rfl, hsz, hP, hK, hD0, hZ⟩ := hv
  have hx := B.exec
  have hb := B.bytes
  have hr := B.returns
  have hts := ws_sub (atoms_spec (ws := WS yX5_put cX5_put 3 none) B.pre)
  have hown : s9.vm.findClass RX5 = some m9.cls := findClass_of_methodNamed B.named
  have hlocks := B.notSynchronized
  subst hsz
  have hD := hD0.self (sz := s9.heap.size)
  generalize hAe : va_A [(r, .inr (4, [.ref a])), (a, .inl (g 0, n, .inl f))] s9.heap.size = A at hD hZ ⊢
  have hA : ∀ q : Nat, s9.heap.size ≤ q → A q := fun q h => by rw [← hAe]; exact Or.inr h
  have hS : va_S A s9.heap s9.heap [] := va_S.rf
  have hP : va_P D CLS [(r, .inr (4, [.ref a])), (a, .inl (g 0, n, .inl f))] s9.heap := hP
  have hl := lv_entry ([.ref r, .int p0, .int p1]) (n := 3) (Nat.le_of_ble_eq_true rfl)
  rw [lg_entry_eq]
  generalize (lg_sl ([.ref r, .int p0, .int p1]) ++ List.replicate (3 - (lg_sl ([.ref r, .int p0, .int p1])).length) Slot.unset).toArray = ls at hl ⊢
  have hl : lv_has ls 3 [(0, .ref r), (1, .int p0), (2, .int p1)] := hl
  change W p9 l9 e9 ({ frames := 0, cells := 0, slots := 0, locals := 0 } : Room) s9 m9 _ below9 meth9 c9 _ _ _ _ _ _
  refine lv_iload_n hx hb dX5_put_0 rfl (lv_at hl 1 rfl) ?_
  refine lv_if_lt (tgt := 20) hx hb dX5_put_1 (by decide) (fun c_1 => ?_) (fun c_1 => ?_)
  · skip
    have he_1 : (rput n f p0 p1) = f := by first | exact rput_lo c_1 | exact rput_hi hn c_10 | exact rput_ok (row_in c_1 c_10 hn)
    have hP9 : va_P D CLS [(r, .inr (4, [.ref a])), (a, .inl (g 0, n, .inl (rput n f p0 p1)))] s9.heap := by rw [he_1]; exact kSub hP [0, 1] rfl
    have hD9 : va_D A [(r, .inr (4, [.ref a])), (a, .inl (g 0, n, .inl (rput n f p0 p1)))] := by rw [he_1]; exact hD.sub [0, 1] (by decide +kernel) rfl
    exact W.vret hx hb hr (fun t9 ht9 hW9 => ⟨⟨(), rfl, trivial, by rw [ht9]; exact hP9, va_K.moved hW9.alike hK, hD9⟩, hS.F ht9⟩) hS.2.2 dX5_put_20
  · skip
    refine lv_iload_n hx hb dX5_put_4 rfl (lv_at hl 1 rfl) ?_
    refine lv_aload_n hx hb dX5_put_5 rfl (lv_at hl 0 rfl) ?_
    refine va_get (D := D) (ci := 4) (v := .ref a) (C := RX5) (T := TX5) (N := 1) hx hb hts in_X5 hown hK hP 0 rfl rfl 0 (by decide) (hts _ w_95) (fun _ h9 => h9) rfl dX5_put_6 ?_
    refine va_alen (v := nI n) hx hb hK hP 1 0 rfl rfl rfl dX5_put_9 ?_
    refine lv_icmp_ge (tgt := 20) hx hb dX5_put_10 (by decide) (fun c_10 => ?_) (fun c_10 => ?_)
    · skip
      have he_2 : (rput n f p0 p1) = f := by first | exact rput_lo c_1 | exact rput_hi hn c_10 | exact rput_ok (row_in c_1 c_10 hn)
      have hP9 : va_P D CLS [(r, .inr (4, [.ref a])), (a, .inl (g 0, n, .inl (rput n f p0 p1)))] s9.heap := by rw [he_2]; exact kSub hP [0, 1] rfl
      have hD9 : va_D A [(r, .inr (4, [.ref a])), (a, .inl (g 0, n, .inl (rput n f p0 p1)))] := by rw [he_2]; exact hD.sub [0, 1] (by decide +kernel) rfl
      exact W.vret hx hb hr (fun t9 ht9 hW9 => ⟨⟨(), rfl, trivial, by rw [ht9]; exact hP9, va_K.moved hW9.alike hK, hD9⟩, hS.F ht9⟩) hS.2.2 dX5_put_20
    · skip
      refine lv_aload_n hx hb dX5_put_13 rfl (lv_at hl 0 rfl) ?_
      refine va_get (D := D) (ci := 4) (v := .ref a) (C := RX5) (T := TX5) (N := 1) hx hb hts in_X5 hown hK hP 0 rfl rfl 0 (by decide) (hts _ w_95) (fun _ h9 => h9) rfl dX5_put_14 ?_
      refine lv_iload_n hx hb dX5_put_17 rfl (lv_at hl 1 rfl) ?_
      refine lv_iload_n hx hb dX5_put_18 rfl (lv_at hl 2 rfl) ?_
      refine va_iast hx hb hK hP hD hS 1 0 rfl rfl (row_in c_1 c_10 hn) dX5_put_19 (fun H locs hP7 hD7 hS7 => ?_)
      clear hP hD hS
      have hP := hP7
      have hD := hD7
      have hS := hS7
      clear hP7 hD7 hS7
      replace hP : va_P D CLS [(r, .inr (4, [.ref a])), (a, .inl (g 0, n, .inl (upd f p0.toNatClampNeg p1)))] H := hP
      replace hD : va_D A [(r, .inr (4, [.ref a])), (a, .inl (g 0, n, .inl (upd f p0.toNatClampNeg p1)))] := hD
      have he_3 : (rput n f p0 p1) = (upd f p0.toNatClampNeg p1) := by first | exact rput_lo c_1 | exact rput_hi hn c_10 | exact rput_ok (row_in c_1 c_10 hn)
      have hP9 : va_P D CLS [(r, .inr (4, [.ref a])), (a, .inl (g 0, n, .inl (rput n f p0 p1)))] H := by rw [he_3]; exact kSub hP [0, 1] rfl
      have hD9 : va_D A [(r, .inr (4, [.ref a])), (a, .inl (g 0, n, .inl (rput n f p0 p1)))] := by rw [he_3]; exact hD.sub [0, 1] (by decide +kernel) rfl
      exact W.vret hx hb hr (fun t9 ht9 hW9 => ⟨⟨(), rfl, trivial, by rw [ht9]; exact hP9, va_K.moved hW9.alike hK, hD9⟩, hS.F ht9⟩) hS.2.2 dX5_put_20
theorem dX5_add_0 : decode cX5_add 0 = .ok (.aload_n 0, 1) := by decide +kernel
theorem dX5_add_1 : decode cX5_add 1 = .ok (.iload_n 1, 1) := by decide +kernel
theorem dX5_add_2 : decode cX5_add 2 = .ok (.aload_n 0, 1) := by decide +kernel
theorem dX5_add_3 : decode cX5_add 3 = .ok (.iload_n 1, 1) := by decide +kernel
theorem dX5_add_4 : decode cX5_add 4 = .ok (.invokevirtual 19, 3) := by decide +kernel
theorem dX5_add_7 : decode cX5_add 7 = .ok (.iload_n 2, 1) := by decide +kernel
theorem dX5_add_8 : decode cX5_add 8 = .ok (.iadd, 1) := by decide +kernel
theorem dX5_add_9 : decode cX5_add 9 = .ok (.invokevirtual 23, 3) := by decide +kernel
theorem dX5_add_12 : decode cX5_add 12 = .ok (.return_, 1) := by decide +kernel
set_option maxHeartbeats 4000000 in
set_option maxRecDepth 100000 in
/-- Row.add -/
theorem c_X5_add (l9 : Launch) (z : Nat → Nat) (D : va_G) (g : Nat → ClassId) (r : Nat) (a : Nat) (n : Nat) (f : Nat → Int32) (p0 : Int32) (p1 : Int32) (hn : n < 2147483648) (sz : Nat) : Met l9 yX5_add (WS yX5_add cX5_add 3 none) ({ frames := 1, cells := 0, slots := 0, locals := 22 }) (va_Pc [.ref r, .int p0, .int p1] (kPre z D g [(r, .inr (4, [.ref a])), (a, .inl (g 0, n, .inl f))] sz)) (va_Qv (fun (u9 : Unit) => True) (kB D g (va_A [(r, .inr (4, [.ref a])), (a, .inl (g 0, n, .inl f))] sz) (fun (u9 : Unit) => [(r, .inr (4, [.ref a])), (a, .inl (g 0, n, .inl (rput n f p0 (rat n f p0 + p1))))])) (va_A [(r, .inr (4, [.ref a])), (a, .inl (g 0, n, .inl f))] sz)) 0 0 (va_A [(r, .inr (4, [.ref a])), (a, .inl (g 0, n, .inl f))] sz) := by
  refine Met.ofW (cc := cX5_add) (maxL := 3) (ret := none) (by decide) rfl ?_
  intro p9 e9 s9 m9 args9 below9 meth9 c9 s₁ B hml hv
  obtain ⟨rfl, hsz, hP, hK, hD0, hZ⟩ := hv
  have hx := B.exec
  have hb := B.bytes
  have hr := B.returns
  have hts := ws_sub (atoms_spec (ws := WS yX5_add cX5_add 3 none) B.pre)
  have hown : s9.vm.findClass RX5 = some m9.cls := findClass_of_methodNamed B.named
  have hlocks := B.notSynchronized
  subst hsz
  have hD := hD0.self (sz := s9.heap.size)
  generalize hAe : va_A [(r, .inr (4, [.ref a])), (a, .inl (g 0, n, .inl f))] s9.heap.size = A at hD hZ ⊢
  have hA : ∀ q : Nat, s9.heap.size ≤ q → A q := fun q h => by rw [← hAe]; exact Or.inr h
  have hS : va_S A s9.heap s9.heap [] := va_S.rf
  have hP : va_P D CLS [(r, .inr (4, [.ref a])), (a, .inl (g 0, n, .inl f))] s9.heap := hP
  have hl := lv_entry ([.ref r, .int p0, .int p1]) (n := 3) (Nat.le_of_ble_eq_true rfl)
  rw [lg_entry_eq]
  generalize (lg_sl ([.ref r, .int p0, .int p1]) ++ List.replicate (3 - (lg_sl ([.ref r, .int p0, .int p1])).length) Slot.unset).toArray = ls at hl ⊢
  have hl : lv_has ls 3 [(0, .ref r), (1, .int p0), (2, .int p1)] := hl
  change W p9 l9 e9 ({ frames := 1, cells := 0, slots := 0, locals := 22 } : Room) s9 m9 _ below9 meth9 c9 _ _ _ _ _ _
  refine lv_aload_n hx hb dX5_add_0 rfl (lv_at hl 0 rfl) ?_
  refine lv_iload_n hx hb dX5_add_1 rfl (lv_at hl 1 rfl) ?_
  refine lv_aload_n hx hb dX5_add_2 rfl (lv_at hl 0 rfl) ?_
  refine lv_iload_n hx hb dX5_add_3 rfl (lv_at hl 1 rfl) ?_
  refine k_i hA hP hD hS [] (va_runV (As := [.int p0]) (rest := [.int p0, .ref r]) ⟨hx, hb, hml, hown, hts⟩ (c_X5_at l9 z D g r a n f p0 (by first | assumption | decide | omega) (Array.size s9.heap)) (cwV 1 hts gv_X5_19 rfl rfl rfl (by decide +kernel) ⟨Nat.le_of_ble_eq_true rfl, Nat.le_of_ble_eq_true rfl⟩) ⟨kBlind, va_recv hK hP (ci := 4) (q0 := 0) rfl rfl, kPre.pc hK hZ hA hP hD hS [0, 1] rfl (by decide +kernel)⟩ rfl rfl hl.1 rfl (lv_room (Nat.le_of_ble_eq_true rfl)) dX5_add_4 ⟨Nat.le_of_ble_eq_true rfl, Nat.le_of_ble_eq_true rfl⟩) [0, 1] [] rfl rfl rfl rfl (fun r_4 u_1 H locs hw_4 hP7 hD7 hS7 => ?_)
  clear hP hD hS
  have hP := hP7
  have hD := hD7
  have hS := hS7
  clear hP7 hD7 hS7
  obtain rfl := hw_4
  replace hP : va_P D CLS [(r, .inr (4, [.ref a])), (a, .inl (g 0, n, .inl f))] H := hP
  replace hD : va_D A [(r, .inr (4, [.ref a])), (a, .inl (g 0, n, .inl f))] := hD
  refine lv_iload_n hx hb dX5_add_7 rfl (lv_at hl 2 rfl) ?_
  refine lv_iadd hx hb dX5_add_8 ?_
  refine k_v hA hP hD hS [] (va_runV (As := [.int p0, .int ((rat n f p0) + p1)]) (rest := []) ⟨hx, hb, hml, hown, hts⟩ (c_X5_put l9 z D g r a n f p0 ((rat n f p0) + p1) (by first | assumption | decide | omega) (Array.size H)) (cwV 2 hts gv_X5_23 rfl rfl rfl (by decide +kernel) ⟨Nat.le_of_ble_eq_true rfl, Nat.le_of_ble_eq_true rfl⟩) ⟨kBlind, va_recv hK hP (ci := 4) (q0 := 0) rfl rfl, kPre.pc hK hZ hA hP hD hS [0, 1] rfl (by decide +kernel)⟩ rfl rfl hl.1 rfl (lv_room (Nat.le_of_ble_eq_true rfl)) dX5_add_9 ⟨Nat.le_of_ble_eq_true rfl, Nat.le_of_ble_eq_true rfl⟩) [0, 1] [] rfl rfl rfl rfl (fun u_2 H locs hw_9 hP7 hD7 hS7 => ?_)
  clear hP hD hS
  have hP := hP7
  have hD := hD7
  have hS := hS7
  clear hP7 hD7 hS7
  replace hP : va_P D CLS [(r, .inr (4, [.ref a])), (a, .inl (g 0, n, .inl (rput n f p0 ((rat n f p0) + p1))))] H := hP
  replace hD : va_D A [(r, .inr (4, [.ref a])), (a, .inl (g 0, n, .inl (rput n f p0 ((rat n f p0) + p1))))] := hD
  have he_3 : (rput n f p0 (rat n f p0 + p1)) = (rput n f p0 ((rat n f p0) + p1)) := by simp_all
  have hP9 : va_P D CLS [(r, .inr (4, [.ref a])), (a, .inl (g 0, n, .inl (rput n f p0 (rat n f p0 + p1))))] H := by rw [he_3]; exact kSub hP [0, 1] rfl
  have hD9 : va_D A [(r, .inr (4, [.ref a])), (a, .inl (g 0, n, .inl (rput n f p0 (rat n f p0 + p1))))] := by rw [he_3]; exact hD.sub [0, 1] (by decide +kernel) rfl
  exact W.vret hx hb hr (fun t9 ht9 hW9 => ⟨⟨(), rfl, trivial, by rw [ht9]; exact hP9, va_K.moved hW9.alike hK, hD9⟩, hS.F ht9⟩) hS.2.2 dX5_add_12
theorem dX5_fill_0 : decode cX5_fill 0 = .ok (.iconst 0, 1) := by decide +kernel
theorem dX5_fill_1 : decode cX5_fill 1 = .ok (.istore_n 2, 1) := by decide +kernel
theorem dX5_fill_2 : decode cX5_fill 2 = .ok (.iload_n 2, 1) := by decide +kernel
theorem dX5_fill_3 : decode cX5_fill 3 = .ok (.aload_n 0, 1) := by decide +kernel
theorem dX5_fill_4 : decode cX5_fill 4 = .ok (.getfield 13, 3) := by decide +kernel
theorem dX5_fill_7 : decode cX5_fill 7 = .ok (.arraylength, 1) := by decide +kernel
theorem dX5_fill_8 : decode cX5_fill 8 = .ok (.if_icmp .ge 16, 3) := by decide +kernel
theorem dX5_fill_11 : decode cX5_fill 11 = .ok (.aload_n 0, 1) := by decide +kernel
theorem dX5_fill_12 : decode cX5_fill 12 = .ok (.getfield 13, 3) := by decide +kernel
theorem dX5_fill_15 : decode cX5_fill 15 = .ok (.iload_n 2, 1) := by decide +kernel
theorem dX5_fill_16 : decode cX5_fill 16 = .ok (.iload_n 1, 1) := by decide +kernel
theorem dX5_fill_17 : decode cX5_fill 17 = .ok (.iastore, 1) := by decide +kernel
theorem dX5_fill_18 : decode cX5_fill 18 = .ok (.iinc 2 1, 3) := by decide +kernel
theorem dX5_fill_21 : decode cX5_fill 21 = .ok (.goto (-19), 3) := by decide +kernel
theorem dX5_fill_24 : decode cX5_fill 24 = .ok (.return_, 1) := by decide +kernel
set_option maxHeartbeats 4000000 in
set_option maxRecDepth 100000 in
/-- Row.fill -/
theorem c_X5_fill (l9 : Launch) (z : Nat → Nat) (D : va_G) (g : Nat → ClassId) (r : Nat) (a : Nat) (n : Nat) (f : Nat → Int32) (p0 : Int32) (hn : n < 2147483648) (sz : Nat) : Met l9 yX5_fill (WS yX5_fill cX5_fill 3 none) ({ frames := 0, cells := 0, slots := 0, locals := 0 }) (va_Pc [.ref r, .int p0] (kPre z D g [(r, .inr (4, [.ref a])), (a, .inl (g 0, n, .inl f))] sz)) (va_Qv (fun (u9 : Unit) => True) (kB D g (va_A [(r, .inr (4, [.ref a])), (a, .inl (g 0, n, .inl f))] sz) (fun (u9 : Unit) => [(r, .inr (4, [.ref a])), (a, .inl (g 0, n, .inl (fun _ => p0)))])) (va_A [(r, .inr (4, [.ref a])), (a, .inl (g 0, n, .inl f))] sz)) 0 0 (va_A [(r, .inr (4, [.ref a])), (a, .inl (g 0, n, .inl f))] sz) := by
  refine Met.ofW (cc := cX5_fill) (maxL := 3) (ret := none) (by decide) rfl ?_
  intro p9 e9 s9 m9 args9 below9 meth9 c9 s₁ B hml hv
  obtain ⟨rfl, hsz, hP, hK, hD0, hZ⟩ := hv
  have hx := B.exec
  have hb := B.bytes
  have hr := B.returns
  have hts := ws_sub (atoms_spec (ws := WS yX5_fill cX5_fill 3 none) B.pre)
  have hown : s9.vm.findClass RX5 = some m9.cls := findClass_of_methodNamed B.named
  have hlocks := B.notSynchronized
  subst hsz
  have hD := hD0.self (sz := s9.heap.size)
  generalize hAe : va_A [(r, .inr (4, [.ref a])), (a, .inl (g 0, n, .inl f))] s9.heap.size = A at hD hZ ⊢
  have hA : ∀ q : Nat, s9.heap.size ≤ q → A q := fun q h => by rw [← hAe]; exact Or.inr h
  have hS : va_S A s9.heap s9.heap [] := va_S.rf
  have hP : va_P D CLS [(r, .inr (4, [.ref a])), (a, .inl (g 0, n, .inl f))] s9.heap := hP
  have hl := lv_entry ([.ref r, .int p0]) (n := 3) (Nat.le_of_ble_eq_true rfl)
  rw [lg_entry_eq]
  generalize (lg_sl ([.ref r, .int p0]) ++ List.replicate (3 - (lg_sl ([.ref r, .int p0])).length) Slot.unset).toArray = ls at hl ⊢
  have hl : lv_has ls 3 [(0, .ref r), (1, .int p0)] := hl
  change W p9 l9 e9 ({ frames := 0, cells := 0, slots := 0, locals := 0 } : Room) s9 m9 _ below9 meth9 c9 _ _ _ _ _ _
  refine lv_iconst (v := 0) hx hb dX5_fill_0 (by decide) ?_
  refine lv_istore_n (lv' := [(2, .int 0), (0, .ref r), (1, .int p0)]) hx hb dX5_fill_1 rfl hl (by decide) rfl (fun ls hl => ?_)
  have loop_2 : ∀ (n9 : Nat) (i : Nat), n9 > n - i → (i ≤ n) → ∀ (H : Heap) (locs : List Loc), va_P D CLS [(r, .inr (4, [.ref a])), (a, .inl (g 0, n, .inl (rfill n f p0 i)))] H → va_D A [(r, .inr (4, [.ref a])), (a, .inl (g 0, n, .inl (rfill n f p0 i)))] → va_S A s9.heap H locs → ∀ (ls : Array Slot), lv_has ls 3 [(0, .ref r), (1, .int p0), (2, .int (nI i))] → W p9 l9 e9 ({ frames := 0, cells := 0, slots := 0, locals := 0 } : Room) s9 m9 ([.ref r, .int p0] : List Value).toArray below9 meth9 c9 H locs 0 0 (MQ below9 (va_Qv (fun (u9 : Unit) => True) (kB D g A (fun (u9 : Unit) => [(r, .inr (4, [.ref a])), (a, .inl (g 0, n, .inl (fun _ => p0)))])) A) ([.ref r, .int p0] : List Value).toArray s9 0 0 A) (F0 m9 2 ls []) := by
    intro n9
    induction n9 with
    | zero => intro i hm9; exact absurd hm9 (by omega)
    | succ n9 ih_2 =>
      intro i hm9 hi H locs hP hD hS ls hl
      refine lv_iload_n hx hb dX5_fill_2 rfl (lv_at hl 2 rfl) ?_
      refine lv_aload_n hx hb dX5_fill_3 rfl (lv_at hl 0 rfl) ?_
      refine va_get (D := D) (ci := 4) (v := .ref a) (C := RX5) (T := TX5) (N := 1) hx hb hts in_X5 hown hK hP 0 rfl rfl 0 (by decide) (hts _ w_95) (fun _ h9 => h9) rfl dX5_fill_4 ?_
      refine va_alen (v := nI n) hx hb hK hP 1 0 rfl rfl rfl dX5_fill_7 ?_
      refine lv_icmp_ge (tgt := 24) hx hb dX5_fill_8 (by decide) (fun c_8 => ?_) (fun c_8 => ?_)
      · skip
        have c_8 : n ≤ i := (nI_leI (a := n) (b := i) (by omega) (by omega)).mp c_8
        have hie : i = n := by omega
        have hD := kCd (y := .inl (g 0, n, .inl (fun _ => p0))) 1 hD rfl
        have hP := kCg (g := (fun _ => p0)) 1 hP rfl (fun k hk => by show (if k < i ∧ k < n then p0 else f k) = p0; exact if_pos ⟨by omega, hk⟩)
        replace hP : va_P D CLS [(r, .inr (4, [.ref a])), (a, .inl (g 0, n, .inl (fun _ => p0)))] H := hP
        replace hD : va_D A [(r, .inr (4, [.ref a])), (a, .inl (g 0, n, .inl (fun _ => p0)))] := hD
        have hP9 : va_P D CLS [(r, .inr (4, [.ref a])), (a, .inl (g 0, n, .inl (fun _ => p0)))] H := by exact kSub hP [0, 1] rfl
        have hD9 : va_D A [(r, .inr (4, [.ref a])), (a, .inl (g 0, n, .inl (fun _ => p0)))] := by exact hD.sub [0, 1] (by decide +kernel) rfl
        exact W.vret hx hb hr (fun t9 ht9 hW9 => ⟨⟨(), rfl, trivial, by rw [ht9]; exact hP9, va_K.moved hW9.alike hK, hD9⟩, hS.F ht9⟩) hS.2.2 dX5_fill_24
      · skip
        have c_8 : ¬ n ≤ i := fun h => c_8 ((nI_leI (a := n) (b := i) (by omega) (by omega)).mpr h)
        have hlt : i < n := by omega
        refine lv_aload_n hx hb dX5_fill_11 rfl (lv_at hl 0 rfl) ?_
        refine va_get (D := D) (ci := 4) (v := .ref a) (C := RX5) (T := TX5) (N := 1) hx hb hts in_X5 hown hK hP 0 rfl rfl 0 (by decide) (hts _ w_95) (fun _ h9 => h9) rfl dX5_fill_12 ?_
        refine lv_iload_n hx hb dX5_fill_15 rfl (lv_at hl 2 rfl) ?_
        refine lv_iload_n hx hb dX5_fill_16 rfl (lv_at hl 1 rfl) ?_
        refine k_iastN hx hb hK hP hD hS 1 0 rfl rfl hlt (by first | decide | omega) dX5_fill_17 (fun H locs hP7 hD7 hS7 => ?_)
        clear hP hD hS
        have hP := hP7
        have hD := hD7
        have hS := hS7
        clear hP7 hD7 hS7
        replace hP : va_P D CLS [(r, .inr (4, [.ref a])), (a, .inl (g 0, n, .inl (upd (rfill n f p0 i) i p0)))] H := hP
        replace hD : va_D A [(r, .inr (4, [.ref a])), (a, .inl (g 0, n, .inl (upd (rfill n f p0 i) i p0)))] := hD
        refine lv_iinc (v := nI (i + 1)) (lv' := [(2, .int (nI (i + 1))), (0, .ref r), (1, .int p0)]) hx hb dX5_fill_18 hl (k := 2) rfl (nI_1 i) (by decide) rfl (fun ls hl => ?_)
        refine lv_goto (tgt := 2) hx hb dX5_fill_21 (by decide) ?_
        rw [rfill_s hlt] at hP hD
        exact ih_2  (i + 1) (by omega) (by first | assumption | omega | simp_all) _ _ (kSub hP [0, 1] rfl) (hD.sub [0, 1] (by decide +kernel) rfl) hS ls (lv_sub hl [1, 2, 0] rfl)
  have hP := (show f = rfill n f p0 0 from rfill_0) ▸ hP
  have hD := (show f = rfill n f p0 0 from rfill_0) ▸ hD
  exact loop_2 (n - 0 + 1) 0 (by omega) (Nat.zero_le _) _ _ (kSub hP [0, 1] rfl) (hD.sub [0, 1] (by decide +kernel) rfl) hS ls (lv_sub hl [1, 2, 0] rfl)
theorem dX5_become_0 : decode cX5_become 0 = .ok (.aload_n 1, 1) := by decide +kernel
theorem dX5_become_1 : decode cX5_become 1 = .ok (.getfield 13, 3) := by decide +kernel
theorem dX5_become_4 : decode cX5_become 4 = .ok (.iconst 0, 1) := by decide +kernel
theorem dX5_become_5 : decode cX5_become 5 = .ok (.aload_n 0, 1) := by decide +kernel
theorem dX5_become_6 : decode cX5_become 6 = .ok (.getfield 13, 3) := by decide +kernel
theorem dX5_become_9 : decode cX5_become 9 = .ok (.iconst 0, 1) := by decide +kernel
theorem dX5_become_10 : decode cX5_become 10 = .ok (.aload_n 0, 1) := by decide +kernel
theorem dX5_become_11 : decode cX5_become 11 = .ok (.getfield 13, 3) := by decide +kernel
theorem dX5_become_14 : decode cX5_become 14 = .ok (.arraylength, 1) := by decide +kernel
theorem dX5_become_15 : decode cX5_become 15 = .ok (.aload_n 1, 1) := by decide +kernel
theorem dX5_become_16 : decode cX5_become 16 = .ok (.getfield 13, 3) := by decide +kernel
theorem dX5_become_19 : decode cX5_become 19 = .ok (.arraylength, 1) := by decide +kernel
theorem dX5_become_20 : decode cX5_become 20 = .ok (.invokestatic 27, 3) := by decide +kernel
theorem dX5_become_23 : decode cX5_become 23 = .ok (.invokestatic 30, 3) := by decide +kernel
theorem dX5_become_26 : decode cX5_become 26 = .ok (.return_, 1) := by decide +kernel
set_option maxHeartbeats 4000000 in
set_option maxRecDepth 100000 in
/-- Row.become -/
theorem c_X5_become (l9 : Launch) (z : Nat → Nat) (D : va_G) (g : Nat → ClassId) (r : Nat) (a : Nat) (r2 : Nat) (a2 : Nat) (n : Nat) (f : Nat → Int32) (f2 : Nat → Int32) (hn : n < 2147483648) (sz : Nat) : Met l9 yX5_become (WS yX5_become cX5_become 2 none) ({ frames := 1, cells := 0, slots := 0, locals := 40 }) (va_Pc [.ref r, .ref r2] (kPre z D g [(r, .inr (4, [.ref a])), (a, .inl (g 0, n, .inl f)), (r2, .inr (4, [.ref a2])), (a2, .inl (g 0, n, .inl f2))] sz)) (va_Qv (fun (u9 : Unit) => True) (kB D g (va_A [(r, .inr (4, [.ref a])), (a, .inl (g 0, n, .inl f)), (r2, .inr (4, [.ref a2])), (a2, .inl (g 0, n, .inl f2))] sz) (fun (u9 : Unit) => [(r, .inr (4, [.ref a])), (a, .inl (g 0, n, .inl f2)), (r2, .inr (4, [.ref a2])), (a2, .inl (g 0, n, .inl f2))])) (va_A [(r, .inr (4, [.ref a])), (a, .inl (g 0, n, .inl f)), (r2, .inr (4, [.ref a2])), (a2, .inl (g 0, n, .inl f2))] sz)) 0 0 (va_A [(r, .inr (4, [.ref a])), (a, .inl (g 0, n, .inl f)), (r2, .inr (4, [.ref a2])), (a2, .inl (g 0, n, .inl f2))] sz) := by
  refine Met.ofW (cc := cX5_become) (maxL := 2) (ret := none) (by decide) rfl ?_
  intro p9 e9 s9 m9 args9 below9 meth9 c9 s₁ B hml hv
  obtain ⟨rfl, hsz, hP, hK, hD0, hZ⟩ := hv
  have hx := B.exec
  have hb := B.bytes
  have hr := B.returns
  have hts := ws_sub (atoms_spec (ws := WS yX5_become cX5_become 2 none) B.pre)
  have hown : s9.vm.findClass RX5 = some m9.cls := findClass_of_methodNamed B.named
  have hlocks := B.notSynchronized
  subst hsz
  have hD := hD0.self (sz := s9.heap.size)
  generalize hAe : va_A [(r, .inr (4, [.ref a])), (a, .inl (g 0, n, .inl f)), (r2, .inr (4, [.ref a2])), (a2, .inl (g 0, n, .inl f2))] s9.heap.size = A at hD hZ ⊢
  have hA : ∀ q : Nat, s9.heap.size ≤ q → A q := fun q h => by rw [← hAe]; exact Or.inr h
  have hS : va_S A s9.heap s9.heap [] := va_S.rf
  have hP : va_P D CLS [(r, .inr (4, [.ref a])), (a, .inl (g 0, n, .inl f)), (r2, .inr (4, [.ref a2])), (a2, .inl (g 0, n, .inl f2))] s9.heap := hP
  have hl := lv_entry ([.ref r, .ref r2]) (n := 2) (Nat.le_of_ble_eq_true rfl)
  rw [lg_entry_eq]
  generalize (lg_sl ([.ref r, .ref r2]) ++ List.replicate (2 - (lg_sl ([.ref r, .ref r2])).length) Slot.unset).toArray = ls at hl ⊢
  have hl : lv_has ls 2 [(0, .ref r), (1, .ref r2)] := hl
  change W p9 l9 e9 ({ frames := 1, cells := 0, slots := 0, locals := 40 } : Room) s9 m9 _ below9 meth9 c9 _ _ _ _ _ _
  refine lv_aload_n hx hb dX5_become_0 rfl (lv_at hl 1 rfl) ?_
  refine va_get (D := D) (ci := 4) (v := .ref a2) (C := RX5) (T := TX5) (N := 1) hx hb hts in_X5 hown hK hP 2 rfl rfl 0 (by decide) (hts _ w_95) (fun _ h9 => h9) rfl dX5_become_1 ?_
  refine lv_iconst (v := 0) hx hb dX5_become_4 (by decide) ?_
  refine lv_aload_n hx hb dX5_become_5 rfl (lv_at hl 0 rfl) ?_
  refine va_get (D := D) (ci := 4) (v := .ref a) (C := RX5) (T := TX5) (N := 1) hx hb hts in_X5 hown hK hP 0 rfl rfl 0 (by decide) (hts _ w_95) (fun _ h9 => h9) rfl dX5_become_6 ?_
  refine lv_iconst (v := 0) hx hb dX5_become_9 (by decide) ?_
  refine lv_aload_n hx hb dX5_become_10 rfl (lv_at hl 0 rfl) ?_
  refine va_get (D := D) (ci := 4) (v := .ref a) (C := RX5) (T := TX5) (N := 1) hx hb hts in_X5 hown hK hP 0 rfl rfl 0 (by decide) (hts _ w_95) (fun _ h9 => h9) rfl dX5_become_11 ?_
  refine va_alen (v := nI n) hx hb hK hP 1 0 rfl rfl rfl dX5_become_14 ?_
  refine lv_aload_n hx hb dX5_become_15 rfl (lv_at hl 1 rfl) ?_
  refine va_get (D := D) (ci := 4) (v := .ref a2) (C := RX5) (T := TX5) (N := 1) hx hb hts in_X5 hown hK hP 2 rfl rfl 0 (by decide) (hts _ w_95) (fun _ h9 => h9) rfl dX5_become_16 ?_
  refine va_alen (v := nI n) hx hb hK hP 3 0 rfl rfl rfl dX5_become_19 ?_
  refine va_mmin hx hb (by rw [hml]; exact hl.1.symm) hown (hts _ w_725) (hts _ w_596) (hts _ w_54) (hts _ w_597) (Nat.le_of_ble_eq_true rfl) (Nat.le_of_ble_eq_true rfl) (Nat.le_of_ble_eq_true rfl) (Nat.le_of_ble_eq_true rfl) dX5_become_20 ?_
  refine k_topi (show (if (nI n) < (nI n) then (nI n) else (nI n)) = (nI n) from by simp) ?_
  refine va_copyi hx hb (by rw [hml]; exact hl.1.symm) hown (hts _ w_726) (hts _ w_728) (hts _ w_727) (hts _ w_56) hK hP hD hS 3 1 0 0 rfl rfl rfl rfl rfl (by decide) (by decide) (nI_pos hn) (by rw [nI_clamp hn]; exact Nat.le_of_eq (Nat.zero_add n)) (by rw [nI_clamp hn]; exact Nat.le_of_eq (Nat.zero_add n)) (fun _ _ => rfl) (Nat.le_of_ble_eq_true rfl) (Nat.le_of_ble_eq_true rfl) dX5_become_23 (fun H locs hP7 hD7 hS7 => ?_)
  clear hP hD hS
  have hP := hP7
  have hD := hD7
  have hS := hS7
  clear hP7 hD7 hS7
  replace hP : va_P D CLS [(r, .inr (4, [.ref a])), (a, .inl (g 0, n, .inl (va_cpy f2 f (0 : Int32).toNatClampNeg (0 : Int32).toNatClampNeg (nI n).toNatClampNeg))), (r2, .inr (4, [.ref a2])), (a2, .inl (g 0, n, .inl f2))] H := hP
  replace hD : va_D A [(r, .inr (4, [.ref a])), (a, .inl (g 0, n, .inl (va_cpy f2 f (0 : Int32).toNatClampNeg (0 : Int32).toNatClampNeg (nI n).toNatClampNeg))), (r2, .inr (4, [.ref a2])), (a2, .inl (g 0, n, .inl f2))] := hD
  have hD := kCd (y := .inl (g 0, n, .inl f2)) 1 hD rfl
  have hP := kCg (g := f2) 1 hP rfl (rcopy_at hn)
  replace hP : va_P D CLS [(r, .inr (4, [.ref a])), (a, .inl (g 0, n, .inl f2)), (r2, .inr (4, [.ref a2])), (a2, .inl (g 0, n, .inl f2))] H := hP
  replace hD : va_D A [(r, .inr (4, [.ref a])), (a, .inl (g 0, n, .inl f2)), (r2, .inr (4, [.ref a2])), (a2, .inl (g 0, n, .inl f2))] := hD
  have hP9 : va_P D CLS [(r, .inr (4, [.ref a])), (a, .inl (g 0, n, .inl f2)), (r2, .inr (4, [.ref a2])), (a2, .inl (g 0, n, .inl f2))] H := by exact kSub hP [0, 1, 2, 3] rfl
  have hD9 : va_D A [(r, .inr (4, [.ref a])), (a, .inl (g 0, n, .inl f2)), (r2, .inr (4, [.ref a2])), (a2, .inl (g 0, n, .inl f2))] := by exact hD.sub [0, 1, 2, 3] (by decide +kernel) rfl
  exact W.vret hx hb hr (fun t9 ht9 hW9 => ⟨⟨(), rfl, trivial, by rw [ht9]; exact hP9, va_K.moved hW9.alike hK, hD9⟩, hS.F ht9⟩) hS.2.2 dX5_become_26
