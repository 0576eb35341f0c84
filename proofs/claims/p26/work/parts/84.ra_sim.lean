theorem dX11_squeaks_0 : decode cX11_squeaks 0 = .ok (.aload_n 0, 1) := by decide +kernel
theorem dX11_squeaks_1 : decode cX11_squeaks 1 = .ok (.getfield 22, 3) := by decide +kernel
theorem dX11_squeaks_4 : decode cX11_squeaks 4 = .ok (.iload_n 1, 1) := by decide +kernel
theorem dX11_squeaks_5 : decode cX11_squeaks 5 = .ok (.aaload, 1) := by decide +kernel
theorem dX11_squeaks_6 : decode cX11_squeaks 6 = .ok (.iconst 4, 1) := by decide +kernel
theorem dX11_squeaks_7 : decode cX11_squeaks 7 = .ok (.iaload, 1) := by decide +kernel
theorem dX11_squeaks_8 : decode cX11_squeaks 8 = .ok (.bipush 7, 2) := by decide +kernel
theorem dX11_squeaks_10 : decode cX11_squeaks 10 = .ok (.if_icmp .le 7, 3) := by decide +kernel
theorem dX11_squeaks_13 : decode cX11_squeaks 13 = .ok (.iconst 1, 1) := by decide +kernel
theorem dX11_squeaks_14 : decode cX11_squeaks 14 = .ok (.goto 4, 3) := by decide +kernel
theorem dX11_squeaks_17 : decode cX11_squeaks 17 = .ok (.iconst 0, 1) := by decide +kernel
theorem dX11_squeaks_18 : decode cX11_squeaks 18 = .ok (.ireturn, 1) := by decide +kernel
set_option maxHeartbeats 4000000 in
set_option maxRecDepth 100000 in
/-- Sim.squeaks -/
theorem c_X11_squeaks (l9 : Launch) (z : Nat → Nat) (D : va_G) (g : Nat → ClassId) (sm : Nat) (ob : Nat → Nat) (ad : Nat → Nat → Nat) (tn : Nat → Nat) (tr : Nat → Nat → Int32) (od : Nat → Nat → Nat) (c : CS) (dd : Nat) (m : Nat) (k : Nat) (hO : SOKs tn tr od) (hC : CIn tn c dd m) (hk : k < tn 2) (sz : Nat) : Met l9 yX11_squeaks (WS yX11_squeaks cX11_squeaks 2 (some .boolean)) ({ frames := 0, cells := 0, slots := 0, locals := 0 }) (va_Pc [.ref sm, .int (nI k)] (kPre z D g (([(sm, .inr (9, [.int c.1.1, .int c.1.2.1, .int c.1.2.2.1, .int c.2.1, .ref (ob 0), .ref (ob 1), .ref (ob 2), .ref (ob 3), .ref (ob 4)])), (ob 2, .inl (g 4, tn 2, .inr (.inr (.inr (.inr (bld (ad 2) (tn 2)))))))] : va_W) ++ simW (g 0) ad tn (simM tr od c)) sz)) (va_Qi (fun (r9 : Int32) (u9 : Unit) => r9 = bI (fSq c.1.2.2.2.2.2.2 (nI k))) (kB D g (va_A (([(sm, .inr (9, [.int c.1.1, .int c.1.2.1, .int c.1.2.2.1, .int c.2.1, .ref (ob 0), .ref (ob 1), .ref (ob 2), .ref (ob 3), .ref (ob 4)])), (ob 2, .inl (g 4, tn 2, .inr (.inr (.inr (.inr (bld (ad 2) (tn 2)))))))] : va_W) ++ simW (g 0) ad tn (simM tr od c)) sz) (fun (u9 : Unit) => (([(sm, .inr (9, [.int c.1.1, .int c.1.2.1, .int c.1.2.2.1, .int c.2.1, .ref (ob 0), .ref (ob 1), .ref (ob 2), .ref (ob 3), .ref (ob 4)])), (ob 2, .inl (g 4, tn 2, .inr (.inr (.inr (.inr (bld (ad 2) (tn 2)))))))] : va_W) ++ simW (g 0) ad tn (simM tr od c)))) (va_A (([(sm, .inr (9, [.int c.1.1, .int c.1.2.1, .int c.1.2.2.1, .int c.2.1, .ref (ob 0), .ref (ob 1), .ref (ob 2), .ref (ob 3), .ref (ob 4)])), (ob 2, .inl (g 4, tn 2, .inr (.inr (.inr (.inr (bld (ad 2) (tn 2)))))))] : va_W) ++ simW (g 0) ad tn (simM tr od c)) sz)) 0 0 (va_A (([(sm, .inr (9, [.int c.1.1, .int c.1.2.1, .int c.1.2.2.1, .int c.2.1, .ref (ob 0), .ref (ob 1), .ref (ob 2), .ref (ob 3), .ref (ob 4)])), (ob 2, .inl (g 4, tn 2, .inr (.inr (.inr (.inr (bld (ad 2) (tn 2)))))))] : va_W) ++ simW (g 0) ad tn (simM tr od c)) sz) := by
  refine Met.ofW (cc := cX11_squeaks) (maxL := 2) (ret := (some .boolean)) (by decide) rfl ?_
  intro p9 e9 s9 m9 args9 below9 meth9 c9 s₁ B hml hv
  obtain ⟨rfl, hsz, hP, hK, hD0, hZ⟩ := hv
  have hx := B.exec
  have hb := B.bytes
  have hr := B.returns
  have hts := ws_sub (atoms_spec (ws := WS yX11_squeaks cX11_squeaks 2 (some .boolean)) B.pre)
  have hown : s9.vm.findClass RX11 = some m9.cls := findClass_of_methodNamed B.named
  have hlocks := B.notSynchronized
  subst hsz
  have hD := hD0.self (sz := s9.heap.size)
  generalize hAe : va_A (([(sm, .inr (9, [.int c.1.1, .int c.1.2.1, .int c.1.2.2.1, .int c.2.1, .ref (ob 0), .ref (ob 1), .ref (ob 2), .ref (ob 3), .ref (ob 4)])), (ob 2, .inl (g 4, tn 2, .inr (.inr (.inr (.inr (bld (ad 2) (tn 2)))))))] : va_W) ++ simW (g 0) ad tn (simM tr od c)) s9.heap.size = A at hD hZ ⊢
  have hA : ∀ q : Nat, s9.heap.size ≤ q → A q := fun q h => by rw [← hAe]; exact Or.inr h
  have hS : va_S A s9.heap s9.heap [] := va_S.rf
  have hP : va_P D CLS (([(sm, .inr (9, [.int c.1.1, .int c.1.2.1, .int c.1.2.2.1, .int c.2.1, .ref (ob 0), .ref (ob 1), .ref (ob 2), .ref (ob 3), .ref (ob 4)])), (ob 2, .inl (g 4, tn 2, .inr (.inr (.inr (.inr (bld (ad 2) (tn 2)))))))] : va_W) ++ simW (g 0) ad tn (simM tr od c)) s9.heap := hP
  have hl := lv_entry ([.ref sm, .int (nI k)]) (n := 2) (Nat.le_of_ble_eq_true rfl)
  rw [lg_entry_eq]
  generalize (lg_sl ([.ref sm, .int (nI k)]) ++ List.replicate (2 - (lg_sl ([.ref sm, .int (nI k)])).length) Slot.unset).toArray = ls at hl ⊢
  have hl : lv_has ls 2 [(0, .ref sm), (1, .int (nI k))] := hl
  change W p9 l9 e9 ({ frames := 0, cells := 0, slots := 0, locals := 0 } : Room) s9 m9 _ below9 meth9 c9 _ _ _ _ _ _
  have hN := hO.1; unfold CntS at hN
  refine lv_aload_n hx hb dX11_squeaks_0 rfl (lv_at hl 0 rfl) ?_
  refine va_get (D := D) (ci := 9) (v := .ref (ob 2)) (C := RX11) (T := TX11) (N := 9) hx hb hts in_X11 hown hK hP 0 rfl rfl 6 (by decide) (hts _ w_1219) (fun _ h9 => h9) rfl dX11_squeaks_1 ?_
  refine lv_iload_n hx hb dX11_squeaks_4 rfl (lv_at hl 1 rfl) ?_
  refine k_aldB (i := k) hx hb hK hP 1 rfl (by omega) (Nat.le_refl _) (by omega) dX11_squeaks_5 ?_
  refine lv_iconst (v := 4) hx hb dX11_squeaks_6 (by decide) ?_
  refine k_ldS (j := 2) (i := k) (q := 4) (v := c.1.2.2.2.2.2.2 k) hx hb hK hP (by decide) (by omega) (by decide) rfl dX11_squeaks_7 ?_
  refine lv_bipush (v := 7) hx hb dX11_squeaks_8 (by decide) ?_
  refine lv_icmp_le (tgt := 17) hx hb dX11_squeaks_10 (by decide) (fun c_10 => ?_) (fun c_10 => ?_)
  · skip
    refine lv_iconst (v := 0) hx hb dX11_squeaks_17 (by decide) ?_
    have hr9 : 0 = (bI (fSq c.1.2.2.2.2.2.2 (nI k))) := by first | exact bIt (sq_t (by omega) c_10) | exact bIf (sq_f (by omega) c_10)
    have hP9 : va_P D CLS (([(sm, .inr (9, [.int c.1.1, .int c.1.2.1, .int c.1.2.2.1, .int c.2.1, .ref (ob 0), .ref (ob 1), .ref (ob 2), .ref (ob 3), .ref (ob 4)])), (ob 2, .inl (g 4, tn 2, .inr (.inr (.inr (.inr (bld (ad 2) (tn 2)))))))] : va_W) ++ simW (g 0) ad tn (simM tr od c)) s9.heap := by exact va_P.part hP [0, 1] rfl
    have hD9 : va_D A (([(sm, .inr (9, [.int c.1.1, .int c.1.2.1, .int c.1.2.2.1, .int c.2.1, .ref (ob 0), .ref (ob 1), .ref (ob 2), .ref (ob 3), .ref (ob 4)])), (ob 2, .inl (g 4, tn 2, .inr (.inr (.inr (.inr (bld (ad 2) (tn 2)))))))] : va_W) ++ simW (g 0) ad tn (simM tr od c)) := by exact hD.part [0, 1] (by decide +kernel) rfl
    exact W.zret (v := 0) hx hb hr (by first | exact k_nb0 | exact k_nb1 | exact k_nbI _ | simp) (fun t9 ht9 hW9 => ⟨⟨0, (), rfl, hr9, by rw [ht9]; exact hP9, va_K.moved hW9.alike hK, hD9⟩, hS.F ht9⟩) hS.2.2 dX11_squeaks_18
  · skip
    refine lv_iconst (v := 1) hx hb dX11_squeaks_13 (by decide) ?_
    refine lv_goto (tgt := 18) hx hb dX11_squeaks_14 (by decide) ?_
    have hr9 : 1 = (bI (fSq c.1.2.2.2.2.2.2 (nI k))) := by first | exact bIt (sq_t (by omega) c_10) | exact bIf (sq_f (by omega) c_10)
    have hP9 : va_P D CLS (([(sm, .inr (9, [.int c.1.1, .int c.1.2.1, .int c.1.2.2.1, .int c.2.1, .ref (ob 0), .ref (ob 1), .ref (ob 2), .ref (ob 3), .ref (ob 4)])), (ob 2, .inl (g 4, tn 2, .inr (.inr (.inr (.inr (bld (ad 2) (tn 2)))))))] : va_W) ++ simW (g 0) ad tn (simM tr od c)) s9.heap := by exact va_P.part hP [0, 1] rfl
    have hD9 : va_D A (([(sm, .inr (9, [.int c.1.1, .int c.1.2.1, .int c.1.2.2.1, .int c.2.1, .ref (ob 0), .ref (ob 1), .ref (ob 2), .ref (ob 3), .ref (ob 4)])), (ob 2, .inl (g 4, tn 2, .inr (.inr (.inr (.inr (bld (ad 2) (tn 2)))))))] : va_W) ++ simW (g 0) ad tn (simM tr od c)) := by exact hD.part [0, 1] (by decide +kernel) rfl
    exact W.zret (v := 1) hx hb hr (by first | exact k_nb0 | exact k_nb1 | exact k_nbI _ | simp) (fun t9 ht9 hW9 => ⟨⟨1, (), rfl, hr9, by rw [ht9]; exact hP9, va_K.moved hW9.alike hK, hD9⟩, hS.F ht9⟩) hS.2.2 dX11_squeaks_18
theorem dX11_isOpen_0 : decode cX11_isOpen 0 = .ok (.aload_n 1, 1) := by decide +kernel
theorem dX11_isOpen_1 : decode cX11_isOpen 1 = .ok (.iconst 0, 1) := by decide +kernel
theorem dX11_isOpen_2 : decode cX11_isOpen 2 = .ok (.iaload, 1) := by decide +kernel
theorem dX11_isOpen_3 : decode cX11_isOpen 3 = .ok (.ifCond .ne 23, 3) := by decide +kernel
theorem dX11_isOpen_6 : decode cX11_isOpen 6 = .ok (.aload_n 0, 1) := by decide +kernel
theorem dX11_isOpen_7 : decode cX11_isOpen 7 = .ok (.getfield 22, 3) := by decide +kernel
theorem dX11_isOpen_10 : decode cX11_isOpen 10 = .ok (.aload_n 1, 1) := by decide +kernel
theorem dX11_isOpen_11 : decode cX11_isOpen 11 = .ok (.iconst 1, 1) := by decide +kernel
theorem dX11_isOpen_12 : decode cX11_isOpen 12 = .ok (.iaload, 1) := by decide +kernel
theorem dX11_isOpen_13 : decode cX11_isOpen 13 = .ok (.aaload, 1) := by decide +kernel
theorem dX11_isOpen_14 : decode cX11_isOpen 14 = .ok (.iconst 1, 1) := by decide +kernel
theorem dX11_isOpen_15 : decode cX11_isOpen 15 = .ok (.iaload, 1) := by decide +kernel
theorem dX11_isOpen_16 : decode cX11_isOpen 16 = .ok (.aload_n 1, 1) := by decide +kernel
theorem dX11_isOpen_17 : decode cX11_isOpen 17 = .ok (.iconst 2, 1) := by decide +kernel
theorem dX11_isOpen_18 : decode cX11_isOpen 18 = .ok (.iaload, 1) := by decide +kernel
theorem dX11_isOpen_19 : decode cX11_isOpen 19 = .ok (.if_icmp .eq 7, 3) := by decide +kernel
theorem dX11_isOpen_22 : decode cX11_isOpen 22 = .ok (.iconst 1, 1) := by decide +kernel
theorem dX11_isOpen_23 : decode cX11_isOpen 23 = .ok (.goto 4, 3) := by decide +kernel
theorem dX11_isOpen_26 : decode cX11_isOpen 26 = .ok (.iconst 0, 1) := by decide +kernel
theorem dX11_isOpen_27 : decode cX11_isOpen 27 = .ok (.ireturn, 1) := by decide +kernel
set_option maxHeartbeats 4000000 in
set_option maxRecDepth 100000 in
/-- Sim.isOpen -/
theorem c_X11_isOpen (l9 : Launch) (z : Nat → Nat) (D : va_G) (g : Nat → ClassId) (sm : Nat) (ob : Nat → Nat) (ad : Nat → Nat → Nat) (tn : Nat → Nat) (tr : Nat → Nat → Int32) (od : Nat → Nat → Nat) (c : CS) (dd : Nat) (m : Nat) (k : Nat) (hO : SOKs tn tr od) (hC : CIn tn c dd m) (hk : k < tn 4) (sz : Nat) : Met l9 yX11_isOpen (WS yX11_isOpen cX11_isOpen 2 (some .boolean)) ({ frames := 0, cells := 0, slots := 0, locals := 0 }) (va_Pc [.ref sm, .ref (ad 4 k)] (kPre z D g (([(sm, .inr (9, [.int c.1.1, .int c.1.2.1, .int c.1.2.2.1, .int c.2.1, .ref (ob 0), .ref (ob 1), .ref (ob 2), .ref (ob 3), .ref (ob 4)])), (ob 2, .inl (g 4, tn 2, .inr (.inr (.inr (.inr (bld (ad 2) (tn 2)))))))] : va_W) ++ simW (g 0) ad tn (simM tr od c)) sz)) (va_Qi (fun (r9 : Int32) (u9 : Unit) => r9 = bI (fOpen tr c.1.2.2.2.1 (nI k))) (kB D g (va_A (([(sm, .inr (9, [.int c.1.1, .int c.1.2.1, .int c.1.2.2.1, .int c.2.1, .ref (ob 0), .ref (ob 1), .ref (ob 2), .ref (ob 3), .ref (ob 4)])), (ob 2, .inl (g 4, tn 2, .inr (.inr (.inr (.inr (bld (ad 2) (tn 2)))))))] : va_W) ++ simW (g 0) ad tn (simM tr od c)) sz) (fun (u9 : Unit) => (([(sm, .inr (9, [.int c.1.1, .int c.1.2.1, .int c.1.2.2.1, .int c.2.1, .ref (ob 0), .ref (ob 1), .ref (ob 2), .ref (ob 3), .ref (ob 4)])), (ob 2, .inl (g 4, tn 2, .inr (.inr (.inr (.inr (bld (ad 2) (tn 2)))))))] : va_W) ++ simW (g 0) ad tn (simM tr od c)))) (va_A (([(sm, .inr (9, [.int c.1.1, .int c.1.2.1, .int c.1.2.2.1, .int c.2.1, .ref (ob 0), .ref (ob 1), .ref (ob 2), .ref (ob 3), .ref (ob 4)])), (ob 2, .inl (g 4, tn 2, .inr (.inr (.inr (.inr (bld (ad 2) (tn 2)))))))] : va_W) ++ simW (g 0) ad tn (simM tr od c)) sz)) 0 0 (va_A (([(sm, .inr (9, [.int c.1.1, .int c.1.2.1, .int c.1.2.2.1, .int c.2.1, .ref (ob 0), .ref (ob 1), .ref (ob 2), .ref (ob 3), .ref (ob 4)])), (ob 2, .inl (g 4, tn 2, .inr (.inr (.inr (.inr (bld (ad 2) (tn 2)))))))] : va_W) ++ simW (g 0) ad tn (simM tr od c)) sz) := by
  refine Met.ofW (cc := cX11_isOpen) (maxL := 2) (ret := (some .boolean)) (by decide) rfl ?_
  intro p9 e9 s9 m9 args9 below9 meth9 c9 s₁ B hml hv
  obtain ⟨rfl, hsz, hP, hK, hD0, hZ⟩ := hv
  have hx := B.exec
  have hb := B.bytes
  have hr := B.returns
  have hts := ws_sub (atoms_spec (ws := WS yX11_isOpen cX11_isOpen 2 (some .boolean)) B.pre)
  have hown : s9.vm.findClass RX11 = some m9.cls := findClass_of_methodNamed B.named
  have hlocks := B.notSynchronized
  subst hsz
  have hD := hD0.self (sz := s9.heap.size)
  generalize hAe : va_A (([(sm, .inr (9, [.int c.1.1, .int c.1.2.1, .int c.1.2.2.1, .int c.2.1, .ref (ob 0), .ref (ob 1), .ref (ob 2), .ref (ob 3), .ref (ob 4)])), (ob 2, .inl (g 4, tn 2, .inr (.inr (.inr (.inr (bld (ad 2) (tn 2)))))))] : va_W) ++ simW (g 0) ad tn (simM tr od c)) s9.heap.size = A at hD hZ ⊢
  have hA : ∀ q : Nat, s9.heap.size ≤ q → A q := fun q h => by rw [← hAe]; exact Or.inr h
  have hS : va_S A s9.heap s9.heap [] := va_S.rf
  have hP : va_P D CLS (([(sm, .inr (9, [.int c.1.1, .int c.1.2.1, .int c.1.2.2.1, .int c.2.1, .ref (ob 0), .ref (ob 1), .ref (ob 2), .ref (ob 3), .ref (ob 4)])), (ob 2, .inl (g 4, tn 2, .inr (.inr (.inr (.inr (bld (ad 2) (tn 2)))))))] : va_W) ++ simW (g 0) ad tn (simM tr od c)) s9.heap := hP
  have hl := lv_entry ([.ref sm, .ref (ad 4 k)]) (n := 2) (Nat.le_of_ble_eq_true rfl)
  rw [lg_entry_eq]
  generalize (lg_sl ([.ref sm, .ref (ad 4 k)]) ++ List.replicate (2 - (lg_sl ([.ref sm, .ref (ad 4 k)])).length) Slot.unset).toArray = ls at hl ⊢
  have hl : lv_has ls 2 [(0, .ref sm), (1, .ref (ad 4 k))] := hl
  change W p9 l9 e9 ({ frames := 0, cells := 0, slots := 0, locals := 0 } : Room) s9 m9 _ below9 meth9 c9 _ _ _ _ _ _
  have hN := hO.1; unfold CntS at hN
  have ho := hO.2.2.2.2.2 k hk
  have ho1 := ho.1
  refine lv_aload_n hx hb dX11_isOpen_0 rfl (lv_at hl 1 rfl) ?_
  refine lv_iconst (v := 0) hx hb dX11_isOpen_1 (by decide) ?_
  refine k_ldS (j := 4) (i := k) (q := 0) (v := nI (od k 0)) hx hb hK hP (by decide) (by omega) (by decide) rfl dX11_isOpen_2 ?_
  refine lv_if_ne (tgt := 26) hx hb dX11_isOpen_3 (by decide) (fun c_3 => ?_) (fun c_3 => ?_)
  · skip
    have c_3 : ¬ (od k 0) = 0 := fun h => c_3 ((nI_eq (a := (od k 0)) (b := 0) (by omega) (by omega)).mpr h)
    refine lv_iconst (v := 0) hx hb dX11_isOpen_26 (by decide) ?_
    have hr9 : 0 = (bI (fOpen tr c.1.2.2.2.1 (nI k))) := by first | exact bIt (op_ne ho (by omega) (by omega) (by omega) c_3 c_19) | exact bIf (op_eq ho (by omega) (by omega) c_3 c_19) | exact bIf (op_oil ho (by omega) c_3)
    have hP9 : va_P D CLS (([(sm, .inr (9, [.int c.1.1, .int c.1.2.1, .int c.1.2.2.1, .int c.2.1, .ref (ob 0), .ref (ob 1), .ref (ob 2), .ref (ob 3), .ref (ob 4)])), (ob 2, .inl (g 4, tn 2, .inr (.inr (.inr (.inr (bld (ad 2) (tn 2)))))))] : va_W) ++ simW (g 0) ad tn (simM tr od c)) s9.heap := by exact va_P.part hP [0, 1] rfl
    have hD9 : va_D A (([(sm, .inr (9, [.int c.1.1, .int c.1.2.1, .int c.1.2.2.1, .int c.2.1, .ref (ob 0), .ref (ob 1), .ref (ob 2), .ref (ob 3), .ref (ob 4)])), (ob 2, .inl (g 4, tn 2, .inr (.inr (.inr (.inr (bld (ad 2) (tn 2)))))))] : va_W) ++ simW (g 0) ad tn (simM tr od c)) := by exact hD.part [0, 1] (by decide +kernel) rfl
    exact W.zret (v := 0) hx hb hr (by first | exact k_nb0 | exact k_nb1 | exact k_nbI _ | simp) (fun t9 ht9 hW9 => ⟨⟨0, (), rfl, hr9, by rw [ht9]; exact hP9, va_K.moved hW9.alike hK, hD9⟩, hS.F ht9⟩) hS.2.2 dX11_isOpen_27
  · skip
    have c_3 : (od k 0) = 0 := (nI_eq (a := (od k 0)) (b := 0) (by omega) (by omega)).mp c_3
    refine lv_aload_n hx hb dX11_isOpen_6 rfl (lv_at hl 0 rfl) ?_
    refine va_get (D := D) (ci := 9) (v := .ref (ob 2)) (C := RX11) (T := TX11) (N := 9) hx hb hts in_X11 hown hK hP 0 rfl rfl 6 (by decide) (hts _ w_1219) (fun _ h9 => h9) rfl dX11_isOpen_7 ?_
    refine lv_aload_n hx hb dX11_isOpen_10 rfl (lv_at hl 1 rfl) ?_
    refine lv_iconst (v := 1) hx hb dX11_isOpen_11 (by decide) ?_
    refine k_ldS (j := 4) (i := k) (q := 1) (v := nI (od k 1)) hx hb hK hP (by decide) (by omega) (by decide) rfl dX11_isOpen_12 ?_
    refine k_aldB (i := od k 1) hx hb hK hP 1 rfl (by omega) (Nat.le_refl _) (by omega) dX11_isOpen_13 ?_
    refine lv_iconst (v := 1) hx hb dX11_isOpen_14 (by decide) ?_
    refine k_ldS (j := 2) (i := (od k 1)) (q := 1) (v := c.1.2.2.2.1 (od k 1)) hx hb hK hP (by decide) (by omega) (by decide) rfl dX11_isOpen_15 ?_
    refine lv_aload_n hx hb dX11_isOpen_16 rfl (lv_at hl 1 rfl) ?_
    refine lv_iconst (v := 2) hx hb dX11_isOpen_17 (by decide) ?_
    refine k_ldS (j := 4) (i := k) (q := 2) (v := nI (od k 2)) hx hb hK hP (by decide) (by omega) (by decide) rfl dX11_isOpen_18 ?_
    refine lv_icmp_eq (tgt := 26) hx hb dX11_isOpen_19 (by decide) (fun c_19 => ?_) (fun c_19 => ?_)
    · skip
      refine lv_iconst (v := 0) hx hb dX11_isOpen_26 (by decide) ?_
      have hr9 : 0 = (bI (fOpen tr c.1.2.2.2.1 (nI k))) := by first | exact bIt (op_ne ho (by omega) (by omega) (by omega) c_3 c_19) | exact bIf (op_eq ho (by omega) (by omega) c_3 c_19) | exact bIf (op_oil ho (by omega) c_3)
      have hP9 : va_P D CLS (([(sm, .inr (9, [.int c.1.1, .int c.1.2.1, .int c.1.2.2.1, .int c.2.1, .ref (ob 0), .ref (ob 1), .ref (ob 2), .ref (ob 3), .ref (ob 4)])), (ob 2, .inl (g 4, tn 2, .inr (.inr (.inr (.inr (bld (ad 2) (tn 2)))))))] : va_W) ++ simW (g 0) ad tn (simM tr od c)) s9.heap := by exact va_P.part hP [0, 1] rfl
      have hD9 : va_D A (([(sm, .inr (9, [.int c.1.1, .int c.1.2.1, .int c.1.2.2.1, .int c.2.1, .ref (ob 0), .ref (ob 1), .ref (ob 2), .ref (ob 3), .ref (ob 4)])), (ob 2, .inl (g 4, tn 2, .inr (.inr (.inr (.inr (bld (ad 2) (tn 2)))))))] : va_W) ++ simW (g 0) ad tn (simM tr od c)) := by exact hD.part [0, 1] (by decide +kernel) rfl
      exact W.zret (v := 0) hx hb hr (by first | exact k_nb0 | exact k_nb1 | exact k_nbI _ | simp) (fun t9 ht9 hW9 => ⟨⟨0, (), rfl, hr9, by rw [ht9]; exact hP9, va_K.moved hW9.alike hK, hD9⟩, hS.F ht9⟩) hS.2.2 dX11_isOpen_27
    · skip
      refine lv_iconst (v := 1) hx hb dX11_isOpen_22 (by decide) ?_
      refine lv_goto (tgt := 27) hx hb dX11_isOpen_23 (by decide) ?_
      have hr9 : 1 = (bI (fOpen tr c.1.2.2.2.1 (nI k))) := by first | exact bIt (op_ne ho (by omega) (by omega) (by omega) c_3 c_19) | exact bIf (op_eq ho (by omega) (by omega) c_3 c_19) | exact bIf (op_oil ho (by omega) c_3)
      have hP9 : va_P D CLS (([(sm, .inr (9, [.int c.1.1, .int c.1.2.1, .int c.1.2.2.1, .int c.2.1, .ref (ob 0), .ref (ob 1), .ref (ob 2), .ref (ob 3), .ref (ob 4)])), (ob 2, .inl (g 4, tn 2, .inr (.inr (.inr (.inr (bld (ad 2) (tn 2)))))))] : va_W) ++ simW (g 0) ad tn (simM tr od c)) s9.heap := by exact va_P.part hP [0, 1] rfl
      have hD9 : va_D A (([(sm, .inr (9, [.int c.1.1, .int c.1.2.1, .int c.1.2.2.1, .int c.2.1, .ref (ob 0), .ref (ob 1), .ref (ob 2), .ref (ob 3), .ref (ob 4)])), (ob 2, .inl (g 4, tn 2, .inr (.inr (.inr (.inr (bld (ad 2) (tn 2)))))))] : va_W) ++ simW (g 0) ad tn (simM tr od c)) := by exact hD.part [0, 1] (by decide +kernel) rfl
      exact W.zret (v := 1) hx hb hr (by first | exact k_nb0 | exact k_nb1 | exact k_nbI _ | simp) (fun t9 ht9 hW9 => ⟨⟨1, (), rfl, hr9, by rw [ht9]; exact hP9, va_K.moved hW9.alike hK, hD9⟩, hS.F ht9⟩) hS.2.2 dX11_isOpen_27
theorem dX11_holds_0 : decode cX11_holds 0 = .ok (.aload_n 1, 1) := by decide +kernel
theorem dX11_holds_1 : decode cX11_holds 1 = .ok (.bipush 6, 2) := by decide +kernel
theorem dX11_holds_3 : decode cX11_holds 3 = .ok (.iaload, 1) := by decide +kernel
theorem dX11_holds_4 : decode cX11_holds 4 = .ok (.istore_n 2, 1) := by decide +kernel
theorem dX11_holds_5 : decode cX11_holds 5 = .ok (.aload_n 0, 1) := by decide +kernel
theorem dX11_holds_6 : decode cX11_holds 6 = .ok (.getfield 22, 3) := by decide +kernel
theorem dX11_holds_9 : decode cX11_holds 9 = .ok (.aload_n 1, 1) := by decide +kernel
theorem dX11_holds_10 : decode cX11_holds 10 = .ok (.bipush 7, 2) := by decide +kernel
theorem dX11_holds_12 : decode cX11_holds 12 = .ok (.iaload, 1) := by decide +kernel
theorem dX11_holds_13 : decode cX11_holds 13 = .ok (.aload_n 0, 1) := by decide +kernel
theorem dX11_holds_14 : decode cX11_holds 14 = .ok (.getfield 22, 3) := by decide +kernel
theorem dX11_holds_17 : decode cX11_holds 17 = .ok (.arraylength, 1) := by decide +kernel
theorem dX11_holds_18 : decode cX11_holds 18 = .ok (.irem, 1) := by decide +kernel
theorem dX11_holds_19 : decode cX11_holds 19 = .ok (.aaload, 1) := by decide +kernel
theorem dX11_holds_20 : decode cX11_holds 20 = .ok (.astore_n 3, 1) := by decide +kernel
theorem dX11_holds_21 : decode cX11_holds 21 = .ok (.aload_n 0, 1) := by decide +kernel
theorem dX11_holds_22 : decode cX11_holds 22 = .ok (.getfield 22, 3) := by decide +kernel
theorem dX11_holds_25 : decode cX11_holds 25 = .ok (.aload_n 1, 1) := by decide +kernel
theorem dX11_holds_26 : decode cX11_holds 26 = .ok (.bipush 8, 2) := by decide +kernel
theorem dX11_holds_28 : decode cX11_holds 28 = .ok (.iaload, 1) := by decide +kernel
theorem dX11_holds_29 : decode cX11_holds 29 = .ok (.aload_n 0, 1) := by decide +kernel
theorem dX11_holds_30 : decode cX11_holds 30 = .ok (.getfield 22, 3) := by decide +kernel
theorem dX11_holds_33 : decode cX11_holds 33 = .ok (.arraylength, 1) := by decide +kernel
theorem dX11_holds_34 : decode cX11_holds 34 = .ok (.irem, 1) := by decide +kernel
theorem dX11_holds_35 : decode cX11_holds 35 = .ok (.aaload, 1) := by decide +kernel
theorem dX11_holds_36 : decode cX11_holds 36 = .ok (.astore 4, 2) := by decide +kernel
theorem dX11_holds_38 : decode cX11_holds 38 = .ok (.aload_n 1, 1) := by decide +kernel
theorem dX11_holds_39 : decode cX11_holds 39 = .ok (.bipush 9, 2) := by decide +kernel
theorem dX11_holds_41 : decode cX11_holds 41 = .ok (.iaload, 1) := by decide +kernel
theorem dX11_holds_42 : decode cX11_holds 42 = .ok (.aload_n 0, 1) := by decide +kernel
theorem dX11_holds_43 : decode cX11_holds 43 = .ok (.getfield 15, 3) := by decide +kernel
theorem dX11_holds_46 : decode cX11_holds 46 = .ok (.arraylength, 1) := by decide +kernel
theorem dX11_holds_47 : decode cX11_holds 47 = .ok (.irem, 1) := by decide +kernel
theorem dX11_holds_48 : decode cX11_holds 48 = .ok (.istore 5, 2) := by decide +kernel
theorem dX11_holds_50 : decode cX11_holds 50 = .ok (.aload_n 1, 1) := by decide +kernel
theorem dX11_holds_51 : decode cX11_holds 51 = .ok (.iconst 5, 1) := by decide +kernel
theorem dX11_holds_52 : decode cX11_holds 52 = .ok (.iaload, 1) := by decide +kernel
theorem dX11_holds_53 : decode cX11_holds 53 = .ok (.tableswitch 190 (-1) 6 #[47, 49, 65, 79, 95, 117, 153, 178], 47) := by decide +kernel
theorem dX11_holds_100 : decode cX11_holds 100 = .ok (.iconst 1, 1) := by decide +kernel
theorem dX11_holds_101 : decode cX11_holds 101 = .ok (.ireturn, 1) := by decide +kernel
theorem dX11_holds_102 : decode cX11_holds 102 = .ok (.aload_n 0, 1) := by decide +kernel
theorem dX11_holds_103 : decode cX11_holds 103 = .ok (.getfield 31, 3) := by decide +kernel
theorem dX11_holds_106 : decode cX11_holds 106 = .ok (.iload_n 2, 1) := by decide +kernel
theorem dX11_holds_107 : decode cX11_holds 107 = .ok (.iconst 4, 1) := by decide +kernel
theorem dX11_holds_108 : decode cX11_holds 108 = .ok (.idiv, 1) := by decide +kernel
theorem dX11_holds_109 : decode cX11_holds 109 = .ok (.if_icmp .le 7, 3) := by decide +kernel
theorem dX11_holds_112 : decode cX11_holds 112 = .ok (.iconst 1, 1) := by decide +kernel
theorem dX11_holds_113 : decode cX11_holds 113 = .ok (.goto 4, 3) := by decide +kernel
theorem dX11_holds_116 : decode cX11_holds 116 = .ok (.iconst 0, 1) := by decide +kernel
theorem dX11_holds_117 : decode cX11_holds 117 = .ok (.ireturn, 1) := by decide +kernel
theorem dX11_holds_118 : decode cX11_holds 118 = .ok (.aload_n 3, 1) := by decide +kernel
theorem dX11_holds_119 : decode cX11_holds 119 = .ok (.iconst 4, 1) := by decide +kernel
theorem dX11_holds_120 : decode cX11_holds 120 = .ok (.iaload, 1) := by decide +kernel
theorem dX11_holds_121 : decode cX11_holds 121 = .ok (.bipush 7, 2) := by decide +kernel
theorem dX11_holds_123 : decode cX11_holds 123 = .ok (.if_icmp .gt 7, 3) := by decide +kernel
theorem dX11_holds_126 : decode cX11_holds 126 = .ok (.iconst 1, 1) := by decide +kernel
theorem dX11_holds_127 : decode cX11_holds 127 = .ok (.goto 4, 3) := by decide +kernel
theorem dX11_holds_130 : decode cX11_holds 130 = .ok (.iconst 0, 1) := by decide +kernel
theorem dX11_holds_131 : decode cX11_holds 131 = .ok (.ireturn, 1) := by decide +kernel
theorem dX11_holds_132 : decode cX11_holds 132 = .ok (.aload_n 3, 1) := by decide +kernel
theorem dX11_holds_133 : decode cX11_holds 133 = .ok (.iconst 4, 1) := by decide +kernel
theorem dX11_holds_134 : decode cX11_holds 134 = .ok (.iaload, 1) := by decide +kernel
theorem dX11_holds_135 : decode cX11_holds 135 = .ok (.iload_n 2, 1) := by decide +kernel
theorem dX11_holds_136 : decode cX11_holds 136 = .ok (.bipush 9, 2) := by decide +kernel
theorem dX11_holds_138 : decode cX11_holds 138 = .ok (.idiv, 1) := by decide +kernel
theorem dX11_holds_139 : decode cX11_holds 139 = .ok (.if_icmp .lt 7, 3) := by decide +kernel
theorem dX11_holds_142 : decode cX11_holds 142 = .ok (.iconst 1, 1) := by decide +kernel
theorem dX11_holds_143 : decode cX11_holds 143 = .ok (.goto 4, 3) := by decide +kernel
theorem dX11_holds_146 : decode cX11_holds 146 = .ok (.iconst 0, 1) := by decide +kernel
theorem dX11_holds_147 : decode cX11_holds 147 = .ok (.ireturn, 1) := by decide +kernel
theorem dX11_holds_148 : decode cX11_holds 148 = .ok (.aload_n 3, 1) := by decide +kernel
theorem dX11_holds_149 : decode cX11_holds 149 = .ok (.iconst 1, 1) := by decide +kernel
theorem dX11_holds_150 : decode cX11_holds 150 = .ok (.iaload, 1) := by decide +kernel
theorem dX11_holds_151 : decode cX11_holds 151 = .ok (.iload 5, 2) := by decide +kernel
theorem dX11_holds_153 : decode cX11_holds 153 = .ok (.if_icmp .eq 11, 3) := by decide +kernel
theorem dX11_holds_156 : decode cX11_holds 156 = .ok (.aload 4, 2) := by decide +kernel
theorem dX11_holds_158 : decode cX11_holds 158 = .ok (.iconst 3, 1) := by decide +kernel
theorem dX11_holds_159 : decode cX11_holds 159 = .ok (.iaload, 1) := by decide +kernel
theorem dX11_holds_160 : decode cX11_holds 160 = .ok (.iload_n 2, 1) := by decide +kernel
theorem dX11_holds_161 : decode cX11_holds 161 = .ok (.if_icmp .ge 7, 3) := by decide +kernel
theorem dX11_holds_164 : decode cX11_holds 164 = .ok (.iconst 1, 1) := by decide +kernel
theorem dX11_holds_165 : decode cX11_holds 165 = .ok (.goto 4, 3) := by decide +kernel
theorem dX11_holds_168 : decode cX11_holds 168 = .ok (.iconst 0, 1) := by decide +kernel
theorem dX11_holds_169 : decode cX11_holds 169 = .ok (.ireturn, 1) := by decide +kernel
theorem dX11_holds_170 : decode cX11_holds 170 = .ok (.aload_n 3, 1) := by decide +kernel
theorem dX11_holds_171 : decode cX11_holds 171 = .ok (.iconst 2, 1) := by decide +kernel
theorem dX11_holds_172 : decode cX11_holds 172 = .ok (.iaload, 1) := by decide +kernel
theorem dX11_holds_173 : decode cX11_holds 173 = .ok (.iload_n 2, 1) := by decide +kernel
theorem dX11_holds_174 : decode cX11_holds 174 = .ok (.iconst 5, 1) := by decide +kernel
theorem dX11_holds_175 : decode cX11_holds 175 = .ok (.idiv, 1) := by decide +kernel
theorem dX11_holds_176 : decode cX11_holds 176 = .ok (.if_icmp .gt 14, 3) := by decide +kernel
theorem dX11_holds_179 : decode cX11_holds 179 = .ok (.aload_n 0, 1) := by decide +kernel
theorem dX11_holds_180 : decode cX11_holds 180 = .ok (.getfield 7, 3) := by decide +kernel
theorem dX11_holds_183 : decode cX11_holds 183 = .ok (.iload_n 2, 1) := by decide +kernel
theorem dX11_holds_184 : decode cX11_holds 184 = .ok (.bipush 20, 2) := by decide +kernel
theorem dX11_holds_186 : decode cX11_holds 186 = .ok (.idiv, 1) := by decide +kernel
theorem dX11_holds_187 : decode cX11_holds 187 = .ok (.if_icmp .gt 13, 3) := by decide +kernel
theorem dX11_holds_190 : decode cX11_holds 190 = .ok (.aload_n 0, 1) := by decide +kernel
theorem dX11_holds_191 : decode cX11_holds 191 = .ok (.getfield 31, 3) := by decide +kernel
theorem dX11_holds_194 : decode cX11_holds 194 = .ok (.iload_n 2, 1) := by decide +kernel
theorem dX11_holds_195 : decode cX11_holds 195 = .ok (.iconst 3, 1) := by decide +kernel
theorem dX11_holds_196 : decode cX11_holds 196 = .ok (.idiv, 1) := by decide +kernel
theorem dX11_holds_197 : decode cX11_holds 197 = .ok (.if_icmp .eq 7, 3) := by decide +kernel
theorem dX11_holds_200 : decode cX11_holds 200 = .ok (.iconst 1, 1) := by decide +kernel
theorem dX11_holds_201 : decode cX11_holds 201 = .ok (.goto 4, 3) := by decide +kernel
theorem dX11_holds_204 : decode cX11_holds 204 = .ok (.iconst 0, 1) := by decide +kernel
theorem dX11_holds_205 : decode cX11_holds 205 = .ok (.ireturn, 1) := by decide +kernel
theorem dX11_holds_206 : decode cX11_holds 206 = .ok (.iconst 2, 1) := by decide +kernel
theorem dX11_holds_207 : decode cX11_holds 207 = .ok (.aload_n 0, 1) := by decide +kernel
theorem dX11_holds_208 : decode cX11_holds 208 = .ok (.getfield 34, 3) := by decide +kernel
theorem dX11_holds_211 : decode cX11_holds 211 = .ok (.iload_n 2, 1) := by decide +kernel
theorem dX11_holds_212 : decode cX11_holds 212 = .ok (.invokestatic 37, 3) := by decide +kernel
theorem dX11_holds_215 : decode cX11_holds 215 = .ok (.imul, 1) := by decide +kernel
theorem dX11_holds_216 : decode cX11_holds 216 = .ok (.aload_n 0, 1) := by decide +kernel
theorem dX11_holds_217 : decode cX11_holds 217 = .ok (.getfield 31, 3) := by decide +kernel
theorem dX11_holds_220 : decode cX11_holds 220 = .ok (.isub, 1) := by decide +kernel
theorem dX11_holds_221 : decode cX11_holds 221 = .ok (.iload_n 2, 1) := by decide +kernel
theorem dX11_holds_222 : decode cX11_holds 222 = .ok (.if_icmp .ge 7, 3) := by decide +kernel
theorem dX11_holds_225 : decode cX11_holds 225 = .ok (.iconst 1, 1) := by decide +kernel
theorem dX11_holds_226 : decode cX11_holds 226 = .ok (.goto 4, 3) := by decide +kernel
theorem dX11_holds_229 : decode cX11_holds 229 = .ok (.iconst 0, 1) := by decide +kernel
theorem dX11_holds_230 : decode cX11_holds 230 = .ok (.ireturn, 1) := by decide +kernel
theorem dX11_holds_231 : decode cX11_holds 231 = .ok (.iload_n 2, 1) := by decide +kernel
theorem dX11_holds_232 : decode cX11_holds 232 = .ok (.iconst 2, 1) := by decide +kernel
theorem dX11_holds_233 : decode cX11_holds 233 = .ok (.irem, 1) := by decide +kernel
theorem dX11_holds_234 : decode cX11_holds 234 = .ok (.ifCond .ne 7, 3) := by decide +kernel
theorem dX11_holds_237 : decode cX11_holds 237 = .ok (.iconst 1, 1) := by decide +kernel
theorem dX11_holds_238 : decode cX11_holds 238 = .ok (.goto 4, 3) := by decide +kernel
theorem dX11_holds_241 : decode cX11_holds 241 = .ok (.iconst 0, 1) := by decide +kernel
theorem dX11_holds_242 : decode cX11_holds 242 = .ok (.ireturn, 1) := by decide +kernel
theorem dX11_holds_243 : decode cX11_holds 243 = .ok (.aload_n 3, 1) := by decide +kernel
theorem dX11_holds_244 : decode cX11_holds 244 = .ok (.iconst 3, 1) := by decide +kernel
theorem dX11_holds_245 : decode cX11_holds 245 = .ok (.iaload, 1) := by decide +kernel
theorem dX11_holds_246 : decode cX11_holds 246 = .ok (.aload 4, 2) := by decide +kernel
theorem dX11_holds_248 : decode cX11_holds 248 = .ok (.iconst 4, 1) := by decide +kernel
theorem dX11_holds_249 : decode cX11_holds 249 = .ok (.iaload, 1) := by decide +kernel
theorem dX11_holds_250 : decode cX11_holds 250 = .ok (.ineg, 1) := by decide +kernel
theorem dX11_holds_251 : decode cX11_holds 251 = .ok (.invokestatic 43, 3) := by decide +kernel
theorem dX11_holds_254 : decode cX11_holds 254 = .ok (.iload_n 2, 1) := by decide +kernel
theorem dX11_holds_255 : decode cX11_holds 255 = .ok (.bipush 6, 2) := by decide +kernel
theorem dX11_holds_257 : decode cX11_holds 257 = .ok (.idiv, 1) := by decide +kernel
theorem dX11_holds_258 : decode cX11_holds 258 = .ok (.if_icmp .le 7, 3) := by decide +kernel
theorem dX11_holds_261 : decode cX11_holds 261 = .ok (.iconst 1, 1) := by decide +kernel
theorem dX11_holds_262 : decode cX11_holds 262 = .ok (.goto 4, 3) := by decide +kernel
theorem dX11_holds_265 : decode cX11_holds 265 = .ok (.iconst 0, 1) := by decide +kernel
theorem dX11_holds_266 : decode cX11_holds 266 = .ok (.ireturn, 1) := by decide +kernel
set_option maxHeartbeats 4000000 in
set_option maxRecDepth 100000 in
/-- Sim.holds -/
theorem c_X11_holds (l9 : Launch) (z : Nat → Nat) (D : va_G) (g : Nat → ClassId) (sm : Nat) (ob : Nat → Nat) (ad : Nat → Nat → Nat) (tn : Nat → Nat) (tr : Nat → Nat → Int32) (od : Nat → Nat → Nat) (c : CS) (dd : Nat) (m : Nat) (k : Nat) (hO : SOKs tn tr od) (hC : CIn tn c dd m) (hk : k < tn 4) (sz : Nat) : Met l9 yX11_holds (WS yX11_holds cX11_holds 6 (some .boolean)) ({ frames := 1, cells := 0, slots := 0, locals := 16 }) (va_Pc [.ref sm, .ref (ad 4 k)] (kPre z D g (([(sm, .inr (9, [.int c.1.1, .int c.1.2.1, .int c.1.2.2.1, .int c.2.1, .ref (ob 0), .ref (ob 1), .ref (ob 2), .ref (ob 3), .ref (ob 4)])), (ob 0, .inl (g 4, tn 0, .inr (.inr (.inr (.inr (bld (ad 0) (tn 0))))))), (ob 2, .inl (g 4, tn 2, .inr (.inr (.inr (.inr (bld (ad 2) (tn 2)))))))] : va_W) ++ simW (g 0) ad tn (simM tr od c)) sz)) (va_Qi (fun (r9 : Int32) (u9 : Unit) => r9 = bI (sHold tn (od k) c.1)) (kB D g (va_A (([(sm, .inr (9, [.int c.1.1, .int c.1.2.1, .int c.1.2.2.1, .int c.2.1, .ref (ob 0), .ref (ob 1), .ref (ob 2), .ref (ob 3), .ref (ob 4)])), (ob 0, .inl (g 4, tn 0, .inr (.inr (.inr (.inr (bld (ad 0) (tn 0))))))), (ob 2, .inl (g 4, tn 2, .inr (.inr (.inr (.inr (bld (ad 2) (tn 2)))))))] : va_W) ++ simW (g 0) ad tn (simM tr od c)) sz) (fun (u9 : Unit) => (([(sm, .inr (9, [.int c.1.1, .int c.1.2.1, .int c.1.2.2.1, .int c.2.1, .ref (ob 0), .ref (ob 1), .ref (ob 2), .ref (ob 3), .ref (ob 4)])), (ob 0, .inl (g 4, tn 0, .inr (.inr (.inr (.inr (bld (ad 0) (tn 0))))))), (ob 2, .inl (g 4, tn 2, .inr (.inr (.inr (.inr (bld (ad 2) (tn 2)))))))] : va_W) ++ simW (g 0) ad tn (simM tr od c)))) (va_A (([(sm, .inr (9, [.int c.1.1, .int c.1.2.1, .int c.1.2.2.1, .int c.2.1, .ref (ob 0), .ref (ob 1), .ref (ob 2), .ref (ob 3), .ref (ob 4)])), (ob 0, .inl (g 4, tn 0, .inr (.inr (.inr (.inr (bld (ad 0) (tn 0))))))), (ob 2, .inl (g 4, tn 2, .inr (.inr (.inr (.inr (bld (ad 2) (tn 2)))))))] : va_W) ++ simW (g 0) ad tn (simM tr od c)) sz)) 0 0 (va_A (([(sm, .inr (9, [.int c.1.1, .int c.1.2.1, .int c.1.2.2.1, .int c.2.1, .ref (ob 0), .ref (ob 1), .ref (ob 2), .ref (ob 3), .ref (ob 4)])), (ob 0, .inl (g 4, tn 0, .inr (.inr (.inr (.inr (bld (ad 0) (tn 0))))))), (ob 2, .inl (g 4, tn 2, .inr (.inr (.inr (.inr (bld (ad 2) (tn 2)))))))] : va_W) ++ simW (g 0) ad tn (simM tr od c)) sz) := by
  refine Met.ofW (cc := cX11_holds) (maxL := 6) (ret := (some .boolean)) (by decide) rfl ?_
  intro p9 e9 s9 m9 args9 below9 meth9 c9 s₁ B hml hv
  obtain ⟨rfl, hsz, hP, hK, hD0, hZ⟩ := hv
  have hx := B.exec
  have hb := B.bytes
  have hr := B.returns
  have hts := ws_sub (atoms_spec (ws := WS yX11_holds cX11_holds 6 (some .boolean)) B.pre)
  have hown : s9.vm.findClass RX11 = some m9.cls := findClass_of_methodNamed B.named
  have hlocks := B.notSynchronized
  subst hsz
  have hD := hD0.self (sz := s9.heap.size)
  generalize hAe : va_A (([(sm, .inr (9, [.int c.1.1, .int c.1.2.1, .int c.1.2.2.1, .int c.2.1, .ref (ob 0), .ref (ob 1), .ref (ob 2), .ref (ob 3), .ref (ob 4)])), (ob 0, .inl (g 4, tn 0, .inr (.inr (.inr (.inr (bld (ad 0) (tn 0))))))), (ob 2, .inl (g 4, tn 2, .inr (.inr (.inr (.inr (bld (ad 2) (tn 2)))))))] : va_W) ++ simW (g 0) ad tn (simM tr od c)) s9.heap.size = A at hD hZ ⊢
  have hA : ∀ q : Nat, s9.heap.size ≤ q → A q := fun q h => by rw [← hAe]; exact Or.inr h
  have hS : va_S A s9.heap s9.heap [] := va_S.rf
  have hP : va_P D CLS (([(sm, .inr (9, [.int c.1.1, .int c.1.2.1, .int c.1.2.2.1, .int c.2.1, .ref (ob 0), .ref (ob 1), .ref (ob 2), .ref (ob 3), .ref (ob 4)])), (ob 0, .inl (g 4, tn 0, .inr (.inr (.inr (.inr (bld (ad 0) (tn 0))))))), (ob 2, .inl (g 4, tn 2, .inr (.inr (.inr (.inr (bld (ad 2) (tn 2)))))))] : va_W) ++ simW (g 0) ad tn (simM tr od c)) s9.heap := hP
  have hl := lv_entry ([.ref sm, .ref (ad 4 k)]) (n := 6) (Nat.le_of_ble_eq_true rfl)
  rw [lg_entry_eq]
  generalize (lg_sl ([.ref sm, .ref (ad 4 k)]) ++ List.replicate (6 - (lg_sl ([.ref sm, .ref (ad 4 k)])).length) Slot.unset).toArray = ls at hl ⊢
  have hl : lv_has ls 6 [(0, .ref sm), (1, .ref (ad 4 k))] := hl
  change W p9 l9 e9 ({ frames := 1, cells := 0, slots := 0, locals := 16 } : Room) s9 m9 _ below9 meth9 c9 _ _ _ _ _ _
  have hN := hO.1; unfold CntS at hN
  have ho := hO.2.2.2.2.2 k hk
  have ho1 := ho.1
  have ha := Nat.mod_lt (od k 7) (y := tn 2) (by omega)
  have hb9 := Nat.mod_lt (od k 8) (y := tn 2) (by omega)
  refine lv_aload_n hx hb dX11_holds_0 rfl (lv_at hl 1 rfl) ?_
  refine lv_bipush (v := 6) hx hb dX11_holds_1 (by decide) ?_
  refine k_ldS (j := 4) (i := k) (q := 6) (v := nI (od k 6)) hx hb hK hP (by decide) (by omega) (by decide) rfl dX11_holds_3 ?_
  refine lv_istore_n (lv' := [(2, .int (nI (od k 6))), (0, .ref sm), (1, .ref (ad 4 k))]) hx hb dX11_holds_4 rfl hl (by decide) rfl (fun ls hl => ?_)
  refine lv_aload_n hx hb dX11_holds_5 rfl (lv_at hl 1 rfl) ?_
  refine va_get (D := D) (ci := 9) (v := .ref (ob 2)) (C := RX11) (T := TX11) (N := 9) hx hb hts in_X11 hown hK hP 0 rfl rfl 6 (by decide) (hts _ w_1219) (fun _ h9 => h9) rfl dX11_holds_6 ?_
  refine lv_aload_n hx hb dX11_holds_9 rfl (lv_at hl 2 rfl) ?_
  refine lv_bipush (v := 7) hx hb dX11_holds_10 (by decide) ?_
  refine k_ldS (j := 4) (i := k) (q := 7) (v := nI (od k 7)) hx hb hK hP (by decide) (by omega) (by decide) rfl dX11_holds_12 ?_
  refine lv_aload_n hx hb dX11_holds_13 rfl (lv_at hl 1 rfl) ?_
  refine va_get (D := D) (ci := 9) (v := .ref (ob 2)) (C := RX11) (T := TX11) (N := 9) hx hb hts in_X11 hown hK hP 0 rfl rfl 6 (by decide) (hts _ w_1219) (fun _ h9 => h9) rfl dX11_holds_14 ?_
  refine va_alen (v := nI (tn 2)) hx hb hK hP 2 4 rfl rfl rfl dX11_holds_17 ?_
  refine lv_irem hx hb dX11_holds_18 (nI_ne0 (by omega) (by omega)) ?_
  refine k_topi (show ((nI (od k 7)) - (nI (od k 7)) / (nI (tn 2)) * (nI (tn 2))) = (nI (od k 7 % tn 2)) from (pk_rem (by omega) (by omega) (by omega))) ?_
  refine k_aldB (i := od k 7 % tn 2) hx hb hK hP 2 rfl (by omega) (Nat.le_refl _) (by omega) dX11_holds_19 ?_
  refine lv_astore_n (lv' := [(3, .ref (ad 2 (od k 7 % tn 2))), (2, .int (nI (od k 6))), (0, .ref sm), (1, .ref (ad 4 k))]) hx hb dX11_holds_20 rfl hl (by decide) rfl (fun ls hl => ?_)
  refine lv_aload_n hx hb dX11_holds_21 rfl (lv_at hl 2 rfl) ?_
  refine va_get (D := D) (ci := 9) (v := .ref (ob 2)) (C := RX11) (T := TX11) (N := 9) hx hb hts in_X11 hown hK hP 0 rfl rfl 6 (by decide) (hts _ w_1219) (fun _ h9 => h9) rfl dX11_holds_22 ?_
  refine lv_aload_n hx hb dX11_holds_25 rfl (lv_at hl 3 rfl) ?_
  refine lv_bipush (v := 8) hx hb dX11_holds_26 (by decide) ?_
  refine k_ldS (j := 4) (i := k) (q := 8) (v := nI (od k 8)) hx hb hK hP (by decide) (by omega) (by decide) rfl dX11_holds_28 ?_
  refine lv_aload_n hx hb dX11_holds_29 rfl (lv_at hl 2 rfl) ?_
  refine va_get (D := D) (ci := 9) (v := .ref (ob 2)) (C := RX11) (T := TX11) (N := 9) hx hb hts in_X11 hown hK hP 0 rfl rfl 6 (by decide) (hts _ w_1219) (fun _ h9 => h9) rfl dX11_holds_30 ?_
  refine va_alen (v := nI (tn 2)) hx hb hK hP 2 4 rfl rfl rfl dX11_holds_33 ?_
  refine lv_irem hx hb dX11_holds_34 (nI_ne0 (by omega) (by omega)) ?_
  refine k_topi (show ((nI (od k 8)) - (nI (od k 8)) / (nI (tn 2)) * (nI (tn 2))) = (nI (od k 8 % tn 2)) from (pk_rem (by omega) (by omega) (by omega))) ?_
  refine k_aldB (i := od k 8 % tn 2) hx hb hK hP 2 rfl (by omega) (Nat.le_refl _) (by omega) dX11_holds_35 ?_
  refine lv_astore (lv' := [(4, .ref (ad 2 (od k 8 % tn 2))), (3, .ref (ad 2 (od k 7 % tn 2))), (2, .int (nI (od k 6))), (0, .ref sm), (1, .ref (ad 4 k))]) hx hb dX11_holds_36 hl (by decide) rfl (fun ls hl => ?_)
  refine lv_aload_n hx hb dX11_holds_38 rfl (lv_at hl 4 rfl) ?_
  refine lv_bipush (v := 9) hx hb dX11_holds_39 (by decide) ?_
  refine k_ldS (j := 4) (i := k) (q := 9) (v := nI (od k 9)) hx hb hK hP (by decide) (by omega) (by decide) rfl dX11_holds_41 ?_
  refine lv_aload_n hx hb dX11_holds_42 rfl (lv_at hl 3 rfl) ?_
  refine va_get (D := D) (ci := 9) (v := .ref (ob 0)) (C := RX11) (T := TX11) (N := 9) hx hb hts in_X11 hown hK hP 0 rfl rfl 4 (by decide) (hts _ w_1215) (fun _ h9 => h9) rfl dX11_holds_43 ?_
  refine va_alen (v := nI (tn 0)) hx hb hK hP 1 4 rfl rfl rfl dX11_holds_46 ?_
  refine lv_irem hx hb dX11_holds_47 (nI_ne0 (by omega) (by omega)) ?_
  refine k_topi (show ((nI (od k 9)) - (nI (od k 9)) / (nI (tn 0)) * (nI (tn 0))) = (nI (od k 9 % tn 0)) from (pk_rem (by omega) (by omega) (by omega))) ?_
  refine lv_istore (lv' := [(5, .int (nI (od k 9 % tn 0))), (4, .ref (ad 2 (od k 8 % tn 2))), (3, .ref (ad 2 (od k 7 % tn 2))), (2, .int (nI (od k 6))), (0, .ref sm), (1, .ref (ad 4 k))]) hx hb dX11_holds_48 hl (by decide) rfl (fun ls hl => ?_)
  refine lv_aload_n hx hb dX11_holds_50 rfl (lv_at hl 5 rfl) ?_
  refine lv_iconst (v := 5) hx hb dX11_holds_51 (by decide) ?_
  refine k_ldS (j := 4) (i := k) (q := 5) (v := nI (od k 5) + (-1)) hx hb hK hP (by decide) (by omega) (by decide) rfl dX11_holds_52 ?_
  by_cases c_53_m1 : nI (od k 5) + (-1) = -1
  · skip
    refine lv_tableIn (off := 47) (tgt := 100) hx hb dX11_holds_53 (by rw [c_53_m1]; decide) (by rw [c_53_m1]; decide) (by rw [c_53_m1]; rfl) (by decide) ?_
    have h5 : od k 5 = 0 := dn_m (by omega) c_53_m1
    refine lv_iconst (v := 1) hx hb dX11_holds_100 (by decide) ?_
    have hr9 : 1 = (bI (sHold tn (od k) c.1)) := by rw [sH_0 h5]; first | rfl
    have hP9 : va_P D CLS (([(sm, .inr (9, [.int c.1.1, .int c.1.2.1, .int c.1.2.2.1, .int c.2.1, .ref (ob 0), .ref (ob 1), .ref (ob 2), .ref (ob 3), .ref (ob 4)])), (ob 0, .inl (g 4, tn 0, .inr (.inr (.inr (.inr (bld (ad 0) (tn 0))))))), (ob 2, .inl (g 4, tn 2, .inr (.inr (.inr (.inr (bld (ad 2) (tn 2)))))))] : va_W) ++ simW (g 0) ad tn (simM tr od c)) s9.heap := by exact va_P.part hP [0, 1, 2] rfl
    have hD9 : va_D A (([(sm, .inr (9, [.int c.1.1, .int c.1.2.1, .int c.1.2.2.1, .int c.2.1, .ref (ob 0), .ref (ob 1), .ref (ob 2), .ref (ob 3), .ref (ob 4)])), (ob 0, .inl (g 4, tn 0, .inr (.inr (.inr (.inr (bld (ad 0) (tn 0))))))), (ob 2, .inl (g 4, tn 2, .inr (.inr (.inr (.inr (bld (ad 2) (tn 2)))))))] : va_W) ++ simW (g 0) ad tn (simM tr od c)) := by exact hD.part [0, 1, 2] (by decide +kernel) rfl
    exact W.zret (v := 1) hx hb hr (by first | exact k_nb0 | exact k_nb1 | exact k_nbI _ | simp) (fun t9 ht9 hW9 => ⟨⟨1, (), rfl, hr9, by rw [ht9]; exact hP9, va_K.moved hW9.alike hK, hD9⟩, hS.F ht9⟩) hS.2.2 dX11_holds_101
  · skip
    by_cases c_53_0 : nI (od k 5) + (-1) = 0
    · skip
      refine lv_tableIn (off := 49) (tgt := 102) hx hb dX11_holds_53 (by rw [c_53_0]; decide) (by rw [c_53_0]; decide) (by rw [c_53_0]; rfl) (by decide) ?_
      have h5 : od k 5 = 1 := dn_p 0 rfl (by omega) (by decide) c_53_0
      refine lv_aload_n hx hb dX11_holds_102 rfl (lv_at hl 4 rfl) ?_
      refine va_get (D := D) (ci := 9) (v := .int c.1.1) (C := RX11) (T := TX11) (N := 9) hx hb hts in_X11 hown hK hP 0 rfl rfl 0 (by decide) (hts _ w_1208) (fun _ h9 => h9) rfl dX11_holds_103 ?_
      refine lv_iload_n hx hb dX11_holds_106 rfl (lv_at hl 3 rfl) ?_
      refine lv_iconst (v := 4) hx hb dX11_holds_107 (by decide) ?_
      refine lv_idiv hx hb dX11_holds_108 (by decide) ?_
      refine lv_icmp_le (tgt := 116) hx hb dX11_holds_109 (by decide) (fun c_109 => ?_) (fun c_109 => ?_)
      · skip
        refine lv_iconst (v := 0) hx hb dX11_holds_116 (by decide) ?_
        have hr9 : 0 = (bI (sHold tn (od k) c.1)) := by rw [sH_1 h5]; first | exact bIt (dt (Int32.not_le.mp c_109)) | exact bIf (df (Int32.not_lt.mpr c_109))
        have hP9 : va_P D CLS (([(sm, .inr (9, [.int c.1.1, .int c.1.2.1, .int c.1.2.2.1, .int c.2.1, .ref (ob 0), .ref (ob 1), .ref (ob 2), .ref (ob 3), .ref (ob 4)])), (ob 0, .inl (g 4, tn 0, .inr (.inr (.inr (.inr (bld (ad 0) (tn 0))))))), (ob 2, .inl (g 4, tn 2, .inr (.inr (.inr (.inr (bld (ad 2) (tn 2)))))))] : va_W) ++ simW (g 0) ad tn (simM tr od c)) s9.heap := by exact va_P.part hP [0, 1, 2] rfl
        have hD9 : va_D A (([(sm, .inr (9, [.int c.1.1, .int c.1.2.1, .int c.1.2.2.1, .int c.2.1, .ref (ob 0), .ref (ob 1), .ref (ob 2), .ref (ob 3), .ref (ob 4)])), (ob 0, .inl (g 4, tn 0, .inr (.inr (.inr (.inr (bld (ad 0) (tn 0))))))), (ob 2, .inl (g 4, tn 2, .inr (.inr (.inr (.inr (bld (ad 2) (tn 2)))))))] : va_W) ++ simW (g 0) ad tn (simM tr od c)) := by exact hD.part [0, 1, 2] (by decide +kernel) rfl
        exact W.zret (v := 0) hx hb hr (by first | exact k_nb0 | exact k_nb1 | exact k_nbI _ | simp) (fun t9 ht9 hW9 => ⟨⟨0, (), rfl, hr9, by rw [ht9]; exact hP9, va_K.moved hW9.alike hK, hD9⟩, hS.F ht9⟩) hS.2.2 dX11_holds_117
      · skip
        refine lv_iconst (v := 1) hx hb dX11_holds_112 (by decide) ?_
        refine lv_goto (tgt := 117) hx hb dX11_holds_113 (by decide) ?_
        have hr9 : 1 = (bI (sHold tn (od k) c.1)) := by rw [sH_1 h5]; first | exact bIt (dt (Int32.not_le.mp c_109)) | exact bIf (df (Int32.not_lt.mpr c_109))
        have hP9 : va_P D CLS (([(sm, .inr (9, [.int c.1.1, .int c.1.2.1, .int c.1.2.2.1, .int c.2.1, .ref (ob 0), .ref (ob 1), .ref (ob 2), .ref (ob 3), .ref (ob 4)])), (ob 0, .inl (g 4, tn 0, .inr (.inr (.inr (.inr (bld (ad 0) (tn 0))))))), (ob 2, .inl (g 4, tn 2, .inr (.inr (.inr (.inr (bld (ad 2) (tn 2)))))))] : va_W) ++ simW (g 0) ad tn (simM tr od c)) s9.heap := by exact va_P.part hP [0, 1, 2] rfl
        have hD9 : va_D A (([(sm, .inr (9, [.int c.1.1, .int c.1.2.1, .int c.1.2.2.1, .int c.2.1, .ref (ob 0), .ref (ob 1), .ref (ob 2), .ref (ob 3), .ref (ob 4)])), (ob 0, .inl (g 4, tn 0, .inr (.inr (.inr (.inr (bld (ad 0) (tn 0))))))), (ob 2, .inl (g 4, tn 2, .inr (.inr (.inr (.inr (bld (ad 2) (tn 2)))))))] : va_W) ++ simW (g 0) ad tn (simM tr od c)) := by exact hD.part [0, 1, 2] (by decide +kernel) rfl
        exact W.zret (v := 1) hx hb hr (by first | exact k_nb0 | exact k_nb1 | exact k_nbI _ | simp) (fun t9 ht9 hW9 => ⟨⟨1, (), rfl, hr9, by rw [ht9]; exact hP9, va_K.moved hW9.alike hK, hD9⟩, hS.F ht9⟩) hS.2.2 dX11_holds_117
    · skip
      by_cases c_53_1 : nI (od k 5) + (-1) = 1
      · skip
        refine lv_tableIn (off := 65) (tgt := 118) hx hb dX11_holds_53 (by rw [c_53_1]; decide) (by rw [c_53_1]; decide) (by rw [c_53_1]; rfl) (by decide) ?_
        have h5 : od k 5 = 2 := dn_p 1 rfl (by omega) (by decide) c_53_1
        refine lv_aload_n hx hb dX11_holds_118 rfl (lv_at hl 2 rfl) ?_
        refine lv_iconst (v := 4) hx hb dX11_holds_119 (by decide) ?_
        refine k_ldS (j := 2) (i := (od k 7 % tn 2)) (q := 4) (v := c.1.2.2.2.2.2.2 (od k 7 % tn 2)) hx hb hK hP (by decide) (by omega) (by decide) rfl dX11_holds_120 ?_
        refine lv_bipush (v := 7) hx hb dX11_holds_121 (by decide) ?_
        refine lv_icmp_gt (tgt := 130) hx hb dX11_holds_123 (by decide) (fun c_123 => ?_) (fun c_123 => ?_)
        · skip
          refine lv_iconst (v := 0) hx hb dX11_holds_130 (by decide) ?_
          have hr9 : 0 = (bI (sHold tn (od k) c.1)) := by rw [sH_2 h5]; first | exact bIt (dt (Int32.not_lt.mp c_123)) | exact bIf (df (Int32.not_le.mpr c_123))
          have hP9 : va_P D CLS (([(sm, .inr (9, [.int c.1.1, .int c.1.2.1, .int c.1.2.2.1, .int c.2.1, .ref (ob 0), .ref (ob 1), .ref (ob 2), .ref (ob 3), .ref (ob 4)])), (ob 0, .inl (g 4, tn 0, .inr (.inr (.inr (.inr (bld (ad 0) (tn 0))))))), (ob 2, .inl (g 4, tn 2, .inr (.inr (.inr (.inr (bld (ad 2) (tn 2)))))))] : va_W) ++ simW (g 0) ad tn (simM tr od c)) s9.heap := by exact va_P.part hP [0, 1, 2] rfl
          have hD9 : va_D A (([(sm, .inr (9, [.int c.1.1, .int c.1.2.1, .int c.1.2.2.1, .int c.2.1, .ref (ob 0), .ref (ob 1), .ref (ob 2), .ref (ob 3), .ref (ob 4)])), (ob 0, .inl (g 4, tn 0, .inr (.inr (.inr (.inr (bld (ad 0) (tn 0))))))), (ob 2, .inl (g 4, tn 2, .inr (.inr (.inr (.inr (bld (ad 2) (tn 2)))))))] : va_W) ++ simW (g 0) ad tn (simM tr od c)) := by exact hD.part [0, 1, 2] (by decide +kernel) rfl
          exact W.zret (v := 0) hx hb hr (by first | exact k_nb0 | exact k_nb1 | exact k_nbI _ | simp) (fun t9 ht9 hW9 => ⟨⟨0, (), rfl, hr9, by rw [ht9]; exact hP9, va_K.moved hW9.alike hK, hD9⟩, hS.F ht9⟩) hS.2.2 dX11_holds_131
        · skip
          refine lv_iconst (v := 1) hx hb dX11_holds_126 (by decide) ?_
          refine lv_goto (tgt := 131) hx hb dX11_holds_127 (by decide) ?_
          have hr9 : 1 = (bI (sHold tn (od k) c.1)) := by rw [sH_2 h5]; first | exact bIt (dt (Int32.not_lt.mp c_123)) | exact bIf (df (Int32.not_le.mpr c_123))
          have hP9 : va_P D CLS (([(sm, .inr (9, [.int c.1.1, .int c.1.2.1, .int c.1.2.2.1, .int c.2.1, .ref (ob 0), .ref (ob 1), .ref (ob 2), .ref (ob 3), .ref (ob 4)])), (ob 0, .inl (g 4, tn 0, .inr (.inr (.inr (.inr (bld (ad 0) (tn 0))))))), (ob 2, .inl (g 4, tn 2, .inr (.inr (.inr (.inr (bld (ad 2) (tn 2)))))))] : va_W) ++ simW (g 0) ad tn (simM tr od c)) s9.heap := by exact va_P.part hP [0, 1, 2] rfl
          have hD9 : va_D A (([(sm, .inr (9, [.int c.1.1, .int c.1.2.1, .int c.1.2.2.1, .int c.2.1, .ref (ob 0), .ref (ob 1), .ref (ob 2), .ref (ob 3), .ref (ob 4)])), (ob 0, .inl (g 4, tn 0, .inr (.inr (.inr (.inr (bld (ad 0) (tn 0))))))), (ob 2, .inl (g 4, tn 2, .inr (.inr (.inr (.inr (bld (ad 2) (tn 2)))))))] : va_W) ++ simW (g 0) ad tn (simM tr od c)) := by exact hD.part [0, 1, 2] (by decide +kernel) rfl
          exact W.zret (v := 1) hx hb hr (by first | exact k_nb0 | exact k_nb1 | exact k_nbI _ | simp) (fun t9 ht9 hW9 => ⟨⟨1, (), rfl, hr9, by rw [ht9]; exact hP9, va_K.moved hW9.alike hK, hD9⟩, hS.F ht9⟩) hS.2.2 dX11_holds_131
      · skip
        by_cases c_53_2 : nI (od k 5) + (-1) = 2
        · skip
          refine lv_tableIn (off := 79) (tgt := 132) hx hb dX11_holds_53 (by rw [c_53_2]; decide) (by rw [c_53_2]; decide) (by rw [c_53_2]; rfl) (by decide) ?_
          have h5 : od k 5 = 3 := dn_p 2 rfl (by omega) (by decide) c_53_2
          refine lv_aload_n hx hb dX11_holds_132 rfl (lv_at hl 2 rfl) ?_
          refine lv_iconst (v := 4) hx hb dX11_holds_133 (by decide) ?_
          refine k_ldS (j := 2) (i := (od k 7 % tn 2)) (q := 4) (v := c.1.2.2.2.2.2.2 (od k 7 % tn 2)) hx hb hK hP (by decide) (by omega) (by decide) rfl dX11_holds_134 ?_
          refine lv_iload_n hx hb dX11_holds_135 rfl (lv_at hl 3 rfl) ?_
          refine lv_bipush (v := 9) hx hb dX11_holds_136 (by decide) ?_
          refine lv_idiv hx hb dX11_holds_138 (by decide) ?_
          refine lv_icmp_lt (tgt := 146) hx hb dX11_holds_139 (by decide) (fun c_139 => ?_) (fun c_139 => ?_)
          · skip
            refine lv_iconst (v := 0) hx hb dX11_holds_146 (by decide) ?_
            have hr9 : 0 = (bI (sHold tn (od k) c.1)) := by rw [sH_3 h5]; first | exact bIt (dt (Int32.not_lt.mp c_139)) | exact bIf (df (Int32.not_le.mpr c_139))
            have hP9 : va_P D CLS (([(sm, .inr (9, [.int c.1.1, .int c.1.2.1, .int c.1.2.2.1, .int c.2.1, .ref (ob 0), .ref (ob 1), .ref (ob 2), .ref (ob 3), .ref (ob 4)])), (ob 0, .inl (g 4, tn 0, .inr (.inr (.inr (.inr (bld (ad 0) (tn 0))))))), (ob 2, .inl (g 4, tn 2, .inr (.inr (.inr (.inr (bld (ad 2) (tn 2)))))))] : va_W) ++ simW (g 0) ad tn (simM tr od c)) s9.heap := by exact va_P.part hP [0, 1, 2] rfl
            have hD9 : va_D A (([(sm, .inr (9, [.int c.1.1, .int c.1.2.1, .int c.1.2.2.1, .int c.2.1, .ref (ob 0), .ref (ob 1), .ref (ob 2), .ref (ob 3), .ref (ob 4)])), (ob 0, .inl (g 4, tn 0, .inr (.inr (.inr (.inr (bld (ad 0) (tn 0))))))), (ob 2, .inl (g 4, tn 2, .inr (.inr (.inr (.inr (bld (ad 2) (tn 2)))))))] : va_W) ++ simW (g 0) ad tn (simM tr od c)) := by exact hD.part [0, 1, 2] (by decide +kernel) rfl
            exact W.zret (v := 0) hx hb hr (by first | exact k_nb0 | exact k_nb1 | exact k_nbI _ | simp) (fun t9 ht9 hW9 => ⟨⟨0, (), rfl, hr9, by rw [ht9]; exact hP9, va_K.moved hW9.alike hK, hD9⟩, hS.F ht9⟩) hS.2.2 dX11_holds_147
          · skip
            refine lv_iconst (v := 1) hx hb dX11_holds_142 (by decide) ?_
            refine lv_goto (tgt := 147) hx hb dX11_holds_143 (by decide) ?_
            have hr9 : 1 = (bI (sHold tn (od k) c.1)) := by rw [sH_3 h5]; first | exact bIt (dt (Int32.not_lt.mp c_139)) | exact bIf (df (Int32.not_le.mpr c_139))
            have hP9 : va_P D CLS (([(sm, .inr (9, [.int c.1.1, .int c.1.2.1, .int c.1.2.2.1, .int c.2.1, .ref (ob 0), .ref (ob 1), .ref (ob 2), .ref (ob 3), .ref (ob 4)])), (ob 0, .inl (g 4, tn 0, .inr (.inr (.inr (.inr (bld (ad 0) (tn 0))))))), (ob 2, .inl (g 4, tn 2, .inr (.inr (.inr (.inr (bld (ad 2) (tn 2)))))))] : va_W) ++ simW (g 0) ad tn (simM tr od c)) s9.heap := by exact va_P.part hP [0, 1, 2] rfl
            have hD9 : va_D A (([(sm, .inr (9, [.int c.1.1, .int c.1.2.1, .int c.1.2.2.1, .int c.2.1, .ref (ob 0), .ref (ob 1), .ref (ob 2), .ref (ob 3), .ref (ob 4)])), (ob 0, .inl (g 4, tn 0, .inr (.inr (.inr (.inr (bld (ad 0) (tn 0))))))), (ob 2, .inl (g 4, tn 2, .inr (.inr (.inr (.inr (bld (ad 2) (tn 2)))))))] : va_W) ++ simW (g 0) ad tn (simM tr od c)) := by exact hD.part [0, 1, 2] (by decide +kernel) rfl
            exact W.zret (v := 1) hx hb hr (by first | exact k_nb0 | exact k_nb1 | exact k_nbI _ | simp) (fun t9 ht9 hW9 => ⟨⟨1, (), rfl, hr9, by rw [ht9]; exact hP9, va_K.moved hW9.alike hK, hD9⟩, hS.F ht9⟩) hS.2.2 dX11_holds_147
        · skip
          by_cases c_53_3 : nI (od k 5) + (-1) = 3
          · skip
            refine lv_tableIn (off := 95) (tgt := 148) hx hb dX11_holds_53 (by rw [c_53_3]; decide) (by rw [c_53_3]; decide) (by rw [c_53_3]; rfl) (by decide) ?_
            have h5 : od k 5 = 4 := dn_p 3 rfl (by omega) (by decide) c_53_3
            refine lv_aload_n hx hb dX11_holds_148 rfl (lv_at hl 2 rfl) ?_
            refine lv_iconst (v := 1) hx hb dX11_holds_149 (by decide) ?_
            refine k_ldS (j := 2) (i := (od k 7 % tn 2)) (q := 1) (v := c.1.2.2.2.1 (od k 7 % tn 2)) hx hb hK hP (by decide) (by omega) (by decide) rfl dX11_holds_150 ?_
            refine lv_iload hx hb dX11_holds_151 (lv_at hl 0 rfl) ?_
            refine lv_icmp_eq (tgt := 164) hx hb dX11_holds_153 (by decide) (fun c_153 => ?_) (fun c_153 => ?_)
            · skip
              refine lv_iconst (v := 1) hx hb dX11_holds_164 (by decide) ?_
              refine lv_goto (tgt := 169) hx hb dX11_holds_165 (by decide) ?_
              have hr9 : 1 = (bI (sHold tn (od k) c.1)) := by rw [sH_4 h5]; first | exact bIt (by rw [dt c_153, Bool.true_or]) | exact bIt (by rw [dt (Int32.not_le.mp c_161), Bool.or_true]) | exact bIf (by rw [df c_153, df (Int32.not_lt.mpr c_161)]; rfl)
              have hP9 : va_P D CLS (([(sm, .inr (9, [.int c.1.1, .int c.1.2.1, .int c.1.2.2.1, .int c.2.1, .ref (ob 0), .ref (ob 1), .ref (ob 2), .ref (ob 3), .ref (ob 4)])), (ob 0, .inl (g 4, tn 0, .inr (.inr (.inr (.inr (bld (ad 0) (tn 0))))))), (ob 2, .inl (g 4, tn 2, .inr (.inr (.inr (.inr (bld (ad 2) (tn 2)))))))] : va_W) ++ simW (g 0) ad tn (simM tr od c)) s9.heap := by exact va_P.part hP [0, 1, 2] rfl
              have hD9 : va_D A (([(sm, .inr (9, [.int c.1.1, .int c.1.2.1, .int c.1.2.2.1, .int c.2.1, .ref (ob 0), .ref (ob 1), .ref (ob 2), .ref (ob 3), .ref (ob 4)])), (ob 0, .inl (g 4, tn 0, .inr (.inr (.inr (.inr (bld (ad 0) (tn 0))))))), (ob 2, .inl (g 4, tn 2, .inr (.inr (.inr (.inr (bld (ad 2) (tn 2)))))))] : va_W) ++ simW (g 0) ad tn (simM tr od c)) := by exact hD.part [0, 1, 2] (by decide +kernel) rfl
              exact W.zret (v := 1) hx hb hr (by first | exact k_nb0 | exact k_nb1 | exact k_nbI _ | simp) (fun t9 ht9 hW9 => ⟨⟨1, (), rfl, hr9, by rw [ht9]; exact hP9, va_K.moved hW9.alike hK, hD9⟩, hS.F ht9⟩) hS.2.2 dX11_holds_169
            · skip
              refine lv_aload hx hb dX11_holds_156 (lv_at hl 1 rfl) ?_
              refine lv_iconst (v := 3) hx hb dX11_holds_158 (by decide) ?_
              refine k_ldS (j := 2) (i := (od k 8 % tn 2)) (q := 3) (v := c.1.2.2.2.2.2.1 (od k 8 % tn 2)) hx hb hK hP (by decide) (by omega) (by decide) rfl dX11_holds_159 ?_
              refine lv_iload_n hx hb dX11_holds_160 rfl (lv_at hl 3 rfl) ?_
              refine lv_icmp_ge (tgt := 168) hx hb dX11_holds_161 (by decide) (fun c_161 => ?_) (fun c_161 => ?_)
              · skip
                refine lv_iconst (v := 0) hx hb dX11_holds_168 (by decide) ?_
                have hr9 : 0 = (bI (sHold tn (od k) c.1)) := by rw [sH_4 h5]; first | exact bIt (by rw [dt c_153, Bool.true_or]) | exact bIt (by rw [dt (Int32.not_le.mp c_161), Bool.or_true]) | exact bIf (by rw [df c_153, df (Int32.not_lt.mpr c_161)]; rfl)
                have hP9 : va_P D CLS (([(sm, .inr (9, [.int c.1.1, .int c.1.2.1, .int c.1.2.2.1, .int c.2.1, .ref (ob 0), .ref (ob 1), .ref (ob 2), .ref (ob 3), .ref (ob 4)])), (ob 0, .inl (g 4, tn 0, .inr (.inr (.inr (.inr (bld (ad 0) (tn 0))))))), (ob 2, .inl (g 4, tn 2, .inr (.inr (.inr (.inr (bld (ad 2) (tn 2)))))))] : va_W) ++ simW (g 0) ad tn (simM tr od c)) s9.heap := by exact va_P.part hP [0, 1, 2] rfl
                have hD9 : va_D A (([(sm, .inr (9, [.int c.1.1, .int c.1.2.1, .int c.1.2.2.1, .int c.2.1, .ref (ob 0), .ref (ob 1), .ref (ob 2), .ref (ob 3), .ref (ob 4)])), (ob 0, .inl (g 4, tn 0, .inr (.inr (.inr (.inr (bld (ad 0) (tn 0))))))), (ob 2, .inl (g 4, tn 2, .inr (.inr (.inr (.inr (bld (ad 2) (tn 2)))))))] : va_W) ++ simW (g 0) ad tn (simM tr od c)) := by exact hD.part [0, 1, 2] (by decide +kernel) rfl
                exact W.zret (v := 0) hx hb hr (by first | exact k_nb0 | exact k_nb1 | exact k_nbI _ | simp) (fun t9 ht9 hW9 => ⟨⟨0, (), rfl, hr9, by rw [ht9]; exact hP9, va_K.moved hW9.alike hK, hD9⟩, hS.F ht9⟩) hS.2.2 dX11_holds_169
              · skip
                refine lv_iconst (v := 1) hx hb dX11_holds_164 (by decide) ?_
                refine lv_goto (tgt := 169) hx hb dX11_holds_165 (by decide) ?_
                have hr9 : 1 = (bI (sHold tn (od k) c.1)) := by rw [sH_4 h5]; first | exact bIt (by rw [dt c_153, Bool.true_or]) | exact bIt (by rw [dt (Int32.not_le.mp c_161), Bool.or_true]) | exact bIf (by rw [df c_153, df (Int32.not_lt.mpr c_161)]; rfl)
                have hP9 : va_P D CLS (([(sm, .inr (9, [.int c.1.1, .int c.1.2.1, .int c.1.2.2.1, .int c.2.1, .ref (ob 0), .ref (ob 1), .ref (ob 2), .ref (ob 3), .ref (ob 4)])), (ob 0, .inl (g 4, tn 0, .inr (.inr (.inr (.inr (bld (ad 0) (tn 0))))))), (ob 2, .inl (g 4, tn 2, .inr (.inr (.inr (.inr (bld (ad 2) (tn 2)))))))] : va_W) ++ simW (g 0) ad tn (simM tr od c)) s9.heap := by exact va_P.part hP [0, 1, 2] rfl
                have hD9 : va_D A (([(sm, .inr (9, [.int c.1.1, .int c.1.2.1, .int c.1.2.2.1, .int c.2.1, .ref (ob 0), .ref (ob 1), .ref (ob 2), .ref (ob 3), .ref (ob 4)])), (ob 0, .inl (g 4, tn 0, .inr (.inr (.inr (.inr (bld (ad 0) (tn 0))))))), (ob 2, .inl (g 4, tn 2, .inr (.inr (.inr (.inr (bld (ad 2) (tn 2)))))))] : va_W) ++ simW (g 0) ad tn (simM tr od c)) := by exact hD.part [0, 1, 2] (by decide +kernel) rfl
                exact W.zret (v := 1) hx hb hr (by first | exact k_nb0 | exact k_nb1 | exact k_nbI _ | simp) (fun t9 ht9 hW9 => ⟨⟨1, (), rfl, hr9, by rw [ht9]; exact hP9, va_K.moved hW9.alike hK, hD9⟩, hS.F ht9⟩) hS.2.2 dX11_holds_169
          · skip
            by_cases c_53_4 : nI (od k 5) + (-1) = 4
            · skip
              refine lv_tableIn (off := 117) (tgt := 170) hx hb dX11_holds_53 (by rw [c_53_4]; decide) (by rw [c_53_4]; decide) (by rw [c_53_4]; rfl) (by decide) ?_
              have h5 : od k 5 = 5 := dn_p 4 rfl (by omega) (by decide) c_53_4
              refine lv_aload_n hx hb dX11_holds_170 rfl (lv_at hl 2 rfl) ?_
              refine lv_iconst (v := 2) hx hb dX11_holds_171 (by decide) ?_
              refine k_ldS (j := 2) (i := (od k 7 % tn 2)) (q := 2) (v := c.1.2.2.2.2.1 (od k 7 % tn 2)) hx hb hK hP (by decide) (by omega) (by decide) rfl dX11_holds_172 ?_
              refine lv_iload_n hx hb dX11_holds_173 rfl (lv_at hl 3 rfl) ?_
              refine lv_iconst (v := 5) hx hb dX11_holds_174 (by decide) ?_
              refine lv_idiv hx hb dX11_holds_175 (by decide) ?_
              refine lv_icmp_gt (tgt := 190) hx hb dX11_holds_176 (by decide) (fun c_176 => ?_) (fun c_176 => ?_)
              · skip
                refine lv_aload_n hx hb dX11_holds_190 rfl (lv_at hl 4 rfl) ?_
                refine va_get (D := D) (ci := 9) (v := .int c.1.1) (C := RX11) (T := TX11) (N := 9) hx hb hts in_X11 hown hK hP 0 rfl rfl 0 (by decide) (hts _ w_1208) (fun _ h9 => h9) rfl dX11_holds_191 ?_
                refine lv_iload_n hx hb dX11_holds_194 rfl (lv_at hl 3 rfl) ?_
                refine lv_iconst (v := 3) hx hb dX11_holds_195 (by decide) ?_
                refine lv_idiv hx hb dX11_holds_196 (by decide) ?_
                refine lv_icmp_eq (tgt := 204) hx hb dX11_holds_197 (by decide) (fun c_197 => ?_) (fun c_197 => ?_)
                · skip
                  refine lv_iconst (v := 0) hx hb dX11_holds_204 (by decide) ?_
                  have hr9 : 0 = (bI (sHold tn (od k) c.1)) := by rw [sH_5 h5]; first | exact bIt (by rw [dt (Int32.not_lt.mp c_176), dt c_187]; rfl) | exact bIt (by rw [dt c_197, Bool.or_true]) | exact bIf (by rw [df (Int32.not_le.mpr c_176), Bool.false_and, Bool.false_or]; exact df (fun q => q c_197)) | exact bIf (by rw [df c_187, Bool.and_false, Bool.false_or]; exact df (fun q => q c_197))
                  have hP9 : va_P D CLS (([(sm, .inr (9, [.int c.1.1, .int c.1.2.1, .int c.1.2.2.1, .int c.2.1, .ref (ob 0), .ref (ob 1), .ref (ob 2), .ref (ob 3), .ref (ob 4)])), (ob 0, .inl (g 4, tn 0, .inr (.inr (.inr (.inr (bld (ad 0) (tn 0))))))), (ob 2, .inl (g 4, tn 2, .inr (.inr (.inr (.inr (bld (ad 2) (tn 2)))))))] : va_W) ++ simW (g 0) ad tn (simM tr od c)) s9.heap := by exact va_P.part hP [0, 1, 2] rfl
                  have hD9 : va_D A (([(sm, .inr (9, [.int c.1.1, .int c.1.2.1, .int c.1.2.2.1, .int c.2.1, .ref (ob 0), .ref (ob 1), .ref (ob 2), .ref (ob 3), .ref (ob 4)])), (ob 0, .inl (g 4, tn 0, .inr (.inr (.inr (.inr (bld (ad 0) (tn 0))))))), (ob 2, .inl (g 4, tn 2, .inr (.inr (.inr (.inr (bld (ad 2) (tn 2)))))))] : va_W) ++ simW (g 0) ad tn (simM tr od c)) := by exact hD.part [0, 1, 2] (by decide +kernel) rfl
                  exact W.zret (v := 0) hx hb hr (by first | exact k_nb0 | exact k_nb1 | exact k_nbI _ | simp) (fun t9 ht9 hW9 => ⟨⟨0, (), rfl, hr9, by rw [ht9]; exact hP9, va_K.moved hW9.alike hK, hD9⟩, hS.F ht9⟩) hS.2.2 dX11_holds_205
                · skip
                  refine lv_iconst (v := 1) hx hb dX11_holds_200 (by decide) ?_
                  refine lv_goto (tgt := 205) hx hb dX11_holds_201 (by decide) ?_
                  have hr9 : 1 = (bI (sHold tn (od k) c.1)) := by rw [sH_5 h5]; first | exact bIt (by rw [dt (Int32.not_lt.mp c_176), dt c_187]; rfl) | exact bIt (by rw [dt c_197, Bool.or_true]) | exact bIf (by rw [df (Int32.not_le.mpr c_176), Bool.false_and, Bool.false_or]; exact df (fun q => q c_197)) | exact bIf (by rw [df c_187, Bool.and_false, Bool.false_or]; exact df (fun q => q c_197))
                  have hP9 : va_P D CLS (([(sm, .inr (9, [.int c.1.1, .int c.1.2.1, .int c.1.2.2.1, .int c.2.1, .ref (ob 0), .ref (ob 1), .ref (ob 2), .ref (ob 3), .ref (ob 4)])), (ob 0, .inl (g 4, tn 0, .inr (.inr (.inr (.inr (bld (ad 0) (tn 0))))))), (ob 2, .inl (g 4, tn 2, .inr (.inr (.inr (.inr (bld (ad 2) (tn 2)))))))] : va_W) ++ simW (g 0) ad tn (simM tr od c)) s9.heap := by exact va_P.part hP [0, 1, 2] rfl
                  have hD9 : va_D A (([(sm, .inr (9, [.int c.1.1, .int c.1.2.1, .int c.1.2.2.1, .int c.2.1, .ref (ob 0), .ref (ob 1), .ref (ob 2), .ref (ob 3), .ref (ob 4)])), (ob 0, .inl (g 4, tn 0, .inr (.inr (.inr (.inr (bld (ad 0) (tn 0))))))), (ob 2, .inl (g 4, tn 2, .inr (.inr (.inr (.inr (bld (ad 2) (tn 2)))))))] : va_W) ++ simW (g 0) ad tn (simM tr od c)) := by exact hD.part [0, 1, 2] (by decide +kernel) rfl
                  exact W.zret (v := 1) hx hb hr (by first | exact k_nb0 | exact k_nb1 | exact k_nbI _ | simp) (fun t9 ht9 hW9 => ⟨⟨1, (), rfl, hr9, by rw [ht9]; exact hP9, va_K.moved hW9.alike hK, hD9⟩, hS.F ht9⟩) hS.2.2 dX11_holds_205
              · skip
                refine lv_aload_n hx hb dX11_holds_179 rfl (lv_at hl 4 rfl) ?_
                refine va_get (D := D) (ci := 9) (v := .int c.1.2.1) (C := RX11) (T := TX11) (N := 9) hx hb hts in_X11 hown hK hP 0 rfl rfl 1 (by decide) (hts _ w_1209) (fun _ h9 => h9) rfl dX11_holds_180 ?_
                refine lv_iload_n hx hb dX11_holds_183 rfl (lv_at hl 3 rfl) ?_
                refine lv_bipush (v := 20) hx hb dX11_holds_184 (by decide) ?_
                refine lv_idiv hx hb dX11_holds_186 (by decide) ?_
                refine lv_icmp_gt (tgt := 200) hx hb dX11_holds_187 (by decide) (fun c_187 => ?_) (fun c_187 => ?_)
                · skip
                  refine lv_iconst (v := 1) hx hb dX11_holds_200 (by decide) ?_
                  refine lv_goto (tgt := 205) hx hb dX11_holds_201 (by decide) ?_
                  have hr9 : 1 = (bI (sHold tn (od k) c.1)) := by rw [sH_5 h5]; first | exact bIt (by rw [dt (Int32.not_lt.mp c_176), dt c_187]; rfl) | exact bIt (by rw [dt c_197, Bool.or_true]) | exact bIf (by rw [df (Int32.not_le.mpr c_176), Bool.false_and, Bool.false_or]; exact df (fun q => q c_197)) | exact bIf (by rw [df c_187, Bool.and_false, Bool.false_or]; exact df (fun q => q c_197))
                  have hP9 : va_P D CLS (([(sm, .inr (9, [.int c.1.1, .int c.1.2.1, .int c.1.2.2.1, .int c.2.1, .ref (ob 0), .ref (ob 1), .ref (ob 2), .ref (ob 3), .ref (ob 4)])), (ob 0, .inl (g 4, tn 0, .inr (.inr (.inr (.inr (bld (ad 0) (tn 0))))))), (ob 2, .inl (g 4, tn 2, .inr (.inr (.inr (.inr (bld (ad 2) (tn 2)))))))] : va_W) ++ simW (g 0) ad tn (simM tr od c)) s9.heap := by exact va_P.part hP [0, 1, 2] rfl
                  have hD9 : va_D A (([(sm, .inr (9, [.int c.1.1, .int c.1.2.1, .int c.1.2.2.1, .int c.2.1, .ref (ob 0), .ref (ob 1), .ref (ob 2), .ref (ob 3), .ref (ob 4)])), (ob 0, .inl (g 4, tn 0, .inr (.inr (.inr (.inr (bld (ad 0) (tn 0))))))), (ob 2, .inl (g 4, tn 2, .inr (.inr (.inr (.inr (bld (ad 2) (tn 2)))))))] : va_W) ++ simW (g 0) ad tn (simM tr od c)) := by exact hD.part [0, 1, 2] (by decide +kernel) rfl
                  exact W.zret (v := 1) hx hb hr (by first | exact k_nb0 | exact k_nb1 | exact k_nbI _ | simp) (fun t9 ht9 hW9 => ⟨⟨1, (), rfl, hr9, by rw [ht9]; exact hP9, va_K.moved hW9.alike hK, hD9⟩, hS.F ht9⟩) hS.2.2 dX11_holds_205
                · skip
                  refine lv_aload_n hx hb dX11_holds_190 rfl (lv_at hl 4 rfl) ?_
                  refine va_get (D := D) (ci := 9) (v := .int c.1.1) (C := RX11) (T := TX11) (N := 9) hx hb hts in_X11 hown hK hP 0 rfl rfl 0 (by decide) (hts _ w_1208) (fun _ h9 => h9) rfl dX11_holds_191 ?_
                  refine lv_iload_n hx hb dX11_holds_194 rfl (lv_at hl 3 rfl) ?_
                  refine lv_iconst (v := 3) hx hb dX11_holds_195 (by decide) ?_
                  refine lv_idiv hx hb dX11_holds_196 (by decide) ?_
                  refine lv_icmp_eq (tgt := 204) hx hb dX11_holds_197 (by decide) (fun c_197 => ?_) (fun c_197 => ?_)
                  · skip
                    refine lv_iconst (v := 0) hx hb dX11_holds_204 (by decide) ?_
                    have hr9 : 0 = (bI (sHold tn (od k) c.1)) := by rw [sH_5 h5]; first | exact bIt (by rw [dt (Int32.not_lt.mp c_176), dt c_187]; rfl) | exact bIt (by rw [dt c_197, Bool.or_true]) | exact bIf (by rw [df (Int32.not_le.mpr c_176), Bool.false_and, Bool.false_or]; exact df (fun q => q c_197)) | exact bIf (by rw [df c_187, Bool.and_false, Bool.false_or]; exact df (fun q => q c_197))
                    have hP9 : va_P D CLS (([(sm, .inr (9, [.int c.1.1, .int c.1.2.1, .int c.1.2.2.1, .int c.2.1, .ref (ob 0), .ref (ob 1), .ref (ob 2), .ref (ob 3), .ref (ob 4)])), (ob 0, .inl (g 4, tn 0, .inr (.inr (.inr (.inr (bld (ad 0) (tn 0))))))), (ob 2, .inl (g 4, tn 2, .inr (.inr (.inr (.inr (bld (ad 2) (tn 2)))))))] : va_W) ++ simW (g 0) ad tn (simM tr od c)) s9.heap := by exact va_P.part hP [0, 1, 2] rfl
                    have hD9 : va_D A (([(sm, .inr (9, [.int c.1.1, .int c.1.2.1, .int c.1.2.2.1, .int c.2.1, .ref (ob 0), .ref (ob 1), .ref (ob 2), .ref (ob 3), .ref (ob 4)])), (ob 0, .inl (g 4, tn 0, .inr (.inr (.inr (.inr (bld (ad 0) (tn 0))))))), (ob 2, .inl (g 4, tn 2, .inr (.inr (.inr (.inr (bld (ad 2) (tn 2)))))))] : va_W) ++ simW (g 0) ad tn (simM tr od c)) := by exact hD.part [0, 1, 2] (by decide +kernel) rfl
                    exact W.zret (v := 0) hx hb hr (by first | exact k_nb0 | exact k_nb1 | exact k_nbI _ | simp) (fun t9 ht9 hW9 => ⟨⟨0, (), rfl, hr9, by rw [ht9]; exact hP9, va_K.moved hW9.alike hK, hD9⟩, hS.F ht9⟩) hS.2.2 dX11_holds_205
                  · skip
                    refine lv_iconst (v := 1) hx hb dX11_holds_200 (by decide) ?_
                    refine lv_goto (tgt := 205) hx hb dX11_holds_201 (by decide) ?_
                    have hr9 : 1 = (bI (sHold tn (od k) c.1)) := by rw [sH_5 h5]; first | exact bIt (by rw [dt (Int32.not_lt.mp c_176), dt c_187]; rfl) | exact bIt (by rw [dt c_197, Bool.or_true]) | exact bIf (by rw [df (Int32.not_le.mpr c_176), Bool.false_and, Bool.false_or]; exact df (fun q => q c_197)) | exact bIf (by rw [df c_187, Bool.and_false, Bool.false_or]; exact df (fun q => q c_197))
                    have hP9 : va_P D CLS (([(sm, .inr (9, [.int c.1.1, .int c.1.2.1, .int c.1.2.2.1, .int c.2.1, .ref (ob 0), .ref (ob 1), .ref (ob 2), .ref (ob 3), .ref (ob 4)])), (ob 0, .inl (g 4, tn 0, .inr (.inr (.inr (.inr (bld (ad 0) (tn 0))))))), (ob 2, .inl (g 4, tn 2, .inr (.inr (.inr (.inr (bld (ad 2) (tn 2)))))))] : va_W) ++ simW (g 0) ad tn (simM tr od c)) s9.heap := by exact va_P.part hP [0, 1, 2] rfl
                    have hD9 : va_D A (([(sm, .inr (9, [.int c.1.1, .int c.1.2.1, .int c.1.2.2.1, .int c.2.1, .ref (ob 0), .ref (ob 1), .ref (ob 2), .ref (ob 3), .ref (ob 4)])), (ob 0, .inl (g 4, tn 0, .inr (.inr (.inr (.inr (bld (ad 0) (tn 0))))))), (ob 2, .inl (g 4, tn 2, .inr (.inr (.inr (.inr (bld (ad 2) (tn 2)))))))] : va_W) ++ simW (g 0) ad tn (simM tr od c)) := by exact hD.part [0, 1, 2] (by decide +kernel) rfl
                    exact W.zret (v := 1) hx hb hr (by first | exact k_nb0 | exact k_nb1 | exact k_nbI _ | simp) (fun t9 ht9 hW9 => ⟨⟨1, (), rfl, hr9, by rw [ht9]; exact hP9, va_K.moved hW9.alike hK, hD9⟩, hS.F ht9⟩) hS.2.2 dX11_holds_205
            · skip
              by_cases c_53_5 : nI (od k 5) + (-1) = 5
              · skip
                refine lv_tableIn (off := 153) (tgt := 206) hx hb dX11_holds_53 (by rw [c_53_5]; decide) (by rw [c_53_5]; decide) (by rw [c_53_5]; rfl) (by decide) ?_
                have h5 : od k 5 = 6 := dn_p 5 rfl (by omega) (by decide) c_53_5
                refine lv_iconst (v := 2) hx hb dX11_holds_206 (by decide) ?_
                refine lv_aload_n hx hb dX11_holds_207 rfl (lv_at hl 4 rfl) ?_
                refine va_get (D := D) (ci := 9) (v := .int c.1.2.2.1) (C := RX11) (T := TX11) (N := 9) hx hb hts in_X11 hown hK hP 0 rfl rfl 2 (by decide) (hts _ w_1211) (fun _ h9 => h9) rfl dX11_holds_208 ?_
                refine lv_iload_n hx hb dX11_holds_211 rfl (lv_at hl 3 rfl) ?_
                refine va_mmin hx hb (by rw [hml]; exact hl.1.symm) hown (hts _ w_782) (hts _ w_596) (hts _ w_54) (hts _ w_597) (Nat.le_of_ble_eq_true rfl) (Nat.le_of_ble_eq_true rfl) (Nat.le_of_ble_eq_true rfl) (Nat.le_of_ble_eq_true rfl) dX11_holds_212 ?_
                refine lv_imul hx hb dX11_holds_215 ?_
                refine lv_aload_n hx hb dX11_holds_216 rfl (lv_at hl 4 rfl) ?_
                refine va_get (D := D) (ci := 9) (v := .int c.1.1) (C := RX11) (T := TX11) (N := 9) hx hb hts in_X11 hown hK hP 0 rfl rfl 0 (by decide) (hts _ w_1208) (fun _ h9 => h9) rfl dX11_holds_217 ?_
                refine lv_isub hx hb dX11_holds_220 ?_
                refine lv_iload_n hx hb dX11_holds_221 rfl (lv_at hl 3 rfl) ?_
                refine lv_icmp_ge (tgt := 229) hx hb dX11_holds_222 (by decide) (fun c_222 => ?_) (fun c_222 => ?_)
                · skip
                  refine lv_iconst (v := 0) hx hb dX11_holds_229 (by decide) ?_
                  have hr9 : 0 = (bI (sHold tn (od k) c.1)) := by rw [sH_6 h5]; first | exact bIt (dt (Int32.not_le.mp c_222)) | exact bIf (df (Int32.not_lt.mpr c_222))
                  have hP9 : va_P D CLS (([(sm, .inr (9, [.int c.1.1, .int c.1.2.1, .int c.1.2.2.1, .int c.2.1, .ref (ob 0), .ref (ob 1), .ref (ob 2), .ref (ob 3), .ref (ob 4)])), (ob 0, .inl (g 4, tn 0, .inr (.inr (.inr (.inr (bld (ad 0) (tn 0))))))), (ob 2, .inl (g 4, tn 2, .inr (.inr (.inr (.inr (bld (ad 2) (tn 2)))))))] : va_W) ++ simW (g 0) ad tn (simM tr od c)) s9.heap := by exact va_P.part hP [0, 1, 2] rfl
                  have hD9 : va_D A (([(sm, .inr (9, [.int c.1.1, .int c.1.2.1, .int c.1.2.2.1, .int c.2.1, .ref (ob 0), .ref (ob 1), .ref (ob 2), .ref (ob 3), .ref (ob 4)])), (ob 0, .inl (g 4, tn 0, .inr (.inr (.inr (.inr (bld (ad 0) (tn 0))))))), (ob 2, .inl (g 4, tn 2, .inr (.inr (.inr (.inr (bld (ad 2) (tn 2)))))))] : va_W) ++ simW (g 0) ad tn (simM tr od c)) := by exact hD.part [0, 1, 2] (by decide +kernel) rfl
                  exact W.zret (v := 0) hx hb hr (by first | exact k_nb0 | exact k_nb1 | exact k_nbI _ | simp) (fun t9 ht9 hW9 => ⟨⟨0, (), rfl, hr9, by rw [ht9]; exact hP9, va_K.moved hW9.alike hK, hD9⟩, hS.F ht9⟩) hS.2.2 dX11_holds_230
                · skip
                  refine lv_iconst (v := 1) hx hb dX11_holds_225 (by decide) ?_
                  refine lv_goto (tgt := 230) hx hb dX11_holds_226 (by decide) ?_
                  have hr9 : 1 = (bI (sHold tn (od k) c.1)) := by rw [sH_6 h5]; first | exact bIt (dt (Int32.not_le.mp c_222)) | exact bIf (df (Int32.not_lt.mpr c_222))
                  have hP9 : va_P D CLS (([(sm, .inr (9, [.int c.1.1, .int c.1.2.1, .int c.1.2.2.1, .int c.2.1, .ref (ob 0), .ref (ob 1), .ref (ob 2), .ref (ob 3), .ref (ob 4)])), (ob 0, .inl (g 4, tn 0, .inr (.inr (.inr (.inr (bld (ad 0) (tn 0))))))), (ob 2, .inl (g 4, tn 2, .inr (.inr (.inr (.inr (bld (ad 2) (tn 2)))))))] : va_W) ++ simW (g 0) ad tn (simM tr od c)) s9.heap := by exact va_P.part hP [0, 1, 2] rfl
                  have hD9 : va_D A (([(sm, .inr (9, [.int c.1.1, .int c.1.2.1, .int c.1.2.2.1, .int c.2.1, .ref (ob 0), .ref (ob 1), .ref (ob 2), .ref (ob 3), .ref (ob 4)])), (ob 0, .inl (g 4, tn 0, .inr (.inr (.inr (.inr (bld (ad 0) (tn 0))))))), (ob 2, .inl (g 4, tn 2, .inr (.inr (.inr (.inr (bld (ad 2) (tn 2)))))))] : va_W) ++ simW (g 0) ad tn (simM tr od c)) := by exact hD.part [0, 1, 2] (by decide +kernel) rfl
                  exact W.zret (v := 1) hx hb hr (by first | exact k_nb0 | exact k_nb1 | exact k_nbI _ | simp) (fun t9 ht9 hW9 => ⟨⟨1, (), rfl, hr9, by rw [ht9]; exact hP9, va_K.moved hW9.alike hK, hD9⟩, hS.F ht9⟩) hS.2.2 dX11_holds_230
              · skip
                by_cases c_53_6 : nI (od k 5) + (-1) = 6
                · skip
                  refine lv_tableIn (off := 178) (tgt := 231) hx hb dX11_holds_53 (by rw [c_53_6]; decide) (by rw [c_53_6]; decide) (by rw [c_53_6]; rfl) (by decide) ?_
                  have h5 : od k 5 = 7 := dn_p 6 rfl (by omega) (by decide) c_53_6
                  refine lv_iload_n hx hb dX11_holds_231 rfl (lv_at hl 3 rfl) ?_
                  refine lv_iconst (v := 2) hx hb dX11_holds_232 (by decide) ?_
                  refine lv_irem hx hb dX11_holds_233 (by decide) ?_
                  refine lv_if_ne (tgt := 241) hx hb dX11_holds_234 (by decide) (fun c_234 => ?_) (fun c_234 => ?_)
                  · skip
                    refine lv_iconst (v := 0) hx hb dX11_holds_241 (by decide) ?_
                    have hr9 : 0 = (bI (sHold tn (od k) c.1)) := by rw [sH_7 h5]; first | exact bIt (dt c_234) | exact bIf (df c_234)
                    have hP9 : va_P D CLS (([(sm, .inr (9, [.int c.1.1, .int c.1.2.1, .int c.1.2.2.1, .int c.2.1, .ref (ob 0), .ref (ob 1), .ref (ob 2), .ref (ob 3), .ref (ob 4)])), (ob 0, .inl (g 4, tn 0, .inr (.inr (.inr (.inr (bld (ad 0) (tn 0))))))), (ob 2, .inl (g 4, tn 2, .inr (.inr (.inr (.inr (bld (ad 2) (tn 2)))))))] : va_W) ++ simW (g 0) ad tn (simM tr od c)) s9.heap := by exact va_P.part hP [0, 1, 2] rfl
                    have hD9 : va_D A (([(sm, .inr (9, [.int c.1.1, .int c.1.2.1, .int c.1.2.2.1, .int c.2.1, .ref (ob 0), .ref (ob 1), .ref (ob 2), .ref (ob 3), .ref (ob 4)])), (ob 0, .inl (g 4, tn 0, .inr (.inr (.inr (.inr (bld (ad 0) (tn 0))))))), (ob 2, .inl (g 4, tn 2, .inr (.inr (.inr (.inr (bld (ad 2) (tn 2)))))))] : va_W) ++ simW (g 0) ad tn (simM tr od c)) := by exact hD.part [0, 1, 2] (by decide +kernel) rfl
                    exact W.zret (v := 0) hx hb hr (by first | exact k_nb0 | exact k_nb1 | exact k_nbI _ | simp) (fun t9 ht9 hW9 => ⟨⟨0, (), rfl, hr9, by rw [ht9]; exact hP9, va_K.moved hW9.alike hK, hD9⟩, hS.F ht9⟩) hS.2.2 dX11_holds_242
                  · skip
                    refine lv_iconst (v := 1) hx hb dX11_holds_237 (by decide) ?_
                    refine lv_goto (tgt := 242) hx hb dX11_holds_238 (by decide) ?_
                    have hr9 : 1 = (bI (sHold tn (od k) c.1)) := by rw [sH_7 h5]; first | exact bIt (dt c_234) | exact bIf (df c_234)
                    have hP9 : va_P D CLS (([(sm, .inr (9, [.int c.1.1, .int c.1.2.1, .int c.1.2.2.1, .int c.2.1, .ref (ob 0), .ref (ob 1), .ref (ob 2), .ref (ob 3), .ref (ob 4)])), (ob 0, .inl (g 4, tn 0, .inr (.inr (.inr (.inr (bld (ad 0) (tn 0))))))), (ob 2, .inl (g 4, tn 2, .inr (.inr (.inr (.inr (bld (ad 2) (tn 2)))))))] : va_W) ++ simW (g 0) ad tn (simM tr od c)) s9.heap := by exact va_P.part hP [0, 1, 2] rfl
                    have hD9 : va_D A (([(sm, .inr (9, [.int c.1.1, .int c.1.2.1, .int c.1.2.2.1, .int c.2.1, .ref (ob 0), .ref (ob 1), .ref (ob 2), .ref (ob 3), .ref (ob 4)])), (ob 0, .inl (g 4, tn 0, .inr (.inr (.inr (.inr (bld (ad 0) (tn 0))))))), (ob 2, .inl (g 4, tn 2, .inr (.inr (.inr (.inr (bld (ad 2) (tn 2)))))))] : va_W) ++ simW (g 0) ad tn (simM tr od c)) := by exact hD.part [0, 1, 2] (by decide +kernel) rfl
                    exact W.zret (v := 1) hx hb hr (by first | exact k_nb0 | exact k_nb1 | exact k_nbI _ | simp) (fun t9 ht9 hW9 => ⟨⟨1, (), rfl, hr9, by rw [ht9]; exact hP9, va_K.moved hW9.alike hK, hD9⟩, hS.F ht9⟩) hS.2.2 dX11_holds_242
                · skip
                  have h5 : 7 < od k 5 := by have a0 := dn_nm c_53_m1; have a1 := dn_no 0 rfl c_53_0; have a2 := dn_no 1 rfl c_53_1; have a3 := dn_no 2 rfl c_53_2; have a4 := dn_no 3 rfl c_53_3; have a5 := dn_no 4 rfl c_53_4; have a6 := dn_no 5 rfl c_53_5; have a7 := dn_no 6 rfl c_53_6; have a9 := ho.1; omega
                  refine k_tdef (x := nI (od k 5) + (-1)) (tgt := 243) hx hb 8 dX11_holds_53 rfl (by decide) (by decide) (fun k hk => match k, hk with | 0, _ => Or.inr c_53_m1 | 1, _ => Or.inr c_53_0 | 2, _ => Or.inr c_53_1 | 3, _ => Or.inr c_53_2 | 4, _ => Or.inr c_53_3 | 5, _ => Or.inr c_53_4 | 6, _ => Or.inr c_53_5 | 7, _ => Or.inr c_53_6 | k9 + 8, h9 => absurd h9 (by omega)) (by decide) ?_
                  refine lv_aload_n hx hb dX11_holds_243 rfl (lv_at hl 2 rfl) ?_
                  refine lv_iconst (v := 3) hx hb dX11_holds_244 (by decide) ?_
                  refine k_ldS (j := 2) (i := (od k 7 % tn 2)) (q := 3) (v := c.1.2.2.2.2.2.1 (od k 7 % tn 2)) hx hb hK hP (by decide) (by omega) (by decide) rfl dX11_holds_245 ?_
                  refine lv_aload hx hb dX11_holds_246 (lv_at hl 1 rfl) ?_
                  refine lv_iconst (v := 4) hx hb dX11_holds_248 (by decide) ?_
                  refine k_ldS (j := 2) (i := (od k 8 % tn 2)) (q := 4) (v := c.1.2.2.2.2.2.2 (od k 8 % tn 2)) hx hb hK hP (by decide) (by omega) (by decide) rfl dX11_holds_249 ?_
                  refine lv_ineg hx hb dX11_holds_250 ?_
                  refine va_mmax hx hb (by rw [hml]; exact hl.1.symm) hown (hts _ w_783) (hts _ w_93) (hts _ w_54) (hts _ w_94) (Nat.le_of_ble_eq_true rfl) (Nat.le_of_ble_eq_true rfl) (Nat.le_of_ble_eq_true rfl) (Nat.le_of_ble_eq_true rfl) dX11_holds_251 ?_
                  refine lv_iload_n hx hb dX11_holds_254 rfl (lv_at hl 3 rfl) ?_
                  refine lv_bipush (v := 6) hx hb dX11_holds_255 (by decide) ?_
                  refine lv_idiv hx hb dX11_holds_257 (by decide) ?_
                  refine lv_icmp_le (tgt := 265) hx hb dX11_holds_258 (by decide) (fun c_258 => ?_) (fun c_258 => ?_)
                  · skip
                    refine lv_iconst (v := 0) hx hb dX11_holds_265 (by decide) ?_
                    have hr9 : 0 = (bI (sHold tn (od k) c.1)) := by rw [sH_8 h5]; first | exact bIt (dt (Int32.not_le.mp c_258)) | exact bIf (df (Int32.not_lt.mpr c_258))
                    have hP9 : va_P D CLS (([(sm, .inr (9, [.int c.1.1, .int c.1.2.1, .int c.1.2.2.1, .int c.2.1, .ref (ob 0), .ref (ob 1), .ref (ob 2), .ref (ob 3), .ref (ob 4)])), (ob 0, .inl (g 4, tn 0, .inr (.inr (.inr (.inr (bld (ad 0) (tn 0))))))), (ob 2, .inl (g 4, tn 2, .inr (.inr (.inr (.inr (bld (ad 2) (tn 2)))))))] : va_W) ++ simW (g 0) ad tn (simM tr od c)) s9.heap := by exact va_P.part hP [0, 1, 2] rfl
                    have hD9 : va_D A (([(sm, .inr (9, [.int c.1.1, .int c.1.2.1, .int c.1.2.2.1, .int c.2.1, .ref (ob 0), .ref (ob 1), .ref (ob 2), .ref (ob 3), .ref (ob 4)])), (ob 0, .inl (g 4, tn 0, .inr (.inr (.inr (.inr (bld (ad 0) (tn 0))))))), (ob 2, .inl (g 4, tn 2, .inr (.inr (.inr (.inr (bld (ad 2) (tn 2)))))))] : va_W) ++ simW (g 0) ad tn (simM tr od c)) := by exact hD.part [0, 1, 2] (by decide +kernel) rfl
                    exact W.zret (v := 0) hx hb hr (by first | exact k_nb0 | exact k_nb1 | exact k_nbI _ | simp) (fun t9 ht9 hW9 => ⟨⟨0, (), rfl, hr9, by rw [ht9]; exact hP9, va_K.moved hW9.alike hK, hD9⟩, hS.F ht9⟩) hS.2.2 dX11_holds_266
                  · skip
                    refine lv_iconst (v := 1) hx hb dX11_holds_261 (by decide) ?_
                    refine lv_goto (tgt := 266) hx hb dX11_holds_262 (by decide) ?_
                    have hr9 : 1 = (bI (sHold tn (od k) c.1)) := by rw [sH_8 h5]; first | exact bIt (dt (Int32.not_le.mp c_258)) | exact bIf (df (Int32.not_lt.mpr c_258))
                    have hP9 : va_P D CLS (([(sm, .inr (9, [.int c.1.1, .int c.1.2.1, .int c.1.2.2.1, .int c.2.1, .ref (ob 0), .ref (ob 1), .ref (ob 2), .ref (ob 3), .ref (ob 4)])), (ob 0, .inl (g 4, tn 0, .inr (.inr (.inr (.inr (bld (ad 0) (tn 0))))))), (ob 2, .inl (g 4, tn 2, .inr (.inr (.inr (.inr (bld (ad 2) (tn 2)))))))] : va_W) ++ simW (g 0) ad tn (simM tr od c)) s9.heap := by exact va_P.part hP [0, 1, 2] rfl
                    have hD9 : va_D A (([(sm, .inr (9, [.int c.1.1, .int c.1.2.1, .int c.1.2.2.1, .int c.2.1, .ref (ob 0), .ref (ob 1), .ref (ob 2), .ref (ob 3), .ref (ob 4)])), (ob 0, .inl (g 4, tn 0, .inr (.inr (.inr (.inr (bld (ad 0) (tn 0))))))), (ob 2, .inl (g 4, tn 2, .inr (.inr (.inr (.inr (bld (ad 2) (tn 2)))))))] : va_W) ++ simW (g 0) ad tn (simM tr od c)) := by exact hD.part [0, 1, 2] (by decide +kernel) rfl
                    exact W.zret (v := 1) hx hb hr (by first | exact k_nb0 | exact k_nb1 | exact k_nbI _ | simp) (fun t9 ht9 hW9 => ⟨⟨1, (), rfl, hr9, by rw [ht9]; exact hP9, va_K.moved hW9.alike hK, hD9⟩, hS.F ht9⟩) hS.2.2 dX11_holds_266
theorem dX11_pleases_0 : decode cX11_pleases 0 = .ok (.aload_n 0, 1) := by decide +kernel
theorem dX11_pleases_1 : decode cX11_pleases 1 = .ok (.getfield 15, 3) := by decide +kernel
theorem dX11_pleases_4 : decode cX11_pleases 4 = .ok (.aload_n 0, 1) := by decide +kernel
theorem dX11_pleases_5 : decode cX11_pleases 5 = .ok (.getfield 22, 3) := by decide +kernel
theorem dX11_pleases_8 : decode cX11_pleases 8 = .ok (.iload_n 1, 1) := by decide +kernel
theorem dX11_pleases_9 : decode cX11_pleases 9 = .ok (.aaload, 1) := by decide +kernel
theorem dX11_pleases_10 : decode cX11_pleases 10 = .ok (.iconst 1, 1) := by decide +kernel
theorem dX11_pleases_11 : decode cX11_pleases 11 = .ok (.iaload, 1) := by decide +kernel
theorem dX11_pleases_12 : decode cX11_pleases 12 = .ok (.aaload, 1) := by decide +kernel
theorem dX11_pleases_13 : decode cX11_pleases 13 = .ok (.iconst 0, 1) := by decide +kernel
theorem dX11_pleases_14 : decode cX11_pleases 14 = .ok (.iaload, 1) := by decide +kernel
theorem dX11_pleases_15 : decode cX11_pleases 15 = .ok (.aload_n 0, 1) := by decide +kernel
theorem dX11_pleases_16 : decode cX11_pleases 16 = .ok (.getfield 25, 3) := by decide +kernel
theorem dX11_pleases_19 : decode cX11_pleases 19 = .ok (.iload_n 2, 1) := by decide +kernel
theorem dX11_pleases_20 : decode cX11_pleases 20 = .ok (.aaload, 1) := by decide +kernel
theorem dX11_pleases_21 : decode cX11_pleases 21 = .ok (.iconst 0, 1) := by decide +kernel
theorem dX11_pleases_22 : decode cX11_pleases 22 = .ok (.iaload, 1) := by decide +kernel
theorem dX11_pleases_23 : decode cX11_pleases 23 = .ok (.isub, 1) := by decide +kernel
theorem dX11_pleases_24 : decode cX11_pleases 24 = .ok (.istore_n 3, 1) := by decide +kernel
theorem dX11_pleases_25 : decode cX11_pleases 25 = .ok (.aload_n 0, 1) := by decide +kernel
theorem dX11_pleases_26 : decode cX11_pleases 26 = .ok (.getfield 22, 3) := by decide +kernel
theorem dX11_pleases_29 : decode cX11_pleases 29 = .ok (.iload_n 1, 1) := by decide +kernel
theorem dX11_pleases_30 : decode cX11_pleases 30 = .ok (.aaload, 1) := by decide +kernel
theorem dX11_pleases_31 : decode cX11_pleases 31 = .ok (.iconst 2, 1) := by decide +kernel
theorem dX11_pleases_32 : decode cX11_pleases 32 = .ok (.iaload, 1) := by decide +kernel
theorem dX11_pleases_33 : decode cX11_pleases 33 = .ok (.iconst 2, 1) := by decide +kernel
theorem dX11_pleases_34 : decode cX11_pleases 34 = .ok (.iload_n 3, 1) := by decide +kernel
theorem dX11_pleases_35 : decode cX11_pleases 35 = .ok (.ifCond .ge 8, 3) := by decide +kernel
theorem dX11_pleases_38 : decode cX11_pleases 38 = .ok (.iload_n 3, 1) := by decide +kernel
theorem dX11_pleases_39 : decode cX11_pleases 39 = .ok (.ineg, 1) := by decide +kernel
theorem dX11_pleases_40 : decode cX11_pleases 40 = .ok (.goto 4, 3) := by decide +kernel
theorem dX11_pleases_43 : decode cX11_pleases 43 = .ok (.iload_n 3, 1) := by decide +kernel
theorem dX11_pleases_44 : decode cX11_pleases 44 = .ok (.imul, 1) := by decide +kernel
theorem dX11_pleases_45 : decode cX11_pleases 45 = .ok (.isub, 1) := by decide +kernel
theorem dX11_pleases_46 : decode cX11_pleases 46 = .ok (.ireturn, 1) := by decide +kernel
set_option maxHeartbeats 4000000 in
set_option maxRecDepth 100000 in
/-- Sim.pleases -/
theorem c_X11_pleases (l9 : Launch) (z : Nat → Nat) (D : va_G) (g : Nat → ClassId) (sm : Nat) (ob : Nat → Nat) (ad : Nat → Nat → Nat) (tn : Nat → Nat) (tr : Nat → Nat → Int32) (od : Nat → Nat → Nat) (c : CS) (dd : Nat) (m : Nat) (k : Nat) (bp : Nat) (e : Nat) (hO : SOKs tn tr od) (hC : CIn tn c dd m) (hk : k < tn 2) (hB : bp < tn 3) (he : c.1.2.2.2.1 k = nI e) (he2 : e < tn 0) (sz : Nat) : Met l9 yX11_pleases (WS yX11_pleases cX11_pleases 4 (some .int)) ({ frames := 0, cells := 0, slots := 0, locals := 0 }) (va_Pc [.ref sm, .int (nI k), .int (nI bp)] (kPre z D g (([(sm, .inr (9, [.int c.1.1, .int c.1.2.1, .int c.1.2.2.1, .int c.2.1, .ref (ob 0), .ref (ob 1), .ref (ob 2), .ref (ob 3), .ref (ob 4)])), (ob 0, .inl (g 4, tn 0, .inr (.inr (.inr (.inr (bld (ad 0) (tn 0))))))), (ob 2, .inl (g 4, tn 2, .inr (.inr (.inr (.inr (bld (ad 2) (tn 2))))))), (ob 3, .inl (g 4, tn 3, .inr (.inr (.inr (.inr (bld (ad 3) (tn 3)))))))] : va_W) ++ simW (g 0) ad tn (simM tr od c)) sz)) (va_Qi (fun (r9 : Int32) (u9 : Unit) => r9 = fDel tr c.1.2.2.2.1 c.1.2.2.2.2.1 (nI bp) (nI k)) (kB D g (va_A (([(sm, .inr (9, [.int c.1.1, .int c.1.2.1, .int c.1.2.2.1, .int c.2.1, .ref (ob 0), .ref (ob 1), .ref (ob 2), .ref (ob 3), .ref (ob 4)])), (ob 0, .inl (g 4, tn 0, .inr (.inr (.inr (.inr (bld (ad 0) (tn 0))))))), (ob 2, .inl (g 4, tn 2, .inr (.inr (.inr (.inr (bld (ad 2) (tn 2))))))), (ob 3, .inl (g 4, tn 3, .inr (.inr (.inr (.inr (bld (ad 3) (tn 3)))))))] : va_W) ++ simW (g 0) ad tn (simM tr od c)) sz) (fun (u9 : Unit) => (([(sm, .inr (9, [.int c.1.1, .int c.1.2.1, .int c.1.2.2.1, .int c.2.1, .ref (ob 0), .ref (ob 1), .ref (ob 2), .ref (ob 3), .ref (ob 4)])), (ob 0, .inl (g 4, tn 0, .inr (.inr (.inr (.inr (bld (ad 0) (tn 0))))))), (ob 2, .inl (g 4, tn 2, .inr (.inr (.inr (.inr (bld (ad 2) (tn 2))))))), (ob 3, .inl (g 4, tn 3, .inr (.inr (.inr (.inr (bld (ad 3) (tn 3)))))))] : va_W) ++ simW (g 0) ad tn (simM tr od c)))) (va_A (([(sm, .inr (9, [.int c.1.1, .int c.1.2.1, .int c.1.2.2.1, .int c.2.1, .ref (ob 0), .ref (ob 1), .ref (ob 2), .ref (ob 3), .ref (ob 4)])), (ob 0, .inl (g 4, tn 0, .inr (.inr (.inr (.inr (bld (ad 0) (tn 0))))))), (ob 2, .inl (g 4, tn 2, .inr (.inr (.inr (.inr (bld (ad 2) (tn 2))))))), (ob 3, .inl (g 4, tn 3, .inr (.inr (.inr (.inr (bld (ad 3) (tn 3)))))))] : va_W) ++ simW (g 0) ad tn (simM tr od c)) sz)) 0 0 (va_A (([(sm, .inr (9, [.int c.1.1, .int c.1.2.1, .int c.1.2.2.1, .int c.2.1, .ref (ob 0), .ref (ob 1), .ref (ob 2), .ref (ob 3), .ref (ob 4)])), (ob 0, .inl (g 4, tn 0, .inr (.inr (.inr (.inr (bld (ad 0) (tn 0))))))), (ob 2, .inl (g 4, tn 2, .inr (.inr (.inr (.inr (bld (ad 2) (tn 2))))))), (ob 3, .inl (g 4, tn 3, .inr (.inr (.inr (.inr (bld (ad 3) (tn 3)))))))] : va_W) ++ simW (g 0) ad tn (simM tr od c)) sz) := by
  refine Met.ofW (cc := cX11_pleases) (maxL := 4) (ret := (some .int)) (by decide) rfl ?_
  intro p9 e9 s9 m9 args9 below9 meth9 c9 s₁ B hml hv
  obtain ⟨rfl, hsz, hP, hK, hD0, hZ⟩ := hv
  have hx := B.exec
  have hb := B.bytes
  have hr := B.returns
  have hts := ws_sub (atoms_spec (ws := WS yX11_pleases cX11_pleases 4 (some .int)) B.pre)
  have hown : s9.vm.findClass RX11 = some m9.cls := findClass_of_methodNamed B.named
  have hlocks := B.notSynchronized
  subst hsz
  have hD := hD0.self (sz := s9.heap.size)
  generalize hAe : va_A (([(sm, .inr (9, [.int c.1.1, .int c.1.2.1, .int c.1.2.2.1, .int c.2.1, .ref (ob 0), .ref (ob 1), .ref (ob 2), .ref (ob 3), .ref (ob 4)])), (ob 0, .inl (g 4, tn 0, .inr (.inr (.inr (.inr (bld (ad 0) (tn 0))))))), (ob 2, .inl (g 4, tn 2, .inr (.inr (.inr (.inr (bld (ad 2) (tn 2))))))), (ob 3, .inl (g 4, tn 3, .inr (.inr (.inr (.inr (bld (ad 3) (tn 3)))))))] : va_W) ++ simW (g 0) ad tn (simM tr od c)) s9.heap.size = A at hD hZ ⊢
  have hA : ∀ q : Nat, s9.heap.size ≤ q → A q := fun q h => by rw [← hAe]; exact Or.inr h
  have hS : va_S A s9.heap s9.heap [] := va_S.rf
  have hP : va_P D CLS (([(sm, .inr (9, [.int c.1.1, .int c.1.2.1, .int c.1.2.2.1, .int c.2.1, .ref (ob 0), .ref (ob 1), .ref (ob 2), .ref (ob 3), .ref (ob 4)])), (ob 0, .inl (g 4, tn 0, .inr (.inr (.inr (.inr (bld (ad 0) (tn 0))))))), (ob 2, .inl (g 4, tn 2, .inr (.inr (.inr (.inr (bld (ad 2) (tn 2))))))), (ob 3, .inl (g 4, tn 3, .inr (.inr (.inr (.inr (bld (ad 3) (tn 3)))))))] : va_W) ++ simW (g 0) ad tn (simM tr od c)) s9.heap := hP
  have hl := lv_entry ([.ref sm, .int (nI k), .int (nI bp)]) (n := 4) (Nat.le_of_ble_eq_true rfl)
  rw [lg_entry_eq]
  generalize (lg_sl ([.ref sm, .int (nI k), .int (nI bp)]) ++ List.replicate (4 - (lg_sl ([.ref sm, .int (nI k), .int (nI bp)])).length) Slot.unset).toArray = ls at hl ⊢
  have hl : lv_has ls 4 [(0, .ref sm), (1, .int (nI k)), (2, .int (nI bp))] := hl
  change W p9 l9 e9 ({ frames := 0, cells := 0, slots := 0, locals := 0 } : Room) s9 m9 _ below9 meth9 c9 _ _ _ _ _ _
  have hN := hO.1; unfold CntS at hN
  refine lv_aload_n hx hb dX11_pleases_0 rfl (lv_at hl 0 rfl) ?_
  refine va_get (D := D) (ci := 9) (v := .ref (ob 0)) (C := RX11) (T := TX11) (N := 9) hx hb hts in_X11 hown hK hP 0 rfl rfl 4 (by decide) (hts _ w_1215) (fun _ h9 => h9) rfl dX11_pleases_1 ?_
  refine lv_aload_n hx hb dX11_pleases_4 rfl (lv_at hl 0 rfl) ?_
  refine va_get (D := D) (ci := 9) (v := .ref (ob 2)) (C := RX11) (T := TX11) (N := 9) hx hb hts in_X11 hown hK hP 0 rfl rfl 6 (by decide) (hts _ w_1219) (fun _ h9 => h9) rfl dX11_pleases_5 ?_
  refine lv_iload_n hx hb dX11_pleases_8 rfl (lv_at hl 1 rfl) ?_
  refine k_aldB (i := k) hx hb hK hP 2 rfl (by omega) (Nat.le_refl _) (by omega) dX11_pleases_9 ?_
  refine lv_iconst (v := 1) hx hb dX11_pleases_10 (by decide) ?_
  refine k_ldS (j := 2) (i := k) (q := 1) (v := c.1.2.2.2.1 k) hx hb hK hP (by decide) (by omega) (by decide) rfl dX11_pleases_11 ?_
  refine k_topi (show (c.1.2.2.2.1 k) = (nI e) from he) ?_
  refine k_aldB (i := e) hx hb hK hP 1 rfl he2 (Nat.le_refl _) (by omega) dX11_pleases_12 ?_
  refine lv_iconst (v := 0) hx hb dX11_pleases_13 (by decide) ?_
  refine k_ldS (j := 0) (i := e) (q := 0) (v := tr 0 e) hx hb hK hP (by decide) he2 (by decide) rfl dX11_pleases_14 ?_
  refine lv_aload_n hx hb dX11_pleases_15 rfl (lv_at hl 0 rfl) ?_
  refine va_get (D := D) (ci := 9) (v := .ref (ob 3)) (C := RX11) (T := TX11) (N := 9) hx hb hts in_X11 hown hK hP 0 rfl rfl 7 (by decide) (hts _ w_1221) (fun _ h9 => h9) rfl dX11_pleases_16 ?_
  refine lv_iload_n hx hb dX11_pleases_19 rfl (lv_at hl 2 rfl) ?_
  refine k_aldB (i := bp) hx hb hK hP 3 rfl hB (Nat.le_refl _) (by omega) dX11_pleases_20 ?_
  refine lv_iconst (v := 0) hx hb dX11_pleases_21 (by decide) ?_
  refine k_ldS (j := 3) (i := bp) (q := 0) (v := tr 6 bp) hx hb hK hP (by decide) hB (by decide) rfl dX11_pleases_22 ?_
  refine lv_isub hx hb dX11_pleases_23 ?_
  refine lv_istore_n (lv' := [(3, .int ((tr 0 e) - (tr 6 bp))), (0, .ref sm), (1, .int (nI k)), (2, .int (nI bp))]) hx hb dX11_pleases_24 rfl hl (by decide) rfl (fun ls hl => ?_)
  refine lv_aload_n hx hb dX11_pleases_25 rfl (lv_at hl 1 rfl) ?_
  refine va_get (D := D) (ci := 9) (v := .ref (ob 2)) (C := RX11) (T := TX11) (N := 9) hx hb hts in_X11 hown hK hP 0 rfl rfl 6 (by decide) (hts _ w_1219) (fun _ h9 => h9) rfl dX11_pleases_26 ?_
  refine lv_iload_n hx hb dX11_pleases_29 rfl (lv_at hl 2 rfl) ?_
  refine k_aldB (i := k) hx hb hK hP 2 rfl (by omega) (Nat.le_refl _) (by omega) dX11_pleases_30 ?_
  refine lv_iconst (v := 2) hx hb dX11_pleases_31 (by decide) ?_
  refine k_ldS (j := 2) (i := k) (q := 2) (v := c.1.2.2.2.2.1 k) hx hb hK hP (by decide) (by omega) (by decide) rfl dX11_pleases_32 ?_
  refine lv_iconst (v := 2) hx hb dX11_pleases_33 (by decide) ?_
  refine lv_iload_n hx hb dX11_pleases_34 rfl (lv_at hl 0 rfl) ?_
  refine lv_if_ge (tgt := 43) hx hb dX11_pleases_35 (by decide) (fun c_35 => ?_) (fun c_35 => ?_)
  · skip
    refine lv_iload_n hx hb dX11_pleases_43 rfl (lv_at hl 0 rfl) ?_
    refine lv_imul hx hb dX11_pleases_44 ?_
    refine lv_isub hx hb dX11_pleases_45 ?_
    have hr9 : ((c.1.2.2.2.2.1 k) - (2 * ((tr 0 e) - (tr 6 bp)))) = (fDel tr c.1.2.2.2.1 c.1.2.2.2.2.1 (nI bp) (nI k)) := by exact del_b (by omega) (by omega) (by omega) he (by first | exact ab_f (Int32.not_le.mp c_35) | exact ab_t (Int32.not_lt.mpr c_35))
    have hP9 : va_P D CLS (([(sm, .inr (9, [.int c.1.1, .int c.1.2.1, .int c.1.2.2.1, .int c.2.1, .ref (ob 0), .ref (ob 1), .ref (ob 2), .ref (ob 3), .ref (ob 4)])), (ob 0, .inl (g 4, tn 0, .inr (.inr (.inr (.inr (bld (ad 0) (tn 0))))))), (ob 2, .inl (g 4, tn 2, .inr (.inr (.inr (.inr (bld (ad 2) (tn 2))))))), (ob 3, .inl (g 4, tn 3, .inr (.inr (.inr (.inr (bld (ad 3) (tn 3)))))))] : va_W) ++ simW (g 0) ad tn (simM tr od c)) s9.heap := by exact va_P.part hP [0, 1, 2, 3] rfl
    have hD9 : va_D A (([(sm, .inr (9, [.int c.1.1, .int c.1.2.1, .int c.1.2.2.1, .int c.2.1, .ref (ob 0), .ref (ob 1), .ref (ob 2), .ref (ob 3), .ref (ob 4)])), (ob 0, .inl (g 4, tn 0, .inr (.inr (.inr (.inr (bld (ad 0) (tn 0))))))), (ob 2, .inl (g 4, tn 2, .inr (.inr (.inr (.inr (bld (ad 2) (tn 2))))))), (ob 3, .inl (g 4, tn 3, .inr (.inr (.inr (.inr (bld (ad 3) (tn 3)))))))] : va_W) ++ simW (g 0) ad tn (simM tr od c)) := by exact hD.part [0, 1, 2, 3] (by decide +kernel) rfl
    exact W.iret (v := ((c.1.2.2.2.2.1 k) - (2 * ((tr 0 e) - (tr 6 bp))))) hx hb hr (fun t9 ht9 hW9 => ⟨⟨((c.1.2.2.2.2.1 k) - (2 * ((tr 0 e) - (tr 6 bp)))), (), rfl, hr9, by rw [ht9]; exact hP9, va_K.moved hW9.alike hK, hD9⟩, hS.F ht9⟩) hS.2.2 dX11_pleases_46
  · skip
    refine lv_iload_n hx hb dX11_pleases_38 rfl (lv_at hl 0 rfl) ?_
    refine lv_ineg hx hb dX11_pleases_39 ?_
    refine lv_goto (tgt := 44) hx hb dX11_pleases_40 (by decide) ?_
    refine lv_imul hx hb dX11_pleases_44 ?_
    refine lv_isub hx hb dX11_pleases_45 ?_
    have hr9 : ((c.1.2.2.2.2.1 k) - (2 * (-((tr 0 e) - (tr 6 bp))))) = (fDel tr c.1.2.2.2.1 c.1.2.2.2.2.1 (nI bp) (nI k)) := by exact del_b (by omega) (by omega) (by omega) he (by first | exact ab_f (Int32.not_le.mp c_35) | exact ab_t (Int32.not_lt.mpr c_35))
    have hP9 : va_P D CLS (([(sm, .inr (9, [.int c.1.1, .int c.1.2.1, .int c.1.2.2.1, .int c.2.1, .ref (ob 0), .ref (ob 1), .ref (ob 2), .ref (ob 3), .ref (ob 4)])), (ob 0, .inl (g 4, tn 0, .inr (.inr (.inr (.inr (bld (ad 0) (tn 0))))))), (ob 2, .inl (g 4, tn 2, .inr (.inr (.inr (.inr (bld (ad 2) (tn 2))))))), (ob 3, .inl (g 4, tn 3, .inr (.inr (.inr (.inr (bld (ad 3) (tn 3)))))))] : va_W) ++ simW (g 0) ad tn (simM tr od c)) s9.heap := by exact va_P.part hP [0, 1, 2, 3] rfl
    have hD9 : va_D A (([(sm, .inr (9, [.int c.1.1, .int c.1.2.1, .int c.1.2.2.1, .int c.2.1, .ref (ob 0), .ref (ob 1), .ref (ob 2), .ref (ob 3), .ref (ob 4)])), (ob 0, .inl (g 4, tn 0, .inr (.inr (.inr (.inr (bld (ad 0) (tn 0))))))), (ob 2, .inl (g 4, tn 2, .inr (.inr (.inr (.inr (bld (ad 2) (tn 2))))))), (ob 3, .inl (g 4, tn 3, .inr (.inr (.inr (.inr (bld (ad 3) (tn 3)))))))] : va_W) ++ simW (g 0) ad tn (simM tr od c)) := by exact hD.part [0, 1, 2, 3] (by decide +kernel) rfl
    exact W.iret (v := ((c.1.2.2.2.2.1 k) - (2 * (-((tr 0 e) - (tr 6 bp)))))) hx hb hr (fun t9 ht9 hW9 => ⟨⟨((c.1.2.2.2.2.1 k) - (2 * (-((tr 0 e) - (tr 6 bp))))), (), rfl, hr9, by rw [ht9]; exact hP9, va_K.moved hW9.alike hK, hD9⟩, hS.F ht9⟩) hS.2.2 dX11_pleases_46
theorem dX11_bishop_0 : decode cX11_bishop 0 = .ok (.iconst (-1), 1) := by decide +kernel
theorem dX11_bishop_1 : decode cX11_bishop 1 = .ok (.istore_n 1, 1) := by decide +kernel
theorem dX11_bishop_2 : decode cX11_bishop 2 = .ok (.aload_n 0, 1) := by decide +kernel
theorem dX11_bishop_3 : decode cX11_bishop 3 = .ok (.getfield 25, 3) := by decide +kernel
theorem dX11_bishop_6 : decode cX11_bishop 6 = .ok (.arraylength, 1) := by decide +kernel
theorem dX11_bishop_7 : decode cX11_bishop 7 = .ok (.iconst 1, 1) := by decide +kernel
theorem dX11_bishop_8 : decode cX11_bishop 8 = .ok (.isub, 1) := by decide +kernel
theorem dX11_bishop_9 : decode cX11_bishop 9 = .ok (.istore_n 2, 1) := by decide +kernel
theorem dX11_bishop_10 : decode cX11_bishop 10 = .ok (.iload_n 2, 1) := by decide +kernel
theorem dX11_bishop_11 : decode cX11_bishop 11 = .ok (.ifCond .lt 49, 3) := by decide +kernel
theorem dX11_bishop_14 : decode cX11_bishop 14 = .ok (.aload_n 0, 1) := by decide +kernel
theorem dX11_bishop_15 : decode cX11_bishop 15 = .ok (.getfield 25, 3) := by decide +kernel
theorem dX11_bishop_18 : decode cX11_bishop 18 = .ok (.iload_n 2, 1) := by decide +kernel
theorem dX11_bishop_19 : decode cX11_bishop 19 = .ok (.aaload, 1) := by decide +kernel
theorem dX11_bishop_20 : decode cX11_bishop 20 = .ok (.iconst 1, 1) := by decide +kernel
theorem dX11_bishop_21 : decode cX11_bishop 21 = .ok (.iaload, 1) := by decide +kernel
theorem dX11_bishop_22 : decode cX11_bishop 22 = .ok (.aload_n 0, 1) := by decide +kernel
theorem dX11_bishop_23 : decode cX11_bishop 23 = .ok (.getfield 31, 3) := by decide +kernel
theorem dX11_bishop_26 : decode cX11_bishop 26 = .ok (.if_icmp .gt 28, 3) := by decide +kernel
theorem dX11_bishop_29 : decode cX11_bishop 29 = .ok (.iload_n 1, 1) := by decide +kernel
theorem dX11_bishop_30 : decode cX11_bishop 30 = .ok (.ifCond .lt 22, 3) := by decide +kernel
theorem dX11_bishop_33 : decode cX11_bishop 33 = .ok (.aload_n 0, 1) := by decide +kernel
theorem dX11_bishop_34 : decode cX11_bishop 34 = .ok (.getfield 25, 3) := by decide +kernel
theorem dX11_bishop_37 : decode cX11_bishop 37 = .ok (.iload_n 2, 1) := by decide +kernel
theorem dX11_bishop_38 : decode cX11_bishop 38 = .ok (.aaload, 1) := by decide +kernel
theorem dX11_bishop_39 : decode cX11_bishop 39 = .ok (.iconst 1, 1) := by decide +kernel
theorem dX11_bishop_40 : decode cX11_bishop 40 = .ok (.iaload, 1) := by decide +kernel
theorem dX11_bishop_41 : decode cX11_bishop 41 = .ok (.aload_n 0, 1) := by decide +kernel
theorem dX11_bishop_42 : decode cX11_bishop 42 = .ok (.getfield 25, 3) := by decide +kernel
theorem dX11_bishop_45 : decode cX11_bishop 45 = .ok (.iload_n 1, 1) := by decide +kernel
theorem dX11_bishop_46 : decode cX11_bishop 46 = .ok (.aaload, 1) := by decide +kernel
theorem dX11_bishop_47 : decode cX11_bishop 47 = .ok (.iconst 1, 1) := by decide +kernel
theorem dX11_bishop_48 : decode cX11_bishop 48 = .ok (.iaload, 1) := by decide +kernel
theorem dX11_bishop_49 : decode cX11_bishop 49 = .ok (.if_icmp .le 5, 3) := by decide +kernel
theorem dX11_bishop_52 : decode cX11_bishop 52 = .ok (.iload_n 2, 1) := by decide +kernel
theorem dX11_bishop_53 : decode cX11_bishop 53 = .ok (.istore_n 1, 1) := by decide +kernel
theorem dX11_bishop_54 : decode cX11_bishop 54 = .ok (.iinc 2 (-1), 3) := by decide +kernel
theorem dX11_bishop_57 : decode cX11_bishop 57 = .ok (.goto (-47), 3) := by decide +kernel
theorem dX11_bishop_60 : decode cX11_bishop 60 = .ok (.iload_n 1, 1) := by decide +kernel
theorem dX11_bishop_61 : decode cX11_bishop 61 = .ok (.ireturn, 1) := by decide +kernel
set_option maxHeartbeats 4000000 in
set_option maxRecDepth 100000 in
/-- Sim.bishop -/
theorem c_X11_bishop (l9 : Launch) (z : Nat → Nat) (D : va_G) (g : Nat → ClassId) (sm : Nat) (ob : Nat → Nat) (ad : Nat → Nat → Nat) (tn : Nat → Nat) (tr : Nat → Nat → Int32) (od : Nat → Nat → Nat) (c : CS) (dd : Nat) (m : Nat) (hO : SOKs tn tr od) (hC : CIn tn c dd m) (sz : Nat) : Met l9 yX11_bishop (WS yX11_bishop cX11_bishop 3 (some .int)) ({ frames := 0, cells := 0, slots := 0, locals := 0 }) (va_Pc [.ref sm] (kPre z D g (([(sm, .inr (9, [.int c.1.1, .int c.1.2.1, .int c.1.2.2.1, .int c.2.1, .ref (ob 0), .ref (ob 1), .ref (ob 2), .ref (ob 3), .ref (ob 4)])), (ob 3, .inl (g 4, tn 3, .inr (.inr (.inr (.inr (bld (ad 3) (tn 3)))))))] : va_W) ++ simW (g 0) ad tn (simM tr od c)) sz)) (va_Qi (fun (r9 : Int32) (u9 : Unit) => r9 = fBsp tr c.1.1 (tn 3)) (kB D g (va_A (([(sm, .inr (9, [.int c.1.1, .int c.1.2.1, .int c.1.2.2.1, .int c.2.1, .ref (ob 0), .ref (ob 1), .ref (ob 2), .ref (ob 3), .ref (ob 4)])), (ob 3, .inl (g 4, tn 3, .inr (.inr (.inr (.inr (bld (ad 3) (tn 3)))))))] : va_W) ++ simW (g 0) ad tn (simM tr od c)) sz) (fun (u9 : Unit) => (([(sm, .inr (9, [.int c.1.1, .int c.1.2.1, .int c.1.2.2.1, .int c.2.1, .ref (ob 0), .ref (ob 1), .ref (ob 2), .ref (ob 3), .ref (ob 4)])), (ob 3, .inl (g 4, tn 3, .inr (.inr (.inr (.inr (bld (ad 3) (tn 3)))))))] : va_W) ++ simW (g 0) ad tn (simM tr od c)))) (va_A (([(sm, .inr (9, [.int c.1.1, .int c.1.2.1, .int c.1.2.2.1, .int c.2.1, .ref (ob 0), .ref (ob 1), .ref (ob 2), .ref (ob 3), .ref (ob 4)])), (ob 3, .inl (g 4, tn 3, .inr (.inr (.inr (.inr (bld (ad 3) (tn 3)))))))] : va_W) ++ simW (g 0) ad tn (simM tr od c)) sz)) 0 0 (va_A (([(sm, .inr (9, [.int c.1.1, .int c.1.2.1, .int c.1.2.2.1, .int c.2.1, .ref (ob 0), .ref (ob 1), .ref (ob 2), .ref (ob 3), .ref (ob 4)])), (ob 3, .inl (g 4, tn 3, .inr (.inr (.inr (.inr (bld (ad 3) (tn 3)))))))] : va_W) ++ simW (g 0) ad tn (simM tr od c)) sz) := by
  refine Met.ofW (cc := cX11_bishop) (maxL := 3) (ret := (some .int)) (by decide) rfl ?_
  intro p9 e9 s9 m9 args9 below9 meth9 c9 s₁ B hml hv
  obtain ⟨rfl, hsz, hP, hK, hD0, hZ⟩ := hv
  have hx := B.exec
  have hb := B.bytes
  have hr := B.returns
  have hts := ws_sub (atoms_spec (ws := WS yX11_bishop cX11_bishop 3 (some .int)) B.pre)
  have hown : s9.vm.findClass RX11 = some m9.cls := findClass_of_methodNamed B.named
  have hlocks := B.notSynchronized
  subst hsz
  have hD := hD0.self (sz := s9.heap.size)
  generalize hAe : va_A (([(sm, .inr (9, [.int c.1.1, .int c.1.2.1, .int c.1.2.2.1, .int c.2.1, .ref (ob 0), .ref (ob 1), .ref (ob 2), .ref (ob 3), .ref (ob 4)])), (ob 3, .inl (g 4, tn 3, .inr (.inr (.inr (.inr (bld (ad 3) (tn 3)))))))] : va_W) ++ simW (g 0) ad tn (simM tr od c)) s9.heap.size = A at hD hZ ⊢
  have hA : ∀ q : Nat, s9.heap.size ≤ q → A q := fun q h => by rw [← hAe]; exact Or.inr h
  have hS : va_S A s9.heap s9.heap [] := va_S.rf
  have hP : va_P D CLS (([(sm, .inr (9, [.int c.1.1, .int c.1.2.1, .int c.1.2.2.1, .int c.2.1, .ref (ob 0), .ref (ob 1), .ref (ob 2), .ref (ob 3), .ref (ob 4)])), (ob 3, .inl (g 4, tn 3, .inr (.inr (.inr (.inr (bld (ad 3) (tn 3)))))))] : va_W) ++ simW (g 0) ad tn (simM tr od c)) s9.heap := hP
  have hl := lv_entry ([.ref sm]) (n := 3) (Nat.le_of_ble_eq_true rfl)
  rw [lg_entry_eq]
  generalize (lg_sl ([.ref sm]) ++ List.replicate (3 - (lg_sl ([.ref sm])).length) Slot.unset).toArray = ls at hl ⊢
  have hl : lv_has ls 3 [(0, .ref sm)] := hl
  change W p9 l9 e9 ({ frames := 0, cells := 0, slots := 0, locals := 0 } : Room) s9 m9 _ below9 meth9 c9 _ _ _ _ _ _
  have hN := hO.1; unfold CntS at hN
  refine lv_iconst (v := (-1)) hx hb dX11_bishop_0 (by decide) ?_
  refine lv_istore_n (lv' := [(1, .int (-1)), (0, .ref sm)]) hx hb dX11_bishop_1 rfl hl (by decide) rfl (fun ls hl => ?_)
  refine lv_aload_n hx hb dX11_bishop_2 rfl (lv_at hl 1 rfl) ?_
  refine va_get (D := D) (ci := 9) (v := .ref (ob 3)) (C := RX11) (T := TX11) (N := 9) hx hb hts in_X11 hown hK hP 0 rfl rfl 7 (by decide) (hts _ w_1221) (fun _ h9 => h9) rfl dX11_bishop_3 ?_
  refine va_alen (v := nI (tn 3)) hx hb hK hP 1 4 rfl rfl rfl dX11_bishop_6 ?_
  refine lv_iconst (v := 1) hx hb dX11_bishop_7 (by decide) ?_
  refine lv_isub hx hb dX11_bishop_8 ?_
  refine k_topi (show ((nI (tn 3)) - 1) = (nI (tn 3) + (-1)) from sub_m1) ?_
  refine lv_istore_n (lv' := [(2, .int (nI (tn 3) + (-1))), (1, .int (-1)), (0, .ref sm)]) hx hb dX11_bishop_9 rfl hl (by decide) rfl (fun ls hl => ?_)
  have loop_10 : ∀ (n9 : Nat) (i : Nat) (x : Int32), n9 > i → (i ≤ tn 3) → (BI (tr 7) c.1.1 i (tn 3) x) → ∀ (H : Heap) (locs : List Loc), va_P D CLS (([(sm, .inr (9, [.int c.1.1, .int c.1.2.1, .int c.1.2.2.1, .int c.2.1, .ref (ob 0), .ref (ob 1), .ref (ob 2), .ref (ob 3), .ref (ob 4)])), (ob 3, .inl (g 4, tn 3, .inr (.inr (.inr (.inr (bld (ad 3) (tn 3)))))))] : va_W) ++ simW (g 0) ad tn (simM tr od c)) H → va_D A (([(sm, .inr (9, [.int c.1.1, .int c.1.2.1, .int c.1.2.2.1, .int c.2.1, .ref (ob 0), .ref (ob 1), .ref (ob 2), .ref (ob 3), .ref (ob 4)])), (ob 3, .inl (g 4, tn 3, .inr (.inr (.inr (.inr (bld (ad 3) (tn 3)))))))] : va_W) ++ simW (g 0) ad tn (simM tr od c)) → va_S A s9.heap H locs → ∀ (ls : Array Slot), lv_has ls 3 [(0, .ref sm), (1, .int x), (2, .int (nI i + (-1)))] → W p9 l9 e9 ({ frames := 0, cells := 0, slots := 0, locals := 0 } : Room) s9 m9 ([.ref sm] : List Value).toArray below9 meth9 c9 H locs 0 0 (MQ below9 (va_Qi (fun (r9 : Int32) (u9 : Unit) => r9 = fBsp tr c.1.1 (tn 3)) (kB D g A (fun (u9 : Unit) => (([(sm, .inr (9, [.int c.1.1, .int c.1.2.1, .int c.1.2.2.1, .int c.2.1, .ref (ob 0), .ref (ob 1), .ref (ob 2), .ref (ob 3), .ref (ob 4)])), (ob 3, .inl (g 4, tn 3, .inr (.inr (.inr (.inr (bld (ad 3) (tn 3)))))))] : va_W) ++ simW (g 0) ad tn (simM tr od c)))) A) ([.ref sm] : List Value).toArray s9 0 0 A) (F0 m9 10 ls []) := by
    intro n9
    induction n9 with
    | zero => intro i x hm9; exact absurd hm9 (by omega)
    | succ n9 ih_10 =>
      intro i x hm9 hi hF H locs hP hD hS ls hl
      refine lv_iload_n hx hb dX11_bishop_10 rfl (lv_at hl 2 rfl) ?_
      refine lv_if_lt (tgt := 60) hx hb dX11_bishop_11 (by decide) (fun c_11 => ?_) (fun c_11 => ?_)
      · skip
        have c_11 : i = 0 := (dn_lt c_11).resolve_right (by omega)
        refine lv_iload_n hx hb dX11_bishop_60 rfl (lv_at hl 1 rfl) ?_
        have hr9 : x = (fBsp tr c.1.1 (tn 3)) := by subst c_11; exact BI_e (by omega) hF
        have hP9 : va_P D CLS (([(sm, .inr (9, [.int c.1.1, .int c.1.2.1, .int c.1.2.2.1, .int c.2.1, .ref (ob 0), .ref (ob 1), .ref (ob 2), .ref (ob 3), .ref (ob 4)])), (ob 3, .inl (g 4, tn 3, .inr (.inr (.inr (.inr (bld (ad 3) (tn 3)))))))] : va_W) ++ simW (g 0) ad tn (simM tr od c)) H := by exact va_P.part hP [0, 1] rfl
        have hD9 : va_D A (([(sm, .inr (9, [.int c.1.1, .int c.1.2.1, .int c.1.2.2.1, .int c.2.1, .ref (ob 0), .ref (ob 1), .ref (ob 2), .ref (ob 3), .ref (ob 4)])), (ob 3, .inl (g 4, tn 3, .inr (.inr (.inr (.inr (bld (ad 3) (tn 3)))))))] : va_W) ++ simW (g 0) ad tn (simM tr od c)) := by exact hD.part [0, 1] (by decide +kernel) rfl
        exact W.iret (v := x) hx hb hr (fun t9 ht9 hW9 => ⟨⟨x, (), rfl, hr9, by rw [ht9]; exact hP9, va_K.moved hW9.alike hK, hD9⟩, hS.F ht9⟩) hS.2.2 dX11_bishop_61
      · skip
        have c_11 := dn_ge c_11
        rw [dn_eq c_11] at hl
        refine lv_aload_n hx hb dX11_bishop_14 rfl (lv_at hl 0 rfl) ?_
        refine va_get (D := D) (ci := 9) (v := .ref (ob 3)) (C := RX11) (T := TX11) (N := 9) hx hb hts in_X11 hown hK hP 0 rfl rfl 7 (by decide) (hts _ w_1221) (fun _ h9 => h9) rfl dX11_bishop_15 ?_
        refine lv_iload_n hx hb dX11_bishop_18 rfl (lv_at hl 2 rfl) ?_
        refine k_aldB (i := i - 1) hx hb hK hP 1 rfl (by omega) (Nat.le_refl _) (by omega) dX11_bishop_19 ?_
        refine lv_iconst (v := 1) hx hb dX11_bishop_20 (by decide) ?_
        refine k_ldS (j := 3) (i := (i - 1)) (q := 1) (v := tr 7 (i - 1)) hx hb hK hP (by decide) (by omega) (by decide) rfl dX11_bishop_21 ?_
        refine lv_aload_n hx hb dX11_bishop_22 rfl (lv_at hl 0 rfl) ?_
        refine va_get (D := D) (ci := 9) (v := .int c.1.1) (C := RX11) (T := TX11) (N := 9) hx hb hts in_X11 hown hK hP 0 rfl rfl 0 (by decide) (hts _ w_1208) (fun _ h9 => h9) rfl dX11_bishop_23 ?_
        refine lv_icmp_gt (tgt := 54) hx hb dX11_bishop_26 (by decide) (fun c_26 => ?_) (fun c_26 => ?_)
        · skip
          refine lv_iinc (v := (nI (i - 1)) + (-1)) (lv' := [(2, .int ((nI (i - 1)) + (-1))), (0, .ref sm), (1, .int x)]) hx hb dX11_bishop_54 hl (k := 2) rfl rfl (by decide) rfl (fun ls hl => ?_)
          refine lv_goto (tgt := 10) hx hb dX11_bishop_57 (by decide) ?_
          exact ih_10  (i - 1) x (by omega) (by omega) (by first | exact BI_a c_11 c_26 hF | exact BI_b c_11 (by omega) (Int32.not_lt.mp c_26) c_30 (by omega) hF | exact BI_c c_11 (by omega) (Int32.not_lt.mp c_26) hy1 hy2 (by omega) c_49 hF | exact BI_d c_11 hy1 hy2 (by omega) c_49 hF) _ _ (va_P.part hP [0, 1] rfl) (hD.part [0, 1] (by decide +kernel) rfl) hS ls (lv_sub hl [1, 2, 0] rfl)
        · skip
          refine lv_iload_n hx hb dX11_bishop_29 rfl (lv_at hl 1 rfl) ?_
          refine lv_if_lt (tgt := 52) hx hb dX11_bishop_30 (by decide) (fun c_30 => ?_) (fun c_30 => ?_)
          · skip
            refine lv_iload_n hx hb dX11_bishop_52 rfl (lv_at hl 2 rfl) ?_
            refine lv_istore_n (lv' := [(1, .int (nI (i - 1))), (0, .ref sm), (2, .int (nI (i - 1)))]) hx hb dX11_bishop_53 rfl hl (by decide) rfl (fun ls hl => ?_)
            refine lv_iinc (v := (nI (i - 1)) + (-1)) (lv' := [(2, .int ((nI (i - 1)) + (-1))), (1, .int (nI (i - 1))), (0, .ref sm)]) hx hb dX11_bishop_54 hl (k := 2) rfl rfl (by decide) rfl (fun ls hl => ?_)
            refine lv_goto (tgt := 10) hx hb dX11_bishop_57 (by decide) ?_
            exact ih_10  (i - 1) (nI (i - 1)) (by omega) (by omega) (by first | exact BI_a c_11 c_26 hF | exact BI_b c_11 (by omega) (Int32.not_lt.mp c_26) c_30 (by omega) hF | exact BI_c c_11 (by omega) (Int32.not_lt.mp c_26) hy1 hy2 (by omega) c_49 hF | exact BI_d c_11 hy1 hy2 (by omega) c_49 hF) _ _ (va_P.part hP [0, 1] rfl) (hD.part [0, 1] (by decide +kernel) rfl) hS ls (lv_sub hl [2, 1, 0] rfl)
          · skip
            obtain ⟨y, hy2, hy1⟩ := (BI_x hF).resolve_left (fun q => c_30 (by rw [q]; decide))
            rw [hy1] at hl
            refine lv_aload_n hx hb dX11_bishop_33 rfl (lv_at hl 0 rfl) ?_
            refine va_get (D := D) (ci := 9) (v := .ref (ob 3)) (C := RX11) (T := TX11) (N := 9) hx hb hts in_X11 hown hK hP 0 rfl rfl 7 (by decide) (hts _ w_1221) (fun _ h9 => h9) rfl dX11_bishop_34 ?_
            refine lv_iload_n hx hb dX11_bishop_37 rfl (lv_at hl 2 rfl) ?_
            refine k_aldB (i := i - 1) hx hb hK hP 1 rfl (by omega) (Nat.le_refl _) (by omega) dX11_bishop_38 ?_
            refine lv_iconst (v := 1) hx hb dX11_bishop_39 (by decide) ?_
            refine k_ldS (j := 3) (i := (i - 1)) (q := 1) (v := tr 7 (i - 1)) hx hb hK hP (by decide) (by omega) (by decide) rfl dX11_bishop_40 ?_
            refine lv_aload_n hx hb dX11_bishop_41 rfl (lv_at hl 0 rfl) ?_
            refine va_get (D := D) (ci := 9) (v := .ref (ob 3)) (C := RX11) (T := TX11) (N := 9) hx hb hts in_X11 hown hK hP 0 rfl rfl 7 (by decide) (hts _ w_1221) (fun _ h9 => h9) rfl dX11_bishop_42 ?_
            refine lv_iload_n hx hb dX11_bishop_45 rfl (lv_at hl 1 rfl) ?_
            refine k_aldB (i := y) hx hb hK hP 1 rfl (by omega) (Nat.le_refl _) (by omega) dX11_bishop_46 ?_
            refine lv_iconst (v := 1) hx hb dX11_bishop_47 (by decide) ?_
            refine k_ldS (j := 3) (i := y) (q := 1) (v := tr 7 y) hx hb hK hP (by decide) (by omega) (by decide) rfl dX11_bishop_48 ?_
            refine lv_icmp_le (tgt := 54) hx hb dX11_bishop_49 (by decide) (fun c_49 => ?_) (fun c_49 => ?_)
            · skip
              refine lv_iinc (v := (nI (i - 1)) + (-1)) (lv' := [(2, .int ((nI (i - 1)) + (-1))), (0, .ref sm), (1, .int (nI y))]) hx hb dX11_bishop_54 hl (k := 2) rfl rfl (by decide) rfl (fun ls hl => ?_)
              refine lv_goto (tgt := 10) hx hb dX11_bishop_57 (by decide) ?_
              exact ih_10  (i - 1) (nI y) (by omega) (by omega) (by first | exact BI_a c_11 c_26 hF | exact BI_b c_11 (by omega) (Int32.not_lt.mp c_26) c_30 (by omega) hF | exact BI_c c_11 (by omega) (Int32.not_lt.mp c_26) hy1 hy2 (by omega) c_49 hF | exact BI_d c_11 hy1 hy2 (by omega) c_49 hF) _ _ (va_P.part hP [0, 1] rfl) (hD.part [0, 1] (by decide +kernel) rfl) hS ls (lv_sub hl [1, 2, 0] rfl)
            · skip
              refine lv_iload_n hx hb dX11_bishop_52 rfl (lv_at hl 2 rfl) ?_
              refine lv_istore_n (lv' := [(1, .int (nI (i - 1))), (0, .ref sm), (2, .int (nI (i - 1)))]) hx hb dX11_bishop_53 rfl hl (by decide) rfl (fun ls hl => ?_)
              refine lv_iinc (v := (nI (i - 1)) + (-1)) (lv' := [(2, .int ((nI (i - 1)) + (-1))), (1, .int (nI (i - 1))), (0, .ref sm)]) hx hb dX11_bishop_54 hl (k := 2) rfl rfl (by decide) rfl (fun ls hl => ?_)
              refine lv_goto (tgt := 10) hx hb dX11_bishop_57 (by decide) ?_
              exact ih_10  (i - 1) (nI (i - 1)) (by omega) (by omega) (by first | exact BI_a c_11 c_26 hF | exact BI_b c_11 (by omega) (Int32.not_lt.mp c_26) c_30 (by omega) hF | exact BI_c c_11 (by omega) (Int32.not_lt.mp c_26) hy1 hy2 (by omega) c_49 hF | exact BI_d c_11 hy1 hy2 (by omega) c_49 hF) _ _ (va_P.part hP [0, 1] rfl) (hD.part [0, 1] (by decide +kernel) rfl) hS ls (lv_sub hl [2, 1, 0] rfl)
  exact loop_10 (tn 3 + 1) (tn 3) (-1) (by omega) (Nat.le_refl _) BI_0 _ _ (va_P.part hP [0, 1] rfl) (hD.part [0, 1] (by decide +kernel) rfl) hS ls (lv_sub hl [2, 1, 0] rfl)
theorem dX11_pleasure_0 : decode cX11_pleasure 0 = .ok (.iconst 0, 1) := by decide +kernel
theorem dX11_pleasure_1 : decode cX11_pleasure 1 = .ok (.istore_n 2, 1) := by decide +kernel
theorem dX11_pleasure_2 : decode cX11_pleasure 2 = .ok (.iconst 0, 1) := by decide +kernel
theorem dX11_pleasure_3 : decode cX11_pleasure 3 = .ok (.istore_n 3, 1) := by decide +kernel
theorem dX11_pleasure_4 : decode cX11_pleasure 4 = .ok (.iload_n 3, 1) := by decide +kernel
theorem dX11_pleasure_5 : decode cX11_pleasure 5 = .ok (.aload_n 0, 1) := by decide +kernel
theorem dX11_pleasure_6 : decode cX11_pleasure 6 = .ok (.getfield 22, 3) := by decide +kernel
theorem dX11_pleasure_9 : decode cX11_pleasure 9 = .ok (.arraylength, 1) := by decide +kernel
theorem dX11_pleasure_10 : decode cX11_pleasure 10 = .ok (.if_icmp .ge 47, 3) := by decide +kernel
theorem dX11_pleasure_13 : decode cX11_pleasure 13 = .ok (.iload_n 2, 1) := by decide +kernel
theorem dX11_pleasure_14 : decode cX11_pleasure 14 = .ok (.aload_n 0, 1) := by decide +kernel
theorem dX11_pleasure_15 : decode cX11_pleasure 15 = .ok (.getfield 22, 3) := by decide +kernel
theorem dX11_pleasure_18 : decode cX11_pleasure 18 = .ok (.iload_n 3, 1) := by decide +kernel
theorem dX11_pleasure_19 : decode cX11_pleasure 19 = .ok (.aaload, 1) := by decide +kernel
theorem dX11_pleasure_20 : decode cX11_pleasure 20 = .ok (.iconst 1, 1) := by decide +kernel
theorem dX11_pleasure_21 : decode cX11_pleasure 21 = .ok (.iaload, 1) := by decide +kernel
theorem dX11_pleasure_22 : decode cX11_pleasure 22 = .ok (.ifCond .ge 7, 3) := by decide +kernel
theorem dX11_pleasure_25 : decode cX11_pleasure 25 = .ok (.iconst 0, 1) := by decide +kernel
theorem dX11_pleasure_26 : decode cX11_pleasure 26 = .ok (.goto 9, 3) := by decide +kernel
theorem dX11_pleasure_29 : decode cX11_pleasure 29 = .ok (.aload_n 0, 1) := by decide +kernel
theorem dX11_pleasure_30 : decode cX11_pleasure 30 = .ok (.iload_n 3, 1) := by decide +kernel
theorem dX11_pleasure_31 : decode cX11_pleasure 31 = .ok (.iload_n 1, 1) := by decide +kernel
theorem dX11_pleasure_32 : decode cX11_pleasure 32 = .ok (.invokevirtual 53, 3) := by decide +kernel
theorem dX11_pleasure_35 : decode cX11_pleasure 35 = .ok (.aload_n 0, 1) := by decide +kernel
theorem dX11_pleasure_36 : decode cX11_pleasure 36 = .ok (.iload_n 3, 1) := by decide +kernel
theorem dX11_pleasure_37 : decode cX11_pleasure 37 = .ok (.invokevirtual 56, 3) := by decide +kernel
theorem dX11_pleasure_40 : decode cX11_pleasure 40 = .ok (.ifCond .eq 7, 3) := by decide +kernel
theorem dX11_pleasure_43 : decode cX11_pleasure 43 = .ok (.iconst 3, 1) := by decide +kernel
theorem dX11_pleasure_44 : decode cX11_pleasure 44 = .ok (.goto 4, 3) := by decide +kernel
theorem dX11_pleasure_47 : decode cX11_pleasure 47 = .ok (.iconst 0, 1) := by decide +kernel
theorem dX11_pleasure_48 : decode cX11_pleasure 48 = .ok (.isub, 1) := by decide +kernel
theorem dX11_pleasure_49 : decode cX11_pleasure 49 = .ok (.iadd, 1) := by decide +kernel
theorem dX11_pleasure_50 : decode cX11_pleasure 50 = .ok (.istore_n 2, 1) := by decide +kernel
theorem dX11_pleasure_51 : decode cX11_pleasure 51 = .ok (.iinc 3 1, 3) := by decide +kernel
theorem dX11_pleasure_54 : decode cX11_pleasure 54 = .ok (.goto (-50), 3) := by decide +kernel
theorem dX11_pleasure_57 : decode cX11_pleasure 57 = .ok (.iload_n 2, 1) := by decide +kernel
theorem dX11_pleasure_58 : decode cX11_pleasure 58 = .ok (.ireturn, 1) := by decide +kernel
set_option maxHeartbeats 4000000 in
set_option maxRecDepth 100000 in
/-- Sim.pleasure -/
theorem c_X11_pleasure (l9 : Launch) (z : Nat → Nat) (D : va_G) (g : Nat → ClassId) (sm : Nat) (ob : Nat → Nat) (ad : Nat → Nat → Nat) (tn : Nat → Nat) (tr : Nat → Nat → Int32) (od : Nat → Nat → Nat) (c : CS) (dd : Nat) (m : Nat) (bp : Nat) (hO : SOKs tn tr od) (hC : CIn tn c dd m) (hB : bp < tn 3) (sz : Nat) : Met l9 yX11_pleasure (WS yX11_pleasure cX11_pleasure 4 (some .int)) ({ frames := 1, cells := 0, slots := 0, locals := 23 }) (va_Pc [.ref sm, .int (nI bp)] (kPre z D g (([(sm, .inr (9, [.int c.1.1, .int c.1.2.1, .int c.1.2.2.1, .int c.2.1, .ref (ob 0), .ref (ob 1), .ref (ob 2), .ref (ob 3), .ref (ob 4)])), (ob 0, .inl (g 4, tn 0, .inr (.inr (.inr (.inr (bld (ad 0) (tn 0))))))), (ob 2, .inl (g 4, tn 2, .inr (.inr (.inr (.inr (bld (ad 2) (tn 2))))))), (ob 3, .inl (g 4, tn 3, .inr (.inr (.inr (.inr (bld (ad 3) (tn 3)))))))] : va_W) ++ simW (g 0) ad tn (simM tr od c)) sz)) (va_Qi (fun (r9 : Int32) (u9 : Unit) => r9 = fPleas tr c.1.2.2.2.1 c.1.2.2.2.2.1 c.1.2.2.2.2.2.2 (nI bp) (tn 2)) (kB D g (va_A (([(sm, .inr (9, [.int c.1.1, .int c.1.2.1, .int c.1.2.2.1, .int c.2.1, .ref (ob 0), .ref (ob 1), .ref (ob 2), .ref (ob 3), .ref (ob 4)])), (ob 0, .inl (g 4, tn 0, .inr (.inr (.inr (.inr (bld (ad 0) (tn 0))))))), (ob 2, .inl (g 4, tn 2, .inr (.inr (.inr (.inr (bld (ad 2) (tn 2))))))), (ob 3, .inl (g 4, tn 3, .inr (.inr (.inr (.inr (bld (ad 3) (tn 3)))))))] : va_W) ++ simW (g 0) ad tn (simM tr od c)) sz) (fun (u9 : Unit) => (([(sm, .inr (9, [.int c.1.1, .int c.1.2.1, .int c.1.2.2.1, .int c.2.1, .ref (ob 0), .ref (ob 1), .ref (ob 2), .ref (ob 3), .ref (ob 4)])), (ob 0, .inl (g 4, tn 0, .inr (.inr (.inr (.inr (bld (ad 0) (tn 0))))))), (ob 2, .inl (g 4, tn 2, .inr (.inr (.inr (.inr (bld (ad 2) (tn 2))))))), (ob 3, .inl (g 4, tn 3, .inr (.inr (.inr (.inr (bld (ad 3) (tn 3)))))))] : va_W) ++ simW (g 0) ad tn (simM tr od c)))) (va_A (([(sm, .inr (9, [.int c.1.1, .int c.1.2.1, .int c.1.2.2.1, .int c.2.1, .ref (ob 0), .ref (ob 1), .ref (ob 2), .ref (ob 3), .ref (ob 4)])), (ob 0, .inl (g 4, tn 0, .inr (.inr (.inr (.inr (bld (ad 0) (tn 0))))))), (ob 2, .inl (g 4, tn 2, .inr (.inr (.inr (.inr (bld (ad 2) (tn 2))))))), (ob 3, .inl (g 4, tn 3, .inr (.inr (.inr (.inr (bld (ad 3) (tn 3)))))))] : va_W) ++ simW (g 0) ad tn (simM tr od c)) sz)) 0 0 (va_A (([(sm, .inr (9, [.int c.1.1, .int c.1.2.1, .int c.1.2.2.1, .int c.2.1, .ref (ob 0), .ref (ob 1), .ref (ob 2), .ref (ob 3), .ref (ob 4)])), (ob 0, .inl (g 4, tn 0, .inr (.inr (.inr (.inr (bld (ad 0) (tn 0))))))), (ob 2, .inl (g 4, tn 2, .inr (.inr (.inr (.inr (bld (ad 2) (tn 2))))))), (ob 3, .inl (g 4, tn 3, .inr (.inr (.inr (.inr (bld (ad 3) (tn 3)))))))] : va_W) ++ simW (g 0) ad tn (simM tr od c)) sz) := by
  refine Met.ofW (cc := cX11_pleasure) (maxL := 4) (ret := (some .int)) (by decide) rfl ?_
  intro p9 e9 s9 m9 args9 below9 meth9 c9 s₁ B hml hv
  obtain ⟨rfl, hsz, hP, hK, hD0, hZ⟩ := hv
  have hx := B.exec
  have hb := B.bytes
  have hr := B.returns
  have hts := ws_sub (atoms_spec (ws := WS yX11_pleasure cX11_pleasure 4 (some .int)) B.pre)
  have hown : s9.vm.findClass RX11 = some m9.cls := findClass_of_methodNamed B.named
  have hlocks := B.notSynchronized
  subst hsz
  have hD := hD0.self (sz := s9.heap.size)
  generalize hAe : va_A (([(sm, .inr (9, [.int c.1.1, .int c.1.2.1, .int c.1.2.2.1, .int c.2.1, .ref (ob 0), .ref (ob 1), .ref (ob 2), .ref (ob 3), .ref (ob 4)])), (ob 0, .inl (g 4, tn 0, .inr (.inr (.inr (.inr (bld (ad 0) (tn 0))))))), (ob 2, .inl (g 4, tn 2, .inr (.inr (.inr (.inr (bld (ad 2) (tn 2))))))), (ob 3, .inl (g 4, tn 3, .inr (.inr (.inr (.inr (bld (ad 3) (tn 3)))))))] : va_W) ++ simW (g 0) ad tn (simM tr od c)) s9.heap.size = A at hD hZ ⊢
  have hA : ∀ q : Nat, s9.heap.size ≤ q → A q := fun q h => by rw [← hAe]; exact Or.inr h
  have hS : va_S A s9.heap s9.heap [] := va_S.rf
  have hP : va_P D CLS (([(sm, .inr (9, [.int c.1.1, .int c.1.2.1, .int c.1.2.2.1, .int c.2.1, .ref (ob 0), .ref (ob 1), .ref (ob 2), .ref (ob 3), .ref (ob 4)])), (ob 0, .inl (g 4, tn 0, .inr (.inr (.inr (.inr (bld (ad 0) (tn 0))))))), (ob 2, .inl (g 4, tn 2, .inr (.inr (.inr (.inr (bld (ad 2) (tn 2))))))), (ob 3, .inl (g 4, tn 3, .inr (.inr (.inr (.inr (bld (ad 3) (tn 3)))))))] : va_W) ++ simW (g 0) ad tn (simM tr od c)) s9.heap := hP
  have hl := lv_entry ([.ref sm, .int (nI bp)]) (n := 4) (Nat.le_of_ble_eq_true rfl)
  rw [lg_entry_eq]
  generalize (lg_sl ([.ref sm, .int (nI bp)]) ++ List.replicate (4 - (lg_sl ([.ref sm, .int (nI bp)])).length) Slot.unset).toArray = ls at hl ⊢
  have hl : lv_has ls 4 [(0, .ref sm), (1, .int (nI bp))] := hl
  change W p9 l9 e9 ({ frames := 1, cells := 0, slots := 0, locals := 23 } : Room) s9 m9 _ below9 meth9 c9 _ _ _ _ _ _
  have hN := hO.1; unfold CntS at hN
  refine lv_iconst (v := 0) hx hb dX11_pleasure_0 (by decide) ?_
  refine lv_istore_n (lv' := [(2, .int 0), (0, .ref sm), (1, .int (nI bp))]) hx hb dX11_pleasure_1 rfl hl (by decide) rfl (fun ls hl => ?_)
  refine lv_iconst (v := 0) hx hb dX11_pleasure_2 (by decide) ?_
  refine lv_istore_n (lv' := [(3, .int 0), (2, .int 0), (0, .ref sm), (1, .int (nI bp))]) hx hb dX11_pleasure_3 rfl hl (by decide) rfl (fun ls hl => ?_)
  have loop_4 : ∀ (n9 : Nat) (i : Nat), n9 > tn 2 - i → (i ≤ tn 2) → ∀ (H : Heap) (locs : List Loc), va_P D CLS (([(sm, .inr (9, [.int c.1.1, .int c.1.2.1, .int c.1.2.2.1, .int c.2.1, .ref (ob 0), .ref (ob 1), .ref (ob 2), .ref (ob 3), .ref (ob 4)])), (ob 0, .inl (g 4, tn 0, .inr (.inr (.inr (.inr (bld (ad 0) (tn 0))))))), (ob 2, .inl (g 4, tn 2, .inr (.inr (.inr (.inr (bld (ad 2) (tn 2))))))), (ob 3, .inl (g 4, tn 3, .inr (.inr (.inr (.inr (bld (ad 3) (tn 3)))))))] : va_W) ++ simW (g 0) ad tn (simM tr od c)) H → va_D A (([(sm, .inr (9, [.int c.1.1, .int c.1.2.1, .int c.1.2.2.1, .int c.2.1, .ref (ob 0), .ref (ob 1), .ref (ob 2), .ref (ob 3), .ref (ob 4)])), (ob 0, .inl (g 4, tn 0, .inr (.inr (.inr (.inr (bld (ad 0) (tn 0))))))), (ob 2, .inl (g 4, tn 2, .inr (.inr (.inr (.inr (bld (ad 2) (tn 2))))))), (ob 3, .inl (g 4, tn 3, .inr (.inr (.inr (.inr (bld (ad 3) (tn 3)))))))] : va_W) ++ simW (g 0) ad tn (simM tr od c)) → va_S A s9.heap H locs → ∀ (ls : Array Slot), lv_has ls 4 [(0, .ref sm), (1, .int (nI bp)), (2, .int (sumI (fPl1 tr c.1.2.2.2.1 c.1.2.2.2.2.1 c.1.2.2.2.2.2.2 (nI bp)) i)), (3, .int (nI i))] → W p9 l9 e9 ({ frames := 1, cells := 0, slots := 0, locals := 23 } : Room) s9 m9 ([.ref sm, .int (nI bp)] : List Value).toArray below9 meth9 c9 H locs 0 0 (MQ below9 (va_Qi (fun (r9 : Int32) (u9 : Unit) => r9 = fPleas tr c.1.2.2.2.1 c.1.2.2.2.2.1 c.1.2.2.2.2.2.2 (nI bp) (tn 2)) (kB D g A (fun (u9 : Unit) => (([(sm, .inr (9, [.int c.1.1, .int c.1.2.1, .int c.1.2.2.1, .int c.2.1, .ref (ob 0), .ref (ob 1), .ref (ob 2), .ref (ob 3), .ref (ob 4)])), (ob 0, .inl (g 4, tn 0, .inr (.inr (.inr (.inr (bld (ad 0) (tn 0))))))), (ob 2, .inl (g 4, tn 2, .inr (.inr (.inr (.inr (bld (ad 2) (tn 2))))))), (ob 3, .inl (g 4, tn 3, .inr (.inr (.inr (.inr (bld (ad 3) (tn 3)))))))] : va_W) ++ simW (g 0) ad tn (simM tr od c)))) A) ([.ref sm, .int (nI bp)] : List Value).toArray s9 0 0 A) (F0 m9 4 ls []) := by
    intro n9
    induction n9 with
    | zero => intro i hm9; exact absurd hm9 (by omega)
    | succ n9 ih_4 =>
      intro i hm9 hi H locs hP hD hS ls hl
      refine lv_iload_n hx hb dX11_pleasure_4 rfl (lv_at hl 3 rfl) ?_
      refine lv_aload_n hx hb dX11_pleasure_5 rfl (lv_at hl 0 rfl) ?_
      refine va_get (D := D) (ci := 9) (v := .ref (ob 2)) (C := RX11) (T := TX11) (N := 9) hx hb hts in_X11 hown hK hP 0 rfl rfl 6 (by decide) (hts _ w_1219) (fun _ h9 => h9) rfl dX11_pleasure_6 ?_
      refine va_alen (v := nI (tn 2)) hx hb hK hP 2 4 rfl rfl rfl dX11_pleasure_9 ?_
      refine lv_icmp_ge (tgt := 57) hx hb dX11_pleasure_10 (by decide) (fun c_10 => ?_) (fun c_10 => ?_)
      · skip
        have c_10 : (tn 2) ≤ i := (nI_leI (a := (tn 2)) (b := i) (by omega) (by omega)).mp c_10
        have hie : i = tn 2 := by omega
        refine lv_iload_n hx hb dX11_pleasure_57 rfl (lv_at hl 2 rfl) ?_
        have hr9 : (sumI (fPl1 tr c.1.2.2.2.1 c.1.2.2.2.2.1 c.1.2.2.2.2.2.2 (nI bp)) i) = (fPleas tr c.1.2.2.2.1 c.1.2.2.2.2.1 c.1.2.2.2.2.2.2 (nI bp) (tn 2)) := by rw [hie]; rfl
        have hP9 : va_P D CLS (([(sm, .inr (9, [.int c.1.1, .int c.1.2.1, .int c.1.2.2.1, .int c.2.1, .ref (ob 0), .ref (ob 1), .ref (ob 2), .ref (ob 3), .ref (ob 4)])), (ob 0, .inl (g 4, tn 0, .inr (.inr (.inr (.inr (bld (ad 0) (tn 0))))))), (ob 2, .inl (g 4, tn 2, .inr (.inr (.inr (.inr (bld (ad 2) (tn 2))))))), (ob 3, .inl (g 4, tn 3, .inr (.inr (.inr (.inr (bld (ad 3) (tn 3)))))))] : va_W) ++ simW (g 0) ad tn (simM tr od c)) H := by exact va_P.part hP [0, 1, 2, 3] rfl
        have hD9 : va_D A (([(sm, .inr (9, [.int c.1.1, .int c.1.2.1, .int c.1.2.2.1, .int c.2.1, .ref (ob 0), .ref (ob 1), .ref (ob 2), .ref (ob 3), .ref (ob 4)])), (ob 0, .inl (g 4, tn 0, .inr (.inr (.inr (.inr (bld (ad 0) (tn 0))))))), (ob 2, .inl (g 4, tn 2, .inr (.inr (.inr (.inr (bld (ad 2) (tn 2))))))), (ob 3, .inl (g 4, tn 3, .inr (.inr (.inr (.inr (bld (ad 3) (tn 3)))))))] : va_W) ++ simW (g 0) ad tn (simM tr od c)) := by exact hD.part [0, 1, 2, 3] (by decide +kernel) rfl
        exact W.iret (v := (sumI (fPl1 tr c.1.2.2.2.1 c.1.2.2.2.2.1 c.1.2.2.2.2.2.2 (nI bp)) i)) hx hb hr (fun t9 ht9 hW9 => ⟨⟨(sumI (fPl1 tr c.1.2.2.2.1 c.1.2.2.2.2.1 c.1.2.2.2.2.2.2 (nI bp)) i), (), rfl, hr9, by rw [ht9]; exact hP9, va_K.moved hW9.alike hK, hD9⟩, hS.F ht9⟩) hS.2.2 dX11_pleasure_58
      · skip
        have c_10 : ¬ (tn 2) ≤ i := fun h => c_10 ((nI_leI (a := (tn 2)) (b := i) (by omega) (by omega)).mpr h)
        refine lv_iload_n hx hb dX11_pleasure_13 rfl (lv_at hl 2 rfl) ?_
        refine lv_aload_n hx hb dX11_pleasure_14 rfl (lv_at hl 0 rfl) ?_
        refine va_get (D := D) (ci := 9) (v := .ref (ob 2)) (C := RX11) (T := TX11) (N := 9) hx hb hts in_X11 hown hK hP 0 rfl rfl 6 (by decide) (hts _ w_1219) (fun _ h9 => h9) rfl dX11_pleasure_15 ?_
        refine lv_iload_n hx hb dX11_pleasure_18 rfl (lv_at hl 3 rfl) ?_
        refine k_aldB (i := i) hx hb hK hP 2 rfl (by omega) (Nat.le_refl _) (by omega) dX11_pleasure_19 ?_
        refine lv_iconst (v := 1) hx hb dX11_pleasure_20 (by decide) ?_
        refine k_ldS (j := 2) (i := i) (q := 1) (v := c.1.2.2.2.1 i) hx hb hK hP (by decide) (by omega) (by decide) rfl dX11_pleasure_21 ?_
        refine lv_if_ge (tgt := 29) hx hb dX11_pleasure_22 (by decide) (fun c_22 => ?_) (fun c_22 => ?_)
        · skip
          have hs := hC.2.2.2.2.2 i (by omega)
          obtain ⟨e, he2, he⟩ := bear_ge hs (by omega) (Int32.not_lt.mpr c_22)
          refine lv_aload_n hx hb dX11_pleasure_29 rfl (lv_at hl 0 rfl) ?_
          refine lv_iload_n hx hb dX11_pleasure_30 rfl (lv_at hl 3 rfl) ?_
          refine lv_iload_n hx hb dX11_pleasure_31 rfl (lv_at hl 1 rfl) ?_
          refine k_iP hA hP hD hS [] (va_runV (As := [.int (nI i), .int (nI bp)]) (rest := [.int (sumI (fPl1 tr c.1.2.2.2.1 c.1.2.2.2.2.1 c.1.2.2.2.2.2.2 (nI bp)) i)]) ⟨hx, hb, hml, hown, hts⟩ (c_X11_pleases l9 z D g sm ob ad tn tr od c dd m i bp e hO hC (by omega) hB he he2 (Array.size H)) (cwV 2 hts gv_X11_53 rfl rfl rfl (by decide +kernel) ⟨Nat.le_of_ble_eq_true rfl, Nat.le_of_ble_eq_true rfl⟩) ⟨kBlind, va_recv hK hP (ci := 9) (q0 := 0) rfl rfl, kPre.pcP hK hZ hA hP hD hS [0, 1, 2, 3] rfl (by decide +kernel)⟩ rfl rfl hl.1 rfl (lv_room (Nat.le_of_ble_eq_true rfl)) dX11_pleasure_32 ⟨Nat.le_of_ble_eq_true rfl, Nat.le_of_ble_eq_true rfl⟩) [0, 1, 2, 3] [] rfl rfl rfl rfl (fun r_32 u_1 H locs hw_32 hP7 hD7 hS7 => ?_)
          clear hP hD hS
          have hP := hP7
          have hD := hD7
          have hS := hS7
          clear hP7 hD7 hS7
          obtain rfl := hw_32
          replace hP : va_P D CLS (([(sm, .inr (9, [.int c.1.1, .int c.1.2.1, .int c.1.2.2.1, .int c.2.1, .ref (ob 0), .ref (ob 1), .ref (ob 2), .ref (ob 3), .ref (ob 4)])), (ob 0, .inl (g 4, tn 0, .inr (.inr (.inr (.inr (bld (ad 0) (tn 0))))))), (ob 2, .inl (g 4, tn 2, .inr (.inr (.inr (.inr (bld (ad 2) (tn 2))))))), (ob 3, .inl (g 4, tn 3, .inr (.inr (.inr (.inr (bld (ad 3) (tn 3)))))))] : va_W) ++ simW (g 0) ad tn (simM tr od c)) H := hP
          replace hD : va_D A (([(sm, .inr (9, [.int c.1.1, .int c.1.2.1, .int c.1.2.2.1, .int c.2.1, .ref (ob 0), .ref (ob 1), .ref (ob 2), .ref (ob 3), .ref (ob 4)])), (ob 0, .inl (g 4, tn 0, .inr (.inr (.inr (.inr (bld (ad 0) (tn 0))))))), (ob 2, .inl (g 4, tn 2, .inr (.inr (.inr (.inr (bld (ad 2) (tn 2))))))), (ob 3, .inl (g 4, tn 3, .inr (.inr (.inr (.inr (bld (ad 3) (tn 3)))))))] : va_W) ++ simW (g 0) ad tn (simM tr od c)) := hD
          refine k_topi (show (fDel tr c.1.2.2.2.1 c.1.2.2.2.2.1 (nI bp) (nI i)) = (fDel tr c.1.2.2.2.1 c.1.2.2.2.2.1 (nI bp) (nI i)) from (by first | exact del_no (by omega) hbe | rfl)) ?_
          refine lv_aload_n hx hb dX11_pleasure_35 rfl (lv_at hl 0 rfl) ?_
          refine lv_iload_n hx hb dX11_pleasure_36 rfl (lv_at hl 3 rfl) ?_
          refine k_iP hA hP hD hS [(ob 0, .inl (g 4, tn 0, .inr (.inr (.inr (.inr (bld (ad 0) (tn 0))))))), (ob 3, .inl (g 4, tn 3, .inr (.inr (.inr (.inr (bld (ad 3) (tn 3)))))))] (va_runV (As := [.int (nI i)]) (rest := [.int (fDel tr c.1.2.2.2.1 c.1.2.2.2.2.1 (nI bp) (nI i)), .int (sumI (fPl1 tr c.1.2.2.2.1 c.1.2.2.2.2.1 c.1.2.2.2.2.2.2 (nI bp)) i)]) ⟨hx, hb, hml, hown, hts⟩ (c_X11_squeaks l9 z D g sm ob ad tn tr od c dd m i hO hC (by omega) (Array.size H)) (cwV 1 hts gv_X11_56 rfl rfl rfl (by decide +kernel) ⟨Nat.le_of_ble_eq_true rfl, Nat.le_of_ble_eq_true rfl⟩) ⟨kBlind, va_recv hK hP (ci := 9) (q0 := 0) rfl rfl, kPre.pcP hK hZ hA hP hD hS [0, 2] rfl (by decide +kernel)⟩ rfl rfl hl.1 rfl (lv_room (Nat.le_of_ble_eq_true rfl)) dX11_pleasure_37 ⟨Nat.le_of_ble_eq_true rfl, Nat.le_of_ble_eq_true rfl⟩) [0, 2] [1, 3] rfl rfl rfl rfl (fun r_37 u_2 H locs hw_37 hP7 hD7 hS7 => ?_)
          clear hP hD hS
          have hP := hP7
          have hD := hD7
          have hS := hS7
          clear hP7 hD7 hS7
          obtain rfl := hw_37
          replace hP : va_P D CLS (([(ob 0, .inl (g 4, tn 0, .inr (.inr (.inr (.inr (bld (ad 0) (tn 0))))))), (ob 3, .inl (g 4, tn 3, .inr (.inr (.inr (.inr (bld (ad 3) (tn 3))))))), (sm, .inr (9, [.int c.1.1, .int c.1.2.1, .int c.1.2.2.1, .int c.2.1, .ref (ob 0), .ref (ob 1), .ref (ob 2), .ref (ob 3), .ref (ob 4)])), (ob 2, .inl (g 4, tn 2, .inr (.inr (.inr (.inr (bld (ad 2) (tn 2)))))))] : va_W) ++ simW (g 0) ad tn (simM tr od c)) H := hP
          replace hD : va_D A (([(ob 0, .inl (g 4, tn 0, .inr (.inr (.inr (.inr (bld (ad 0) (tn 0))))))), (ob 3, .inl (g 4, tn 3, .inr (.inr (.inr (.inr (bld (ad 3) (tn 3))))))), (sm, .inr (9, [.int c.1.1, .int c.1.2.1, .int c.1.2.2.1, .int c.2.1, .ref (ob 0), .ref (ob 1), .ref (ob 2), .ref (ob 3), .ref (ob 4)])), (ob 2, .inl (g 4, tn 2, .inr (.inr (.inr (.inr (bld (ad 2) (tn 2)))))))] : va_W) ++ simW (g 0) ad tn (simM tr od c)) := hD
          refine lv_if_eq (tgt := 47) hx hb dX11_pleasure_40 (by decide) (fun c_40 => ?_) (fun c_40 => ?_)
          · skip
            have c_40 := bI_0.mp c_40
            refine lv_iconst (v := 0) hx hb dX11_pleasure_47 (by decide) ?_
            refine k_topi (show (0 : Int32) = (fCost c.1.2.2.2.2.2.2 (nI i)) from (by first | exact cost_t c_40 | exact cost_f c_40)) ?_
            refine lv_isub hx hb dX11_pleasure_48 ?_
            refine lv_iadd hx hb dX11_pleasure_49 ?_
            refine lv_istore_n (lv' := [(2, .int ((sumI (fPl1 tr c.1.2.2.2.1 c.1.2.2.2.2.1 c.1.2.2.2.2.2.2 (nI bp)) i) + ((fDel tr c.1.2.2.2.1 c.1.2.2.2.2.1 (nI bp) (nI i)) - (fCost c.1.2.2.2.2.2.2 (nI i))))), (0, .ref sm), (1, .int (nI bp)), (3, .int (nI i))]) hx hb dX11_pleasure_50 rfl hl (by decide) rfl (fun ls hl => ?_)
            refine lv_iinc (v := nI (i + 1)) (lv' := [(3, .int (nI (i + 1))), (2, .int ((sumI (fPl1 tr c.1.2.2.2.1 c.1.2.2.2.2.1 c.1.2.2.2.2.2.2 (nI bp)) i) + ((fDel tr c.1.2.2.2.1 c.1.2.2.2.2.1 (nI bp) (nI i)) - (fCost c.1.2.2.2.2.2.2 (nI i))))), (0, .ref sm), (1, .int (nI bp))]) hx hb dX11_pleasure_51 hl (k := 3) rfl (nI_1 i) (by decide) rfl (fun ls hl => ?_)
            refine lv_goto (tgt := 4) hx hb dX11_pleasure_54 (by decide) ?_
            exact ih_4  (i + 1) (by omega) (by omega) _ _ (va_P.part hP [2, 0, 3, 1] rfl) (hD.part [2, 0, 3, 1] (by decide +kernel) rfl) hS ls (lv_sub hl [2, 3, 1, 0] rfl)
          · skip
            have c_40 := bI_1.mp c_40
            refine lv_iconst (v := 3) hx hb dX11_pleasure_43 (by decide) ?_
            refine lv_goto (tgt := 48) hx hb dX11_pleasure_44 (by decide) ?_
            refine k_topi (show (3 : Int32) = (fCost c.1.2.2.2.2.2.2 (nI i)) from (by first | exact cost_t c_40 | exact cost_f c_40)) ?_
            refine lv_isub hx hb dX11_pleasure_48 ?_
            refine lv_iadd hx hb dX11_pleasure_49 ?_
            refine lv_istore_n (lv' := [(2, .int ((sumI (fPl1 tr c.1.2.2.2.1 c.1.2.2.2.2.1 c.1.2.2.2.2.2.2 (nI bp)) i) + ((fDel tr c.1.2.2.2.1 c.1.2.2.2.2.1 (nI bp) (nI i)) - (fCost c.1.2.2.2.2.2.2 (nI i))))), (0, .ref sm), (1, .int (nI bp)), (3, .int (nI i))]) hx hb dX11_pleasure_50 rfl hl (by decide) rfl (fun ls hl => ?_)
            refine lv_iinc (v := nI (i + 1)) (lv' := [(3, .int (nI (i + 1))), (2, .int ((sumI (fPl1 tr c.1.2.2.2.1 c.1.2.2.2.2.1 c.1.2.2.2.2.2.2 (nI bp)) i) + ((fDel tr c.1.2.2.2.1 c.1.2.2.2.2.1 (nI bp) (nI i)) - (fCost c.1.2.2.2.2.2.2 (nI i))))), (0, .ref sm), (1, .int (nI bp))]) hx hb dX11_pleasure_51 hl (k := 3) rfl (nI_1 i) (by decide) rfl (fun ls hl => ?_)
            refine lv_goto (tgt := 4) hx hb dX11_pleasure_54 (by decide) ?_
            exact ih_4  (i + 1) (by omega) (by omega) _ _ (va_P.part hP [2, 0, 3, 1] rfl) (hD.part [2, 0, 3, 1] (by decide +kernel) rfl) hS ls (lv_sub hl [2, 3, 1, 0] rfl)
        · skip
          have hs := hC.2.2.2.2.2 i (by omega)
          have hbe := bear_lt hs (by omega) (Int32.not_le.mp c_22)
          refine lv_iconst (v := 0) hx hb dX11_pleasure_25 (by decide) ?_
          refine lv_goto (tgt := 35) hx hb dX11_pleasure_26 (by decide) ?_
          refine k_topi (show (0 : Int32) = (fDel tr c.1.2.2.2.1 c.1.2.2.2.2.1 (nI bp) (nI i)) from (by first | exact del_no (by omega) hbe | rfl)) ?_
          refine lv_aload_n hx hb dX11_pleasure_35 rfl (lv_at hl 0 rfl) ?_
          refine lv_iload_n hx hb dX11_pleasure_36 rfl (lv_at hl 3 rfl) ?_
          refine k_iP hA hP hD hS [(ob 0, .inl (g 4, tn 0, .inr (.inr (.inr (.inr (bld (ad 0) (tn 0))))))), (ob 3, .inl (g 4, tn 3, .inr (.inr (.inr (.inr (bld (ad 3) (tn 3)))))))] (va_runV (As := [.int (nI i)]) (rest := [.int (fDel tr c.1.2.2.2.1 c.1.2.2.2.2.1 (nI bp) (nI i)), .int (sumI (fPl1 tr c.1.2.2.2.1 c.1.2.2.2.2.1 c.1.2.2.2.2.2.2 (nI bp)) i)]) ⟨hx, hb, hml, hown, hts⟩ (c_X11_squeaks l9 z D g sm ob ad tn tr od c dd m i hO hC (by omega) (Array.size H)) (cwV 1 hts gv_X11_56 rfl rfl rfl (by decide +kernel) ⟨Nat.le_of_ble_eq_true rfl, Nat.le_of_ble_eq_true rfl⟩) ⟨kBlind, va_recv hK hP (ci := 9) (q0 := 0) rfl rfl, kPre.pcP hK hZ hA hP hD hS [0, 2] rfl (by decide +kernel)⟩ rfl rfl hl.1 rfl (lv_room (Nat.le_of_ble_eq_true rfl)) dX11_pleasure_37 ⟨Nat.le_of_ble_eq_true rfl, Nat.le_of_ble_eq_true rfl⟩) [0, 2] [1, 3] rfl rfl rfl rfl (fun r_37 u_3 H locs hw_37 hP7 hD7 hS7 => ?_)
          clear hP hD hS
          have hP := hP7
          have hD := hD7
          have hS := hS7
          clear hP7 hD7 hS7
          obtain rfl := hw_37
          replace hP : va_P D CLS (([(ob 0, .inl (g 4, tn 0, .inr (.inr (.inr (.inr (bld (ad 0) (tn 0))))))), (ob 3, .inl (g 4, tn 3, .inr (.inr (.inr (.inr (bld (ad 3) (tn 3))))))), (sm, .inr (9, [.int c.1.1, .int c.1.2.1, .int c.1.2.2.1, .int c.2.1, .ref (ob 0), .ref (ob 1), .ref (ob 2), .ref (ob 3), .ref (ob 4)])), (ob 2, .inl (g 4, tn 2, .inr (.inr (.inr (.inr (bld (ad 2) (tn 2)))))))] : va_W) ++ simW (g 0) ad tn (simM tr od c)) H := hP
          replace hD : va_D A (([(ob 0, .inl (g 4, tn 0, .inr (.inr (.inr (.inr (bld (ad 0) (tn 0))))))), (ob 3, .inl (g 4, tn 3, .inr (.inr (.inr (.inr (bld (ad 3) (tn 3))))))), (sm, .inr (9, [.int c.1.1, .int c.1.2.1, .int c.1.2.2.1, .int c.2.1, .ref (ob 0), .ref (ob 1), .ref (ob 2), .ref (ob 3), .ref (ob 4)])), (ob 2, .inl (g 4, tn 2, .inr (.inr (.inr (.inr (bld (ad 2) (tn 2)))))))] : va_W) ++ simW (g 0) ad tn (simM tr od c)) := hD
          refine lv_if_eq (tgt := 47) hx hb dX11_pleasure_40 (by decide) (fun c_40 => ?_) (fun c_40 => ?_)
          · skip
            have c_40 := bI_0.mp c_40
            refine lv_iconst (v := 0) hx hb dX11_pleasure_47 (by decide) ?_
            refine k_topi (show (0 : Int32) = (fCost c.1.2.2.2.2.2.2 (nI i)) from (by first | exact cost_t c_40 | exact cost_f c_40)) ?_
            refine lv_isub hx hb dX11_pleasure_48 ?_
            refine lv_iadd hx hb dX11_pleasure_49 ?_
            refine lv_istore_n (lv' := [(2, .int ((sumI (fPl1 tr c.1.2.2.2.1 c.1.2.2.2.2.1 c.1.2.2.2.2.2.2 (nI bp)) i) + ((fDel tr c.1.2.2.2.1 c.1.2.2.2.2.1 (nI bp) (nI i)) - (fCost c.1.2.2.2.2.2.2 (nI i))))), (0, .ref sm), (1, .int (nI bp)), (3, .int (nI i))]) hx hb dX11_pleasure_50 rfl hl (by decide) rfl (fun ls hl => ?_)
            refine lv_iinc (v := nI (i + 1)) (lv' := [(3, .int (nI (i + 1))), (2, .int ((sumI (fPl1 tr c.1.2.2.2.1 c.1.2.2.2.2.1 c.1.2.2.2.2.2.2 (nI bp)) i) + ((fDel tr c.1.2.2.2.1 c.1.2.2.2.2.1 (nI bp) (nI i)) - (fCost c.1.2.2.2.2.2.2 (nI i))))), (0, .ref sm), (1, .int (nI bp))]) hx hb dX11_pleasure_51 hl (k := 3) rfl (nI_1 i) (by decide) rfl (fun ls hl => ?_)
            refine lv_goto (tgt := 4) hx hb dX11_pleasure_54 (by decide) ?_
            exact ih_4  (i + 1) (by omega) (by omega) _ _ (va_P.part hP [2, 0, 3, 1] rfl) (hD.part [2, 0, 3, 1] (by decide +kernel) rfl) hS ls (lv_sub hl [2, 3, 1, 0] rfl)
          · skip
            have c_40 := bI_1.mp c_40
            refine lv_iconst (v := 3) hx hb dX11_pleasure_43 (by decide) ?_
            refine lv_goto (tgt := 48) hx hb dX11_pleasure_44 (by decide) ?_
            refine k_topi (show (3 : Int32) = (fCost c.1.2.2.2.2.2.2 (nI i)) from (by first | exact cost_t c_40 | exact cost_f c_40)) ?_
            refine lv_isub hx hb dX11_pleasure_48 ?_
            refine lv_iadd hx hb dX11_pleasure_49 ?_
            refine lv_istore_n (lv' := [(2, .int ((sumI (fPl1 tr c.1.2.2.2.1 c.1.2.2.2.2.1 c.1.2.2.2.2.2.2 (nI bp)) i) + ((fDel tr c.1.2.2.2.1 c.1.2.2.2.2.1 (nI bp) (nI i)) - (fCost c.1.2.2.2.2.2.2 (nI i))))), (0, .ref sm), (1, .int (nI bp)), (3, .int (nI i))]) hx hb dX11_pleasure_50 rfl hl (by decide) rfl (fun ls hl => ?_)
            refine lv_iinc (v := nI (i + 1)) (lv' := [(3, .int (nI (i + 1))), (2, .int ((sumI (fPl1 tr c.1.2.2.2.1 c.1.2.2.2.2.1 c.1.2.2.2.2.2.2 (nI bp)) i) + ((fDel tr c.1.2.2.2.1 c.1.2.2.2.2.1 (nI bp) (nI i)) - (fCost c.1.2.2.2.2.2.2 (nI i))))), (0, .ref sm), (1, .int (nI bp))]) hx hb dX11_pleasure_51 hl (k := 3) rfl (nI_1 i) (by decide) rfl (fun ls hl => ?_)
            refine lv_goto (tgt := 4) hx hb dX11_pleasure_54 (by decide) ?_
            exact ih_4  (i + 1) (by omega) (by omega) _ _ (va_P.part hP [2, 0, 3, 1] rfl) (hD.part [2, 0, 3, 1] (by decide +kernel) rfl) hS ls (lv_sub hl [2, 3, 1, 0] rfl)
  exact loop_4 (tn 2 - 0 + 1) 0 (by omega) (Nat.zero_le _) _ _ (va_P.part hP [0, 1, 2, 3] rfl) (hD.part [0, 1, 2, 3] (by decide +kernel) rfl) hS ls (lv_sub hl [2, 3, 1, 0] rfl)
theorem dX11_worms_0 : decode cX11_worms 0 = .ok (.iconst 0, 1) := by decide +kernel
theorem dX11_worms_1 : decode cX11_worms 1 = .ok (.istore_n 1, 1) := by decide +kernel
theorem dX11_worms_2 : decode cX11_worms 2 = .ok (.aload_n 0, 1) := by decide +kernel
theorem dX11_worms_3 : decode cX11_worms 3 = .ok (.getfield 22, 3) := by decide +kernel
theorem dX11_worms_6 : decode cX11_worms 6 = .ok (.astore_n 2, 1) := by decide +kernel
theorem dX11_worms_7 : decode cX11_worms 7 = .ok (.aload_n 2, 1) := by decide +kernel
theorem dX11_worms_8 : decode cX11_worms 8 = .ok (.arraylength, 1) := by decide +kernel
theorem dX11_worms_9 : decode cX11_worms 9 = .ok (.istore_n 3, 1) := by decide +kernel
theorem dX11_worms_10 : decode cX11_worms 10 = .ok (.iconst 0, 1) := by decide +kernel
theorem dX11_worms_11 : decode cX11_worms 11 = .ok (.istore 4, 2) := by decide +kernel
theorem dX11_worms_13 : decode cX11_worms 13 = .ok (.iload 4, 2) := by decide +kernel
theorem dX11_worms_15 : decode cX11_worms 15 = .ok (.iload_n 3, 1) := by decide +kernel
theorem dX11_worms_16 : decode cX11_worms 16 = .ok (.if_icmp .ge 22, 3) := by decide +kernel
theorem dX11_worms_19 : decode cX11_worms 19 = .ok (.aload_n 2, 1) := by decide +kernel
theorem dX11_worms_20 : decode cX11_worms 20 = .ok (.iload 4, 2) := by decide +kernel
theorem dX11_worms_22 : decode cX11_worms 22 = .ok (.aaload, 1) := by decide +kernel
theorem dX11_worms_23 : decode cX11_worms 23 = .ok (.astore 5, 2) := by decide +kernel
theorem dX11_worms_25 : decode cX11_worms 25 = .ok (.iload_n 1, 1) := by decide +kernel
theorem dX11_worms_26 : decode cX11_worms 26 = .ok (.aload 5, 2) := by decide +kernel
theorem dX11_worms_28 : decode cX11_worms 28 = .ok (.iconst 3, 1) := by decide +kernel
theorem dX11_worms_29 : decode cX11_worms 29 = .ok (.iaload, 1) := by decide +kernel
theorem dX11_worms_30 : decode cX11_worms 30 = .ok (.iadd, 1) := by decide +kernel
theorem dX11_worms_31 : decode cX11_worms 31 = .ok (.istore_n 1, 1) := by decide +kernel
theorem dX11_worms_32 : decode cX11_worms 32 = .ok (.iinc 4 1, 3) := by decide +kernel
theorem dX11_worms_35 : decode cX11_worms 35 = .ok (.goto (-22), 3) := by decide +kernel
theorem dX11_worms_38 : decode cX11_worms 38 = .ok (.iload_n 1, 1) := by decide +kernel
theorem dX11_worms_39 : decode cX11_worms 39 = .ok (.ireturn, 1) := by decide +kernel
set_option maxHeartbeats 4000000 in
set_option maxRecDepth 100000 in
/-- Sim.worms -/
theorem c_X11_worms (l9 : Launch) (z : Nat → Nat) (D : va_G) (g : Nat → ClassId) (sm : Nat) (ob : Nat → Nat) (ad : Nat → Nat → Nat) (tn : Nat → Nat) (tr : Nat → Nat → Int32) (od : Nat → Nat → Nat) (c : CS) (dd : Nat) (m : Nat) (hO : SOKs tn tr od) (hC : CIn tn c dd m) (sz : Nat) : Met l9 yX11_worms (WS yX11_worms cX11_worms 6 (some .int)) ({ frames := 0, cells := 0, slots := 0, locals := 0 }) (va_Pc [.ref sm] (kPre z D g (([(sm, .inr (9, [.int c.1.1, .int c.1.2.1, .int c.1.2.2.1, .int c.2.1, .ref (ob 0), .ref (ob 1), .ref (ob 2), .ref (ob 3), .ref (ob 4)])), (ob 2, .inl (g 4, tn 2, .inr (.inr (.inr (.inr (bld (ad 2) (tn 2)))))))] : va_W) ++ simW (g 0) ad tn (simM tr od c)) sz)) (va_Qi (fun (r9 : Int32) (u9 : Unit) => r9 = fWrm c.1.2.2.2.2.2.1 (tn 2)) (kB D g (va_A (([(sm, .inr (9, [.int c.1.1, .int c.1.2.1, .int c.1.2.2.1, .int c.2.1, .ref (ob 0), .ref (ob 1), .ref (ob 2), .ref (ob 3), .ref (ob 4)])), (ob 2, .inl (g 4, tn 2, .inr (.inr (.inr (.inr (bld (ad 2) (tn 2)))))))] : va_W) ++ simW (g 0) ad tn (simM tr od c)) sz) (fun (u9 : Unit) => (([(sm, .inr (9, [.int c.1.1, .int c.1.2.1, .int c.1.2.2.1, .int c.2.1, .ref (ob 0), .ref (ob 1), .ref (ob 2), .ref (ob 3), .ref (ob 4)])), (ob 2, .inl (g 4, tn 2, .inr (.inr (.inr (.inr (bld (ad 2) (tn 2)))))))] : va_W) ++ simW (g 0) ad tn (simM tr od c)))) (va_A (([(sm, .inr (9, [.int c.1.1, .int c.1.2.1, .int c.1.2.2.1, .int c.2.1, .ref (ob 0), .ref (ob 1), .ref (ob 2), .ref (ob 3), .ref (ob 4)])), (ob 2, .inl (g 4, tn 2, .inr (.inr (.inr (.inr (bld (ad 2) (tn 2)))))))] : va_W) ++ simW (g 0) ad tn (simM tr od c)) sz)) 0 0 (va_A (([(sm, .inr (9, [.int c.1.1, .int c.1.2.1, .int c.1.2.2.1, .int c.2.1, .ref (ob 0), .ref (ob 1), .ref (ob 2), .ref (ob 3), .ref (ob 4)])), (ob 2, .inl (g 4, tn 2, .inr (.inr (.inr (.inr (bld (ad 2) (tn 2)))))))] : va_W) ++ simW (g 0) ad tn (simM tr od c)) sz) := by
  refine Met.ofW (cc := cX11_worms) (maxL := 6) (ret := (some .int)) (by decide) rfl ?_
  intro p9 e9 s9 m9 args9 below9 meth9 c9 s₁ B hml hv
  obtain ⟨rfl, hsz, hP, hK, hD0, hZ⟩ := hv
  have hx := B.exec
  have hb := B.bytes
  have hr := B.returns
  have hts := ws_sub (atoms_spec (ws := WS yX11_worms cX11_worms 6 (some .int)) B.pre)
  have hown : s9.vm.findClass RX11 = some m9.cls := findClass_of_methodNamed B.named
  have hlocks := B.notSynchronized
  subst hsz
  have hD := hD0.self (sz := s9.heap.size)
  generalize hAe : va_A (([(sm, .inr (9, [.int c.1.1, .int c.1.2.1, .int c.1.2.2.1, .int c.2.1, .ref (ob 0), .ref (ob 1), .ref (ob 2), .ref (ob 3), .ref (ob 4)])), (ob 2, .inl (g 4, tn 2, .inr (.inr (.inr (.inr (bld (ad 2) (tn 2)))))))] : va_W) ++ simW (g 0) ad tn (simM tr od c)) s9.heap.size = A at hD hZ ⊢
  have hA : ∀ q : Nat, s9.heap.size ≤ q → A q := fun q h => by rw [← hAe]; exact Or.inr h
  have hS : va_S A s9.heap s9.heap [] := va_S.rf
  have hP : va_P D CLS (([(sm, .inr (9, [.int c.1.1, .int c.1.2.1, .int c.1.2.2.1, .int c.2.1, .ref (ob 0), .ref (ob 1), .ref (ob 2), .ref (ob 3), .ref (ob 4)])), (ob 2, .inl (g 4, tn 2, .inr (.inr (.inr (.inr (bld (ad 2) (tn 2)))))))] : va_W) ++ simW (g 0) ad tn (simM tr od c)) s9.heap := hP
  have hl := lv_entry ([.ref sm]) (n := 6) (Nat.le_of_ble_eq_true rfl)
  rw [lg_entry_eq]
  generalize (lg_sl ([.ref sm]) ++ List.replicate (6 - (lg_sl ([.ref sm])).length) Slot.unset).toArray = ls at hl ⊢
  have hl : lv_has ls 6 [(0, .ref sm)] := hl
  change W p9 l9 e9 ({ frames := 0, cells := 0, slots := 0, locals := 0 } : Room) s9 m9 _ below9 meth9 c9 _ _ _ _ _ _
  have hN := hO.1; unfold CntS at hN
  refine lv_iconst (v := 0) hx hb dX11_worms_0 (by decide) ?_
  refine lv_istore_n (lv' := [(1, .int 0), (0, .ref sm)]) hx hb dX11_worms_1 rfl hl (by decide) rfl (fun ls hl => ?_)
  refine lv_aload_n hx hb dX11_worms_2 rfl (lv_at hl 1 rfl) ?_
  refine va_get (D := D) (ci := 9) (v := .ref (ob 2)) (C := RX11) (T := TX11) (N := 9) hx hb hts in_X11 hown hK hP 0 rfl rfl 6 (by decide) (hts _ w_1219) (fun _ h9 => h9) rfl dX11_worms_3 ?_
  refine lv_astore_n (lv' := [(2, .ref (ob 2)), (1, .int 0), (0, .ref sm)]) hx hb dX11_worms_6 rfl hl (by decide) rfl (fun ls hl => ?_)
  refine lv_aload_n hx hb dX11_worms_7 rfl (lv_at hl 0 rfl) ?_
  refine va_alen (v := nI (tn 2)) hx hb hK hP 1 4 rfl rfl rfl dX11_worms_8 ?_
  refine lv_istore_n (lv' := [(3, .int (nI (tn 2))), (2, .ref (ob 2)), (1, .int 0), (0, .ref sm)]) hx hb dX11_worms_9 rfl hl (by decide) rfl (fun ls hl => ?_)
  refine lv_iconst (v := 0) hx hb dX11_worms_10 (by decide) ?_
  refine lv_istore (lv' := [(4, .int 0), (3, .int (nI (tn 2))), (2, .ref (ob 2)), (1, .int 0), (0, .ref sm)]) hx hb dX11_worms_11 hl (by decide) rfl (fun ls hl => ?_)
  have loop_13 : ∀ (n9 : Nat) (i : Nat), n9 > tn 2 - i → (i ≤ tn 2) → ∀ (H : Heap) (locs : List Loc), va_P D CLS (([(sm, .inr (9, [.int c.1.1, .int c.1.2.1, .int c.1.2.2.1, .int c.2.1, .ref (ob 0), .ref (ob 1), .ref (ob 2), .ref (ob 3), .ref (ob 4)])), (ob 2, .inl (g 4, tn 2, .inr (.inr (.inr (.inr (bld (ad 2) (tn 2)))))))] : va_W) ++ simW (g 0) ad tn (simM tr od c)) H → va_D A (([(sm, .inr (9, [.int c.1.1, .int c.1.2.1, .int c.1.2.2.1, .int c.2.1, .ref (ob 0), .ref (ob 1), .ref (ob 2), .ref (ob 3), .ref (ob 4)])), (ob 2, .inl (g 4, tn 2, .inr (.inr (.inr (.inr (bld (ad 2) (tn 2)))))))] : va_W) ++ simW (g 0) ad tn (simM tr od c)) → va_S A s9.heap H locs → ∀ (ls : Array Slot), lv_has ls 6 [(0, .ref sm), (1, .int (fWrm c.1.2.2.2.2.2.1 i)), (2, .ref (ob 2)), (3, .int (nI (tn 2))), (4, .int (nI i))] → W p9 l9 e9 ({ frames := 0, cells := 0, slots := 0, locals := 0 } : Room) s9 m9 ([.ref sm] : List Value).toArray below9 meth9 c9 H locs 0 0 (MQ below9 (va_Qi (fun (r9 : Int32) (u9 : Unit) => r9 = fWrm c.1.2.2.2.2.2.1 (tn 2)) (kB D g A (fun (u9 : Unit) => (([(sm, .inr (9, [.int c.1.1, .int c.1.2.1, .int c.1.2.2.1, .int c.2.1, .ref (ob 0), .ref (ob 1), .ref (ob 2), .ref (ob 3), .ref (ob 4)])), (ob 2, .inl (g 4, tn 2, .inr (.inr (.inr (.inr (bld (ad 2) (tn 2)))))))] : va_W) ++ simW (g 0) ad tn (simM tr od c)))) A) ([.ref sm] : List Value).toArray s9 0 0 A) (F0 m9 13 ls []) := by
    intro n9
    induction n9 with
    | zero => intro i hm9; exact absurd hm9 (by omega)
    | succ n9 ih_13 =>
      intro i hm9 hi H locs hP hD hS ls hl
      refine lv_iload hx hb dX11_worms_13 (lv_at hl 4 rfl) ?_
      refine lv_iload_n hx hb dX11_worms_15 rfl (lv_at hl 3 rfl) ?_
      refine lv_icmp_ge (tgt := 38) hx hb dX11_worms_16 (by decide) (fun c_16 => ?_) (fun c_16 => ?_)
      · skip
        have c_16 : (tn 2) ≤ i := (nI_leI (a := (tn 2)) (b := i) (by omega) (by omega)).mp c_16
        have hie : i = tn 2 := by omega
        refine lv_iload_n hx hb dX11_worms_38 rfl (lv_at hl 1 rfl) ?_
        have hr9 : (fWrm c.1.2.2.2.2.2.1 i) = (fWrm c.1.2.2.2.2.2.1 (tn 2)) := by rw [hie]
        have hP9 : va_P D CLS (([(sm, .inr (9, [.int c.1.1, .int c.1.2.1, .int c.1.2.2.1, .int c.2.1, .ref (ob 0), .ref (ob 1), .ref (ob 2), .ref (ob 3), .ref (ob 4)])), (ob 2, .inl (g 4, tn 2, .inr (.inr (.inr (.inr (bld (ad 2) (tn 2)))))))] : va_W) ++ simW (g 0) ad tn (simM tr od c)) H := by exact va_P.part hP [0, 1] rfl
        have hD9 : va_D A (([(sm, .inr (9, [.int c.1.1, .int c.1.2.1, .int c.1.2.2.1, .int c.2.1, .ref (ob 0), .ref (ob 1), .ref (ob 2), .ref (ob 3), .ref (ob 4)])), (ob 2, .inl (g 4, tn 2, .inr (.inr (.inr (.inr (bld (ad 2) (tn 2)))))))] : va_W) ++ simW (g 0) ad tn (simM tr od c)) := by exact hD.part [0, 1] (by decide +kernel) rfl
        exact W.iret (v := (fWrm c.1.2.2.2.2.2.1 i)) hx hb hr (fun t9 ht9 hW9 => ⟨⟨(fWrm c.1.2.2.2.2.2.1 i), (), rfl, hr9, by rw [ht9]; exact hP9, va_K.moved hW9.alike hK, hD9⟩, hS.F ht9⟩) hS.2.2 dX11_worms_39
      · skip
        have c_16 : ¬ (tn 2) ≤ i := fun h => c_16 ((nI_leI (a := (tn 2)) (b := i) (by omega) (by omega)).mpr h)
        refine lv_aload_n hx hb dX11_worms_19 rfl (lv_at hl 2 rfl) ?_
        refine lv_iload hx hb dX11_worms_20 (lv_at hl 4 rfl) ?_
        refine k_aldB (i := i) hx hb hK hP 1 rfl (by omega) (Nat.le_refl _) (by omega) dX11_worms_22 ?_
        refine lv_astore (lv' := [(5, .ref (ad 2 i)), (0, .ref sm), (1, .int (fWrm c.1.2.2.2.2.2.1 i)), (2, .ref (ob 2)), (3, .int (nI (tn 2))), (4, .int (nI i))]) hx hb dX11_worms_23 hl (by decide) rfl (fun ls hl => ?_)
        refine lv_iload_n hx hb dX11_worms_25 rfl (lv_at hl 2 rfl) ?_
        refine lv_aload hx hb dX11_worms_26 (lv_at hl 0 rfl) ?_
        refine lv_iconst (v := 3) hx hb dX11_worms_28 (by decide) ?_
        refine k_ldS (j := 2) (i := i) (q := 3) (v := c.1.2.2.2.2.2.1 i) hx hb hK hP (by decide) (by omega) (by decide) rfl dX11_worms_29 ?_
        refine k_topi (show (c.1.2.2.2.2.2.1 i) = (rat 10 c.1.2.2.2.2.2.1 (nI i)) from (rat_nI (by omega) (by decide)).symm) ?_
        refine lv_iadd hx hb dX11_worms_30 ?_
        refine lv_istore_n (lv' := [(1, .int ((fWrm c.1.2.2.2.2.2.1 i) + (rat 10 c.1.2.2.2.2.2.1 (nI i)))), (5, .ref (ad 2 i)), (0, .ref sm), (2, .ref (ob 2)), (3, .int (nI (tn 2))), (4, .int (nI i))]) hx hb dX11_worms_31 rfl hl (by decide) rfl (fun ls hl => ?_)
        refine lv_iinc (v := nI (i + 1)) (lv' := [(4, .int (nI (i + 1))), (1, .int ((fWrm c.1.2.2.2.2.2.1 i) + (rat 10 c.1.2.2.2.2.2.1 (nI i)))), (5, .ref (ad 2 i)), (0, .ref sm), (2, .ref (ob 2)), (3, .int (nI (tn 2)))]) hx hb dX11_worms_32 hl (k := 5) rfl (nI_1 i) (by decide) rfl (fun ls hl => ?_)
        refine lv_goto (tgt := 13) hx hb dX11_worms_35 (by decide) ?_
        exact ih_13  (i + 1) (by omega) (by omega) _ _ (va_P.part hP [0, 1] rfl) (hD.part [0, 1] (by decide +kernel) rfl) hS ls (lv_sub hl [3, 1, 4, 5, 0] rfl)
  exact loop_13 (tn 2 - 0 + 1) 0 (by omega) (Nat.zero_le _) _ _ (va_P.part hP [0, 1] rfl) (hD.part [0, 1] (by decide +kernel) rfl) hS ls (lv_sub hl [4, 3, 2, 1, 0] rfl)
theorem dX11_squeaking_0 : decode cX11_squeaking 0 = .ok (.iconst 0, 1) := by decide +kernel
theorem dX11_squeaking_1 : decode cX11_squeaking 1 = .ok (.istore_n 1, 1) := by decide +kernel
theorem dX11_squeaking_2 : decode cX11_squeaking 2 = .ok (.iconst 0, 1) := by decide +kernel
theorem dX11_squeaking_3 : decode cX11_squeaking 3 = .ok (.istore_n 2, 1) := by decide +kernel
theorem dX11_squeaking_4 : decode cX11_squeaking 4 = .ok (.iload_n 2, 1) := by decide +kernel
theorem dX11_squeaking_5 : decode cX11_squeaking 5 = .ok (.aload_n 0, 1) := by decide +kernel
theorem dX11_squeaking_6 : decode cX11_squeaking 6 = .ok (.getfield 22, 3) := by decide +kernel
theorem dX11_squeaking_9 : decode cX11_squeaking 9 = .ok (.arraylength, 1) := by decide +kernel
theorem dX11_squeaking_10 : decode cX11_squeaking 10 = .ok (.if_icmp .ge 25, 3) := by decide +kernel
theorem dX11_squeaking_13 : decode cX11_squeaking 13 = .ok (.iload_n 1, 1) := by decide +kernel
theorem dX11_squeaking_14 : decode cX11_squeaking 14 = .ok (.aload_n 0, 1) := by decide +kernel
theorem dX11_squeaking_15 : decode cX11_squeaking 15 = .ok (.iload_n 2, 1) := by decide +kernel
theorem dX11_squeaking_16 : decode cX11_squeaking 16 = .ok (.invokevirtual 56, 3) := by decide +kernel
theorem dX11_squeaking_19 : decode cX11_squeaking 19 = .ok (.ifCond .eq 7, 3) := by decide +kernel
theorem dX11_squeaking_22 : decode cX11_squeaking 22 = .ok (.iconst 1, 1) := by decide +kernel
theorem dX11_squeaking_23 : decode cX11_squeaking 23 = .ok (.goto 4, 3) := by decide +kernel
theorem dX11_squeaking_26 : decode cX11_squeaking 26 = .ok (.iconst 0, 1) := by decide +kernel
theorem dX11_squeaking_27 : decode cX11_squeaking 27 = .ok (.iadd, 1) := by decide +kernel
theorem dX11_squeaking_28 : decode cX11_squeaking 28 = .ok (.istore_n 1, 1) := by decide +kernel
theorem dX11_squeaking_29 : decode cX11_squeaking 29 = .ok (.iinc 2 1, 3) := by decide +kernel
theorem dX11_squeaking_32 : decode cX11_squeaking 32 = .ok (.goto (-28), 3) := by decide +kernel
theorem dX11_squeaking_35 : decode cX11_squeaking 35 = .ok (.iload_n 1, 1) := by decide +kernel
theorem dX11_squeaking_36 : decode cX11_squeaking 36 = .ok (.ireturn, 1) := by decide +kernel
set_option maxHeartbeats 4000000 in
set_option maxRecDepth 100000 in
/-- Sim.squeaking -/
theorem c_X11_squeaking (l9 : Launch) (z : Nat → Nat) (D : va_G) (g : Nat → ClassId) (sm : Nat) (ob : Nat → Nat) (ad : Nat → Nat → Nat) (tn : Nat → Nat) (tr : Nat → Nat → Int32) (od : Nat → Nat → Nat) (c : CS) (dd : Nat) (m : Nat) (hO : SOKs tn tr od) (hC : CIn tn c dd m) (sz : Nat) : Met l9 yX11_squeaking (WS yX11_squeaking cX11_squeaking 3 (some .int)) ({ frames := 1, cells := 0, slots := 0, locals := 21 }) (va_Pc [.ref sm] (kPre z D g (([(sm, .inr (9, [.int c.1.1, .int c.1.2.1, .int c.1.2.2.1, .int c.2.1, .ref (ob 0), .ref (ob 1), .ref (ob 2), .ref (ob 3), .ref (ob 4)])), (ob 2, .inl (g 4, tn 2, .inr (.inr (.inr (.inr (bld (ad 2) (tn 2)))))))] : va_W) ++ simW (g 0) ad tn (simM tr od c)) sz)) (va_Qi (fun (r9 : Int32) (u9 : Unit) => r9 = fSqk c.1.2.2.2.2.2.2 (tn 2)) (kB D g (va_A (([(sm, .inr (9, [.int c.1.1, .int c.1.2.1, .int c.1.2.2.1, .int c.2.1, .ref (ob 0), .ref (ob 1), .ref (ob 2), .ref (ob 3), .ref (ob 4)])), (ob 2, .inl (g 4, tn 2, .inr (.inr (.inr (.inr (bld (ad 2) (tn 2)))))))] : va_W) ++ simW (g 0) ad tn (simM tr od c)) sz) (fun (u9 : Unit) => (([(sm, .inr (9, [.int c.1.1, .int c.1.2.1, .int c.1.2.2.1, .int c.2.1, .ref (ob 0), .ref (ob 1), .ref (ob 2), .ref (ob 3), .ref (ob 4)])), (ob 2, .inl (g 4, tn 2, .inr (.inr (.inr (.inr (bld (ad 2) (tn 2)))))))] : va_W) ++ simW (g 0) ad tn (simM tr od c)))) (va_A (([(sm, .inr (9, [.int c.1.1, .int c.1.2.1, .int c.1.2.2.1, .int c.2.1, .ref (ob 0), .ref (ob 1), .ref (ob 2), .ref (ob 3), .ref (ob 4)])), (ob 2, .inl (g 4, tn 2, .inr (.inr (.inr (.inr (bld (ad 2) (tn 2)))))))] : va_W) ++ simW (g 0) ad tn (simM tr od c)) sz)) 0 0 (va_A (([(sm, .inr (9, [.int c.1.1, .int c.1.2.1, .int c.1.2.2.1, .int c.2.1, .ref (ob 0), .ref (ob 1), .ref (ob 2), .ref (ob 3), .ref (ob 4)])), (ob 2, .inl (g 4, tn 2, .inr (.inr (.inr (.inr (bld (ad 2) (tn 2)))))))] : va_W) ++ simW (g 0) ad tn (simM tr od c)) sz) := by
  refine Met.ofW (cc := cX11_squeaking) (maxL := 3) (ret := (some .int)) (by decide) rfl ?_
  intro p9 e9 s9 m9 args9 below9 meth9 c9 s₁ B hml hv
  obtain ⟨rfl, hsz, hP, hK, hD0, hZ⟩ := hv
  have hx := B.exec
  have hb := B.bytes
  have hr := B.returns
  have hts := ws_sub (atoms_spec (ws := WS yX11_squeaking cX11_squeaking 3 (some .int)) B.pre)
  have hown : s9.vm.findClass RX11 = some m9.cls := findClass_of_methodNamed B.named
  have hlocks := B.notSynchronized
  subst hsz
  have hD := hD0.self (sz := s9.heap.size)
  generalize hAe : va_A (([(sm, .inr (9, [.int c.1.1, .int c.1.2.1, .int c.1.2.2.1, .int c.2.1, .ref (ob 0), .ref (ob 1), .ref (ob 2), .ref (ob 3), .ref (ob 4)])), (ob 2, .inl (g 4, tn 2, .inr (.inr (.inr (.inr (bld (ad 2) (tn 2)))))))] : va_W) ++ simW (g 0) ad tn (simM tr od c)) s9.heap.size = A at hD hZ ⊢
  have hA : ∀ q : Nat, s9.heap.size ≤ q → A q := fun q h => by rw [← hAe]; exact Or.inr h
  have hS : va_S A s9.heap s9.heap [] := va_S.rf
  have hP : va_P D CLS (([(sm, .inr (9, [.int c.1.1, .int c.1.2.1, .int c.1.2.2.1, .int c.2.1, .ref (ob 0), .ref (ob 1), .ref (ob 2), .ref (ob 3), .ref (ob 4)])), (ob 2, .inl (g 4, tn 2, .inr (.inr (.inr (.inr (bld (ad 2) (tn 2)))))))] : va_W) ++ simW (g 0) ad tn (simM tr od c)) s9.heap := hP
  have hl := lv_entry ([.ref sm]) (n := 3) (Nat.le_of_ble_eq_true rfl)
  rw [lg_entry_eq]
  generalize (lg_sl ([.ref sm]) ++ List.replicate (3 - (lg_sl ([.ref sm])).length) Slot.unset).toArray = ls at hl ⊢
  have hl : lv_has ls 3 [(0, .ref sm)] := hl
  change W p9 l9 e9 ({ frames := 1, cells := 0, slots := 0, locals := 21 } : Room) s9 m9 _ below9 meth9 c9 _ _ _ _ _ _
  have hN := hO.1; unfold CntS at hN
  refine lv_iconst (v := 0) hx hb dX11_squeaking_0 (by decide) ?_
  refine lv_istore_n (lv' := [(1, .int 0), (0, .ref sm)]) hx hb dX11_squeaking_1 rfl hl (by decide) rfl (fun ls hl => ?_)
  refine lv_iconst (v := 0) hx hb dX11_squeaking_2 (by decide) ?_
  refine lv_istore_n (lv' := [(2, .int 0), (1, .int 0), (0, .ref sm)]) hx hb dX11_squeaking_3 rfl hl (by decide) rfl (fun ls hl => ?_)
  have loop_4 : ∀ (n9 : Nat) (i : Nat), n9 > tn 2 - i → (i ≤ tn 2) → ∀ (H : Heap) (locs : List Loc), va_P D CLS (([(sm, .inr (9, [.int c.1.1, .int c.1.2.1, .int c.1.2.2.1, .int c.2.1, .ref (ob 0), .ref (ob 1), .ref (ob 2), .ref (ob 3), .ref (ob 4)])), (ob 2, .inl (g 4, tn 2, .inr (.inr (.inr (.inr (bld (ad 2) (tn 2)))))))] : va_W) ++ simW (g 0) ad tn (simM tr od c)) H → va_D A (([(sm, .inr (9, [.int c.1.1, .int c.1.2.1, .int c.1.2.2.1, .int c.2.1, .ref (ob 0), .ref (ob 1), .ref (ob 2), .ref (ob 3), .ref (ob 4)])), (ob 2, .inl (g 4, tn 2, .inr (.inr (.inr (.inr (bld (ad 2) (tn 2)))))))] : va_W) ++ simW (g 0) ad tn (simM tr od c)) → va_S A s9.heap H locs → ∀ (ls : Array Slot), lv_has ls 3 [(0, .ref sm), (1, .int (fSqk c.1.2.2.2.2.2.2 i)), (2, .int (nI i))] → W p9 l9 e9 ({ frames := 1, cells := 0, slots := 0, locals := 21 } : Room) s9 m9 ([.ref sm] : List Value).toArray below9 meth9 c9 H locs 0 0 (MQ below9 (va_Qi (fun (r9 : Int32) (u9 : Unit) => r9 = fSqk c.1.2.2.2.2.2.2 (tn 2)) (kB D g A (fun (u9 : Unit) => (([(sm, .inr (9, [.int c.1.1, .int c.1.2.1, .int c.1.2.2.1, .int c.2.1, .ref (ob 0), .ref (ob 1), .ref (ob 2), .ref (ob 3), .ref (ob 4)])), (ob 2, .inl (g 4, tn 2, .inr (.inr (.inr (.inr (bld (ad 2) (tn 2)))))))] : va_W) ++ simW (g 0) ad tn (simM tr od c)))) A) ([.ref sm] : List Value).toArray s9 0 0 A) (F0 m9 4 ls []) := by
    intro n9
    induction n9 with
    | zero => intro i hm9; exact absurd hm9 (by omega)
    | succ n9 ih_4 =>
      intro i hm9 hi H locs hP hD hS ls hl
      refine lv_iload_n hx hb dX11_squeaking_4 rfl (lv_at hl 2 rfl) ?_
      refine lv_aload_n hx hb dX11_squeaking_5 rfl (lv_at hl 0 rfl) ?_
      refine va_get (D := D) (ci := 9) (v := .ref (ob 2)) (C := RX11) (T := TX11) (N := 9) hx hb hts in_X11 hown hK hP 0 rfl rfl 6 (by decide) (hts _ w_1219) (fun _ h9 => h9) rfl dX11_squeaking_6 ?_
      refine va_alen (v := nI (tn 2)) hx hb hK hP 1 4 rfl rfl rfl dX11_squeaking_9 ?_
      refine lv_icmp_ge (tgt := 35) hx hb dX11_squeaking_10 (by decide) (fun c_10 => ?_) (fun c_10 => ?_)
      · skip
        have c_10 : (tn 2) ≤ i := (nI_leI (a := (tn 2)) (b := i) (by omega) (by omega)).mp c_10
        have hie : i = tn 2 := by omega
        refine lv_iload_n hx hb dX11_squeaking_35 rfl (lv_at hl 1 rfl) ?_
        have hr9 : (fSqk c.1.2.2.2.2.2.2 i) = (fSqk c.1.2.2.2.2.2.2 (tn 2)) := by rw [hie]
        have hP9 : va_P D CLS (([(sm, .inr (9, [.int c.1.1, .int c.1.2.1, .int c.1.2.2.1, .int c.2.1, .ref (ob 0), .ref (ob 1), .ref (ob 2), .ref (ob 3), .ref (ob 4)])), (ob 2, .inl (g 4, tn 2, .inr (.inr (.inr (.inr (bld (ad 2) (tn 2)))))))] : va_W) ++ simW (g 0) ad tn (simM tr od c)) H := by exact va_P.part hP [0, 1] rfl
        have hD9 : va_D A (([(sm, .inr (9, [.int c.1.1, .int c.1.2.1, .int c.1.2.2.1, .int c.2.1, .ref (ob 0), .ref (ob 1), .ref (ob 2), .ref (ob 3), .ref (ob 4)])), (ob 2, .inl (g 4, tn 2, .inr (.inr (.inr (.inr (bld (ad 2) (tn 2)))))))] : va_W) ++ simW (g 0) ad tn (simM tr od c)) := by exact hD.part [0, 1] (by decide +kernel) rfl
        exact W.iret (v := (fSqk c.1.2.2.2.2.2.2 i)) hx hb hr (fun t9 ht9 hW9 => ⟨⟨(fSqk c.1.2.2.2.2.2.2 i), (), rfl, hr9, by rw [ht9]; exact hP9, va_K.moved hW9.alike hK, hD9⟩, hS.F ht9⟩) hS.2.2 dX11_squeaking_36
      · skip
        have c_10 : ¬ (tn 2) ≤ i := fun h => c_10 ((nI_leI (a := (tn 2)) (b := i) (by omega) (by omega)).mpr h)
        refine lv_iload_n hx hb dX11_squeaking_13 rfl (lv_at hl 1 rfl) ?_
        refine lv_aload_n hx hb dX11_squeaking_14 rfl (lv_at hl 0 rfl) ?_
        refine lv_iload_n hx hb dX11_squeaking_15 rfl (lv_at hl 2 rfl) ?_
        refine k_iP hA hP hD hS [] (va_runV (As := [.int (nI i)]) (rest := [.int (fSqk c.1.2.2.2.2.2.2 i)]) ⟨hx, hb, hml, hown, hts⟩ (c_X11_squeaks l9 z D g sm ob ad tn tr od c dd m i hO hC (by omega) (Array.size H)) (cwV 1 hts gv_X11_56 rfl rfl rfl (by decide +kernel) ⟨Nat.le_of_ble_eq_true rfl, Nat.le_of_ble_eq_true rfl⟩) ⟨kBlind, va_recv hK hP (ci := 9) (q0 := 0) rfl rfl, kPre.pcP hK hZ hA hP hD hS [0, 1] rfl (by decide +kernel)⟩ rfl rfl hl.1 rfl (lv_room (Nat.le_of_ble_eq_true rfl)) dX11_squeaking_16 ⟨Nat.le_of_ble_eq_true rfl, Nat.le_of_ble_eq_true rfl⟩) [0, 1] [] rfl rfl rfl rfl (fun r_16 u_1 H locs hw_16 hP7 hD7 hS7 => ?_)
        clear hP hD hS
        have hP := hP7
        have hD := hD7
        have hS := hS7
        clear hP7 hD7 hS7
        obtain rfl := hw_16
        replace hP : va_P D CLS (([(sm, .inr (9, [.int c.1.1, .int c.1.2.1, .int c.1.2.2.1, .int c.2.1, .ref (ob 0), .ref (ob 1), .ref (ob 2), .ref (ob 3), .ref (ob 4)])), (ob 2, .inl (g 4, tn 2, .inr (.inr (.inr (.inr (bld (ad 2) (tn 2)))))))] : va_W) ++ simW (g 0) ad tn (simM tr od c)) H := hP
        replace hD : va_D A (([(sm, .inr (9, [.int c.1.1, .int c.1.2.1, .int c.1.2.2.1, .int c.2.1, .ref (ob 0), .ref (ob 1), .ref (ob 2), .ref (ob 3), .ref (ob 4)])), (ob 2, .inl (g 4, tn 2, .inr (.inr (.inr (.inr (bld (ad 2) (tn 2)))))))] : va_W) ++ simW (g 0) ad tn (simM tr od c)) := hD
        refine lv_if_eq (tgt := 26) hx hb dX11_squeaking_19 (by decide) (fun c_19 => ?_) (fun c_19 => ?_)
        · skip
          have c_19 := bI_0.mp c_19
          refine lv_iconst (v := 0) hx hb dX11_squeaking_26 (by decide) ?_
          refine k_topi (show (0 : Int32) = (bI (fSq c.1.2.2.2.2.2.2 (nI i))) from (by first | exact bIt c_19 | exact bIf c_19)) ?_
          refine lv_iadd hx hb dX11_squeaking_27 ?_
          refine lv_istore_n (lv' := [(1, .int ((fSqk c.1.2.2.2.2.2.2 i) + (bI (fSq c.1.2.2.2.2.2.2 (nI i))))), (0, .ref sm), (2, .int (nI i))]) hx hb dX11_squeaking_28 rfl hl (by decide) rfl (fun ls hl => ?_)
          refine lv_iinc (v := nI (i + 1)) (lv' := [(2, .int (nI (i + 1))), (1, .int ((fSqk c.1.2.2.2.2.2.2 i) + (bI (fSq c.1.2.2.2.2.2.2 (nI i))))), (0, .ref sm)]) hx hb dX11_squeaking_29 hl (k := 2) rfl (nI_1 i) (by decide) rfl (fun ls hl => ?_)
          refine lv_goto (tgt := 4) hx hb dX11_squeaking_32 (by decide) ?_
          exact ih_4  (i + 1) (by omega) (by omega) _ _ (va_P.part hP [0, 1] rfl) (hD.part [0, 1] (by decide +kernel) rfl) hS ls (lv_sub hl [2, 1, 0] rfl)
        · skip
          have c_19 := bI_1.mp c_19
          refine lv_iconst (v := 1) hx hb dX11_squeaking_22 (by decide) ?_
          refine lv_goto (tgt := 27) hx hb dX11_squeaking_23 (by decide) ?_
          refine k_topi (show (1 : Int32) = (bI (fSq c.1.2.2.2.2.2.2 (nI i))) from (by first | exact bIt c_19 | exact bIf c_19)) ?_
          refine lv_iadd hx hb dX11_squeaking_27 ?_
          refine lv_istore_n (lv' := [(1, .int ((fSqk c.1.2.2.2.2.2.2 i) + (bI (fSq c.1.2.2.2.2.2.2 (nI i))))), (0, .ref sm), (2, .int (nI i))]) hx hb dX11_squeaking_28 rfl hl (by decide) rfl (fun ls hl => ?_)
          refine lv_iinc (v := nI (i + 1)) (lv' := [(2, .int (nI (i + 1))), (1, .int ((fSqk c.1.2.2.2.2.2.2 i) + (bI (fSq c.1.2.2.2.2.2.2 (nI i))))), (0, .ref sm)]) hx hb dX11_squeaking_29 hl (k := 2) rfl (nI_1 i) (by decide) rfl (fun ls hl => ?_)
          refine lv_goto (tgt := 4) hx hb dX11_squeaking_32 (by decide) ?_
          exact ih_4  (i + 1) (by omega) (by omega) _ _ (va_P.part hP [0, 1] rfl) (hD.part [0, 1] (by decide +kernel) rfl) hS ls (lv_sub hl [2, 1, 0] rfl)
  exact loop_4 (tn 2 - 0 + 1) 0 (by omega) (Nat.zero_le _) _ _ (va_P.part hP [0, 1] rfl) (hD.part [0, 1] (by decide +kernel) rfl) hS ls (lv_sub hl [2, 1, 0] rfl)
theorem dX11_worst_0 : decode cX11_worst 0 = .ok (.iconst (-1), 1) := by decide +kernel
theorem dX11_worst_1 : decode cX11_worst 1 = .ok (.istore_n 2, 1) := by decide +kernel
theorem dX11_worst_2 : decode cX11_worst 2 = .ok (.iconst 0, 1) := by decide +kernel
theorem dX11_worst_3 : decode cX11_worst 3 = .ok (.istore_n 3, 1) := by decide +kernel
theorem dX11_worst_4 : decode cX11_worst 4 = .ok (.aload_n 0, 1) := by decide +kernel
theorem dX11_worst_5 : decode cX11_worst 5 = .ok (.getfield 22, 3) := by decide +kernel
theorem dX11_worst_8 : decode cX11_worst 8 = .ok (.arraylength, 1) := by decide +kernel
theorem dX11_worst_9 : decode cX11_worst 9 = .ok (.iconst 1, 1) := by decide +kernel
theorem dX11_worst_10 : decode cX11_worst 10 = .ok (.isub, 1) := by decide +kernel
theorem dX11_worst_11 : decode cX11_worst 11 = .ok (.istore 4, 2) := by decide +kernel
theorem dX11_worst_13 : decode cX11_worst 13 = .ok (.iload 4, 2) := by decide +kernel
theorem dX11_worst_15 : decode cX11_worst 15 = .ok (.ifCond .lt 67, 3) := by decide +kernel
theorem dX11_worst_18 : decode cX11_worst 18 = .ok (.aload_n 0, 1) := by decide +kernel
theorem dX11_worst_19 : decode cX11_worst 19 = .ok (.getfield 22, 3) := by decide +kernel
theorem dX11_worst_22 : decode cX11_worst 22 = .ok (.iload 4, 2) := by decide +kernel
theorem dX11_worst_24 : decode cX11_worst 24 = .ok (.aaload, 1) := by decide +kernel
theorem dX11_worst_25 : decode cX11_worst 25 = .ok (.iconst 1, 1) := by decide +kernel
theorem dX11_worst_26 : decode cX11_worst 26 = .ok (.iaload, 1) := by decide +kernel
theorem dX11_worst_27 : decode cX11_worst 27 = .ok (.ifCond .ge 6, 3) := by decide +kernel
theorem dX11_worst_30 : decode cX11_worst 30 = .ok (.goto 46, 3) := by decide +kernel
theorem dX11_worst_33 : decode cX11_worst 33 = .ok (.aload_n 0, 1) := by decide +kernel
theorem dX11_worst_34 : decode cX11_worst 34 = .ok (.iload 4, 2) := by decide +kernel
theorem dX11_worst_36 : decode cX11_worst 36 = .ok (.iload_n 1, 1) := by decide +kernel
theorem dX11_worst_37 : decode cX11_worst 37 = .ok (.invokevirtual 53, 3) := by decide +kernel
theorem dX11_worst_40 : decode cX11_worst 40 = .ok (.aload_n 0, 1) := by decide +kernel
theorem dX11_worst_41 : decode cX11_worst 41 = .ok (.iload 4, 2) := by decide +kernel
theorem dX11_worst_43 : decode cX11_worst 43 = .ok (.invokevirtual 56, 3) := by decide +kernel
theorem dX11_worst_46 : decode cX11_worst 46 = .ok (.ifCond .eq 7, 3) := by decide +kernel
theorem dX11_worst_49 : decode cX11_worst 49 = .ok (.iconst 3, 1) := by decide +kernel
theorem dX11_worst_50 : decode cX11_worst 50 = .ok (.goto 4, 3) := by decide +kernel
theorem dX11_worst_53 : decode cX11_worst 53 = .ok (.iconst 0, 1) := by decide +kernel
theorem dX11_worst_54 : decode cX11_worst 54 = .ok (.isub, 1) := by decide +kernel
theorem dX11_worst_55 : decode cX11_worst 55 = .ok (.istore 5, 2) := by decide +kernel
theorem dX11_worst_57 : decode cX11_worst 57 = .ok (.iload_n 2, 1) := by decide +kernel
theorem dX11_worst_58 : decode cX11_worst 58 = .ok (.ifCond .lt 12, 3) := by decide +kernel
theorem dX11_worst_61 : decode cX11_worst 61 = .ok (.iload 5, 2) := by decide +kernel
theorem dX11_worst_63 : decode cX11_worst 63 = .ok (.iload_n 3, 1) := by decide +kernel
theorem dX11_worst_64 : decode cX11_worst 64 = .ok (.if_icmp .le 6, 3) := by decide +kernel
theorem dX11_worst_67 : decode cX11_worst 67 = .ok (.goto 9, 3) := by decide +kernel
theorem dX11_worst_70 : decode cX11_worst 70 = .ok (.iload 5, 2) := by decide +kernel
theorem dX11_worst_72 : decode cX11_worst 72 = .ok (.istore_n 3, 1) := by decide +kernel
theorem dX11_worst_73 : decode cX11_worst 73 = .ok (.iload 4, 2) := by decide +kernel
theorem dX11_worst_75 : decode cX11_worst 75 = .ok (.istore_n 2, 1) := by decide +kernel
theorem dX11_worst_76 : decode cX11_worst 76 = .ok (.iinc 4 (-1), 3) := by decide +kernel
theorem dX11_worst_79 : decode cX11_worst 79 = .ok (.goto (-66), 3) := by decide +kernel
theorem dX11_worst_82 : decode cX11_worst 82 = .ok (.iload_n 2, 1) := by decide +kernel
theorem dX11_worst_83 : decode cX11_worst 83 = .ok (.ireturn, 1) := by decide +kernel
set_option maxHeartbeats 4000000 in
set_option maxRecDepth 100000 in
/-- Sim.worst -/
theorem c_X11_worst (l9 : Launch) (z : Nat → Nat) (D : va_G) (g : Nat → ClassId) (sm : Nat) (ob : Nat → Nat) (ad : Nat → Nat → Nat) (tn : Nat → Nat) (tr : Nat → Nat → Int32) (od : Nat → Nat → Nat) (c : CS) (dd : Nat) (m : Nat) (bp : Nat) (hO : SOKs tn tr od) (hC : CIn tn c dd m) (hB : bp < tn 3) (sz : Nat) : Met l9 yX11_worst (WS yX11_worst cX11_worst 6 (some .int)) ({ frames := 1, cells := 0, slots := 0, locals := 23 }) (va_Pc [.ref sm, .int (nI bp)] (kPre z D g (([(sm, .inr (9, [.int c.1.1, .int c.1.2.1, .int c.1.2.2.1, .int c.2.1, .ref (ob 0), .ref (ob 1), .ref (ob 2), .ref (ob 3), .ref (ob 4)])), (ob 0, .inl (g 4, tn 0, .inr (.inr (.inr (.inr (bld (ad 0) (tn 0))))))), (ob 2, .inl (g 4, tn 2, .inr (.inr (.inr (.inr (bld (ad 2) (tn 2))))))), (ob 3, .inl (g 4, tn 3, .inr (.inr (.inr (.inr (bld (ad 3) (tn 3)))))))] : va_W) ++ simW (g 0) ad tn (simM tr od c)) sz)) (va_Qi (fun (r9 : Int32) (u9 : Unit) => r9 = (fWst tr c.1.2.2.2.1 c.1.2.2.2.2.1 c.1.2.2.2.2.2.2 (nI bp) (tn 2)).1) (kB D g (va_A (([(sm, .inr (9, [.int c.1.1, .int c.1.2.1, .int c.1.2.2.1, .int c.2.1, .ref (ob 0), .ref (ob 1), .ref (ob 2), .ref (ob 3), .ref (ob 4)])), (ob 0, .inl (g 4, tn 0, .inr (.inr (.inr (.inr (bld (ad 0) (tn 0))))))), (ob 2, .inl (g 4, tn 2, .inr (.inr (.inr (.inr (bld (ad 2) (tn 2))))))), (ob 3, .inl (g 4, tn 3, .inr (.inr (.inr (.inr (bld (ad 3) (tn 3)))))))] : va_W) ++ simW (g 0) ad tn (simM tr od c)) sz) (fun (u9 : Unit) => (([(sm, .inr (9, [.int c.1.1, .int c.1.2.1, .int c.1.2.2.1, .int c.2.1, .ref (ob 0), .ref (ob 1), .ref (ob 2), .ref (ob 3), .ref (ob 4)])), (ob 0, .inl (g 4, tn 0, .inr (.inr (.inr (.inr (bld (ad 0) (tn 0))))))), (ob 2, .inl (g 4, tn 2, .inr (.inr (.inr (.inr (bld (ad 2) (tn 2))))))), (ob 3, .inl (g 4, tn 3, .inr (.inr (.inr (.inr (bld (ad 3) (tn 3)))))))] : va_W) ++ simW (g 0) ad tn (simM tr od c)))) (va_A (([(sm, .inr (9, [.int c.1.1, .int c.1.2.1, .int c.1.2.2.1, .int c.2.1, .ref (ob 0), .ref (ob 1), .ref (ob 2), .ref (ob 3), .ref (ob 4)])), (ob 0, .inl (g 4, tn 0, .inr (.inr (.inr (.inr (bld (ad 0) (tn 0))))))), (ob 2, .inl (g 4, tn 2, .inr (.inr (.inr (.inr (bld (ad 2) (tn 2))))))), (ob 3, .inl (g 4, tn 3, .inr (.inr (.inr (.inr (bld (ad 3) (tn 3)))))))] : va_W) ++ simW (g 0) ad tn (simM tr od c)) sz)) 0 0 (va_A (([(sm, .inr (9, [.int c.1.1, .int c.1.2.1, .int c.1.2.2.1, .int c.2.1, .ref (ob 0), .ref (ob 1), .ref (ob 2), .ref (ob 3), .ref (ob 4)])), (ob 0, .inl (g 4, tn 0, .inr (.inr (.inr (.inr (bld (ad 0) (tn 0))))))), (ob 2, .inl (g 4, tn 2, .inr (.inr (.inr (.inr (bld (ad 2) (tn 2))))))), (ob 3, .inl (g 4, tn 3, .inr (.inr (.inr (.inr (bld (ad 3) (tn 3)))))))] : va_W) ++ simW (g 0) ad tn (simM tr od c)) sz) := by
  refine Met.ofW (cc := cX11_worst) (maxL := 6) (ret := (some .int)) (by decide) rfl ?_
  intro p9 e9 s9 m9 args9 below9 meth9 c9 s₁ B hml hv
  obtain ⟨rfl, hsz, hP, hK, hD0, hZ⟩ := hv
  have hx := B.exec
  have hb := B.bytes
  have hr := B.returns
  have hts := ws_sub (atoms_spec (ws := WS yX11_worst cX11_worst 6 (some .int)) B.pre)
  have hown : s9.vm.findClass RX11 = some m9.cls := findClass_of_methodNamed B.named
  have hlocks := B.notSynchronized
  subst hsz
  have hD := hD0.self (sz := s9.heap.size)
  generalize hAe : va_A (([(sm, .inr (9, [.int c.1.1, .int c.1.2.1, .int c.1.2.2.1, .int c.2.1, .ref (ob 0), .ref (ob 1), .ref (ob 2), .ref (ob 3), .ref (ob 4)])), (ob 0, .inl (g 4, tn 0, .inr (.inr (.inr (.inr (bld (ad 0) (tn 0))))))), (ob 2, .inl (g 4, tn 2, .inr (.inr (.inr (.inr (bld (ad 2) (tn 2))))))), (ob 3, .inl (g 4, tn 3, .inr (.inr (.inr (.inr (bld (ad 3) (tn 3)))))))] : va_W) ++ simW (g 0) ad tn (simM tr od c)) s9.heap.size = A at hD hZ ⊢
  have hA : ∀ q : Nat, s9.heap.size ≤ q → A q := fun q h => by rw [← hAe]; exact Or.inr h
  have hS : va_S A s9.heap s9.heap [] := va_S.rf
  have hP : va_P D CLS (([(sm, .inr (9, [.int c.1.1, .int c.1.2.1, .int c.1.2.2.1, .int c.2.1, .ref (ob 0), .ref (ob 1), .ref (ob 2), .ref (ob 3), .ref (ob 4)])), (ob 0, .inl (g 4, tn 0, .inr (.inr (.inr (.inr (bld (ad 0) (tn 0))))))), (ob 2, .inl (g 4, tn 2, .inr (.inr (.inr (.inr (bld (ad 2) (tn 2))))))), (ob 3, .inl (g 4, tn 3, .inr (.inr (.inr (.inr (bld (ad 3) (tn 3)))))))] : va_W) ++ simW (g 0) ad tn (simM tr od c)) s9.heap := hP
  have hl := lv_entry ([.ref sm, .int (nI bp)]) (n := 6) (Nat.le_of_ble_eq_true rfl)
  rw [lg_entry_eq]
  generalize (lg_sl ([.ref sm, .int (nI bp)]) ++ List.replicate (6 - (lg_sl ([.ref sm, .int (nI bp)])).length) Slot.unset).toArray = ls at hl ⊢
  have hl : lv_has ls 6 [(0, .ref sm), (1, .int (nI bp))] := hl
  change W p9 l9 e9 ({ frames := 1, cells := 0, slots := 0, locals := 23 } : Room) s9 m9 _ below9 meth9 c9 _ _ _ _ _ _
  have hN := hO.1; unfold CntS at hN
  refine lv_iconst (v := (-1)) hx hb dX11_worst_0 (by decide) ?_
  refine lv_istore_n (lv' := [(2, .int (-1)), (0, .ref sm), (1, .int (nI bp))]) hx hb dX11_worst_1 rfl hl (by decide) rfl (fun ls hl => ?_)
  refine lv_iconst (v := 0) hx hb dX11_worst_2 (by decide) ?_
  refine lv_istore_n (lv' := [(3, .int 0), (2, .int (-1)), (0, .ref sm), (1, .int (nI bp))]) hx hb dX11_worst_3 rfl hl (by decide) rfl (fun ls hl => ?_)
  refine lv_aload_n hx hb dX11_worst_4 rfl (lv_at hl 2 rfl) ?_
  refine va_get (D := D) (ci := 9) (v := .ref (ob 2)) (C := RX11) (T := TX11) (N := 9) hx hb hts in_X11 hown hK hP 0 rfl rfl 6 (by decide) (hts _ w_1219) (fun _ h9 => h9) rfl dX11_worst_5 ?_
  refine va_alen (v := nI (tn 2)) hx hb hK hP 2 4 rfl rfl rfl dX11_worst_8 ?_
  refine lv_iconst (v := 1) hx hb dX11_worst_9 (by decide) ?_
  refine lv_isub hx hb dX11_worst_10 ?_
  refine k_topi (show ((nI (tn 2)) - 1) = (nI (tn 2) + (-1)) from sub_m1) ?_
  refine lv_istore (lv' := [(4, .int (nI (tn 2) + (-1))), (3, .int 0), (2, .int (-1)), (0, .ref sm), (1, .int (nI bp))]) hx hb dX11_worst_11 hl (by decide) rfl (fun ls hl => ?_)
  have loop_13 : ∀ (n9 : Nat) (i : Nat) (x : Int32) (y : Int32), n9 > i → (i ≤ tn 2) → (WI (fun k => decide (¬ c.1.2.2.2.1 k = (-1))) (fPl1 tr c.1.2.2.2.1 c.1.2.2.2.2.1 c.1.2.2.2.2.2.2 (nI bp)) i (tn 2) x y) → ∀ (H : Heap) (locs : List Loc), va_P D CLS (([(sm, .inr (9, [.int c.1.1, .int c.1.2.1, .int c.1.2.2.1, .int c.2.1, .ref (ob 0), .ref (ob 1), .ref (ob 2), .ref (ob 3), .ref (ob 4)])), (ob 0, .inl (g 4, tn 0, .inr (.inr (.inr (.inr (bld (ad 0) (tn 0))))))), (ob 2, .inl (g 4, tn 2, .inr (.inr (.inr (.inr (bld (ad 2) (tn 2))))))), (ob 3, .inl (g 4, tn 3, .inr (.inr (.inr (.inr (bld (ad 3) (tn 3)))))))] : va_W) ++ simW (g 0) ad tn (simM tr od c)) H → va_D A (([(sm, .inr (9, [.int c.1.1, .int c.1.2.1, .int c.1.2.2.1, .int c.2.1, .ref (ob 0), .ref (ob 1), .ref (ob 2), .ref (ob 3), .ref (ob 4)])), (ob 0, .inl (g 4, tn 0, .inr (.inr (.inr (.inr (bld (ad 0) (tn 0))))))), (ob 2, .inl (g 4, tn 2, .inr (.inr (.inr (.inr (bld (ad 2) (tn 2))))))), (ob 3, .inl (g 4, tn 3, .inr (.inr (.inr (.inr (bld (ad 3) (tn 3)))))))] : va_W) ++ simW (g 0) ad tn (simM tr od c)) → va_S A s9.heap H locs → ∀ (ls : Array Slot), lv_has ls 6 [(0, .ref sm), (1, .int (nI bp)), (2, .int x), (3, .int y), (4, .int (nI i + (-1)))] → W p9 l9 e9 ({ frames := 1, cells := 0, slots := 0, locals := 23 } : Room) s9 m9 ([.ref sm, .int (nI bp)] : List Value).toArray below9 meth9 c9 H locs 0 0 (MQ below9 (va_Qi (fun (r9 : Int32) (u9 : Unit) => r9 = (fWst tr c.1.2.2.2.1 c.1.2.2.2.2.1 c.1.2.2.2.2.2.2 (nI bp) (tn 2)).1) (kB D g A (fun (u9 : Unit) => (([(sm, .inr (9, [.int c.1.1, .int c.1.2.1, .int c.1.2.2.1, .int c.2.1, .ref (ob 0), .ref (ob 1), .ref (ob 2), .ref (ob 3), .ref (ob 4)])), (ob 0, .inl (g 4, tn 0, .inr (.inr (.inr (.inr (bld (ad 0) (tn 0))))))), (ob 2, .inl (g 4, tn 2, .inr (.inr (.inr (.inr (bld (ad 2) (tn 2))))))), (ob 3, .inl (g 4, tn 3, .inr (.inr (.inr (.inr (bld (ad 3) (tn 3)))))))] : va_W) ++ simW (g 0) ad tn (simM tr od c)))) A) ([.ref sm, .int (nI bp)] : List Value).toArray s9 0 0 A) (F0 m9 13 ls []) := by
    intro n9
    induction n9 with
    | zero => intro i x y hm9; exact absurd hm9 (by omega)
    | succ n9 ih_13 =>
      intro i x y hm9 hi hF H locs hP hD hS ls hl
      refine lv_iload hx hb dX11_worst_13 (lv_at hl 4 rfl) ?_
      refine lv_if_lt (tgt := 82) hx hb dX11_worst_15 (by decide) (fun c_15 => ?_) (fun c_15 => ?_)
      · skip
        have c_15 : i = 0 := (dn_lt c_15).resolve_right (by omega)
        refine lv_iload_n hx hb dX11_worst_82 rfl (lv_at hl 2 rfl) ?_
        have hr9 : x = ((fWst tr c.1.2.2.2.1 c.1.2.2.2.2.1 c.1.2.2.2.2.2.2 (nI bp) (tn 2)).1) := by subst c_15; exact WI_e (by omega) hF
        have hP9 : va_P D CLS (([(sm, .inr (9, [.int c.1.1, .int c.1.2.1, .int c.1.2.2.1, .int c.2.1, .ref (ob 0), .ref (ob 1), .ref (ob 2), .ref (ob 3), .ref (ob 4)])), (ob 0, .inl (g 4, tn 0, .inr (.inr (.inr (.inr (bld (ad 0) (tn 0))))))), (ob 2, .inl (g 4, tn 2, .inr (.inr (.inr (.inr (bld (ad 2) (tn 2))))))), (ob 3, .inl (g 4, tn 3, .inr (.inr (.inr (.inr (bld (ad 3) (tn 3)))))))] : va_W) ++ simW (g 0) ad tn (simM tr od c)) H := by exact va_P.part hP [0, 1, 2, 3] rfl
        have hD9 : va_D A (([(sm, .inr (9, [.int c.1.1, .int c.1.2.1, .int c.1.2.2.1, .int c.2.1, .ref (ob 0), .ref (ob 1), .ref (ob 2), .ref (ob 3), .ref (ob 4)])), (ob 0, .inl (g 4, tn 0, .inr (.inr (.inr (.inr (bld (ad 0) (tn 0))))))), (ob 2, .inl (g 4, tn 2, .inr (.inr (.inr (.inr (bld (ad 2) (tn 2))))))), (ob 3, .inl (g 4, tn 3, .inr (.inr (.inr (.inr (bld (ad 3) (tn 3)))))))] : va_W) ++ simW (g 0) ad tn (simM tr od c)) := by exact hD.part [0, 1, 2, 3] (by decide +kernel) rfl
        exact W.iret (v := x) hx hb hr (fun t9 ht9 hW9 => ⟨⟨x, (), rfl, hr9, by rw [ht9]; exact hP9, va_K.moved hW9.alike hK, hD9⟩, hS.F ht9⟩) hS.2.2 dX11_worst_83
      · skip
        have c_15 := dn_ge c_15
        rw [dn_eq c_15] at hl
        refine lv_aload_n hx hb dX11_worst_18 rfl (lv_at hl 0 rfl) ?_
        refine va_get (D := D) (ci := 9) (v := .ref (ob 2)) (C := RX11) (T := TX11) (N := 9) hx hb hts in_X11 hown hK hP 0 rfl rfl 6 (by decide) (hts _ w_1219) (fun _ h9 => h9) rfl dX11_worst_19 ?_
        refine lv_iload hx hb dX11_worst_22 (lv_at hl 4 rfl) ?_
        refine k_aldB (i := i - 1) hx hb hK hP 2 rfl (by omega) (Nat.le_refl _) (by omega) dX11_worst_24 ?_
        refine lv_iconst (v := 1) hx hb dX11_worst_25 (by decide) ?_
        refine k_ldS (j := 2) (i := (i - 1)) (q := 1) (v := c.1.2.2.2.1 (i - 1)) hx hb hK hP (by decide) (by omega) (by decide) rfl dX11_worst_26 ?_
        refine lv_if_ge (tgt := 33) hx hb dX11_worst_27 (by decide) (fun c_27 => ?_) (fun c_27 => ?_)
        · skip
          have hs := hC.2.2.2.2.2 (i - 1) (by omega)
          obtain ⟨e, he2, he⟩ := bear_ge hs (by omega) (Int32.not_lt.mpr c_27)
          have hnb : ¬ c.1.2.2.2.1 (i - 1) = (-1) := by rw [he]; exact nI_nm1 (by omega)
          refine lv_aload_n hx hb dX11_worst_33 rfl (lv_at hl 0 rfl) ?_
          refine lv_iload hx hb dX11_worst_34 (lv_at hl 4 rfl) ?_
          refine lv_iload_n hx hb dX11_worst_36 rfl (lv_at hl 1 rfl) ?_
          refine k_iP hA hP hD hS [] (va_runV (As := [.int (nI (i - 1)), .int (nI bp)]) (rest := []) ⟨hx, hb, hml, hown, hts⟩ (c_X11_pleases l9 z D g sm ob ad tn tr od c dd m (i - 1) bp e hO hC (by omega) hB he he2 (Array.size H)) (cwV 2 hts gv_X11_53 rfl rfl rfl (by decide +kernel) ⟨Nat.le_of_ble_eq_true rfl, Nat.le_of_ble_eq_true rfl⟩) ⟨kBlind, va_recv hK hP (ci := 9) (q0 := 0) rfl rfl, kPre.pcP hK hZ hA hP hD hS [0, 1, 2, 3] rfl (by decide +kernel)⟩ rfl rfl hl.1 rfl (lv_room (Nat.le_of_ble_eq_true rfl)) dX11_worst_37 ⟨Nat.le_of_ble_eq_true rfl, Nat.le_of_ble_eq_true rfl⟩) [0, 1, 2, 3] [] rfl rfl rfl rfl (fun r_37 u_1 H locs hw_37 hP7 hD7 hS7 => ?_)
          clear hP hD hS
          have hP := hP7
          have hD := hD7
          have hS := hS7
          clear hP7 hD7 hS7
          obtain rfl := hw_37
          replace hP : va_P D CLS (([(sm, .inr (9, [.int c.1.1, .int c.1.2.1, .int c.1.2.2.1, .int c.2.1, .ref (ob 0), .ref (ob 1), .ref (ob 2), .ref (ob 3), .ref (ob 4)])), (ob 0, .inl (g 4, tn 0, .inr (.inr (.inr (.inr (bld (ad 0) (tn 0))))))), (ob 2, .inl (g 4, tn 2, .inr (.inr (.inr (.inr (bld (ad 2) (tn 2))))))), (ob 3, .inl (g 4, tn 3, .inr (.inr (.inr (.inr (bld (ad 3) (tn 3)))))))] : va_W) ++ simW (g 0) ad tn (simM tr od c)) H := hP
          replace hD : va_D A (([(sm, .inr (9, [.int c.1.1, .int c.1.2.1, .int c.1.2.2.1, .int c.2.1, .ref (ob 0), .ref (ob 1), .ref (ob 2), .ref (ob 3), .ref (ob 4)])), (ob 0, .inl (g 4, tn 0, .inr (.inr (.inr (.inr (bld (ad 0) (tn 0))))))), (ob 2, .inl (g 4, tn 2, .inr (.inr (.inr (.inr (bld (ad 2) (tn 2))))))), (ob 3, .inl (g 4, tn 3, .inr (.inr (.inr (.inr (bld (ad 3) (tn 3)))))))] : va_W) ++ simW (g 0) ad tn (simM tr od c)) := hD
          refine lv_aload_n hx hb dX11_worst_40 rfl (lv_at hl 0 rfl) ?_
          refine lv_iload hx hb dX11_worst_41 (lv_at hl 4 rfl) ?_
          refine k_iP hA hP hD hS [(ob 0, .inl (g 4, tn 0, .inr (.inr (.inr (.inr (bld (ad 0) (tn 0))))))), (ob 3, .inl (g 4, tn 3, .inr (.inr (.inr (.inr (bld (ad 3) (tn 3)))))))] (va_runV (As := [.int (nI (i - 1))]) (rest := [.int (fDel tr c.1.2.2.2.1 c.1.2.2.2.2.1 (nI bp) (nI (i - 1)))]) ⟨hx, hb, hml, hown, hts⟩ (c_X11_squeaks l9 z D g sm ob ad tn tr od c dd m (i - 1) hO hC (by omega) (Array.size H)) (cwV 1 hts gv_X11_56 rfl rfl rfl (by decide +kernel) ⟨Nat.le_of_ble_eq_true rfl, Nat.le_of_ble_eq_true rfl⟩) ⟨kBlind, va_recv hK hP (ci := 9) (q0 := 0) rfl rfl, kPre.pcP hK hZ hA hP hD hS [0, 2] rfl (by decide +kernel)⟩ rfl rfl hl.1 rfl (lv_room (Nat.le_of_ble_eq_true rfl)) dX11_worst_43 ⟨Nat.le_of_ble_eq_true rfl, Nat.le_of_ble_eq_true rfl⟩) [0, 2] [1, 3] rfl rfl rfl rfl (fun r_43 u_2 H locs hw_43 hP7 hD7 hS7 => ?_)
          clear hP hD hS
          have hP := hP7
          have hD := hD7
          have hS := hS7
          clear hP7 hD7 hS7
          obtain rfl := hw_43
          replace hP : va_P D CLS (([(ob 0, .inl (g 4, tn 0, .inr (.inr (.inr (.inr (bld (ad 0) (tn 0))))))), (ob 3, .inl (g 4, tn 3, .inr (.inr (.inr (.inr (bld (ad 3) (tn 3))))))), (sm, .inr (9, [.int c.1.1, .int c.1.2.1, .int c.1.2.2.1, .int c.2.1, .ref (ob 0), .ref (ob 1), .ref (ob 2), .ref (ob 3), .ref (ob 4)])), (ob 2, .inl (g 4, tn 2, .inr (.inr (.inr (.inr (bld (ad 2) (tn 2)))))))] : va_W) ++ simW (g 0) ad tn (simM tr od c)) H := hP
          replace hD : va_D A (([(ob 0, .inl (g 4, tn 0, .inr (.inr (.inr (.inr (bld (ad 0) (tn 0))))))), (ob 3, .inl (g 4, tn 3, .inr (.inr (.inr (.inr (bld (ad 3) (tn 3))))))), (sm, .inr (9, [.int c.1.1, .int c.1.2.1, .int c.1.2.2.1, .int c.2.1, .ref (ob 0), .ref (ob 1), .ref (ob 2), .ref (ob 3), .ref (ob 4)])), (ob 2, .inl (g 4, tn 2, .inr (.inr (.inr (.inr (bld (ad 2) (tn 2)))))))] : va_W) ++ simW (g 0) ad tn (simM tr od c)) := hD
          refine lv_if_eq (tgt := 53) hx hb dX11_worst_46 (by decide) (fun c_46 => ?_) (fun c_46 => ?_)
          · skip
            have c_46 := bI_0.mp c_46
            refine lv_iconst (v := 0) hx hb dX11_worst_53 (by decide) ?_
            refine k_topi (show (0 : Int32) = (fCost c.1.2.2.2.2.2.2 (nI (i - 1))) from (by first | exact cost_t c_46 | exact cost_f c_46)) ?_
            refine lv_isub hx hb dX11_worst_54 ?_
            refine k_topi (show ((fDel tr c.1.2.2.2.1 c.1.2.2.2.2.1 (nI bp) (nI (i - 1))) - (fCost c.1.2.2.2.2.2.2 (nI (i - 1)))) = (fPl1 tr c.1.2.2.2.1 c.1.2.2.2.2.1 c.1.2.2.2.2.2.2 (nI bp) (i - 1)) from rfl) ?_
            refine lv_istore (lv' := [(5, .int (fPl1 tr c.1.2.2.2.1 c.1.2.2.2.2.1 c.1.2.2.2.2.2.2 (nI bp) (i - 1))), (0, .ref sm), (1, .int (nI bp)), (2, .int x), (3, .int y), (4, .int (nI (i - 1)))]) hx hb dX11_worst_55 hl (by decide) rfl (fun ls hl => ?_)
            refine lv_iload_n hx hb dX11_worst_57 rfl (lv_at hl 3 rfl) ?_
            refine lv_if_lt (tgt := 70) hx hb dX11_worst_58 (by decide) (fun c_58 => ?_) (fun c_58 => ?_)
            · skip
              refine lv_iload hx hb dX11_worst_70 (lv_at hl 0 rfl) ?_
              refine lv_istore_n (lv' := [(3, .int (fPl1 tr c.1.2.2.2.1 c.1.2.2.2.2.1 c.1.2.2.2.2.2.2 (nI bp) (i - 1))), (5, .int (fPl1 tr c.1.2.2.2.1 c.1.2.2.2.2.1 c.1.2.2.2.2.2.2 (nI bp) (i - 1))), (0, .ref sm), (1, .int (nI bp)), (2, .int x), (4, .int (nI (i - 1)))]) hx hb dX11_worst_72 rfl hl (by decide) rfl (fun ls hl => ?_)
              refine lv_iload hx hb dX11_worst_73 (lv_at hl 5 rfl) ?_
              refine lv_istore_n (lv' := [(2, .int (nI (i - 1))), (3, .int (fPl1 tr c.1.2.2.2.1 c.1.2.2.2.2.1 c.1.2.2.2.2.2.2 (nI bp) (i - 1))), (5, .int (fPl1 tr c.1.2.2.2.1 c.1.2.2.2.2.1 c.1.2.2.2.2.2.2 (nI bp) (i - 1))), (0, .ref sm), (1, .int (nI bp)), (4, .int (nI (i - 1)))]) hx hb dX11_worst_75 rfl hl (by decide) rfl (fun ls hl => ?_)
              refine lv_iinc (v := (nI (i - 1)) + (-1)) (lv' := [(4, .int ((nI (i - 1)) + (-1))), (2, .int (nI (i - 1))), (3, .int (fPl1 tr c.1.2.2.2.1 c.1.2.2.2.2.1 c.1.2.2.2.2.2.2 (nI bp) (i - 1))), (5, .int (fPl1 tr c.1.2.2.2.1 c.1.2.2.2.2.1 c.1.2.2.2.2.2.2 (nI bp) (i - 1))), (0, .ref sm), (1, .int (nI bp))]) hx hb dX11_worst_76 hl (k := 5) rfl rfl (by decide) rfl (fun ls hl => ?_)
              refine lv_goto (tgt := 13) hx hb dX11_worst_79 (by decide) ?_
              exact ih_13  (i - 1) (nI (i - 1)) (fPl1 tr c.1.2.2.2.1 c.1.2.2.2.2.1 c.1.2.2.2.2.2.2 (nI bp) (i - 1)) (by omega) (by omega) (by first | exact WI_a c_15 (df (fun q => q hbe)) hF | exact WI_b c_15 (by omega) (dt hnb) (by omega) (Or.inl c_58) hF | exact WI_b c_15 (by omega) (dt hnb) (by omega) (Or.inr c_64) hF | exact WI_c c_15 (by omega) c_58 c_64 hF) _ _ (va_P.part hP [2, 0, 3, 1] rfl) (hD.part [2, 0, 3, 1] (by decide +kernel) rfl) hS ls (lv_sub hl [4, 5, 1, 2, 0] rfl)
            · skip
              refine lv_iload hx hb dX11_worst_61 (lv_at hl 0 rfl) ?_
              refine lv_iload_n hx hb dX11_worst_63 rfl (lv_at hl 4 rfl) ?_
              refine lv_icmp_le (tgt := 70) hx hb dX11_worst_64 (by decide) (fun c_64 => ?_) (fun c_64 => ?_)
              · skip
                refine lv_iload hx hb dX11_worst_70 (lv_at hl 0 rfl) ?_
                refine lv_istore_n (lv' := [(3, .int (fPl1 tr c.1.2.2.2.1 c.1.2.2.2.2.1 c.1.2.2.2.2.2.2 (nI bp) (i - 1))), (5, .int (fPl1 tr c.1.2.2.2.1 c.1.2.2.2.2.1 c.1.2.2.2.2.2.2 (nI bp) (i - 1))), (0, .ref sm), (1, .int (nI bp)), (2, .int x), (4, .int (nI (i - 1)))]) hx hb dX11_worst_72 rfl hl (by decide) rfl (fun ls hl => ?_)
                refine lv_iload hx hb dX11_worst_73 (lv_at hl 5 rfl) ?_
                refine lv_istore_n (lv' := [(2, .int (nI (i - 1))), (3, .int (fPl1 tr c.1.2.2.2.1 c.1.2.2.2.2.1 c.1.2.2.2.2.2.2 (nI bp) (i - 1))), (5, .int (fPl1 tr c.1.2.2.2.1 c.1.2.2.2.2.1 c.1.2.2.2.2.2.2 (nI bp) (i - 1))), (0, .ref sm), (1, .int (nI bp)), (4, .int (nI (i - 1)))]) hx hb dX11_worst_75 rfl hl (by decide) rfl (fun ls hl => ?_)
                refine lv_iinc (v := (nI (i - 1)) + (-1)) (lv' := [(4, .int ((nI (i - 1)) + (-1))), (2, .int (nI (i - 1))), (3, .int (fPl1 tr c.1.2.2.2.1 c.1.2.2.2.2.1 c.1.2.2.2.2.2.2 (nI bp) (i - 1))), (5, .int (fPl1 tr c.1.2.2.2.1 c.1.2.2.2.2.1 c.1.2.2.2.2.2.2 (nI bp) (i - 1))), (0, .ref sm), (1, .int (nI bp))]) hx hb dX11_worst_76 hl (k := 5) rfl rfl (by decide) rfl (fun ls hl => ?_)
                refine lv_goto (tgt := 13) hx hb dX11_worst_79 (by decide) ?_
                exact ih_13  (i - 1) (nI (i - 1)) (fPl1 tr c.1.2.2.2.1 c.1.2.2.2.2.1 c.1.2.2.2.2.2.2 (nI bp) (i - 1)) (by omega) (by omega) (by first | exact WI_a c_15 (df (fun q => q hbe)) hF | exact WI_b c_15 (by omega) (dt hnb) (by omega) (Or.inl c_58) hF | exact WI_b c_15 (by omega) (dt hnb) (by omega) (Or.inr c_64) hF | exact WI_c c_15 (by omega) c_58 c_64 hF) _ _ (va_P.part hP [2, 0, 3, 1] rfl) (hD.part [2, 0, 3, 1] (by decide +kernel) rfl) hS ls (lv_sub hl [4, 5, 1, 2, 0] rfl)
              · skip
                refine lv_goto (tgt := 76) hx hb dX11_worst_67 (by decide) ?_
                refine lv_iinc (v := (nI (i - 1)) + (-1)) (lv' := [(4, .int ((nI (i - 1)) + (-1))), (5, .int (fPl1 tr c.1.2.2.2.1 c.1.2.2.2.2.1 c.1.2.2.2.2.2.2 (nI bp) (i - 1))), (0, .ref sm), (1, .int (nI bp)), (2, .int x), (3, .int y)]) hx hb dX11_worst_76 hl (k := 5) rfl rfl (by decide) rfl (fun ls hl => ?_)
                refine lv_goto (tgt := 13) hx hb dX11_worst_79 (by decide) ?_
                exact ih_13  (i - 1) x y (by omega) (by omega) (by first | exact WI_a c_15 (df (fun q => q hbe)) hF | exact WI_b c_15 (by omega) (dt hnb) (by omega) (Or.inl c_58) hF | exact WI_b c_15 (by omega) (dt hnb) (by omega) (Or.inr c_64) hF | exact WI_c c_15 (by omega) c_58 c_64 hF) _ _ (va_P.part hP [2, 0, 3, 1] rfl) (hD.part [2, 0, 3, 1] (by decide +kernel) rfl) hS ls (lv_sub hl [2, 3, 4, 5, 0] rfl)
          · skip
            have c_46 := bI_1.mp c_46
            refine lv_iconst (v := 3) hx hb dX11_worst_49 (by decide) ?_
            refine lv_goto (tgt := 54) hx hb dX11_worst_50 (by decide) ?_
            refine k_topi (show (3 : Int32) = (fCost c.1.2.2.2.2.2.2 (nI (i - 1))) from (by first | exact cost_t c_46 | exact cost_f c_46)) ?_
            refine lv_isub hx hb dX11_worst_54 ?_
            refine k_topi (show ((fDel tr c.1.2.2.2.1 c.1.2.2.2.2.1 (nI bp) (nI (i - 1))) - (fCost c.1.2.2.2.2.2.2 (nI (i - 1)))) = (fPl1 tr c.1.2.2.2.1 c.1.2.2.2.2.1 c.1.2.2.2.2.2.2 (nI bp) (i - 1)) from rfl) ?_
            refine lv_istore (lv' := [(5, .int (fPl1 tr c.1.2.2.2.1 c.1.2.2.2.2.1 c.1.2.2.2.2.2.2 (nI bp) (i - 1))), (0, .ref sm), (1, .int (nI bp)), (2, .int x), (3, .int y), (4, .int (nI (i - 1)))]) hx hb dX11_worst_55 hl (by decide) rfl (fun ls hl => ?_)
            refine lv_iload_n hx hb dX11_worst_57 rfl (lv_at hl 3 rfl) ?_
            refine lv_if_lt (tgt := 70) hx hb dX11_worst_58 (by decide) (fun c_58 => ?_) (fun c_58 => ?_)
            · skip
              refine lv_iload hx hb dX11_worst_70 (lv_at hl 0 rfl) ?_
              refine lv_istore_n (lv' := [(3, .int (fPl1 tr c.1.2.2.2.1 c.1.2.2.2.2.1 c.1.2.2.2.2.2.2 (nI bp) (i - 1))), (5, .int (fPl1 tr c.1.2.2.2.1 c.1.2.2.2.2.1 c.1.2.2.2.2.2.2 (nI bp) (i - 1))), (0, .ref sm), (1, .int (nI bp)), (2, .int x), (4, .int (nI (i - 1)))]) hx hb dX11_worst_72 rfl hl (by decide) rfl (fun ls hl => ?_)
              refine lv_iload hx hb dX11_worst_73 (lv_at hl 5 rfl) ?_
              refine lv_istore_n (lv' := [(2, .int (nI (i - 1))), (3, .int (fPl1 tr c.1.2.2.2.1 c.1.2.2.2.2.1 c.1.2.2.2.2.2.2 (nI bp) (i - 1))), (5, .int (fPl1 tr c.1.2.2.2.1 c.1.2.2.2.2.1 c.1.2.2.2.2.2.2 (nI bp) (i - 1))), (0, .ref sm), (1, .int (nI bp)), (4, .int (nI (i - 1)))]) hx hb dX11_worst_75 rfl hl (by decide) rfl (fun ls hl => ?_)
              refine lv_iinc (v := (nI (i - 1)) + (-1)) (lv' := [(4, .int ((nI (i - 1)) + (-1))), (2, .int (nI (i - 1))), (3, .int (fPl1 tr c.1.2.2.2.1 c.1.2.2.2.2.1 c.1.2.2.2.2.2.2 (nI bp) (i - 1))), (5, .int (fPl1 tr c.1.2.2.2.1 c.1.2.2.2.2.1 c.1.2.2.2.2.2.2 (nI bp) (i - 1))), (0, .ref sm), (1, .int (nI bp))]) hx hb dX11_worst_76 hl (k := 5) rfl rfl (by decide) rfl (fun ls hl => ?_)
              refine lv_goto (tgt := 13) hx hb dX11_worst_79 (by decide) ?_
              exact ih_13  (i - 1) (nI (i - 1)) (fPl1 tr c.1.2.2.2.1 c.1.2.2.2.2.1 c.1.2.2.2.2.2.2 (nI bp) (i - 1)) (by omega) (by omega) (by first | exact WI_a c_15 (df (fun q => q hbe)) hF | exact WI_b c_15 (by omega) (dt hnb) (by omega) (Or.inl c_58) hF | exact WI_b c_15 (by omega) (dt hnb) (by omega) (Or.inr c_64) hF | exact WI_c c_15 (by omega) c_58 c_64 hF) _ _ (va_P.part hP [2, 0, 3, 1] rfl) (hD.part [2, 0, 3, 1] (by decide +kernel) rfl) hS ls (lv_sub hl [4, 5, 1, 2, 0] rfl)
            · skip
              refine lv_iload hx hb dX11_worst_61 (lv_at hl 0 rfl) ?_
              refine lv_iload_n hx hb dX11_worst_63 rfl (lv_at hl 4 rfl) ?_
              refine lv_icmp_le (tgt := 70) hx hb dX11_worst_64 (by decide) (fun c_64 => ?_) (fun c_64 => ?_)
              · skip
                refine lv_iload hx hb dX11_worst_70 (lv_at hl 0 rfl) ?_
                refine lv_istore_n (lv' := [(3, .int (fPl1 tr c.1.2.2.2.1 c.1.2.2.2.2.1 c.1.2.2.2.2.2.2 (nI bp) (i - 1))), (5, .int (fPl1 tr c.1.2.2.2.1 c.1.2.2.2.2.1 c.1.2.2.2.2.2.2 (nI bp) (i - 1))), (0, .ref sm), (1, .int (nI bp)), (2, .int x), (4, .int (nI (i - 1)))]) hx hb dX11_worst_72 rfl hl (by decide) rfl (fun ls hl => ?_)
                refine lv_iload hx hb dX11_worst_73 (lv_at hl 5 rfl) ?_
                refine lv_istore_n (lv' := [(2, .int (nI (i - 1))), (3, .int (fPl1 tr c.1.2.2.2.1 c.1.2.2.2.2.1 c.1.2.2.2.2.2.2 (nI bp) (i - 1))), (5, .int (fPl1 tr c.1.2.2.2.1 c.1.2.2.2.2.1 c.1.2.2.2.2.2.2 (nI bp) (i - 1))), (0, .ref sm), (1, .int (nI bp)), (4, .int (nI (i - 1)))]) hx hb dX11_worst_75 rfl hl (by decide) rfl (fun ls hl => ?_)
                refine lv_iinc (v := (nI (i - 1)) + (-1)) (lv' := [(4, .int ((nI (i - 1)) + (-1))), (2, .int (nI (i - 1))), (3, .int (fPl1 tr c.1.2.2.2.1 c.1.2.2.2.2.1 c.1.2.2.2.2.2.2 (nI bp) (i - 1))), (5, .int (fPl1 tr c.1.2.2.2.1 c.1.2.2.2.2.1 c.1.2.2.2.2.2.2 (nI bp) (i - 1))), (0, .ref sm), (1, .int (nI bp))]) hx hb dX11_worst_76 hl (k := 5) rfl rfl (by decide) rfl (fun ls hl => ?_)
                refine lv_goto (tgt := 13) hx hb dX11_worst_79 (by decide) ?_
                exact ih_13  (i - 1) (nI (i - 1)) (fPl1 tr c.1.2.2.2.1 c.1.2.2.2.2.1 c.1.2.2.2.2.2.2 (nI bp) (i - 1)) (by omega) (by omega) (by first | exact WI_a c_15 (df (fun q => q hbe)) hF | exact WI_b c_15 (by omega) (dt hnb) (by omega) (Or.inl c_58) hF | exact WI_b c_15 (by omega) (dt hnb) (by omega) (Or.inr c_64) hF | exact WI_c c_15 (by omega) c_58 c_64 hF) _ _ (va_P.part hP [2, 0, 3, 1] rfl) (hD.part [2, 0, 3, 1] (by decide +kernel) rfl) hS ls (lv_sub hl [4, 5, 1, 2, 0] rfl)
              · skip
                refine lv_goto (tgt := 76) hx hb dX11_worst_67 (by decide) ?_
                refine lv_iinc (v := (nI (i - 1)) + (-1)) (lv' := [(4, .int ((nI (i - 1)) + (-1))), (5, .int (fPl1 tr c.1.2.2.2.1 c.1.2.2.2.2.1 c.1.2.2.2.2.2.2 (nI bp) (i - 1))), (0, .ref sm), (1, .int (nI bp)), (2, .int x), (3, .int y)]) hx hb dX11_worst_76 hl (k := 5) rfl rfl (by decide) rfl (fun ls hl => ?_)
                refine lv_goto (tgt := 13) hx hb dX11_worst_79 (by decide) ?_
                exact ih_13  (i - 1) x y (by omega) (by omega) (by first | exact WI_a c_15 (df (fun q => q hbe)) hF | exact WI_b c_15 (by omega) (dt hnb) (by omega) (Or.inl c_58) hF | exact WI_b c_15 (by omega) (dt hnb) (by omega) (Or.inr c_64) hF | exact WI_c c_15 (by omega) c_58 c_64 hF) _ _ (va_P.part hP [2, 0, 3, 1] rfl) (hD.part [2, 0, 3, 1] (by decide +kernel) rfl) hS ls (lv_sub hl [2, 3, 4, 5, 0] rfl)
        · skip
          have hs := hC.2.2.2.2.2 (i - 1) (by omega)
          have hbe := bear_lt hs (by omega) (Int32.not_le.mp c_27)
          refine lv_goto (tgt := 76) hx hb dX11_worst_30 (by decide) ?_
          refine lv_iinc (v := (nI (i - 1)) + (-1)) (lv' := [(4, .int ((nI (i - 1)) + (-1))), (0, .ref sm), (1, .int (nI bp)), (2, .int x), (3, .int y)]) hx hb dX11_worst_76 hl (k := 4) rfl rfl (by decide) rfl (fun ls hl => ?_)
          refine lv_goto (tgt := 13) hx hb dX11_worst_79 (by decide) ?_
          exact ih_13  (i - 1) x y (by omega) (by omega) (by first | exact WI_a c_15 (df (fun q => q hbe)) hF | exact WI_b c_15 (by omega) (dt hnb) (by omega) (Or.inl c_58) hF | exact WI_b c_15 (by omega) (dt hnb) (by omega) (Or.inr c_64) hF | exact WI_c c_15 (by omega) c_58 c_64 hF) _ _ (va_P.part hP [0, 1, 2, 3] rfl) (hD.part [0, 1, 2, 3] (by decide +kernel) rfl) hS ls (lv_sub hl [1, 2, 3, 4, 0] rfl)
  exact loop_13 (tn 2 + 1) (tn 2) (-1) 0 (by omega) (Nat.le_refl _) WI_0 _ _ (va_P.part hP [0, 1, 2, 3] rfl) (hD.part [0, 1, 2, 3] (by decide +kernel) rfl) hS ls (lv_sub hl [3, 4, 2, 1, 0] rfl)
theorem dX11_orderFor_0 : decode cX11_orderFor 0 = .ok (.aload_n 0, 1) := by decide +kernel
theorem dX11_orderFor_1 : decode cX11_orderFor 1 = .ok (.getfield 31, 3) := by decide +kernel
theorem dX11_orderFor_4 : decode cX11_orderFor 4 = .ok (.aload_n 0, 1) := by decide +kernel
theorem dX11_orderFor_5 : decode cX11_orderFor 5 = .ok (.getfield 19, 3) := by decide +kernel
theorem dX11_orderFor_8 : decode cX11_orderFor 8 = .ok (.iload_n 1, 1) := by decide +kernel
theorem dX11_orderFor_9 : decode cX11_orderFor 9 = .ok (.aaload, 1) := by decide +kernel
theorem dX11_orderFor_10 : decode cX11_orderFor 10 = .ok (.iconst 1, 1) := by decide +kernel
theorem dX11_orderFor_11 : decode cX11_orderFor 11 = .ok (.iaload, 1) := by decide +kernel
theorem dX11_orderFor_12 : decode cX11_orderFor 12 = .ok (.irem, 1) := by decide +kernel
theorem dX11_orderFor_13 : decode cX11_orderFor 13 = .ok (.ifCond .le 5, 3) := by decide +kernel
theorem dX11_orderFor_16 : decode cX11_orderFor 16 = .ok (.iconst (-1), 1) := by decide +kernel
theorem dX11_orderFor_17 : decode cX11_orderFor 17 = .ok (.ireturn, 1) := by decide +kernel
theorem dX11_orderFor_18 : decode cX11_orderFor 18 = .ok (.iconst (-1), 1) := by decide +kernel
theorem dX11_orderFor_19 : decode cX11_orderFor 19 = .ok (.istore_n 2, 1) := by decide +kernel
theorem dX11_orderFor_20 : decode cX11_orderFor 20 = .ok (.aload_n 0, 1) := by decide +kernel
theorem dX11_orderFor_21 : decode cX11_orderFor 21 = .ok (.getfield 28, 3) := by decide +kernel
theorem dX11_orderFor_24 : decode cX11_orderFor 24 = .ok (.arraylength, 1) := by decide +kernel
theorem dX11_orderFor_25 : decode cX11_orderFor 25 = .ok (.iconst 1, 1) := by decide +kernel
theorem dX11_orderFor_26 : decode cX11_orderFor 26 = .ok (.isub, 1) := by decide +kernel
theorem dX11_orderFor_27 : decode cX11_orderFor 27 = .ok (.istore_n 3, 1) := by decide +kernel
theorem dX11_orderFor_28 : decode cX11_orderFor 28 = .ok (.iload_n 3, 1) := by decide +kernel
theorem dX11_orderFor_29 : decode cX11_orderFor 29 = .ok (.ifCond .lt 60, 3) := by decide +kernel
theorem dX11_orderFor_32 : decode cX11_orderFor 32 = .ok (.aload_n 0, 1) := by decide +kernel
theorem dX11_orderFor_33 : decode cX11_orderFor 33 = .ok (.getfield 28, 3) := by decide +kernel
theorem dX11_orderFor_36 : decode cX11_orderFor 36 = .ok (.iload_n 3, 1) := by decide +kernel
theorem dX11_orderFor_37 : decode cX11_orderFor 37 = .ok (.aaload, 1) := by decide +kernel
theorem dX11_orderFor_38 : decode cX11_orderFor 38 = .ok (.iconst 0, 1) := by decide +kernel
theorem dX11_orderFor_39 : decode cX11_orderFor 39 = .ok (.iaload, 1) := by decide +kernel
theorem dX11_orderFor_40 : decode cX11_orderFor 40 = .ok (.ifCond .ne 43, 3) := by decide +kernel
theorem dX11_orderFor_43 : decode cX11_orderFor 43 = .ok (.aload_n 0, 1) := by decide +kernel
theorem dX11_orderFor_44 : decode cX11_orderFor 44 = .ok (.getfield 28, 3) := by decide +kernel
theorem dX11_orderFor_47 : decode cX11_orderFor 47 = .ok (.iload_n 3, 1) := by decide +kernel
theorem dX11_orderFor_48 : decode cX11_orderFor 48 = .ok (.aaload, 1) := by decide +kernel
theorem dX11_orderFor_49 : decode cX11_orderFor 49 = .ok (.iconst 3, 1) := by decide +kernel
theorem dX11_orderFor_50 : decode cX11_orderFor 50 = .ok (.iaload, 1) := by decide +kernel
theorem dX11_orderFor_51 : decode cX11_orderFor 51 = .ok (.iload_n 1, 1) := by decide +kernel
theorem dX11_orderFor_52 : decode cX11_orderFor 52 = .ok (.if_icmp .ne 31, 3) := by decide +kernel
theorem dX11_orderFor_55 : decode cX11_orderFor 55 = .ok (.aload_n 0, 1) := by decide +kernel
theorem dX11_orderFor_56 : decode cX11_orderFor 56 = .ok (.aload_n 0, 1) := by decide +kernel
theorem dX11_orderFor_57 : decode cX11_orderFor 57 = .ok (.getfield 28, 3) := by decide +kernel
theorem dX11_orderFor_60 : decode cX11_orderFor 60 = .ok (.iload_n 3, 1) := by decide +kernel
theorem dX11_orderFor_61 : decode cX11_orderFor 61 = .ok (.aaload, 1) := by decide +kernel
theorem dX11_orderFor_62 : decode cX11_orderFor 62 = .ok (.invokevirtual 46, 3) := by decide +kernel
theorem dX11_orderFor_65 : decode cX11_orderFor 65 = .ok (.ifCond .eq 18, 3) := by decide +kernel
theorem dX11_orderFor_68 : decode cX11_orderFor 68 = .ok (.aload_n 0, 1) := by decide +kernel
theorem dX11_orderFor_69 : decode cX11_orderFor 69 = .ok (.aload_n 0, 1) := by decide +kernel
theorem dX11_orderFor_70 : decode cX11_orderFor 70 = .ok (.getfield 28, 3) := by decide +kernel
theorem dX11_orderFor_73 : decode cX11_orderFor 73 = .ok (.iload_n 3, 1) := by decide +kernel
theorem dX11_orderFor_74 : decode cX11_orderFor 74 = .ok (.aaload, 1) := by decide +kernel
theorem dX11_orderFor_75 : decode cX11_orderFor 75 = .ok (.invokevirtual 50, 3) := by decide +kernel
theorem dX11_orderFor_78 : decode cX11_orderFor 78 = .ok (.ifCond .eq 5, 3) := by decide +kernel
theorem dX11_orderFor_81 : decode cX11_orderFor 81 = .ok (.iload_n 3, 1) := by decide +kernel
theorem dX11_orderFor_82 : decode cX11_orderFor 82 = .ok (.istore_n 2, 1) := by decide +kernel
theorem dX11_orderFor_83 : decode cX11_orderFor 83 = .ok (.iinc 3 (-1), 3) := by decide +kernel
theorem dX11_orderFor_86 : decode cX11_orderFor 86 = .ok (.goto (-58), 3) := by decide +kernel
theorem dX11_orderFor_89 : decode cX11_orderFor 89 = .ok (.iload_n 2, 1) := by decide +kernel
theorem dX11_orderFor_90 : decode cX11_orderFor 90 = .ok (.ireturn, 1) := by decide +kernel
set_option maxHeartbeats 4000000 in
set_option maxRecDepth 100000 in
/-- Sim.orderFor -/
theorem c_X11_orderFor (l9 : Launch) (z : Nat → Nat) (D : va_G) (g : Nat → ClassId) (sm : Nat) (ob : Nat → Nat) (ad : Nat → Nat → Nat) (tn : Nat → Nat) (tr : Nat → Nat → Int32) (od : Nat → Nat → Nat) (c : CS) (dd : Nat) (m : Nat) (k : Nat) (hO : SOKs tn tr od) (hC : CIn tn c dd m) (hk : k < tn 1) (sz : Nat) : Met l9 yX11_orderFor (WS yX11_orderFor cX11_orderFor 4 (some .int)) ({ frames := 2, cells := 0, slots := 0, locals := 41 }) (va_Pc [.ref sm, .int (nI k)] (kPre z D g (([(sm, .inr (9, [.int c.1.1, .int c.1.2.1, .int c.1.2.2.1, .int c.2.1, .ref (ob 0), .ref (ob 1), .ref (ob 2), .ref (ob 3), .ref (ob 4)])), (ob 0, .inl (g 4, tn 0, .inr (.inr (.inr (.inr (bld (ad 0) (tn 0))))))), (ob 1, .inl (g 4, tn 1, .inr (.inr (.inr (.inr (bld (ad 1) (tn 1))))))), (ob 2, .inl (g 4, tn 2, .inr (.inr (.inr (.inr (bld (ad 2) (tn 2))))))), (ob 4, .inl (g 4, tn 4, .inr (.inr (.inr (.inr (bld (ad 4) (tn 4)))))))] : va_W) ++ simW (g 0) ad tn (simM tr od c)) sz)) (va_Qi (fun (r9 : Int32) (u9 : Unit) => r9 = oI (fToday tr (tn 4) (fun j v => sHold tn (od j) v) c.1 k)) (kB D g (va_A (([(sm, .inr (9, [.int c.1.1, .int c.1.2.1, .int c.1.2.2.1, .int c.2.1, .ref (ob 0), .ref (ob 1), .ref (ob 2), .ref (ob 3), .ref (ob 4)])), (ob 0, .inl (g 4, tn 0, .inr (.inr (.inr (.inr (bld (ad 0) (tn 0))))))), (ob 1, .inl (g 4, tn 1, .inr (.inr (.inr (.inr (bld (ad 1) (tn 1))))))), (ob 2, .inl (g 4, tn 2, .inr (.inr (.inr (.inr (bld (ad 2) (tn 2))))))), (ob 4, .inl (g 4, tn 4, .inr (.inr (.inr (.inr (bld (ad 4) (tn 4)))))))] : va_W) ++ simW (g 0) ad tn (simM tr od c)) sz) (fun (u9 : Unit) => (([(sm, .inr (9, [.int c.1.1, .int c.1.2.1, .int c.1.2.2.1, .int c.2.1, .ref (ob 0), .ref (ob 1), .ref (ob 2), .ref (ob 3), .ref (ob 4)])), (ob 0, .inl (g 4, tn 0, .inr (.inr (.inr (.inr (bld (ad 0) (tn 0))))))), (ob 1, .inl (g 4, tn 1, .inr (.inr (.inr (.inr (bld (ad 1) (tn 1))))))), (ob 2, .inl (g 4, tn 2, .inr (.inr (.inr (.inr (bld (ad 2) (tn 2))))))), (ob 4, .inl (g 4, tn 4, .inr (.inr (.inr (.inr (bld (ad 4) (tn 4)))))))] : va_W) ++ simW (g 0) ad tn (simM tr od c)))) (va_A (([(sm, .inr (9, [.int c.1.1, .int c.1.2.1, .int c.1.2.2.1, .int c.2.1, .ref (ob 0), .ref (ob 1), .ref (ob 2), .ref (ob 3), .ref (ob 4)])), (ob 0, .inl (g 4, tn 0, .inr (.inr (.inr (.inr (bld (ad 0) (tn 0))))))), (ob 1, .inl (g 4, tn 1, .inr (.inr (.inr (.inr (bld (ad 1) (tn 1))))))), (ob 2, .inl (g 4, tn 2, .inr (.inr (.inr (.inr (bld (ad 2) (tn 2))))))), (ob 4, .inl (g 4, tn 4, .inr (.inr (.inr (.inr (bld (ad 4) (tn 4)))))))] : va_W) ++ simW (g 0) ad tn (simM tr od c)) sz)) 0 0 (va_A (([(sm, .inr (9, [.int c.1.1, .int c.1.2.1, .int c.1.2.2.1, .int c.2.1, .ref (ob 0), .ref (ob 1), .ref (ob 2), .ref (ob 3), .ref (ob 4)])), (ob 0, .inl (g 4, tn 0, .inr (.inr (.inr (.inr (bld (ad 0) (tn 0))))))), (ob 1, .inl (g 4, tn 1, .inr (.inr (.inr (.inr (bld (ad 1) (tn 1))))))), (ob 2, .inl (g 4, tn 2, .inr (.inr (.inr (.inr (bld (ad 2) (tn 2))))))), (ob 4, .inl (g 4, tn 4, .inr (.inr (.inr (.inr (bld (ad 4) (tn 4)))))))] : va_W) ++ simW (g 0) ad tn (simM tr od c)) sz) := by
  refine Met.ofW (cc := cX11_orderFor) (maxL := 4) (ret := (some .int)) (by decide) rfl ?_
  intro p9 e9 s9 m9 args9 below9 meth9 c9 s₁ B hml hv
  obtain ⟨rfl, hsz, hP, hK, hD0, hZ⟩ := hv
  have hx := B.exec
  have hb := B.bytes
  have hr := B.returns
  have hts := ws_sub (atoms_spec (ws := WS yX11_orderFor cX11_orderFor 4 (some .int)) B.pre)
  have hown : s9.vm.findClass RX11 = some m9.cls := findClass_of_methodNamed B.named
  have hlocks := B.notSynchronized
  subst hsz
  have hD := hD0.self (sz := s9.heap.size)
  generalize hAe : va_A (([(sm, .inr (9, [.int c.1.1, .int c.1.2.1, .int c.1.2.2.1, .int c.2.1, .ref (ob 0), .ref (ob 1), .ref (ob 2), .ref (ob 3), .ref (ob 4)])), (ob 0, .inl (g 4, tn 0, .inr (.inr (.inr (.inr (bld (ad 0) (tn 0))))))), (ob 1, .inl (g 4, tn 1, .inr (.inr (.inr (.inr (bld (ad 1) (tn 1))))))), (ob 2, .inl (g 4, tn 2, .inr (.inr (.inr (.inr (bld (ad 2) (tn 2))))))), (ob 4, .inl (g 4, tn 4, .inr (.inr (.inr (.inr (bld (ad 4) (tn 4)))))))] : va_W) ++ simW (g 0) ad tn (simM tr od c)) s9.heap.size = A at hD hZ ⊢
  have hA : ∀ q : Nat, s9.heap.size ≤ q → A q := fun q h => by rw [← hAe]; exact Or.inr h
  have hS : va_S A s9.heap s9.heap [] := va_S.rf
  have hP : va_P D CLS (([(sm, .inr (9, [.int c.1.1, .int c.1.2.1, .int c.1.2.2.1, .int c.2.1, .ref (ob 0), .ref (ob 1), .ref (ob 2), .ref (ob 3), .ref (ob 4)])), (ob 0, .inl (g 4, tn 0, .inr (.inr (.inr (.inr (bld (ad 0) (tn 0))))))), (ob 1, .inl (g 4, tn 1, .inr (.inr (.inr (.inr (bld (ad 1) (tn 1))))))), (ob 2, .inl (g 4, tn 2, .inr (.inr (.inr (.inr (bld (ad 2) (tn 2))))))), (ob 4, .inl (g 4, tn 4, .inr (.inr (.inr (.inr (bld (ad 4) (tn 4)))))))] : va_W) ++ simW (g 0) ad tn (simM tr od c)) s9.heap := hP
  have hl := lv_entry ([.ref sm, .int (nI k)]) (n := 4) (Nat.le_of_ble_eq_true rfl)
  rw [lg_entry_eq]
  generalize (lg_sl ([.ref sm, .int (nI k)]) ++ List.replicate (4 - (lg_sl ([.ref sm, .int (nI k)])).length) Slot.unset).toArray = ls at hl ⊢
  have hl : lv_has ls 4 [(0, .ref sm), (1, .int (nI k))] := hl
  change W p9 l9 e9 ({ frames := 2, cells := 0, slots := 0, locals := 41 } : Room) s9 m9 _ below9 meth9 c9 _ _ _ _ _ _
  have hN := hO.1; unfold CntS at hN
  have hpne : ¬ tr 3 k = 0 := by obtain ⟨a, p, _, _, _, h3, h4, h5, _⟩ := hO.2.2.1 k hk; rw [h3]; exact nI_ne0 h4 (by omega)
  refine lv_aload_n hx hb dX11_orderFor_0 rfl (lv_at hl 0 rfl) ?_
  refine va_get (D := D) (ci := 9) (v := .int c.1.1) (C := RX11) (T := TX11) (N := 9) hx hb hts in_X11 hown hK hP 0 rfl rfl 0 (by decide) (hts _ w_1208) (fun _ h9 => h9) rfl dX11_orderFor_1 ?_
  refine lv_aload_n hx hb dX11_orderFor_4 rfl (lv_at hl 0 rfl) ?_
  refine va_get (D := D) (ci := 9) (v := .ref (ob 1)) (C := RX11) (T := TX11) (N := 9) hx hb hts in_X11 hown hK hP 0 rfl rfl 5 (by decide) (hts _ w_1217) (fun _ h9 => h9) rfl dX11_orderFor_5 ?_
  refine lv_iload_n hx hb dX11_orderFor_8 rfl (lv_at hl 1 rfl) ?_
  refine k_aldB (i := k) hx hb hK hP 2 rfl (by omega) (Nat.le_refl _) (by omega) dX11_orderFor_9 ?_
  refine lv_iconst (v := 1) hx hb dX11_orderFor_10 (by decide) ?_
  refine k_ldS (j := 1) (i := k) (q := 1) (v := tr 3 k) hx hb hK hP (by decide) (by omega) (by decide) rfl dX11_orderFor_11 ?_
  refine lv_irem hx hb dX11_orderFor_12 hpne ?_
  refine lv_if_le (tgt := 18) hx hb dX11_orderFor_13 (by decide) (fun c_13 => ?_) (fun c_13 => ?_)
  · skip
    refine lv_iconst (v := (-1)) hx hb dX11_orderFor_18 (by decide) ?_
    refine lv_istore_n (lv' := [(2, .int (-1)), (0, .ref sm), (1, .int (nI k))]) hx hb dX11_orderFor_19 rfl hl (by decide) rfl (fun ls hl => ?_)
    refine lv_aload_n hx hb dX11_orderFor_20 rfl (lv_at hl 1 rfl) ?_
    refine va_get (D := D) (ci := 9) (v := .ref (ob 4)) (C := RX11) (T := TX11) (N := 9) hx hb hts in_X11 hown hK hP 0 rfl rfl 8 (by decide) (hts _ w_1223) (fun _ h9 => h9) rfl dX11_orderFor_21 ?_
    refine va_alen (v := nI (tn 4)) hx hb hK hP 4 4 rfl rfl rfl dX11_orderFor_24 ?_
    refine lv_iconst (v := 1) hx hb dX11_orderFor_25 (by decide) ?_
    refine lv_isub hx hb dX11_orderFor_26 ?_
    refine k_topi (show ((nI (tn 4)) - 1) = (nI (tn 4) + (-1)) from sub_m1) ?_
    refine lv_istore_n (lv' := [(3, .int (nI (tn 4) + (-1))), (2, .int (-1)), (0, .ref sm), (1, .int (nI k))]) hx hb dX11_orderFor_27 rfl hl (by decide) rfl (fun ls hl => ?_)
    have loop_28 : ∀ (n9 : Nat) (i : Nat) (x : Int32), n9 > i → (i ≤ tn 4) → (FF (fTdP tr (fun j v => sHold tn (od j) v) c.1 k) i (tn 4) x) → ∀ (H : Heap) (locs : List Loc), va_P D CLS (([(sm, .inr (9, [.int c.1.1, .int c.1.2.1, .int c.1.2.2.1, .int c.2.1, .ref (ob 0), .ref (ob 1), .ref (ob 2), .ref (ob 3), .ref (ob 4)])), (ob 0, .inl (g 4, tn 0, .inr (.inr (.inr (.inr (bld (ad 0) (tn 0))))))), (ob 1, .inl (g 4, tn 1, .inr (.inr (.inr (.inr (bld (ad 1) (tn 1))))))), (ob 2, .inl (g 4, tn 2, .inr (.inr (.inr (.inr (bld (ad 2) (tn 2))))))), (ob 4, .inl (g 4, tn 4, .inr (.inr (.inr (.inr (bld (ad 4) (tn 4)))))))] : va_W) ++ simW (g 0) ad tn (simM tr od c)) H → va_D A (([(sm, .inr (9, [.int c.1.1, .int c.1.2.1, .int c.1.2.2.1, .int c.2.1, .ref (ob 0), .ref (ob 1), .ref (ob 2), .ref (ob 3), .ref (ob 4)])), (ob 0, .inl (g 4, tn 0, .inr (.inr (.inr (.inr (bld (ad 0) (tn 0))))))), (ob 1, .inl (g 4, tn 1, .inr (.inr (.inr (.inr (bld (ad 1) (tn 1))))))), (ob 2, .inl (g 4, tn 2, .inr (.inr (.inr (.inr (bld (ad 2) (tn 2))))))), (ob 4, .inl (g 4, tn 4, .inr (.inr (.inr (.inr (bld (ad 4) (tn 4)))))))] : va_W) ++ simW (g 0) ad tn (simM tr od c)) → va_S A s9.heap H locs → ∀ (ls : Array Slot), lv_has ls 4 [(0, .ref sm), (1, .int (nI k)), (2, .int x), (3, .int (nI i + (-1)))] → W p9 l9 e9 ({ frames := 2, cells := 0, slots := 0, locals := 41 } : Room) s9 m9 ([.ref sm, .int (nI k)] : List Value).toArray below9 meth9 c9 H locs 0 0 (MQ below9 (va_Qi (fun (r9 : Int32) (u9 : Unit) => r9 = oI (fToday tr (tn 4) (fun j v => sHold tn (od j) v) c.1 k)) (kB D g A (fun (u9 : Unit) => (([(sm, .inr (9, [.int c.1.1, .int c.1.2.1, .int c.1.2.2.1, .int c.2.1, .ref (ob 0), .ref (ob 1), .ref (ob 2), .ref (ob 3), .ref (ob 4)])), (ob 0, .inl (g 4, tn 0, .inr (.inr (.inr (.inr (bld (ad 0) (tn 0))))))), (ob 1, .inl (g 4, tn 1, .inr (.inr (.inr (.inr (bld (ad 1) (tn 1))))))), (ob 2, .inl (g 4, tn 2, .inr (.inr (.inr (.inr (bld (ad 2) (tn 2))))))), (ob 4, .inl (g 4, tn 4, .inr (.inr (.inr (.inr (bld (ad 4) (tn 4)))))))] : va_W) ++ simW (g 0) ad tn (simM tr od c)))) A) ([.ref sm, .int (nI k)] : List Value).toArray s9 0 0 A) (F0 m9 28 ls []) := by
      intro n9
      induction n9 with
      | zero => intro i x hm9; exact absurd hm9 (by omega)
      | succ n9 ih_28 =>
        intro i x hm9 hi hF H locs hP hD hS ls hl
        refine lv_iload_n hx hb dX11_orderFor_28 rfl (lv_at hl 3 rfl) ?_
        refine lv_if_lt (tgt := 89) hx hb dX11_orderFor_29 (by decide) (fun c_29 => ?_) (fun c_29 => ?_)
        · skip
          have c_29 : i = 0 := (dn_lt c_29).resolve_right (by omega)
          refine lv_iload_n hx hb dX11_orderFor_89 rfl (lv_at hl 2 rfl) ?_
          have hr9 : x = (oI (fToday tr (tn 4) (fun j v => sHold tn (od j) v) c.1 k)) := by subst c_29; exact td_yes hO hC hk c_13 (FF_e hF)
          have hP9 : va_P D CLS (([(sm, .inr (9, [.int c.1.1, .int c.1.2.1, .int c.1.2.2.1, .int c.2.1, .ref (ob 0), .ref (ob 1), .ref (ob 2), .ref (ob 3), .ref (ob 4)])), (ob 0, .inl (g 4, tn 0, .inr (.inr (.inr (.inr (bld (ad 0) (tn 0))))))), (ob 1, .inl (g 4, tn 1, .inr (.inr (.inr (.inr (bld (ad 1) (tn 1))))))), (ob 2, .inl (g 4, tn 2, .inr (.inr (.inr (.inr (bld (ad 2) (tn 2))))))), (ob 4, .inl (g 4, tn 4, .inr (.inr (.inr (.inr (bld (ad 4) (tn 4)))))))] : va_W) ++ simW (g 0) ad tn (simM tr od c)) H := by exact va_P.part hP [0, 1, 2, 3, 4] rfl
          have hD9 : va_D A (([(sm, .inr (9, [.int c.1.1, .int c.1.2.1, .int c.1.2.2.1, .int c.2.1, .ref (ob 0), .ref (ob 1), .ref (ob 2), .ref (ob 3), .ref (ob 4)])), (ob 0, .inl (g 4, tn 0, .inr (.inr (.inr (.inr (bld (ad 0) (tn 0))))))), (ob 1, .inl (g 4, tn 1, .inr (.inr (.inr (.inr (bld (ad 1) (tn 1))))))), (ob 2, .inl (g 4, tn 2, .inr (.inr (.inr (.inr (bld (ad 2) (tn 2))))))), (ob 4, .inl (g 4, tn 4, .inr (.inr (.inr (.inr (bld (ad 4) (tn 4)))))))] : va_W) ++ simW (g 0) ad tn (simM tr od c)) := by exact hD.part [0, 1, 2, 3, 4] (by decide +kernel) rfl
          exact W.iret (v := x) hx hb hr (fun t9 ht9 hW9 => ⟨⟨x, (), rfl, hr9, by rw [ht9]; exact hP9, va_K.moved hW9.alike hK, hD9⟩, hS.F ht9⟩) hS.2.2 dX11_orderFor_90
        · skip
          have c_29 := dn_ge c_29
          rw [dn_eq c_29] at hl
          have ho := hO.2.2.2.2.2 (i - 1) (by omega)
          have ho1 := ho.1
          refine lv_aload_n hx hb dX11_orderFor_32 rfl (lv_at hl 0 rfl) ?_
          refine va_get (D := D) (ci := 9) (v := .ref (ob 4)) (C := RX11) (T := TX11) (N := 9) hx hb hts in_X11 hown hK hP 0 rfl rfl 8 (by decide) (hts _ w_1223) (fun _ h9 => h9) rfl dX11_orderFor_33 ?_
          refine lv_iload_n hx hb dX11_orderFor_36 rfl (lv_at hl 3 rfl) ?_
          refine k_aldB (i := i - 1) hx hb hK hP 4 rfl (by omega) (Nat.le_refl _) (by omega) dX11_orderFor_37 ?_
          refine lv_iconst (v := 0) hx hb dX11_orderFor_38 (by decide) ?_
          refine k_ldS (j := 4) (i := (i - 1)) (q := 0) (v := nI (od (i - 1) 0)) hx hb hK hP (by decide) (by omega) (by decide) rfl dX11_orderFor_39 ?_
          refine lv_if_ne (tgt := 83) hx hb dX11_orderFor_40 (by decide) (fun c_40 => ?_) (fun c_40 => ?_)
          · skip
            have c_40 : ¬ (od (i - 1) 0) = 0 := fun h => c_40 ((nI_eq (a := (od (i - 1) 0)) (b := 0) (by omega) (by omega)).mpr h)
            refine lv_iinc (v := (nI (i - 1)) + (-1)) (lv' := [(3, .int ((nI (i - 1)) + (-1))), (0, .ref sm), (1, .int (nI k)), (2, .int x)]) hx hb dX11_orderFor_83 hl (k := 3) rfl rfl (by decide) rfl (fun ls hl => ?_)
            refine lv_goto (tgt := 28) hx hb dX11_orderFor_86 (by decide) ?_
            exact ih_28  (i - 1) x (by omega) (by omega) (by first | exact FF_t c_29 (by omega) (td_ok ho (by omega) c_40 c_52 c_65 c_78) | exact FF_f c_29 (td_oil ho (by omega) c_40) hF | exact FF_f c_29 (td_car ho (by omega) c_40 c_52 (by omega) (by omega)) hF | exact FF_f c_29 (fTdP_2 c_65) hF | exact FF_f c_29 (fTdP_3 c_78) hF) _ _ (va_P.part hP [0, 1, 2, 3, 4] rfl) (hD.part [0, 1, 2, 3, 4] (by decide +kernel) rfl) hS ls (lv_sub hl [1, 2, 3, 0] rfl)
          · skip
            have c_40 : (od (i - 1) 0) = 0 := (nI_eq (a := (od (i - 1) 0)) (b := 0) (by omega) (by omega)).mp c_40
            refine lv_aload_n hx hb dX11_orderFor_43 rfl (lv_at hl 0 rfl) ?_
            refine va_get (D := D) (ci := 9) (v := .ref (ob 4)) (C := RX11) (T := TX11) (N := 9) hx hb hts in_X11 hown hK hP 0 rfl rfl 8 (by decide) (hts _ w_1223) (fun _ h9 => h9) rfl dX11_orderFor_44 ?_
            refine lv_iload_n hx hb dX11_orderFor_47 rfl (lv_at hl 3 rfl) ?_
            refine k_aldB (i := i - 1) hx hb hK hP 4 rfl (by omega) (Nat.le_refl _) (by omega) dX11_orderFor_48 ?_
            refine lv_iconst (v := 3) hx hb dX11_orderFor_49 (by decide) ?_
            refine k_ldS (j := 4) (i := (i - 1)) (q := 3) (v := nI (od (i - 1) 3)) hx hb hK hP (by decide) (by omega) (by decide) rfl dX11_orderFor_50 ?_
            refine lv_iload_n hx hb dX11_orderFor_51 rfl (lv_at hl 1 rfl) ?_
            refine lv_icmp_ne (tgt := 83) hx hb dX11_orderFor_52 (by decide) (fun c_52 => ?_) (fun c_52 => ?_)
            · skip
              have c_52 : ¬ (od (i - 1) 3) = k := fun h => c_52 ((nI_eq (a := (od (i - 1) 3)) (b := k) (by omega) (by omega)).mpr h)
              refine lv_iinc (v := (nI (i - 1)) + (-1)) (lv' := [(3, .int ((nI (i - 1)) + (-1))), (0, .ref sm), (1, .int (nI k)), (2, .int x)]) hx hb dX11_orderFor_83 hl (k := 3) rfl rfl (by decide) rfl (fun ls hl => ?_)
              refine lv_goto (tgt := 28) hx hb dX11_orderFor_86 (by decide) ?_
              exact ih_28  (i - 1) x (by omega) (by omega) (by first | exact FF_t c_29 (by omega) (td_ok ho (by omega) c_40 c_52 c_65 c_78) | exact FF_f c_29 (td_oil ho (by omega) c_40) hF | exact FF_f c_29 (td_car ho (by omega) c_40 c_52 (by omega) (by omega)) hF | exact FF_f c_29 (fTdP_2 c_65) hF | exact FF_f c_29 (fTdP_3 c_78) hF) _ _ (va_P.part hP [0, 1, 2, 3, 4] rfl) (hD.part [0, 1, 2, 3, 4] (by decide +kernel) rfl) hS ls (lv_sub hl [1, 2, 3, 0] rfl)
            · skip
              have c_52 : (od (i - 1) 3) = k := (nI_eq (a := (od (i - 1) 3)) (b := k) (by omega) (by omega)).mp c_52
              refine lv_aload_n hx hb dX11_orderFor_55 rfl (lv_at hl 0 rfl) ?_
              refine lv_aload_n hx hb dX11_orderFor_56 rfl (lv_at hl 0 rfl) ?_
              refine va_get (D := D) (ci := 9) (v := .ref (ob 4)) (C := RX11) (T := TX11) (N := 9) hx hb hts in_X11 hown hK hP 0 rfl rfl 8 (by decide) (hts _ w_1223) (fun _ h9 => h9) rfl dX11_orderFor_57 ?_
              refine lv_iload_n hx hb dX11_orderFor_60 rfl (lv_at hl 3 rfl) ?_
              refine k_aldB (i := i - 1) hx hb hK hP 4 rfl (by omega) (Nat.le_refl _) (by omega) dX11_orderFor_61 ?_
              refine k_iP hA hP hD hS [(ob 0, .inl (g 4, tn 0, .inr (.inr (.inr (.inr (bld (ad 0) (tn 0))))))), (ob 1, .inl (g 4, tn 1, .inr (.inr (.inr (.inr (bld (ad 1) (tn 1))))))), (ob 4, .inl (g 4, tn 4, .inr (.inr (.inr (.inr (bld (ad 4) (tn 4)))))))] (va_runV (As := [.ref (ad 4 (i - 1))]) (rest := []) ⟨hx, hb, hml, hown, hts⟩ (c_X11_isOpen l9 z D g sm ob ad tn tr od c dd m (i - 1) hO hC (by omega) (Array.size H)) (cwV 1 hts gv_X11_46 rfl rfl rfl (by decide +kernel) ⟨Nat.le_of_ble_eq_true rfl, Nat.le_of_ble_eq_true rfl⟩) ⟨kBlind, va_recv hK hP (ci := 9) (q0 := 0) rfl rfl, kPre.pcP hK hZ hA hP hD hS [0, 3] rfl (by decide +kernel)⟩ rfl rfl hl.1 rfl (lv_room (Nat.le_of_ble_eq_true rfl)) dX11_orderFor_62 ⟨Nat.le_of_ble_eq_true rfl, Nat.le_of_ble_eq_true rfl⟩) [0, 3] [1, 2, 4] rfl rfl rfl rfl (fun r_62 u_1 H locs hw_62 hP7 hD7 hS7 => ?_)
              clear hP hD hS
              have hP := hP7
              have hD := hD7
              have hS := hS7
              clear hP7 hD7 hS7
              obtain rfl := hw_62
              replace hP : va_P D CLS (([(ob 0, .inl (g 4, tn 0, .inr (.inr (.inr (.inr (bld (ad 0) (tn 0))))))), (ob 1, .inl (g 4, tn 1, .inr (.inr (.inr (.inr (bld (ad 1) (tn 1))))))), (ob 4, .inl (g 4, tn 4, .inr (.inr (.inr (.inr (bld (ad 4) (tn 4))))))), (sm, .inr (9, [.int c.1.1, .int c.1.2.1, .int c.1.2.2.1, .int c.2.1, .ref (ob 0), .ref (ob 1), .ref (ob 2), .ref (ob 3), .ref (ob 4)])), (ob 2, .inl (g 4, tn 2, .inr (.inr (.inr (.inr (bld (ad 2) (tn 2)))))))] : va_W) ++ simW (g 0) ad tn (simM tr od c)) H := hP
              replace hD : va_D A (([(ob 0, .inl (g 4, tn 0, .inr (.inr (.inr (.inr (bld (ad 0) (tn 0))))))), (ob 1, .inl (g 4, tn 1, .inr (.inr (.inr (.inr (bld (ad 1) (tn 1))))))), (ob 4, .inl (g 4, tn 4, .inr (.inr (.inr (.inr (bld (ad 4) (tn 4))))))), (sm, .inr (9, [.int c.1.1, .int c.1.2.1, .int c.1.2.2.1, .int c.2.1, .ref (ob 0), .ref (ob 1), .ref (ob 2), .ref (ob 3), .ref (ob 4)])), (ob 2, .inl (g 4, tn 2, .inr (.inr (.inr (.inr (bld (ad 2) (tn 2)))))))] : va_W) ++ simW (g 0) ad tn (simM tr od c)) := hD
              refine lv_if_eq (tgt := 83) hx hb dX11_orderFor_65 (by decide) (fun c_65 => ?_) (fun c_65 => ?_)
              · skip
                have c_65 := bI_0.mp c_65
                refine lv_iinc (v := (nI (i - 1)) + (-1)) (lv' := [(3, .int ((nI (i - 1)) + (-1))), (0, .ref sm), (1, .int (nI k)), (2, .int x)]) hx hb dX11_orderFor_83 hl (k := 3) rfl rfl (by decide) rfl (fun ls hl => ?_)
                refine lv_goto (tgt := 28) hx hb dX11_orderFor_86 (by decide) ?_
                exact ih_28  (i - 1) x (by omega) (by omega) (by first | exact FF_t c_29 (by omega) (td_ok ho (by omega) c_40 c_52 c_65 c_78) | exact FF_f c_29 (td_oil ho (by omega) c_40) hF | exact FF_f c_29 (td_car ho (by omega) c_40 c_52 (by omega) (by omega)) hF | exact FF_f c_29 (fTdP_2 c_65) hF | exact FF_f c_29 (fTdP_3 c_78) hF) _ _ (va_P.part hP [3, 0, 1, 4, 2] rfl) (hD.part [3, 0, 1, 4, 2] (by decide +kernel) rfl) hS ls (lv_sub hl [1, 2, 3, 0] rfl)
              · skip
                have c_65 := bI_1.mp c_65
                refine lv_aload_n hx hb dX11_orderFor_68 rfl (lv_at hl 0 rfl) ?_
                refine lv_aload_n hx hb dX11_orderFor_69 rfl (lv_at hl 0 rfl) ?_
                refine va_get (D := D) (ci := 9) (v := .ref (ob 4)) (C := RX11) (T := TX11) (N := 9) hx hb hts in_X11 hown hK hP 3 rfl rfl 8 (by decide) (hts _ w_1223) (fun _ h9 => h9) rfl dX11_orderFor_70 ?_
                refine lv_iload_n hx hb dX11_orderFor_73 rfl (lv_at hl 3 rfl) ?_
                refine k_aldB (i := i - 1) hx hb hK hP 2 rfl (by omega) (Nat.le_refl _) (by omega) dX11_orderFor_74 ?_
                refine k_iP hA hP hD hS [(ob 1, .inl (g 4, tn 1, .inr (.inr (.inr (.inr (bld (ad 1) (tn 1))))))), (ob 4, .inl (g 4, tn 4, .inr (.inr (.inr (.inr (bld (ad 4) (tn 4)))))))] (va_runV (As := [.ref (ad 4 (i - 1))]) (rest := []) ⟨hx, hb, hml, hown, hts⟩ (c_X11_holds l9 z D g sm ob ad tn tr od c dd m (i - 1) hO hC (by omega) (Array.size H)) (cwV 1 hts gv_X11_50 rfl rfl rfl (by decide +kernel) ⟨Nat.le_of_ble_eq_true rfl, Nat.le_of_ble_eq_true rfl⟩) ⟨kBlind, va_recv hK hP (ci := 9) (q0 := 3) rfl rfl, kPre.pcP hK hZ hA hP hD hS [3, 0, 4] rfl (by decide +kernel)⟩ rfl rfl hl.1 rfl (lv_room (Nat.le_of_ble_eq_true rfl)) dX11_orderFor_75 ⟨Nat.le_of_ble_eq_true rfl, Nat.le_of_ble_eq_true rfl⟩) [3, 0, 4] [1, 2] rfl rfl rfl rfl (fun r_75 u_2 H locs hw_75 hP7 hD7 hS7 => ?_)
                clear hP hD hS
                have hP := hP7
                have hD := hD7
                have hS := hS7
                clear hP7 hD7 hS7
                obtain rfl := hw_75
                replace hP : va_P D CLS (([(ob 1, .inl (g 4, tn 1, .inr (.inr (.inr (.inr (bld (ad 1) (tn 1))))))), (ob 4, .inl (g 4, tn 4, .inr (.inr (.inr (.inr (bld (ad 4) (tn 4))))))), (sm, .inr (9, [.int c.1.1, .int c.1.2.1, .int c.1.2.2.1, .int c.2.1, .ref (ob 0), .ref (ob 1), .ref (ob 2), .ref (ob 3), .ref (ob 4)])), (ob 0, .inl (g 4, tn 0, .inr (.inr (.inr (.inr (bld (ad 0) (tn 0))))))), (ob 2, .inl (g 4, tn 2, .inr (.inr (.inr (.inr (bld (ad 2) (tn 2)))))))] : va_W) ++ simW (g 0) ad tn (simM tr od c)) H := hP
                replace hD : va_D A (([(ob 1, .inl (g 4, tn 1, .inr (.inr (.inr (.inr (bld (ad 1) (tn 1))))))), (ob 4, .inl (g 4, tn 4, .inr (.inr (.inr (.inr (bld (ad 4) (tn 4))))))), (sm, .inr (9, [.int c.1.1, .int c.1.2.1, .int c.1.2.2.1, .int c.2.1, .ref (ob 0), .ref (ob 1), .ref (ob 2), .ref (ob 3), .ref (ob 4)])), (ob 0, .inl (g 4, tn 0, .inr (.inr (.inr (.inr (bld (ad 0) (tn 0))))))), (ob 2, .inl (g 4, tn 2, .inr (.inr (.inr (.inr (bld (ad 2) (tn 2)))))))] : va_W) ++ simW (g 0) ad tn (simM tr od c)) := hD
                refine lv_if_eq (tgt := 83) hx hb dX11_orderFor_78 (by decide) (fun c_78 => ?_) (fun c_78 => ?_)
                · skip
                  have c_78 := bI_0.mp c_78
                  refine lv_iinc (v := (nI (i - 1)) + (-1)) (lv' := [(3, .int ((nI (i - 1)) + (-1))), (0, .ref sm), (1, .int (nI k)), (2, .int x)]) hx hb dX11_orderFor_83 hl (k := 3) rfl rfl (by decide) rfl (fun ls hl => ?_)
                  refine lv_goto (tgt := 28) hx hb dX11_orderFor_86 (by decide) ?_
                  exact ih_28  (i - 1) x (by omega) (by omega) (by first | exact FF_t c_29 (by omega) (td_ok ho (by omega) c_40 c_52 c_65 c_78) | exact FF_f c_29 (td_oil ho (by omega) c_40) hF | exact FF_f c_29 (td_car ho (by omega) c_40 c_52 (by omega) (by omega)) hF | exact FF_f c_29 (fTdP_2 c_65) hF | exact FF_f c_29 (fTdP_3 c_78) hF) _ _ (va_P.part hP [2, 3, 0, 4, 1] rfl) (hD.part [2, 3, 0, 4, 1] (by decide +kernel) rfl) hS ls (lv_sub hl [1, 2, 3, 0] rfl)
                · skip
                  have c_78 := bI_1.mp c_78
                  refine lv_iload_n hx hb dX11_orderFor_81 rfl (lv_at hl 3 rfl) ?_
                  refine lv_istore_n (lv' := [(2, .int (nI (i - 1))), (0, .ref sm), (1, .int (nI k)), (3, .int (nI (i - 1)))]) hx hb dX11_orderFor_82 rfl hl (by decide) rfl (fun ls hl => ?_)
                  refine lv_iinc (v := (nI (i - 1)) + (-1)) (lv' := [(3, .int ((nI (i - 1)) + (-1))), (2, .int (nI (i - 1))), (0, .ref sm), (1, .int (nI k))]) hx hb dX11_orderFor_83 hl (k := 3) rfl rfl (by decide) rfl (fun ls hl => ?_)
                  refine lv_goto (tgt := 28) hx hb dX11_orderFor_86 (by decide) ?_
                  exact ih_28  (i - 1) (nI (i - 1)) (by omega) (by omega) (by first | exact FF_t c_29 (by omega) (td_ok ho (by omega) c_40 c_52 c_65 c_78) | exact FF_f c_29 (td_oil ho (by omega) c_40) hF | exact FF_f c_29 (td_car ho (by omega) c_40 c_52 (by omega) (by omega)) hF | exact FF_f c_29 (fTdP_2 c_65) hF | exact FF_f c_29 (fTdP_3 c_78) hF) _ _ (va_P.part hP [2, 3, 0, 4, 1] rfl) (hD.part [2, 3, 0, 4, 1] (by decide +kernel) rfl) hS ls (lv_sub hl [2, 3, 1, 0] rfl)
    exact loop_28 (tn 4 + 1) (tn 4) (-1) (by omega) (Nat.le_refl _) FF_0 _ _ (va_P.part hP [0, 1, 2, 3, 4] rfl) (hD.part [0, 1, 2, 3, 4] (by decide +kernel) rfl) hS ls (lv_sub hl [2, 3, 1, 0] rfl)
  · skip
    refine lv_iconst (v := (-1)) hx hb dX11_orderFor_16 (by decide) ?_
    have hr9 : (-1) = (oI (fToday tr (tn 4) (fun j v => sHold tn (od j) v) c.1 k)) := by exact td_no hO hC hk c_13
    have hP9 : va_P D CLS (([(sm, .inr (9, [.int c.1.1, .int c.1.2.1, .int c.1.2.2.1, .int c.2.1, .ref (ob 0), .ref (ob 1), .ref (ob 2), .ref (ob 3), .ref (ob 4)])), (ob 0, .inl (g 4, tn 0, .inr (.inr (.inr (.inr (bld (ad 0) (tn 0))))))), (ob 1, .inl (g 4, tn 1, .inr (.inr (.inr (.inr (bld (ad 1) (tn 1))))))), (ob 2, .inl (g 4, tn 2, .inr (.inr (.inr (.inr (bld (ad 2) (tn 2))))))), (ob 4, .inl (g 4, tn 4, .inr (.inr (.inr (.inr (bld (ad 4) (tn 4)))))))] : va_W) ++ simW (g 0) ad tn (simM tr od c)) s9.heap := by exact va_P.part hP [0, 1, 2, 3, 4] rfl
    have hD9 : va_D A (([(sm, .inr (9, [.int c.1.1, .int c.1.2.1, .int c.1.2.2.1, .int c.2.1, .ref (ob 0), .ref (ob 1), .ref (ob 2), .ref (ob 3), .ref (ob 4)])), (ob 0, .inl (g 4, tn 0, .inr (.inr (.inr (.inr (bld (ad 0) (tn 0))))))), (ob 1, .inl (g 4, tn 1, .inr (.inr (.inr (.inr (bld (ad 1) (tn 1))))))), (ob 2, .inl (g 4, tn 2, .inr (.inr (.inr (.inr (bld (ad 2) (tn 2))))))), (ob 4, .inl (g 4, tn 4, .inr (.inr (.inr (.inr (bld (ad 4) (tn 4)))))))] : va_W) ++ simW (g 0) ad tn (simM tr od c)) := by exact hD.part [0, 1, 2, 3, 4] (by decide +kernel) rfl
    exact W.iret (v := (-1)) hx hb hr (fun t9 ht9 hW9 => ⟨⟨(-1), (), rfl, hr9, by rw [ht9]; exact hP9, va_K.moved hW9.alike hK, hD9⟩, hS.F ht9⟩) hS.2.2 dX11_orderFor_17
