theorem dJx29ce0_ordinal_8abf5_0 : decode cJx29ce0_ordinal_8abf5 0 = .ok (.aload_n 0, 1) := by decide +kernel
theorem dJx29ce0_ordinal_8abf5_1 : decode cJx29ce0_ordinal_8abf5 1 = .ok (.getfield 7, 3) := by decide +kernel
theorem dJx29ce0_ordinal_8abf5_4 : decode cJx29ce0_ordinal_8abf5 4 = .ok (.ireturn, 1) := by decide +kernel
set_option maxHeartbeats 4000000 in
set_option maxRecDepth 100000 in
/-- Enum.ordinal -/
theorem c_Jx29ce0_ordinal_8abf5 (l9 : Launch) (z : Nat → Nat) (D : va_G) (g : Nat → ClassId) (k : Nat) (hk : k < 49) (sz : Nat) : Met l9 yJx29ce0_ordinal_8abf5 (WS yJx29ce0_ordinal_8abf5 cJx29ce0_ordinal_8abf5 1 (some .int)) ({ frames := 0, cells := 0, slots := 0, locals := 0 }) (va_Pc [.ref (z k)] (kPre z D g [] sz)) (va_Qi (fun (r9 : Int32) (u9 : Unit) => r9 = nI k) (kB D g (va_A [] sz) (fun (u9 : Unit) => [])) (va_A [] sz)) 0 0 (va_A [] sz) := by
  refine Met.ofW (cc := cJx29ce0_ordinal_8abf5) (maxL := 1) (ret := (some .int)) (by decide) rfl ?_
  intro p9 e9 s9 m9 args9 below9 meth9 c9 s₁ B hml hv
  obtain ⟨rfl, hsz, hP, hK, hD0, hZ⟩ := hv
  have hx := B.exec
  have hb := B.bytes
  have hr := B.returns
  have hts := ws_sub (atoms_spec (ws := WS yJx29ce0_ordinal_8abf5 cJx29ce0_ordinal_8abf5 1 (some .int)) B.pre)
  have hown : s9.vm.findClass RJx29ce0 = some m9.cls := findClass_of_methodNamed B.named
  have hlocks := B.notSynchronized
  subst hsz
  have hD := hD0.self (sz := s9.heap.size)
  generalize hAe : va_A [] s9.heap.size = A at hD hZ ⊢
  have hA : ∀ q : Nat, s9.heap.size ≤ q → A q := fun q h => by rw [← hAe]; exact Or.inr h
  have hS : va_S A s9.heap s9.heap [] := va_S.rf
  have hP : va_P D CLS [] s9.heap := hP
  have hl := lv_entry ([.ref (z k)]) (n := 1) (Nat.le_of_ble_eq_true rfl)
  rw [lg_entry_eq]
  generalize (lg_sl ([.ref (z k)]) ++ List.replicate (1 - (lg_sl ([.ref (z k)])).length) Slot.unset).toArray = ls at hl ⊢
  have hl : lv_has ls 1 [(0, .ref (z k))] := hl
  change W p9 l9 e9 ({ frames := 0, cells := 0, slots := 0, locals := 0 } : Room) s9 m9 _ below9 meth9 c9 _ _ _ _ _ _
  refine lv_aload_n hx hb dJx29ce0_ordinal_8abf5_0 rfl (lv_at hl 0 rfl) ?_
  refine va_getE hx hb hZ.en (by assumption) hS hown (q := ("java/lang/Enum", "ordinal", "I", SGo)) List.mem_cons_self (hts _ w_1539) (fun _ h9 => h9) dJx29ce0_ordinal_8abf5_1 ?_
  have hP9 : va_P D CLS [] s9.heap := by exact kSub hP [] rfl
  have hD9 : va_D A [] := by exact hD.sub [] (by decide +kernel) rfl
  have hr9 : (SGo.getD k 0) = (nI k) := by exact SGo_is k hk
  exact W.iret (v := SGo.getD k 0) hx hb hr (fun t9 ht9 hW9 => ⟨⟨SGo.getD k 0, (), rfl, hr9, by rw [ht9]; exact hP9, va_K.moved hW9.alike hK, hD9⟩, hS.F ht9⟩) hS.2.2 dJx29ce0_ordinal_8abf5_4
theorem dX3_init_0 : decode cX3_init 0 = .ok (.aload_n 0, 1) := by decide +kernel
theorem dX3_init_1 : decode cX3_init 1 = .ok (.invokespecial 3, 3) := by decide +kernel
theorem dX3_init_4 : decode cX3_init 4 = .ok (.aload_n 0, 1) := by decide +kernel
theorem dX3_init_5 : decode cX3_init 5 = .ok (.iconst 0, 1) := by decide +kernel
theorem dX3_init_6 : decode cX3_init 6 = .ok (.putfield 9, 3) := by decide +kernel
theorem dX3_init_9 : decode cX3_init 9 = .ok (.aload_n 0, 1) := by decide +kernel
theorem dX3_init_10 : decode cX3_init 10 = .ok (.iload_n 1, 1) := by decide +kernel
theorem dX3_init_11 : decode cX3_init 11 = .ok (.iconst 0, 1) := by decide +kernel
theorem dX3_init_12 : decode cX3_init 12 = .ok (.invokestatic 15, 3) := by decide +kernel
theorem dX3_init_15 : decode cX3_init 15 = .ok (.newarray .long, 2) := by decide +kernel
theorem dX3_init_17 : decode cX3_init 17 = .ok (.putfield 21, 3) := by decide +kernel
theorem dX3_init_20 : decode cX3_init 20 = .ok (.return_, 1) := by decide +kernel
set_option maxHeartbeats 4000000 in
set_option maxRecDepth 100000 in
/-- Names(N) -/
theorem c_X3_init (l9 : Launch) (z : Nat → Nat) (D : va_G) (g : Nat → ClassId) (r : Nat) (N : Nat) (hN : N ≤ 100000) (sz : Nat) : Met l9 yX3_init (WS yX3_init cX3_init 2 none) ({ frames := 1, cells := 1, slots := N, locals := 16 }) (va_Pc [.ref r, .int (nI N)] (kPre z D g [(r, .inr (2, [.null, .int 0]))] sz)) (va_Qv (fun (u9 : Nat) => True) (kB D g (va_A [(r, .inr (2, [.null, .int 0]))] sz) (fun (u9 : Nat) => [(r, .inr (2, [.ref u9, .int (nI 0)])), (u9, .inl (g 1, N, .inr (.inl (fun _ => 0))))])) (va_A [(r, .inr (2, [.null, .int 0]))] sz)) 1 N (va_A [(r, .inr (2, [.null, .int 0]))] sz) := by
  refine Met.ofW (cc := cX3_init) (maxL := 2) (ret := none) (by decide) rfl ?_
  intro p9 e9 s9 m9 args9 below9 meth9 c9 s₁ B hml hv
  obtain ⟨rfl, hsz, hP, hK, hD0, hZ⟩ := hv
  have hx := B.exec
  have hb := B.bytes
  have hr := B.returns
  have hts := ws_sub (atoms_spec (ws := WS yX3_init cX3_init 2 none) B.pre)
  have hown : s9.vm.findClass RX3 = some m9.cls := findClass_of_methodNamed B.named
  have hlocks := B.notSynchronized
  have hin : meth9.name = "<init>" := (name_of_methodNamed B.named B.method).1
  subst hsz
  have hD := hD0.self (sz := s9.heap.size)
  generalize hAe : va_A [(r, .inr (2, [.null, .int 0]))] s9.heap.size = A at hD hZ ⊢
  have hA : ∀ q : Nat, s9.heap.size ≤ q → A q := fun q h => by rw [← hAe]; exact Or.inr h
  have hS : va_S A s9.heap s9.heap [] := va_S.rf
  have hP : va_P D CLS [(r, .inr (2, [.null, .int 0]))] s9.heap := hP
  have hl := lv_entry ([.ref r, .int (nI N)]) (n := 2) (Nat.le_of_ble_eq_true rfl)
  rw [lg_entry_eq]
  generalize (lg_sl ([.ref r, .int (nI N)]) ++ List.replicate (2 - (lg_sl ([.ref r, .int (nI N)])).length) Slot.unset).toArray = ls at hl ⊢
  have hl : lv_has ls 2 [(0, .ref r), (1, .int (nI N))] := hl
  change W p9 l9 e9 ({ frames := 1, cells := 1, slots := N, locals := 16 } : Room) s9 m9 _ below9 meth9 c9 _ _ _ _ _ _
  refine lv_aload_n hx hb dX3_init_0 rfl (lv_at hl 0 rfl) ?_
  refine W.objInit hx hb hown (hts _ w_111) (hts _ w_84) (hts _ w_85) rfl (by rw [hml]; exact hl.1) rfl dX3_init_1 (Nat.le_of_ble_eq_true rfl) (Nat.le_of_ble_eq_true rfl) ?_
  refine W.eq (g2 := F0 m9 4 ls []) rfl ?_
  refine lv_aload_n hx hb dX3_init_4 rfl (lv_at hl 0 rfl) ?_
  refine lv_iconst (v := 0) hx hb dX3_init_5 (by decide) ?_
  refine va_put (D := D) (ci := 2) (v := .int 0) (ty := .int) (C := RX3) (T := TX3) (N := 2) hx hb hts in_X3 tyX3 tyX3_ok nmX3 hown hK hP hD hS 0 rfl rfl 1 (by decide) (hts _ w_114) (fun _ h9 => h9) rfl (by decide +kernel) rfl rfl (Nat.le_of_ble_eq_true rfl) dX3_init_6 (fun H locs hP7 hD7 hS7 => ?_)
  clear hP hD hS
  have hP := hP7
  have hD := hD7
  have hS := hS7
  clear hP7 hD7 hS7
  replace hP : va_P D CLS [(r, .inr (2, [.null, .int 0]))] H := hP
  replace hD : va_D A [(r, .inr (2, [.null, .int 0]))] := hD
  refine lv_aload_n hx hb dX3_init_9 rfl (lv_at hl 0 rfl) ?_
  refine lv_iload_n hx hb dX3_init_10 rfl (lv_at hl 1 rfl) ?_
  refine lv_iconst (v := 0) hx hb dX3_init_11 (by decide) ?_
  refine va_mmax hx hb (by rw [hml]; exact hl.1.symm) hown (hts _ w_112) (hts _ w_93) (hts _ w_54) (hts _ w_94) (Nat.le_of_ble_eq_true rfl) (Nat.le_of_ble_eq_true rfl) (Nat.le_of_ble_eq_true rfl) (Nat.le_of_ble_eq_true rfl) dX3_init_12 ?_
  refine k_topi (show (if (nI N) < 0 then 0 else (nI N)) = (nI N) from by rw [if_neg]; exact fun h => absurd h (by rw [← nI_0]; exact nI_nlt (Nat.zero_le _) (by omega))) ?_
  refine va_newa (atype := .long) (ty := .long) (N' := N) (a0 := (N, .inr (.inl (fun _ => 0)))) hx hb (hts _ w_124) rfl hK hP hD hS hA (fun _ => rfl) (nI_pos (by omega)) (nI_clamp (by omega)) (by show N * 8 ≤ _; omega) (Nat.le_of_ble_eq_true rfl) (by show 0 + N ≤ N; omega) dX3_init_15 (fun q_1 cA H hK9 hP hD hS => ?_)
  obtain rfl := k_clsJ hK hK9
  replace hP : va_P D CLS [(r, .inr (2, [.null, .int 0])), (q_1, .inl (g 1, N, .inr (.inl (fun _ => 0))))] H := hP
  replace hD : va_D A [(r, .inr (2, [.null, .int 0])), (q_1, .inl (g 1, N, .inr (.inl (fun _ => 0))))] := hD
  refine va_putF (D := D) (ci := 2) (v := .ref q_1) (ty := .array .long) (C := RX3) (T := TX3) (N := 2) hx hb hts in_X3 tyX3 tyX3_ok nmX3 hown hK hP hD hS 0 rfl rfl 0 (by decide) (hts _ w_113) (fun _ h9 => h9) rfl hin rfl (by decide +kernel) rfl rfl (Nat.le_of_ble_eq_true rfl) dX3_init_17 (fun H locs hP7 hD7 hS7 => ?_)
  clear hP hD hS
  have hP := hP7
  have hD := hD7
  have hS := hS7
  clear hP7 hD7 hS7
  replace hP : va_P D CLS [(r, .inr (2, [.ref q_1, .int 0])), (q_1, .inl (g 1, N, .inr (.inl (fun _ => 0))))] H := hP
  replace hD : va_D A [(r, .inr (2, [.ref q_1, .int 0])), (q_1, .inl (g 1, N, .inr (.inl (fun _ => 0))))] := hD
  have he_2 : (nI 0) = 0 := by first | rfl | exact nI_0
  have hP9 : va_P D CLS [(r, .inr (2, [.ref q_1, .int (nI 0)])), (q_1, .inl (g 1, N, .inr (.inl (fun _ => 0))))] H := by rw [he_2]; exact kSub hP [0, 1] rfl
  have hD9 : va_D A [(r, .inr (2, [.ref q_1, .int (nI 0)])), (q_1, .inl (g 1, N, .inr (.inl (fun _ => 0))))] := by rw [he_2]; exact hD.sub [0, 1] (by decide +kernel) rfl
  refine W.widen (k := 1) (n := N) (by omega) (by omega) ?_
  exact W.vret hx hb hr (fun t9 ht9 hW9 => ⟨⟨q_1, rfl, trivial, by rw [ht9]; exact hP9, va_K.moved hW9.alike hK, hD9⟩, hS.F ht9⟩) hS.2.2 dX3_init_20
theorem dX3_find_0 : decode cX3_find 0 = .ok (.iconst 0, 1) := by decide +kernel
theorem dX3_find_1 : decode cX3_find 1 = .ok (.istore_n 3, 1) := by decide +kernel
theorem dX3_find_2 : decode cX3_find 2 = .ok (.iload_n 3, 1) := by decide +kernel
theorem dX3_find_3 : decode cX3_find 3 = .ok (.aload_n 0, 1) := by decide +kernel
theorem dX3_find_4 : decode cX3_find 4 = .ok (.getfield 9, 3) := by decide +kernel
theorem dX3_find_7 : decode cX3_find 7 = .ok (.if_icmp .ge 31, 3) := by decide +kernel
theorem dX3_find_10 : decode cX3_find 10 = .ok (.iload_n 3, 1) := by decide +kernel
theorem dX3_find_11 : decode cX3_find 11 = .ok (.aload_n 0, 1) := by decide +kernel
theorem dX3_find_12 : decode cX3_find 12 = .ok (.getfield 21, 3) := by decide +kernel
theorem dX3_find_15 : decode cX3_find 15 = .ok (.arraylength, 1) := by decide +kernel
theorem dX3_find_16 : decode cX3_find 16 = .ok (.if_icmp .ge 22, 3) := by decide +kernel
theorem dX3_find_19 : decode cX3_find 19 = .ok (.aload_n 0, 1) := by decide +kernel
theorem dX3_find_20 : decode cX3_find 20 = .ok (.getfield 21, 3) := by decide +kernel
theorem dX3_find_23 : decode cX3_find 23 = .ok (.iload_n 3, 1) := by decide +kernel
theorem dX3_find_24 : decode cX3_find 24 = .ok (.laload, 1) := by decide +kernel
theorem dX3_find_25 : decode cX3_find 25 = .ok (.lload_n 1, 1) := by decide +kernel
theorem dX3_find_26 : decode cX3_find 26 = .ok (.lcmp, 1) := by decide +kernel
theorem dX3_find_27 : decode cX3_find 27 = .ok (.ifCond .ne 5, 3) := by decide +kernel
theorem dX3_find_30 : decode cX3_find 30 = .ok (.iload_n 3, 1) := by decide +kernel
theorem dX3_find_31 : decode cX3_find 31 = .ok (.ireturn, 1) := by decide +kernel
theorem dX3_find_32 : decode cX3_find 32 = .ok (.iinc 3 1, 3) := by decide +kernel
theorem dX3_find_35 : decode cX3_find 35 = .ok (.goto (-33), 3) := by decide +kernel
theorem dX3_find_38 : decode cX3_find 38 = .ok (.iconst (-1), 1) := by decide +kernel
theorem dX3_find_39 : decode cX3_find 39 = .ok (.ireturn, 1) := by decide +kernel
set_option maxHeartbeats 4000000 in
set_option maxRecDepth 100000 in
/-- Names.find -/
theorem c_X3_find (l9 : Launch) (z : Nat → Nat) (D : va_G) (g : Nat → ClassId) (r : Nat) (a : Nat) (n : Nat) (k : Nat) (f : Nat → Int64) (p0 : Int64) (hk : k ≤ n) (hn : n < 2147483648) (sz : Nat) : Met l9 yX3_find (WS yX3_find cX3_find 4 (some .int)) ({ frames := 0, cells := 0, slots := 0, locals := 0 }) (va_Pc [.ref r, .long p0] (kPre z D g [(r, .inr (2, [.ref a, .int (nI k)])), (a, .inl (g 1, n, .inr (.inl f)))] sz)) (va_Qi (fun (r9 : Int32) (u9 : Unit) => r9 = oI (nfind f p0 k)) (kB D g (va_A [(r, .inr (2, [.ref a, .int (nI k)])), (a, .inl (g 1, n, .inr (.inl f)))] sz) (fun (u9 : Unit) => [(r, .inr (2, [.ref a, .int (nI k)])), (a, .inl (g 1, n, .inr (.inl f)))])) (va_A [(r, .inr (2, [.ref a, .int (nI k)])), (a, .inl (g 1, n, .inr (.inl f)))] sz)) 0 0 (va_A [(r, .inr (2, [.ref a, .int (nI k)])), (a, .inl (g 1, n, .inr (.inl f)))] sz) := by
  refine Met.ofW (cc := cX3_find) (maxL := 4) (ret := (some .int)) (by decide) rfl ?_
  intro p9 e9 s9 m9 args9 below9 meth9 c9 s₁ B hml hv
  obtain ⟨rfl, hsz, hP, hK, hD0, hZ⟩ := hv
  have hx := B.exec
  have hb := B.bytes
  have hr := B.returns
  have hts := ws_sub (atoms_spec (ws := WS yX3_find cX3_find 4 (some .int)) B.pre)
  have hown : s9.vm.findClass RX3 = some m9.cls := findClass_of_methodNamed B.named
  have hlocks := B.notSynchronized
  subst hsz
  have hD := hD0.self (sz := s9.heap.size)
  generalize hAe : va_A [(r, .inr (2, [.ref a, .int (nI k)])), (a, .inl (g 1, n, .inr (.inl f)))] s9.heap.size = A at hD hZ ⊢
  have hA : ∀ q : Nat, s9.heap.size ≤ q → A q := fun q h => by rw [← hAe]; exact Or.inr h
  have hS : va_S A s9.heap s9.heap [] := va_S.rf
  have hP : va_P D CLS [(r, .inr (2, [.ref a, .int (nI k)])), (a, .inl (g 1, n, .inr (.inl f)))] s9.heap := hP
  have hl := lv_entry ([.ref r, .long p0]) (n := 4) (Nat.le_of_ble_eq_true rfl)
  rw [lg_entry_eq]
  generalize (lg_sl ([.ref r, .long p0]) ++ List.replicate (4 - (lg_sl ([.ref r, .long p0])).length) Slot.unset).toArray = ls at hl ⊢
  have hl : lv_has ls 4 [(0, .ref r), (1, .long p0)] := hl
  change W p9 l9 e9 ({ frames := 0, cells := 0, slots := 0, locals := 0 } : Room) s9 m9 _ below9 meth9 c9 _ _ _ _ _ _
  refine lv_iconst (v := 0) hx hb dX3_find_0 (by decide) ?_
  refine lv_istore_n (lv' := [(3, .int 0), (0, .ref r), (1, .long p0)]) hx hb dX3_find_1 rfl hl (by decide) rfl (fun ls hl => ?_)
  have loop_2 : ∀ (n9 : Nat) (i : Nat), n9 > k - i → (i ≤ k) → (∀ j, j < i → f j ≠ p0) → ∀ (H : Heap) (locs : List Loc), va_P D CLS [(r, .inr (2, [.ref a, .int (nI k)])), (a, .inl (g 1, n, .inr (.inl f)))] H → va_D A [(r, .inr (2, [.ref a, .int (nI k)])), (a, .inl (g 1, n, .inr (.inl f)))] → va_S A s9.heap H locs → ∀ (ls : Array Slot), lv_has ls 4 [(0, .ref r), (1, .long p0), (3, .int (nI i))] → W p9 l9 e9 ({ frames := 0, cells := 0, slots := 0, locals := 0 } : Room) s9 m9 ([.ref r, .long p0] : List Value).toArray below9 meth9 c9 H locs 0 0 (MQ below9 (va_Qi (fun (r9 : Int32) (u9 : Unit) => r9 = oI (nfind f p0 k)) (kB D g A (fun (u9 : Unit) => [(r, .inr (2, [.ref a, .int (nI k)])), (a, .inl (g 1, n, .inr (.inl f)))])) A) ([.ref r, .long p0] : List Value).toArray s9 0 0 A) (F0 m9 2 ls []) := by
    intro n9
    induction n9 with
    | zero => intro i hm9; exact absurd hm9 (by omega)
    | succ n9 ih_2 =>
      intro i hm9 hi hf H locs hP hD hS ls hl
      refine lv_iload_n hx hb dX3_find_2 rfl (lv_at hl 2 rfl) ?_
      refine lv_aload_n hx hb dX3_find_3 rfl (lv_at hl 0 rfl) ?_
      refine va_get (D := D) (ci := 2) (v := .int (nI k)) (C := RX3) (T := TX3) (N := 2) hx hb hts in_X3 hown hK hP 0 rfl rfl 1 (by decide) (hts _ w_114) (fun _ h9 => h9) rfl dX3_find_4 ?_
      refine lv_icmp_ge (tgt := 38) hx hb dX3_find_7 (by decide) (fun c_7 => ?_) (fun c_7 => ?_)
      · skip
        have c_7 : k ≤ i := (nI_leI (a := k) (b := i) (by omega) (by omega)).mp c_7
        have hie : i = k := by omega
        refine lv_iconst (v := (-1)) hx hb dX3_find_38 (by decide) ?_
        have hP9 : va_P D CLS [(r, .inr (2, [.ref a, .int (nI k)])), (a, .inl (g 1, n, .inr (.inl f)))] H := by exact kSub hP [0, 1] rfl
        have hD9 : va_D A [(r, .inr (2, [.ref a, .int (nI k)])), (a, .inl (g 1, n, .inr (.inl f)))] := by exact hD.sub [0, 1] (by decide +kernel) rfl
        have hr9 : (-1) = (oI (nfind f p0 k)) := by rw [nfind_none.mpr (hie ▸ hf)]; rfl
        exact W.iret (v := (-1)) hx hb hr (fun t9 ht9 hW9 => ⟨⟨(-1), (), rfl, hr9, by rw [ht9]; exact hP9, va_K.moved hW9.alike hK, hD9⟩, hS.F ht9⟩) hS.2.2 dX3_find_39
      · skip
        have c_7 : ¬ k ≤ i := fun h => c_7 ((nI_leI (a := k) (b := i) (by omega) (by omega)).mpr h)
        have hlt : i < k := by omega
        refine lv_iload_n hx hb dX3_find_10 rfl (lv_at hl 2 rfl) ?_
        refine lv_aload_n hx hb dX3_find_11 rfl (lv_at hl 0 rfl) ?_
        refine va_get (D := D) (ci := 2) (v := .ref a) (C := RX3) (T := TX3) (N := 2) hx hb hts in_X3 hown hK hP 0 rfl rfl 0 (by decide) (hts _ w_113) (fun _ h9 => h9) rfl dX3_find_12 ?_
        refine va_alen (v := nI n) hx hb hK hP 1 1 rfl rfl rfl dX3_find_15 ?_
        refine lv_icmp_ge (tgt := 38) hx hb dX3_find_16 (by decide) (fun c_16 => ?_) (fun c_16 => ?_)
        · skip
          have c_16 : n ≤ i := (nI_leI (a := n) (b := i) (by omega) (by omega)).mp c_16
          exact absurd c_16 (by omega)
        · skip
          have c_16 : ¬ n ≤ i := fun h => c_16 ((nI_leI (a := n) (b := i) (by omega) (by omega)).mpr h)
          refine lv_aload_n hx hb dX3_find_19 rfl (lv_at hl 0 rfl) ?_
          refine va_get (D := D) (ci := 2) (v := .ref a) (C := RX3) (T := TX3) (N := 2) hx hb hts in_X3 hown hK hP 0 rfl rfl 0 (by decide) (hts _ w_113) (fun _ h9 => h9) rfl dX3_find_20 ?_
          refine lv_iload_n hx hb dX3_find_23 rfl (lv_at hl 2 rfl) ?_
          refine k_laldN hx hb hK hP 1 1 rfl rfl (by omega) (by first | decide | omega) dX3_find_24 ?_
          refine lv_lload_n hx hb dX3_find_25 rfl (lv_at hl 1 rfl) ?_
          refine W.lcmp hx hb dX3_find_26 ?_
          refine lv_if_ne (tgt := 32) hx hb dX3_find_27 (by decide) (fun c_27 => ?_) (fun c_27 => ?_)
          · skip
            rw [lgc_eq] at c_27
            refine lv_iinc (v := nI (i + 1)) (lv' := [(3, .int (nI (i + 1))), (0, .ref r), (1, .long p0)]) hx hb dX3_find_32 hl (k := 2) rfl (nI_1 i) (by decide) rfl (fun ls hl => ?_)
            refine lv_goto (tgt := 2) hx hb dX3_find_35 (by decide) ?_
            exact ih_2  (i + 1) (by omega) hlt (fun j hj => by rcases Nat.lt_or_ge j i with q | q; exact hf j q; exact (show j = i by omega) ▸ c_27) _ _ (kSub hP [0, 1] rfl) (hD.sub [0, 1] (by decide +kernel) rfl) hS ls (lv_sub hl [1, 2, 0] rfl)
          · skip
            rw [lgc_eq] at c_27
            refine lv_iload_n hx hb dX3_find_30 rfl (lv_at hl 2 rfl) ?_
            have hP9 : va_P D CLS [(r, .inr (2, [.ref a, .int (nI k)])), (a, .inl (g 1, n, .inr (.inl f)))] H := by exact kSub hP [0, 1] rfl
            have hD9 : va_D A [(r, .inr (2, [.ref a, .int (nI k)])), (a, .inl (g 1, n, .inr (.inl f)))] := by exact hD.sub [0, 1] (by decide +kernel) rfl
            have hr9 : (nI i) = (oI (nfind f p0 k)) := by rw [nfind_some hlt c_27 hf]; rfl
            exact W.iret (v := nI i) hx hb hr (fun t9 ht9 hW9 => ⟨⟨nI i, (), rfl, hr9, by rw [ht9]; exact hP9, va_K.moved hW9.alike hK, hD9⟩, hS.F ht9⟩) hS.2.2 dX3_find_31
  exact loop_2 (k - 0 + 1) 0 (by omega) (Nat.zero_le _) (fun j h => absurd h (Nat.not_lt_zero j)) _ _ (kSub hP [0, 1] rfl) (hD.sub [0, 1] (by decide +kernel) rfl) hS ls (lv_sub hl [1, 2, 0] rfl)
theorem dX3_add_0 : decode cX3_add 0 = .ok (.aload_n 0, 1) := by decide +kernel
theorem dX3_add_1 : decode cX3_add 1 = .ok (.getfield 9, 3) := by decide +kernel
theorem dX3_add_4 : decode cX3_add 4 = .ok (.ifCond .lt 15, 3) := by decide +kernel
theorem dX3_add_7 : decode cX3_add 7 = .ok (.aload_n 0, 1) := by decide +kernel
theorem dX3_add_8 : decode cX3_add 8 = .ok (.getfield 9, 3) := by decide +kernel
theorem dX3_add_11 : decode cX3_add 11 = .ok (.aload_n 0, 1) := by decide +kernel
theorem dX3_add_12 : decode cX3_add 12 = .ok (.getfield 21, 3) := by decide +kernel
theorem dX3_add_15 : decode cX3_add 15 = .ok (.arraylength, 1) := by decide +kernel
theorem dX3_add_16 : decode cX3_add 16 = .ok (.if_icmp .lt 5, 3) := by decide +kernel
theorem dX3_add_19 : decode cX3_add 19 = .ok (.iconst 0, 1) := by decide +kernel
theorem dX3_add_20 : decode cX3_add 20 = .ok (.ireturn, 1) := by decide +kernel
theorem dX3_add_21 : decode cX3_add 21 = .ok (.aload_n 0, 1) := by decide +kernel
theorem dX3_add_22 : decode cX3_add 22 = .ok (.getfield 21, 3) := by decide +kernel
theorem dX3_add_25 : decode cX3_add 25 = .ok (.aload_n 0, 1) := by decide +kernel
theorem dX3_add_26 : decode cX3_add 26 = .ok (.getfield 9, 3) := by decide +kernel
theorem dX3_add_29 : decode cX3_add 29 = .ok (.lload_n 1, 1) := by decide +kernel
theorem dX3_add_30 : decode cX3_add 30 = .ok (.lastore, 1) := by decide +kernel
theorem dX3_add_31 : decode cX3_add 31 = .ok (.aload_n 0, 1) := by decide +kernel
theorem dX3_add_32 : decode cX3_add 32 = .ok (.dup, 1) := by decide +kernel
theorem dX3_add_33 : decode cX3_add 33 = .ok (.getfield 9, 3) := by decide +kernel
theorem dX3_add_36 : decode cX3_add 36 = .ok (.iconst 1, 1) := by decide +kernel
theorem dX3_add_37 : decode cX3_add 37 = .ok (.iadd, 1) := by decide +kernel
theorem dX3_add_38 : decode cX3_add 38 = .ok (.putfield 9, 3) := by decide +kernel
theorem dX3_add_41 : decode cX3_add 41 = .ok (.iconst 1, 1) := by decide +kernel
theorem dX3_add_42 : decode cX3_add 42 = .ok (.ireturn, 1) := by decide +kernel
set_option maxHeartbeats 4000000 in
set_option maxRecDepth 100000 in
/-- Names.add -/
theorem c_X3_add (l9 : Launch) (z : Nat → Nat) (D : va_G) (g : Nat → ClassId) (r : Nat) (a : Nat) (n : Nat) (k : Nat) (f : Nat → Int64) (p0 : Int64) (hk : k ≤ n) (hn : n < 2147483648) (sz : Nat) : Met l9 yX3_add (WS yX3_add cX3_add 3 (some .boolean)) ({ frames := 0, cells := 0, slots := 0, locals := 0 }) (va_Pc [.ref r, .long p0] (kPre z D g [(r, .inr (2, [.ref a, .int (nI k)])), (a, .inl (g 1, n, .inr (.inl f)))] sz)) (va_Qi (fun (r9 : Int32) (u9 : Unit) => r9 = bI (decide (k < n))) (kB D g (va_A [(r, .inr (2, [.ref a, .int (nI k)])), (a, .inl (g 1, n, .inr (.inl f)))] sz) (fun (u9 : Unit) => [(r, .inr (2, [.ref a, .int (nI (if k < n then k + 1 else k))])), (a, .inl (g 1, n, .inr (.inl (if k < n then vp_updL f k p0 else f))))])) (va_A [(r, .inr (2, [.ref a, .int (nI k)])), (a, .inl (g 1, n, .inr (.inl f)))] sz)) 0 0 (va_A [(r, .inr (2, [.ref a, .int (nI k)])), (a, .inl (g 1, n, .inr (.inl f)))] sz) := by
  refine Met.ofW (cc := cX3_add) (maxL := 3) (ret := (some .boolean)) (by decide) rfl ?_
  intro p9 e9 s9 m9 args9 below9 meth9 c9 s₁ B hml hv
  obtain ⟨rfl, hsz, hP, hK, hD0, hZ⟩ := hv
  have hx := B.exec
  have hb := B.bytes
  have hr := B.returns
  have hts := ws_sub (atoms_spec (ws := WS yX3_add cX3_add 3 (some .boolean)) B.pre)
  have hown : s9.vm.findClass RX3 = some m9.cls := findClass_of_methodNamed B.named
  have hlocks := B.notSynchronized
  subst hsz
  have hD := hD0.self (sz := s9.heap.size)
  generalize hAe : va_A [(r, .inr (2, [.ref a, .int (nI k)])), (a, .inl (g 1, n, .inr (.inl f)))] s9.heap.size = A at hD hZ ⊢
  have hA : ∀ q : Nat, s9.heap.size ≤ q → A q := fun q h => by rw [← hAe]; exact Or.inr h
  have hS : va_S A s9.heap s9.heap [] := va_S.rf
  have hP : va_P D CLS [(r, .inr (2, [.ref a, .int (nI k)])), (a, .inl (g 1, n, .inr (.inl f)))] s9.heap := hP
  have hl := lv_entry ([.ref r, .long p0]) (n := 3) (Nat.le_of_ble_eq_true rfl)
  rw [lg_entry_eq]
  generalize (lg_sl ([.ref r, .long p0]) ++ List.replicate (3 - (lg_sl ([.ref r, .long p0])).length) Slot.unset).toArray = ls at hl ⊢
  have hl : lv_has ls 3 [(0, .ref r), (1, .long p0)] := hl
  change W p9 l9 e9 ({ frames := 0, cells := 0, slots := 0, locals := 0 } : Room) s9 m9 _ below9 meth9 c9 _ _ _ _ _ _
  refine lv_aload_n hx hb dX3_add_0 rfl (lv_at hl 0 rfl) ?_
  refine va_get (D := D) (ci := 2) (v := .int (nI k)) (C := RX3) (T := TX3) (N := 2) hx hb hts in_X3 hown hK hP 0 rfl rfl 1 (by decide) (hts _ w_114) (fun _ h9 => h9) rfl dX3_add_1 ?_
  refine lv_if_lt (tgt := 19) hx hb dX3_add_4 (by decide) (fun c_4 => ?_) (fun c_4 => ?_)
  · skip
    exact absurd c_4 (nI_pos (by omega))
  · skip
    refine lv_aload_n hx hb dX3_add_7 rfl (lv_at hl 0 rfl) ?_
    refine va_get (D := D) (ci := 2) (v := .int (nI k)) (C := RX3) (T := TX3) (N := 2) hx hb hts in_X3 hown hK hP 0 rfl rfl 1 (by decide) (hts _ w_114) (fun _ h9 => h9) rfl dX3_add_8 ?_
    refine lv_aload_n hx hb dX3_add_11 rfl (lv_at hl 0 rfl) ?_
    refine va_get (D := D) (ci := 2) (v := .ref a) (C := RX3) (T := TX3) (N := 2) hx hb hts in_X3 hown hK hP 0 rfl rfl 0 (by decide) (hts _ w_113) (fun _ h9 => h9) rfl dX3_add_12 ?_
    refine va_alen (v := nI n) hx hb hK hP 1 1 rfl rfl rfl dX3_add_15 ?_
    refine lv_icmp_lt (tgt := 21) hx hb dX3_add_16 (by decide) (fun c_16 => ?_) (fun c_16 => ?_)
    · skip
      have c_16 : k < n := (nI_ltI (a := k) (b := n) (by omega) (by omega)).mp c_16
      have hlt : k < n := c_16
      refine lv_aload_n hx hb dX3_add_21 rfl (lv_at hl 0 rfl) ?_
      refine va_get (D := D) (ci := 2) (v := .ref a) (C := RX3) (T := TX3) (N := 2) hx hb hts in_X3 hown hK hP 0 rfl rfl 0 (by decide) (hts _ w_113) (fun _ h9 => h9) rfl dX3_add_22 ?_
      refine lv_aload_n hx hb dX3_add_25 rfl (lv_at hl 0 rfl) ?_
      refine va_get (D := D) (ci := 2) (v := .int (nI k)) (C := RX3) (T := TX3) (N := 2) hx hb hts in_X3 hown hK hP 0 rfl rfl 1 (by decide) (hts _ w_114) (fun _ h9 => h9) rfl dX3_add_26 ?_
      refine lv_lload_n hx hb dX3_add_29 rfl (lv_at hl 1 rfl) ?_
      refine k_lastN hx hb hK hP hD hS 1 1 rfl rfl hlt (by first | decide | omega) dX3_add_30 (fun H locs hP7 hD7 hS7 => ?_)
      clear hP hD hS
      have hP := hP7
      have hD := hD7
      have hS := hS7
      clear hP7 hD7 hS7
      replace hP : va_P D CLS [(r, .inr (2, [.ref a, .int (nI k)])), (a, .inl (g 1, n, .inr (.inl (vp_updL f k p0))))] H := hP
      replace hD : va_D A [(r, .inr (2, [.ref a, .int (nI k)])), (a, .inl (g 1, n, .inr (.inl (vp_updL f k p0))))] := hD
      refine lv_aload_n hx hb dX3_add_31 rfl (lv_at hl 0 rfl) ?_
      refine lv_dup hx hb dX3_add_32 rfl ?_
      refine va_get (D := D) (ci := 2) (v := .int (nI k)) (C := RX3) (T := TX3) (N := 2) hx hb hts in_X3 hown hK hP 0 rfl rfl 1 (by decide) (hts _ w_114) (fun _ h9 => h9) rfl dX3_add_33 ?_
      refine lv_iconst (v := 1) hx hb dX3_add_36 (by decide) ?_
      refine k_inc hx hb dX3_add_37 ?_
      refine va_put (D := D) (ci := 2) (v := .int (nI (k + 1))) (ty := .int) (C := RX3) (T := TX3) (N := 2) hx hb hts in_X3 tyX3 tyX3_ok nmX3 hown hK hP hD hS 0 rfl rfl 1 (by decide) (hts _ w_114) (fun _ h9 => h9) rfl (by decide +kernel) rfl rfl (Nat.le_of_ble_eq_true rfl) dX3_add_38 (fun H locs hP7 hD7 hS7 => ?_)
      clear hP hD hS
      have hP := hP7
      have hD := hD7
      have hS := hS7
      clear hP7 hD7 hS7
      replace hP : va_P D CLS [(r, .inr (2, [.ref a, .int (nI (k + 1))])), (a, .inl (g 1, n, .inr (.inl (vp_updL f k p0))))] H := hP
      replace hD : va_D A [(r, .inr (2, [.ref a, .int (nI (k + 1))])), (a, .inl (g 1, n, .inr (.inl (vp_updL f k p0))))] := hD
      refine lv_iconst (v := 1) hx hb dX3_add_41 (by decide) ?_
      have he_1 : (nI (if k < n then k + 1 else k)) = (nI (k + 1)) := by first | rw [if_pos hlt] | rw [if_neg hlt]
      have he_2 : (if k < n then vp_updL f k p0 else f) = (vp_updL f k p0) := by first | rw [if_pos hlt] | rw [if_neg hlt]
      have hP9 : va_P D CLS [(r, .inr (2, [.ref a, .int (nI (if k < n then k + 1 else k))])), (a, .inl (g 1, n, .inr (.inl (if k < n then vp_updL f k p0 else f))))] H := by rw [he_1, he_2]; exact kSub hP [0, 1] rfl
      have hD9 : va_D A [(r, .inr (2, [.ref a, .int (nI (if k < n then k + 1 else k))])), (a, .inl (g 1, n, .inr (.inl (if k < n then vp_updL f k p0 else f))))] := by rw [he_1, he_2]; exact hD.sub [0, 1] (by decide +kernel) rfl
      have hr9 : 1 = (bI (decide (k < n))) := by simp [bI, hlt]
      exact W.zret (v := 1) hx hb hr (by first | exact k_nb0 | exact k_nb1 | exact k_nbI _ | simp) (fun t9 ht9 hW9 => ⟨⟨1, (), rfl, hr9, by rw [ht9]; exact hP9, va_K.moved hW9.alike hK, hD9⟩, hS.F ht9⟩) hS.2.2 dX3_add_42
    · skip
      have c_16 : ¬ k < n := fun h => c_16 ((nI_ltI (a := k) (b := n) (by omega) (by omega)).mpr h)
      have hlt : ¬ k < n := c_16
      refine lv_iconst (v := 0) hx hb dX3_add_19 (by decide) ?_
      have he_3 : (nI (if k < n then k + 1 else k)) = (nI k) := by first | rw [if_pos hlt] | rw [if_neg hlt]
      have he_4 : (if k < n then vp_updL f k p0 else f) = f := by first | rw [if_pos hlt] | rw [if_neg hlt]
      have hP9 : va_P D CLS [(r, .inr (2, [.ref a, .int (nI (if k < n then k + 1 else k))])), (a, .inl (g 1, n, .inr (.inl (if k < n then vp_updL f k p0 else f))))] s9.heap := by rw [he_3, he_4]; exact kSub hP [0, 1] rfl
      have hD9 : va_D A [(r, .inr (2, [.ref a, .int (nI (if k < n then k + 1 else k))])), (a, .inl (g 1, n, .inr (.inl (if k < n then vp_updL f k p0 else f))))] := by rw [he_3, he_4]; exact hD.sub [0, 1] (by decide +kernel) rfl
      have hr9 : 0 = (bI (decide (k < n))) := by simp [bI, hlt]
      exact W.zret (v := 0) hx hb hr (by first | exact k_nb0 | exact k_nb1 | exact k_nbI _ | simp) (fun t9 ht9 hW9 => ⟨⟨0, (), rfl, hr9, by rw [ht9]; exact hP9, va_K.moved hW9.alike hK, hD9⟩, hS.F ht9⟩) hS.2.2 dX3_add_20
theorem dX6_longer_0 : decode cX6_longer 0 = .ok (.lload_n 0, 1) := by decide +kernel
theorem dX6_longer_1 : decode cX6_longer 1 = .ok (.ldc2_w 188, 3) := by decide +kernel
theorem dX6_longer_4 : decode cX6_longer 4 = .ok (.lmul, 1) := by decide +kernel
theorem dX6_longer_5 : decode cX6_longer 5 = .ok (.iload_n 2, 1) := by decide +kernel
theorem dX6_longer_6 : decode cX6_longer 6 = .ok (.bipush 57, 2) := by decide +kernel
theorem dX6_longer_8 : decode cX6_longer 8 = .ok (.if_icmp .gt 12, 3) := by decide +kernel
theorem dX6_longer_11 : decode cX6_longer 11 = .ok (.iload_n 2, 1) := by decide +kernel
theorem dX6_longer_12 : decode cX6_longer 12 = .ok (.bipush 48, 2) := by decide +kernel
theorem dX6_longer_14 : decode cX6_longer 14 = .ok (.isub, 1) := by decide +kernel
theorem dX6_longer_15 : decode cX6_longer 15 = .ok (.iconst 1, 1) := by decide +kernel
theorem dX6_longer_16 : decode cX6_longer 16 = .ok (.iadd, 1) := by decide +kernel
theorem dX6_longer_17 : decode cX6_longer 17 = .ok (.goto 10, 3) := by decide +kernel
theorem dX6_longer_20 : decode cX6_longer 20 = .ok (.iload_n 2, 1) := by decide +kernel
theorem dX6_longer_21 : decode cX6_longer 21 = .ok (.bipush 97, 2) := by decide +kernel
theorem dX6_longer_23 : decode cX6_longer 23 = .ok (.isub, 1) := by decide +kernel
theorem dX6_longer_24 : decode cX6_longer 24 = .ok (.bipush 11, 2) := by decide +kernel
theorem dX6_longer_26 : decode cX6_longer 26 = .ok (.iadd, 1) := by decide +kernel
theorem dX6_longer_27 : decode cX6_longer 27 = .ok (.i2l, 1) := by decide +kernel
theorem dX6_longer_28 : decode cX6_longer 28 = .ok (.ladd, 1) := by decide +kernel
theorem dX6_longer_29 : decode cX6_longer 29 = .ok (.lreturn, 1) := by decide +kernel
set_option maxHeartbeats 4000000 in
set_option maxRecDepth 100000 in
/-- Sign.longer -/
theorem c_X6_longer (l9 : Launch) (z : Nat → Nat) (D : va_G) (g : Nat → ClassId) (p0 : Int64) (p1 : Int32) (sz : Nat) : Met l9 yX6_longer (WS yX6_longer cX6_longer 3 (some .long)) ({ frames := 0, cells := 0, slots := 0, locals := 0 }) (va_Pc [.long p0, .int p1] (kPre z D g [] sz)) (va_Ql (fun (r9 : Int64) (u9 : Unit) => r9 = lgr p0 p1) (kB D g (va_A [] sz) (fun (u9 : Unit) => [])) (va_A [] sz)) 0 0 (va_A [] sz) := by
  refine Met.ofW (cc := cX6_longer) (maxL := 3) (ret := (some .long)) (by decide) rfl ?_
  intro p9 e9 s9 m9 args9 below9 meth9 c9 s₁ B hml hv
  obtain ⟨rfl, hsz, hP, hK, hD0, hZ⟩ := hv
  have hx := B.exec
  have hb := B.bytes
  have hr := B.returns
  have hts := ws_sub (atoms_spec (ws := WS yX6_longer cX6_longer 3 (some .long)) B.pre)
  have hown : s9.vm.findClass RX6 = some m9.cls := findClass_of_methodNamed B.named
  have hlocks := B.notSynchronized
  subst hsz
  have hD := hD0.self (sz := s9.heap.size)
  generalize hAe : va_A [] s9.heap.size = A at hD hZ ⊢
  have hA : ∀ q : Nat, s9.heap.size ≤ q → A q := fun q h => by rw [← hAe]; exact Or.inr h
  have hS : va_S A s9.heap s9.heap [] := va_S.rf
  have hP : va_P D CLS [] s9.heap := hP
  have hl := lv_entry ([.long p0, .int p1]) (n := 3) (Nat.le_of_ble_eq_true rfl)
  rw [lg_entry_eq]
  generalize (lg_sl ([.long p0, .int p1]) ++ List.replicate (3 - (lg_sl ([.long p0, .int p1])).length) Slot.unset).toArray = ls at hl ⊢
  have hl : lv_has ls 3 [(0, .long p0), (2, .int p1)] := hl
  change W p9 l9 e9 ({ frames := 0, cells := 0, slots := 0, locals := 0 } : Room) s9 m9 _ below9 meth9 c9 _ _ _ _ _ _
  refine lv_lload_n hx hb dX6_longer_0 rfl (lv_at hl 0 rfl) ?_
  refine lv_ldc2 (own := RX6) (v := 37) hx hb hown (hts _ w_961) dX6_longer_1 ?_
  refine lv_lmul hx hb dX6_longer_4 ?_
  refine lv_iload_n hx hb dX6_longer_5 rfl (lv_at hl 1 rfl) ?_
  refine lv_bipush (v := 57) hx hb dX6_longer_6 (by decide) ?_
  refine lv_icmp_gt (tgt := 20) hx hb dX6_longer_8 (by decide) (fun c_8 => ?_) (fun c_8 => ?_)
  · skip
    refine lv_iload_n hx hb dX6_longer_20 rfl (lv_at hl 1 rfl) ?_
    refine lv_bipush (v := 97) hx hb dX6_longer_21 (by decide) ?_
    refine lv_isub hx hb dX6_longer_23 ?_
    refine lv_bipush (v := 11) hx hb dX6_longer_24 (by decide) ?_
    refine lv_iadd hx hb dX6_longer_26 ?_
    refine lv_i2l hx hb dX6_longer_27 rfl ?_
    refine lv_ladd hx hb dX6_longer_28 ?_
    have hP9 : va_P D CLS [] s9.heap := by exact kSub hP [] rfl
    have hD9 : va_D A [] := by exact hD.sub [] (by decide +kernel) rfl
    have hr9 : ((p0 * 37) + (((p1 - 97) + 11).toInt64)) = (lgr p0 p1) := by first | (unfold lgr; rw [if_pos c_8]) | (unfold lgr; rw [if_neg c_8])
    exact W.lret (v := ((p0 * 37) + (((p1 - 97) + 11).toInt64))) hx hb hr (fun t9 ht9 hW9 => ⟨⟨((p0 * 37) + (((p1 - 97) + 11).toInt64)), (), rfl, hr9, by rw [ht9]; exact hP9, va_K.moved hW9.alike hK, hD9⟩, hS.F ht9⟩) hS.2.2 dX6_longer_29
  · skip
    refine lv_iload_n hx hb dX6_longer_11 rfl (lv_at hl 1 rfl) ?_
    refine lv_bipush (v := 48) hx hb dX6_longer_12 (by decide) ?_
    refine lv_isub hx hb dX6_longer_14 ?_
    refine lv_iconst (v := 1) hx hb dX6_longer_15 (by decide) ?_
    refine lv_iadd hx hb dX6_longer_16 ?_
    refine lv_goto (tgt := 27) hx hb dX6_longer_17 (by decide) ?_
    refine lv_i2l hx hb dX6_longer_27 rfl ?_
    refine lv_ladd hx hb dX6_longer_28 ?_
    have hP9 : va_P D CLS [] s9.heap := by exact kSub hP [] rfl
    have hD9 : va_D A [] := by exact hD.sub [] (by decide +kernel) rfl
    have hr9 : ((p0 * 37) + (((p1 - 48) + 1).toInt64)) = (lgr p0 p1) := by first | (unfold lgr; rw [if_pos c_8]) | (unfold lgr; rw [if_neg c_8])
    exact W.lret (v := ((p0 * 37) + (((p1 - 48) + 1).toInt64))) hx hb hr (fun t9 ht9 hW9 => ⟨⟨((p0 * 37) + (((p1 - 48) + 1).toInt64)), (), rfl, hr9, by rw [ht9]; exact hP9, va_K.moved hW9.alike hK, hD9⟩, hS.F ht9⟩) hS.2.2 dX6_longer_29
theorem dX6_ofWord_0 : decode cX6_ofWord 0 = .ok (.iconst 0, 1) := by decide +kernel
theorem dX6_ofWord_1 : decode cX6_ofWord 1 = .ok (.istore_n 2, 1) := by decide +kernel
theorem dX6_ofWord_2 : decode cX6_ofWord 2 = .ok (.iload_n 2, 1) := by decide +kernel
theorem dX6_ofWord_3 : decode cX6_ofWord 3 = .ok (.getstatic 190, 3) := by decide +kernel
theorem dX6_ofWord_6 : decode cX6_ofWord 6 = .ok (.arraylength, 1) := by decide +kernel
theorem dX6_ofWord_7 : decode cX6_ofWord 7 = .ok (.if_icmp .ge 28, 3) := by decide +kernel
theorem dX6_ofWord_10 : decode cX6_ofWord 10 = .ok (.getstatic 190, 3) := by decide +kernel
theorem dX6_ofWord_13 : decode cX6_ofWord 13 = .ok (.iload_n 2, 1) := by decide +kernel
theorem dX6_ofWord_14 : decode cX6_ofWord 14 = .ok (.aaload, 1) := by decide +kernel
theorem dX6_ofWord_15 : decode cX6_ofWord 15 = .ok (.getfield 170, 3) := by decide +kernel
theorem dX6_ofWord_18 : decode cX6_ofWord 18 = .ok (.lload_n 0, 1) := by decide +kernel
theorem dX6_ofWord_19 : decode cX6_ofWord 19 = .ok (.lcmp, 1) := by decide +kernel
theorem dX6_ofWord_20 : decode cX6_ofWord 20 = .ok (.ifCond .ne 9, 3) := by decide +kernel
theorem dX6_ofWord_23 : decode cX6_ofWord 23 = .ok (.getstatic 190, 3) := by decide +kernel
theorem dX6_ofWord_26 : decode cX6_ofWord 26 = .ok (.iload_n 2, 1) := by decide +kernel
theorem dX6_ofWord_27 : decode cX6_ofWord 27 = .ok (.aaload, 1) := by decide +kernel
theorem dX6_ofWord_28 : decode cX6_ofWord 28 = .ok (.areturn, 1) := by decide +kernel
theorem dX6_ofWord_29 : decode cX6_ofWord 29 = .ok (.iinc 2 1, 3) := by decide +kernel
theorem dX6_ofWord_32 : decode cX6_ofWord 32 = .ok (.goto (-30), 3) := by decide +kernel
theorem dX6_ofWord_35 : decode cX6_ofWord 35 = .ok (.getstatic 10, 3) := by decide +kernel
theorem dX6_ofWord_38 : decode cX6_ofWord 38 = .ok (.areturn, 1) := by decide +kernel
set_option maxHeartbeats 4000000 in
set_option maxRecDepth 100000 in
/-- Sign.ofWord -/
theorem c_X6_ofWord (l9 : Launch) (z : Nat → Nat) (D : va_G) (g : Nat → ClassId) (p0 : Int64) (sz : Nat) : Met l9 yX6_ofWord (WS yX6_ofWord cX6_ofWord 3 (some (.object "ChoirStalls$Sign"))) ({ frames := 0, cells := 0, slots := 0, locals := 0 }) (va_Pc [.long p0] (kPre z D g [] sz)) (va_Qq (fun (r9 : Option Nat) (u9 : Unit) => r9 = some (z (sword p0))) (kB D g (va_A [] sz) (fun (u9 : Unit) => [])) (va_A [] sz)) 0 0 (va_A [] sz) := by
  refine Met.ofW (cc := cX6_ofWord) (maxL := 3) (ret := (some (.object "ChoirStalls$Sign"))) (by decide) rfl ?_
  intro p9 e9 s9 m9 args9 below9 meth9 c9 s₁ B hml hv
  obtain ⟨rfl, hsz, hP, hK, hD0, hZ⟩ := hv
  have hx := B.exec
  have hb := B.bytes
  have hr := B.returns
  have hts := ws_sub (atoms_spec (ws := WS yX6_ofWord cX6_ofWord 3 (some (.object "ChoirStalls$Sign"))) B.pre)
  have hown : s9.vm.findClass RX6 = some m9.cls := findClass_of_methodNamed B.named
  have hlocks := B.notSynchronized
  subst hsz
  have hD := hD0.self (sz := s9.heap.size)
  generalize hAe : va_A [] s9.heap.size = A at hD hZ ⊢
  have hA : ∀ q : Nat, s9.heap.size ≤ q → A q := fun q h => by rw [← hAe]; exact Or.inr h
  have hS : va_S A s9.heap s9.heap [] := va_S.rf
  have hP : va_P D CLS [] s9.heap := hP
  have hl := lv_entry ([.long p0]) (n := 3) (Nat.le_of_ble_eq_true rfl)
  rw [lg_entry_eq]
  generalize (lg_sl ([.long p0]) ++ List.replicate (3 - (lg_sl ([.long p0])).length) Slot.unset).toArray = ls at hl ⊢
  have hl : lv_has ls 3 [(0, .long p0)] := hl
  change W p9 l9 e9 ({ frames := 0, cells := 0, slots := 0, locals := 0 } : Room) s9 m9 _ below9 meth9 c9 _ _ _ _ _ _
  refine lv_iconst (v := 0) hx hb dX6_ofWord_0 (by decide) ?_
  refine lv_istore_n (lv' := [(2, .int 0), (0, .long p0)]) hx hb dX6_ofWord_1 rfl hl (by decide) rfl (fun ls hl => ?_)
  have loop_2 : ∀ (n9 : Nat) (i : Nat), n9 > 49 - i → (i ≤ 49) → (∀ j, j < i → SGc.getD j 0 ≠ p0) → ∀ (H : Heap) (locs : List Loc), va_P D CLS [] H → va_D A [] → va_S A s9.heap H locs → ∀ (ls : Array Slot), lv_has ls 3 [(0, .long p0), (2, .int (nI i))] → W p9 l9 e9 ({ frames := 0, cells := 0, slots := 0, locals := 0 } : Room) s9 m9 ([.long p0] : List Value).toArray below9 meth9 c9 H locs 0 0 (MQ below9 (va_Qq (fun (r9 : Option Nat) (u9 : Unit) => r9 = some (z (sword p0))) (kB D g A (fun (u9 : Unit) => [])) A) ([.long p0] : List Value).toArray s9 0 0 A) (F0 m9 2 ls []) := by
    intro n9
    induction n9 with
    | zero => intro i hm9; exact absurd hm9 (by omega)
    | succ n9 ih_2 =>
      intro i hm9 hi hf H locs hP hD hS ls hl
      refine lv_iload_n hx hb dX6_ofWord_2 rfl (lv_at hl 1 rfl) ?_
      refine va_getsN (n := "SIGNS") hx hb hZ.sgs hS hown (hZ.nst.use nw_966) (fun _ h9 => h9) dX6_ofWord_3 ?_
      refine va_tlen (v := 49) hx hb hZ.sgt hS (by decide) dX6_ofWord_6 ?_
      refine lv_icmp_ge (tgt := 35) hx hb dX6_ofWord_7 (by decide) (fun c_7 => ?_) (fun c_7 => ?_)
      · skip
        have c_7 : 49 ≤ i := (nI_leI (a := 49) (b := i) (by omega) (by omega)).mp c_7
        have hie : i = 49 := by omega
        refine va_gets (n := "NAME") hx hb (hZ.en.1 2 (by decide)).1 hS hown (hts _ w_968) (fun _ h9 => h9) dX6_ofWord_35 ?_
        have hP9 : va_P D CLS [] H := by exact kSub hP [] rfl
        have hD9 : va_D A [] := by exact hD.sub [] (by decide +kernel) rfl
        have hr9 : some (z 2) = some (z (sword p0)) := by unfold sword; rw [nfind_none.mpr (hie ▸ hf)]; rfl
        exact W.aret (v := va_rf (some (z 2))) hx hb hr (Or.inl ⟨_, rfl⟩) (va_rf_or _) (fun t9 ht9 hW9 => ⟨⟨some (z 2), (), rfl, hr9, by rw [ht9]; exact hP9, va_K.moved hW9.alike hK, hD9⟩, hS.F ht9⟩) hS.2.2 dX6_ofWord_38
      · skip
        have c_7 : ¬ 49 ≤ i := fun h => c_7 ((nI_leI (a := 49) (b := i) (by omega) (by omega)).mpr h)
        have hlt : i < 49 := by omega
        refine va_getsN (n := "SIGNS") hx hb hZ.sgs hS hown (hZ.nst.use nw_966) (fun _ h9 => h9) dX6_ofWord_10 ?_
        refine lv_iload_n hx hb dX6_ofWord_13 rfl (lv_at hl 1 rfl) ?_
        refine vb_tq (v := .ref (z i)) hx hb hZ.sgt hS (vp_in_nI (by omega) (by decide)) (by rw [nI_clamp (by omega)]) dX6_ofWord_14 ?_
        refine va_getX (v := fun k => .long (SGc.getD k 0)) hx hb hZ.cod (by assumption) hS hown (hts _ w_1538) (fun _ h9 => h9) dX6_ofWord_15 ?_
        refine lv_lload_n hx hb dX6_ofWord_18 rfl (lv_at hl 0 rfl) ?_
        refine W.lcmp hx hb dX6_ofWord_19 ?_
        refine lv_if_ne (tgt := 29) hx hb dX6_ofWord_20 (by decide) (fun c_20 => ?_) (fun c_20 => ?_)
        · skip
          rw [lgc_eq] at c_20
          refine lv_iinc (v := nI (i + 1)) (lv' := [(2, .int (nI (i + 1))), (0, .long p0)]) hx hb dX6_ofWord_29 hl (k := 1) rfl (nI_1 i) (by decide) rfl (fun ls hl => ?_)
          refine lv_goto (tgt := 2) hx hb dX6_ofWord_32 (by decide) ?_
          exact ih_2  (i + 1) (by omega) (by omega) (fun j hj => by rcases Nat.lt_or_ge j i with q | q; exact hf j q; exact (show j = i by omega) ▸ c_20) _ _ (kSub hP [] rfl) (hD.sub [] (by decide +kernel) rfl) hS ls (lv_sub hl [1, 0] rfl)
        · skip
          rw [lgc_eq] at c_20
          refine va_getsN (n := "SIGNS") hx hb hZ.sgs hS hown (hZ.nst.use nw_966) (fun _ h9 => h9) dX6_ofWord_23 ?_
          refine lv_iload_n hx hb dX6_ofWord_26 rfl (lv_at hl 1 rfl) ?_
          refine vb_tq (v := .ref (z i)) hx hb hZ.sgt hS (vp_in_nI (by omega) (by decide)) (by rw [nI_clamp (by omega)]) dX6_ofWord_27 ?_
          have hP9 : va_P D CLS [] H := by exact kSub hP [] rfl
          have hD9 : va_D A [] := by exact hD.sub [] (by decide +kernel) rfl
          have hr9 : some (z i) = some (z (sword p0)) := by unfold sword; rw [nfind_some (f := fun k => SGc.getD k 0) hlt c_20 hf, Option.getD_some, sg_of hlt]
          exact W.aret (v := va_rf (some (z i))) hx hb hr (Or.inl ⟨_, rfl⟩) (va_rf_or _) (fun t9 ht9 hW9 => ⟨⟨some (z i), (), rfl, hr9, by rw [ht9]; exact hP9, va_K.moved hW9.alike hK, hD9⟩, hS.F ht9⟩) hS.2.2 dX6_ofWord_28
  exact loop_2 (49 - 0 + 1) 0 (by omega) (Nat.zero_le _) (fun j h => absurd h (Nat.not_lt_zero j)) _ _ (kSub hP [] rfl) (hD.sub [] (by decide +kernel) rfl) hS ls (lv_sub hl [1, 0] rfl)
theorem dX6_compares_0 : decode cX6_compares 0 = .ok (.aload_n 0, 1) := by decide +kernel
theorem dX6_compares_1 : decode cX6_compares 1 = .ok (.getstatic 49, 3) := by decide +kernel
theorem dX6_compares_4 : decode cX6_compares 4 = .ok (.if_acmp .eq 31, 3) := by decide +kernel
theorem dX6_compares_7 : decode cX6_compares 7 = .ok (.aload_n 0, 1) := by decide +kernel
theorem dX6_compares_8 : decode cX6_compares 8 = .ok (.getstatic 52, 3) := by decide +kernel
theorem dX6_compares_11 : decode cX6_compares 11 = .ok (.if_acmp .eq 24, 3) := by decide +kernel
theorem dX6_compares_14 : decode cX6_compares 14 = .ok (.aload_n 0, 1) := by decide +kernel
theorem dX6_compares_15 : decode cX6_compares 15 = .ok (.getstatic 55, 3) := by decide +kernel
theorem dX6_compares_18 : decode cX6_compares 18 = .ok (.if_acmp .eq 17, 3) := by decide +kernel
theorem dX6_compares_21 : decode cX6_compares 21 = .ok (.aload_n 0, 1) := by decide +kernel
theorem dX6_compares_22 : decode cX6_compares 22 = .ok (.getstatic 58, 3) := by decide +kernel
theorem dX6_compares_25 : decode cX6_compares 25 = .ok (.if_acmp .eq 10, 3) := by decide +kernel
theorem dX6_compares_28 : decode cX6_compares 28 = .ok (.aload_n 0, 1) := by decide +kernel
theorem dX6_compares_29 : decode cX6_compares 29 = .ok (.getstatic 61, 3) := by decide +kernel
theorem dX6_compares_32 : decode cX6_compares 32 = .ok (.if_acmp .ne 7, 3) := by decide +kernel
theorem dX6_compares_35 : decode cX6_compares 35 = .ok (.iconst 1, 1) := by decide +kernel
theorem dX6_compares_36 : decode cX6_compares 36 = .ok (.goto 4, 3) := by decide +kernel
theorem dX6_compares_39 : decode cX6_compares 39 = .ok (.iconst 0, 1) := by decide +kernel
theorem dX6_compares_40 : decode cX6_compares 40 = .ok (.ireturn, 1) := by decide +kernel
set_option maxHeartbeats 4000000 in
set_option maxRecDepth 100000 in
/-- Sign.compares -/
theorem c_X6_compares (l9 : Launch) (z : Nat → Nat) (D : va_G) (g : Nat → ClassId) (k : Nat) (hk : k < 49) (sz : Nat) : Met l9 yX6_compares (WS yX6_compares cX6_compares 1 (some .boolean)) ({ frames := 0, cells := 0, slots := 0, locals := 0 }) (va_Pc [.ref (z k)] (kPre z D g [] sz)) (va_Qi (fun (r9 : Int32) (u9 : Unit) => r9 = bI (decide (15 ≤ k ∧ k ≤ 19))) (kB D g (va_A [] sz) (fun (u9 : Unit) => [])) (va_A [] sz)) 0 0 (va_A [] sz) := by
  refine Met.ofW (cc := cX6_compares) (maxL := 1) (ret := (some .boolean)) (by decide) rfl ?_
  intro p9 e9 s9 m9 args9 below9 meth9 c9 s₁ B hml hv
  obtain ⟨rfl, hsz, hP, hK, hD0, hZ⟩ := hv
  have hx := B.exec
  have hb := B.bytes
  have hr := B.returns
  have hts := ws_sub (atoms_spec (ws := WS yX6_compares cX6_compares 1 (some .boolean)) B.pre)
  have hown : s9.vm.findClass RX6 = some m9.cls := findClass_of_methodNamed B.named
  have hlocks := B.notSynchronized
  subst hsz
  have hD := hD0.self (sz := s9.heap.size)
  generalize hAe : va_A [] s9.heap.size = A at hD hZ ⊢
  have hA : ∀ q : Nat, s9.heap.size ≤ q → A q := fun q h => by rw [← hAe]; exact Or.inr h
  have hS : va_S A s9.heap s9.heap [] := va_S.rf
  have hP : va_P D CLS [] s9.heap := hP
  have hl := lv_entry ([.ref (z k)]) (n := 1) (Nat.le_of_ble_eq_true rfl)
  rw [lg_entry_eq]
  generalize (lg_sl ([.ref (z k)]) ++ List.replicate (1 - (lg_sl ([.ref (z k)])).length) Slot.unset).toArray = ls at hl ⊢
  have hl : lv_has ls 1 [(0, .ref (z k))] := hl
  change W p9 l9 e9 ({ frames := 0, cells := 0, slots := 0, locals := 0 } : Room) s9 m9 _ below9 meth9 c9 _ _ _ _ _ _
  refine lv_aload_n hx hb dX6_compares_0 rfl (lv_at hl 0 rfl) ?_
  refine va_gets (n := "LESS") hx hb (hZ.en.1 15 (by decide)).1 hS hown (hts _ w_1171) (fun _ h9 => h9) dX6_compares_1 ?_
  refine k_acmp_eq (tgt := 35) hx hb hZ (by assumption) (by decide) dX6_compares_4 (by decide) (fun c_4 => ?_) (fun c_4 => ?_)
  · skip
    refine lv_iconst (v := 1) hx hb dX6_compares_35 (by decide) ?_
    refine lv_goto (tgt := 40) hx hb dX6_compares_36 (by decide) ?_
    have hP9 : va_P D CLS [] s9.heap := by exact kSub hP [] rfl
    have hD9 : va_D A [] := by exact hD.sub [] (by decide +kernel) rfl
    have hr9 : 1 = (bI (decide (15 ≤ k ∧ k ≤ 19))) := by first | (rw [decide_eq_true (by omega)]; rfl) | (rw [decide_eq_false (by omega)]; rfl)
    exact W.zret (v := 1) hx hb hr (by first | exact k_nb0 | exact k_nb1 | exact k_nbI _ | simp) (fun t9 ht9 hW9 => ⟨⟨1, (), rfl, hr9, by rw [ht9]; exact hP9, va_K.moved hW9.alike hK, hD9⟩, hS.F ht9⟩) hS.2.2 dX6_compares_40
  · skip
    refine lv_aload_n hx hb dX6_compares_7 rfl (lv_at hl 0 rfl) ?_
    refine va_gets (n := "GREATER") hx hb (hZ.en.1 16 (by decide)).1 hS hown (hts _ w_1172) (fun _ h9 => h9) dX6_compares_8 ?_
    refine k_acmp_eq (tgt := 35) hx hb hZ (by assumption) (by decide) dX6_compares_11 (by decide) (fun c_11 => ?_) (fun c_11 => ?_)
    · skip
      refine lv_iconst (v := 1) hx hb dX6_compares_35 (by decide) ?_
      refine lv_goto (tgt := 40) hx hb dX6_compares_36 (by decide) ?_
      have hP9 : va_P D CLS [] s9.heap := by exact kSub hP [] rfl
      have hD9 : va_D A [] := by exact hD.sub [] (by decide +kernel) rfl
      have hr9 : 1 = (bI (decide (15 ≤ k ∧ k ≤ 19))) := by first | (rw [decide_eq_true (by omega)]; rfl) | (rw [decide_eq_false (by omega)]; rfl)
      exact W.zret (v := 1) hx hb hr (by first | exact k_nb0 | exact k_nb1 | exact k_nbI _ | simp) (fun t9 ht9 hW9 => ⟨⟨1, (), rfl, hr9, by rw [ht9]; exact hP9, va_K.moved hW9.alike hK, hD9⟩, hS.F ht9⟩) hS.2.2 dX6_compares_40
    · skip
      refine lv_aload_n hx hb dX6_compares_14 rfl (lv_at hl 0 rfl) ?_
      refine va_gets (n := "EQUAL") hx hb (hZ.en.1 17 (by decide)).1 hS hown (hts _ w_1173) (fun _ h9 => h9) dX6_compares_15 ?_
      refine k_acmp_eq (tgt := 35) hx hb hZ (by assumption) (by decide) dX6_compares_18 (by decide) (fun c_18 => ?_) (fun c_18 => ?_)
      · skip
        refine lv_iconst (v := 1) hx hb dX6_compares_35 (by decide) ?_
        refine lv_goto (tgt := 40) hx hb dX6_compares_36 (by decide) ?_
        have hP9 : va_P D CLS [] s9.heap := by exact kSub hP [] rfl
        have hD9 : va_D A [] := by exact hD.sub [] (by decide +kernel) rfl
        have hr9 : 1 = (bI (decide (15 ≤ k ∧ k ≤ 19))) := by first | (rw [decide_eq_true (by omega)]; rfl) | (rw [decide_eq_false (by omega)]; rfl)
        exact W.zret (v := 1) hx hb hr (by first | exact k_nb0 | exact k_nb1 | exact k_nbI _ | simp) (fun t9 ht9 hW9 => ⟨⟨1, (), rfl, hr9, by rw [ht9]; exact hP9, va_K.moved hW9.alike hK, hD9⟩, hS.F ht9⟩) hS.2.2 dX6_compares_40
      · skip
        refine lv_aload_n hx hb dX6_compares_21 rfl (lv_at hl 0 rfl) ?_
        refine va_gets (n := "AT_MOST") hx hb (hZ.en.1 18 (by decide)).1 hS hown (hts _ w_1174) (fun _ h9 => h9) dX6_compares_22 ?_
        refine k_acmp_eq (tgt := 35) hx hb hZ (by assumption) (by decide) dX6_compares_25 (by decide) (fun c_25 => ?_) (fun c_25 => ?_)
        · skip
          refine lv_iconst (v := 1) hx hb dX6_compares_35 (by decide) ?_
          refine lv_goto (tgt := 40) hx hb dX6_compares_36 (by decide) ?_
          have hP9 : va_P D CLS [] s9.heap := by exact kSub hP [] rfl
          have hD9 : va_D A [] := by exact hD.sub [] (by decide +kernel) rfl
          have hr9 : 1 = (bI (decide (15 ≤ k ∧ k ≤ 19))) := by first | (rw [decide_eq_true (by omega)]; rfl) | (rw [decide_eq_false (by omega)]; rfl)
          exact W.zret (v := 1) hx hb hr (by first | exact k_nb0 | exact k_nb1 | exact k_nbI _ | simp) (fun t9 ht9 hW9 => ⟨⟨1, (), rfl, hr9, by rw [ht9]; exact hP9, va_K.moved hW9.alike hK, hD9⟩, hS.F ht9⟩) hS.2.2 dX6_compares_40
        · skip
          refine lv_aload_n hx hb dX6_compares_28 rfl (lv_at hl 0 rfl) ?_
          refine va_gets (n := "AT_LEAST") hx hb (hZ.en.1 19 (by decide)).1 hS hown (hts _ w_1175) (fun _ h9 => h9) dX6_compares_29 ?_
          refine k_acmp_ne (tgt := 39) hx hb hZ (by assumption) (by decide) dX6_compares_32 (by decide) (fun c_32 => ?_) (fun c_32 => ?_)
          · skip
            refine lv_iconst (v := 0) hx hb dX6_compares_39 (by decide) ?_
            have hP9 : va_P D CLS [] s9.heap := by exact kSub hP [] rfl
            have hD9 : va_D A [] := by exact hD.sub [] (by decide +kernel) rfl
            have hr9 : 0 = (bI (decide (15 ≤ k ∧ k ≤ 19))) := by first | (rw [decide_eq_true (by omega)]; rfl) | (rw [decide_eq_false (by omega)]; rfl)
            exact W.zret (v := 0) hx hb hr (by first | exact k_nb0 | exact k_nb1 | exact k_nbI _ | simp) (fun t9 ht9 hW9 => ⟨⟨0, (), rfl, hr9, by rw [ht9]; exact hP9, va_K.moved hW9.alike hK, hD9⟩, hS.F ht9⟩) hS.2.2 dX6_compares_40
          · skip
            refine lv_iconst (v := 1) hx hb dX6_compares_35 (by decide) ?_
            refine lv_goto (tgt := 40) hx hb dX6_compares_36 (by decide) ?_
            have hP9 : va_P D CLS [] s9.heap := by exact kSub hP [] rfl
            have hD9 : va_D A [] := by exact hD.sub [] (by decide +kernel) rfl
            have hr9 : 1 = (bI (decide (15 ≤ k ∧ k ≤ 19))) := by first | (rw [decide_eq_true (by omega)]; rfl) | (rw [decide_eq_false (by omega)]; rfl)
            exact W.zret (v := 1) hx hb hr (by first | exact k_nb0 | exact k_nb1 | exact k_nbI _ | simp) (fun t9 ht9 hW9 => ⟨⟨1, (), rfl, hr9, by rw [ht9]; exact hP9, va_K.moved hW9.alike hK, hD9⟩, hS.F ht9⟩) hS.2.2 dX6_compares_40
