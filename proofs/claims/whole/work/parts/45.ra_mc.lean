theorem dX13_kindAt_0 : decode cX13_kindAt 0 = .ok (.aload_n 0, 1) := by decide +kernel
theorem dX13_kindAt_1 : decode cX13_kindAt 1 = .ok (.iload_n 1, 1) := by decide +kernel
theorem dX13_kindAt_2 : decode cX13_kindAt 2 = .ok (.invokevirtual 56, 3) := by decide +kernel
theorem dX13_kindAt_5 : decode cX13_kindAt 5 = .ok (.istore_n 3, 1) := by decide +kernel
theorem dX13_kindAt_6 : decode cX13_kindAt 6 = .ok (.iload_n 3, 1) := by decide +kernel
theorem dX13_kindAt_7 : decode cX13_kindAt 7 = .ok (.iconst (-1), 1) := by decide +kernel
theorem dX13_kindAt_8 : decode cX13_kindAt 8 = .ok (.if_icmp .ne 6, 3) := by decide +kernel
theorem dX13_kindAt_11 : decode cX13_kindAt 11 = .ok (.bipush 70, 2) := by decide +kernel
theorem dX13_kindAt_13 : decode cX13_kindAt 13 = .ok (.ireturn, 1) := by decide +kernel
theorem dX13_kindAt_14 : decode cX13_kindAt 14 = .ok (.iload_n 3, 1) := by decide +kernel
theorem dX13_kindAt_15 : decode cX13_kindAt 15 = .ok (.invokestatic 64, 3) := by decide +kernel
theorem dX13_kindAt_18 : decode cX13_kindAt 18 = .ok (.ifCond .eq 17, 3) := by decide +kernel
theorem dX13_kindAt_21 : decode cX13_kindAt 21 = .ok (.iload_n 2, 1) := by decide +kernel
theorem dX13_kindAt_22 : decode cX13_kindAt 22 = .ok (.bipush 6, 2) := by decide +kernel
theorem dX13_kindAt_24 : decode cX13_kindAt 24 = .ok (.if_icmp .le 8, 3) := by decide +kernel
theorem dX13_kindAt_27 : decode cX13_kindAt 27 = .ok (.bipush 71, 2) := by decide +kernel
theorem dX13_kindAt_29 : decode cX13_kindAt 29 = .ok (.goto 5, 3) := by decide +kernel
theorem dX13_kindAt_32 : decode cX13_kindAt 32 = .ok (.bipush 31, 2) := by decide +kernel
theorem dX13_kindAt_34 : decode cX13_kindAt 34 = .ok (.ireturn, 1) := by decide +kernel
theorem dX13_kindAt_35 : decode cX13_kindAt 35 = .ok (.iload_n 3, 1) := by decide +kernel
theorem dX13_kindAt_36 : decode cX13_kindAt 36 = .ok (.invokestatic 60, 3) := by decide +kernel
theorem dX13_kindAt_39 : decode cX13_kindAt 39 = .ok (.ifCond .eq 21, 3) := by decide +kernel
theorem dX13_kindAt_42 : decode cX13_kindAt 42 = .ok (.iload_n 2, 1) := by decide +kernel
theorem dX13_kindAt_43 : decode cX13_kindAt 43 = .ok (.bipush 10, 2) := by decide +kernel
theorem dX13_kindAt_45 : decode cX13_kindAt 45 = .ok (.if_icmp .le 8, 3) := by decide +kernel
theorem dX13_kindAt_48 : decode cX13_kindAt 48 = .ok (.bipush 71, 2) := by decide +kernel
theorem dX13_kindAt_50 : decode cX13_kindAt 50 = .ok (.goto 9, 3) := by decide +kernel
theorem dX13_kindAt_53 : decode cX13_kindAt 53 = .ok (.aload_n 0, 1) := by decide +kernel
theorem dX13_kindAt_54 : decode cX13_kindAt 54 = .ok (.iload_n 1, 1) := by decide +kernel
theorem dX13_kindAt_55 : decode cX13_kindAt 55 = .ok (.iload_n 2, 1) := by decide +kernel
theorem dX13_kindAt_56 : decode cX13_kindAt 56 = .ok (.invokevirtual 67, 3) := by decide +kernel
theorem dX13_kindAt_59 : decode cX13_kindAt 59 = .ok (.ireturn, 1) := by decide +kernel
theorem dX13_kindAt_60 : decode cX13_kindAt 60 = .ok (.iload_n 2, 1) := by decide +kernel
theorem dX13_kindAt_61 : decode cX13_kindAt 61 = .ok (.iconst 2, 1) := by decide +kernel
theorem dX13_kindAt_62 : decode cX13_kindAt 62 = .ok (.if_icmp .ne 17, 3) := by decide +kernel
theorem dX13_kindAt_65 : decode cX13_kindAt 65 = .ok (.iload_n 3, 1) := by decide +kernel
theorem dX13_kindAt_66 : decode cX13_kindAt 66 = .ok (.bipush 60, 2) := by decide +kernel
theorem dX13_kindAt_68 : decode cX13_kindAt 68 = .ok (.if_icmp .ne 8, 3) := by decide +kernel
theorem dX13_kindAt_71 : decode cX13_kindAt 71 = .ok (.bipush 53, 2) := by decide +kernel
theorem dX13_kindAt_73 : decode cX13_kindAt 73 = .ok (.goto 5, 3) := by decide +kernel
theorem dX13_kindAt_76 : decode cX13_kindAt 76 = .ok (.bipush 54, 2) := by decide +kernel
theorem dX13_kindAt_78 : decode cX13_kindAt 78 = .ok (.ireturn, 1) := by decide +kernel
theorem dX13_kindAt_79 : decode cX13_kindAt 79 = .ok (.ldc 71, 2) := by decide +kernel
theorem dX13_kindAt_81 : decode cX13_kindAt 81 = .ok (.iload_n 3, 1) := by decide +kernel
theorem dX13_kindAt_82 : decode cX13_kindAt 82 = .ok (.invokevirtual 73, 3) := by decide +kernel
theorem dX13_kindAt_85 : decode cX13_kindAt 85 = .ok (.istore 4, 2) := by decide +kernel
theorem dX13_kindAt_87 : decode cX13_kindAt 87 = .ok (.iload 4, 2) := by decide +kernel
theorem dX13_kindAt_89 : decode cX13_kindAt 89 = .ok (.ifCond .ge 8, 3) := by decide +kernel
theorem dX13_kindAt_92 : decode cX13_kindAt 92 = .ok (.bipush 71, 2) := by decide +kernel
theorem dX13_kindAt_94 : decode cX13_kindAt 94 = .ok (.goto 8, 3) := by decide +kernel
theorem dX13_kindAt_97 : decode cX13_kindAt 97 = .ok (.bipush 40, 2) := by decide +kernel
theorem dX13_kindAt_99 : decode cX13_kindAt 99 = .ok (.iload 4, 2) := by decide +kernel
theorem dX13_kindAt_101 : decode cX13_kindAt 101 = .ok (.iadd, 1) := by decide +kernel
theorem dX13_kindAt_102 : decode cX13_kindAt 102 = .ok (.ireturn, 1) := by decide +kernel
set_option maxHeartbeats 8000000 in
set_option maxRecDepth 100000 in
/-- Model.kindAt -/
theorem c_X13_kindAt (l9 : Launch) (z : Nat → Nat) (D : va_G) (g : Nat → ClassId) (mo : Nat) (ma : Nat → Nat) (th : Int32) (tl : Nat) (ea : Int32) (tk : Int32) (dp : Int32) (sh : Nat) (wk : Int32) (sn : Nat) (tf : Nat → Int32) (bf : Nat → Nat) (p : Nat) (hF : byO tf bf) (htl : tl ≤ 2000) (hp : p ≤ tl) (sz : Nat) : Met l9 yX13_kindAt (WS yX13_kindAt cX13_kindAt 5 (some .int)) ({ frames := 5, cells := 0, slots := 0, locals := 109 }) (va_Pc [.ref mo, .int (nI p), .int (nI (rln tf tl p))] (kPreS z D g [(mo, .inr (11, [.int th, .ref (ma 1), .int (nI tl), .int ea, .int tk, .int dp, .ref sh, .ref (ma 2), .ref (ma 3), .ref (ma 4), .int wk, .ref sn])), (ma 1, .inl (g 0, 2000, .inl tf))] sz)) (va_Qi (fun (r9 : Int32) (u9 : Unit) => r9 = km (lexS tf tl p 0)) (kB D g (va_A [(mo, .inr (11, [.int th, .ref (ma 1), .int (nI tl), .int ea, .int tk, .int dp, .ref sh, .ref (ma 2), .ref (ma 3), .ref (ma 4), .int wk, .ref sn])), (ma 1, .inl (g 0, 2000, .inl tf))] sz) (fun (u9 : Unit) => [(mo, .inr (11, [.int th, .ref (ma 1), .int (nI tl), .int ea, .int tk, .int dp, .ref sh, .ref (ma 2), .ref (ma 3), .ref (ma 4), .int wk, .ref sn])), (ma 1, .inl (g 0, 2000, .inl tf))])) (va_A [(mo, .inr (11, [.int th, .ref (ma 1), .int (nI tl), .int ea, .int tk, .int dp, .ref sh, .ref (ma 2), .ref (ma 3), .ref (ma 4), .int wk, .ref sn])), (ma 1, .inl (g 0, 2000, .inl tf))] sz)) 0 0 (va_A [(mo, .inr (11, [.int th, .ref (ma 1), .int (nI tl), .int ea, .int tk, .int dp, .ref sh, .ref (ma 2), .ref (ma 3), .ref (ma 4), .int wk, .ref sn])), (ma 1, .inl (g 0, 2000, .inl tf))] sz) := by
  refine Met.ofW (cc := cX13_kindAt) (maxL := 5) (ret := (some .int)) (by decide) rfl ?_
  intro p9 e9 s9 m9 args9 below9 meth9 c9 s₁ B hml hv
  obtain ⟨rfl, hsz, hP, hK, hD0, hZ, hY⟩ := hv
  have hx := B.exec
  have hb := B.bytes
  have hr := B.returns
  have hts := ws_sub (atoms_spec (ws := WS yX13_kindAt cX13_kindAt 5 (some .int)) B.pre)
  have hown : s9.vm.findClass RX13 = some m9.cls := findClass_of_methodNamed B.named
  have hlocks := B.notSynchronized
  subst hsz
  have hD := hD0.self (sz := s9.heap.size)
  generalize hAe : va_A [(mo, .inr (11, [.int th, .ref (ma 1), .int (nI tl), .int ea, .int tk, .int dp, .ref sh, .ref (ma 2), .ref (ma 3), .ref (ma 4), .int wk, .ref sn])), (ma 1, .inl (g 0, 2000, .inl tf))] s9.heap.size = A at hD hZ hY ⊢
  have hA : ∀ q : Nat, s9.heap.size ≤ q → A q := fun q h => by rw [← hAe]; exact Or.inr h
  have hS : va_S A s9.heap s9.heap [] := va_S.rf
  have hP : va_P D CLS [(mo, .inr (11, [.int th, .ref (ma 1), .int (nI tl), .int ea, .int tk, .int dp, .ref sh, .ref (ma 2), .ref (ma 3), .ref (ma 4), .int wk, .ref sn])), (ma 1, .inl (g 0, 2000, .inl tf))] s9.heap := hP
  have hl := lv_entry ([.ref mo, .int (nI p), .int (nI (rln tf tl p))]) (n := 5) (Nat.le_of_ble_eq_true rfl)
  rw [lg_entry_eq]
  generalize (lg_sl ([.ref mo, .int (nI p), .int (nI (rln tf tl p))]) ++ List.replicate (5 - (lg_sl ([.ref mo, .int (nI p), .int (nI (rln tf tl p))])).length) Slot.unset).toArray = ls at hl ⊢
  have hl : lv_has ls 5 [(0, .ref mo), (1, .int (nI p)), (2, .int (nI (rln tf tl p)))] := hl
  change W p9 l9 e9 ({ frames := 5, cells := 0, slots := 0, locals := 109 } : Room) s9 m9 _ below9 meth9 c9 _ _ _ _ _ _
  have hrl : rln tf tl p ≤ 2001 := by
    rcases Nat.lt_or_ge p tl with q | q
    · have := rln_le (F := tf) hp q; omega
    · rw [rln_e q]; omega
  refine lv_aload_n hx hb dX13_kindAt_0 rfl (lv_at hl 0 rfl) ?_
  refine lv_iload_n hx hb dX13_kindAt_1 rfl (lv_at hl 1 rfl) ?_
  refine k_i hA hP hD hS [] (va_runV (As := [.int (nI p)]) (rest := []) ⟨hx, hb, hml, hown, hts⟩ (c_X13_byteAt l9 z D g mo ma th tl ea tk dp sh wk sn tf p (by first | assumption | decide | omega) (by first | assumption | decide | omega) (Array.size s9.heap)) (cwV 1 hts gv_X13_56 rfl rfl rfl (by decide +kernel) ⟨Nat.le_of_ble_eq_true rfl, Nat.le_of_ble_eq_true rfl⟩) ⟨kBlind, va_recv hK hP (ci := 11) (q0 := 0) rfl rfl, kPre.pc hK hZ hA hP hD hS [0, 1] rfl (by decide +kernel)⟩ rfl rfl hl.1 rfl (lv_room (Nat.le_of_ble_eq_true rfl)) dX13_kindAt_2 ⟨Nat.le_of_ble_eq_true rfl, Nat.le_of_ble_eq_true rfl⟩) [0, 1] [] rfl rfl rfl rfl (fun r_2 u_1 H locs hw_2 hP7 hD7 hS7 => ?_)
  clear hP hD hS
  have hP := hP7
  have hD := hD7
  have hS := hS7
  clear hP7 hD7 hS7
  obtain rfl := hw_2
  replace hP : va_P D CLS [(mo, .inr (11, [.int th, .ref (ma 1), .int (nI tl), .int ea, .int tk, .int dp, .ref sh, .ref (ma 2), .ref (ma 3), .ref (ma 4), .int wk, .ref sn])), (ma 1, .inl (g 0, 2000, .inl tf))] H := hP
  replace hD : va_D A [(mo, .inr (11, [.int th, .ref (ma 1), .int (nI tl), .int ea, .int tk, .int dp, .ref sh, .ref (ma 2), .ref (ma 3), .ref (ma 4), .int wk, .ref sn])), (ma 1, .inl (g 0, 2000, .inl tf))] := hD
  refine lv_istore_n (lv' := [(3, .int (fB tf tl p)), (0, .ref mo), (1, .int (nI p)), (2, .int (nI (rln tf tl p)))]) hx hb dX13_kindAt_5 rfl hl (by decide) rfl (fun ls hl => ?_)
  refine lv_iload_n hx hb dX13_kindAt_6 rfl (lv_at hl 0 rfl) ?_
  refine lv_iconst (v := (-1)) hx hb dX13_kindAt_7 (by decide) ?_
  refine lv_icmp_ne (tgt := 14) hx hb dX13_kindAt_8 (by decide) (fun c_8 => ?_) (fun c_8 => ?_)
  · skip
    have hpl := fB_by hF c_8
    have hfb := fB_lt (f := tf) hpl
    refine lv_iload_n hx hb dX13_kindAt_14 rfl (lv_at hl 0 rfl) ?_
    refine k_i hA hP hD hS [(mo, .inr (11, [.int th, .ref (ma 1), .int (nI tl), .int ea, .int tk, .int dp, .ref sh, .ref (ma 2), .ref (ma 3), .ref (ma 4), .int wk, .ref sn])), (ma 1, .inl (g 0, 2000, .inl tf))] (va_runS (As := [.int (fB tf tl p)]) (rest := []) ⟨hx, hb, hml, hown, hts⟩ (c_X13_isDigit l9 z D g (fB tf tl p)  (Array.size H)) (va_cwS 1 hts gs_X13_64 rfl rfl rfl (by decide +kernel) ⟨Nat.le_of_ble_eq_true rfl, Nat.le_of_ble_eq_true rfl⟩) ⟨kBlind, kPre.pc hK hZ hA hP hD hS [] rfl (by decide +kernel)⟩ rfl rfl hl.1 rfl (lv_room (Nat.le_of_ble_eq_true rfl)) dX13_kindAt_15 ⟨Nat.le_of_ble_eq_true rfl, Nat.le_of_ble_eq_true rfl⟩) [] [0, 1] rfl rfl rfl rfl (fun r_15 u_2 H locs hw_15 hP7 hD7 hS7 => ?_)
    clear hP hD hS
    have hP := hP7
    have hD := hD7
    have hS := hS7
    clear hP7 hD7 hS7
    obtain rfl := hw_15
    replace hP : va_P D CLS [(mo, .inr (11, [.int th, .ref (ma 1), .int (nI tl), .int ea, .int tk, .int dp, .ref sh, .ref (ma 2), .ref (ma 3), .ref (ma 4), .int wk, .ref sn])), (ma 1, .inl (g 0, 2000, .inl tf))] H := hP
    replace hD : va_D A [(mo, .inr (11, [.int th, .ref (ma 1), .int (nI tl), .int ea, .int tk, .int dp, .ref sh, .ref (ma 2), .ref (ma 3), .ref (ma 4), .int wk, .ref sn])), (ma 1, .inl (g 0, 2000, .inl tf))] := hD
    refine lv_if_eq (tgt := 35) hx hb dX13_kindAt_18 (by decide) (fun c_18 => ?_) (fun c_18 => ?_)
    · skip
      have c_18 := bI_0.mp c_18
      skip
      refine lv_iload_n hx hb dX13_kindAt_35 rfl (lv_at hl 0 rfl) ?_
      refine k_i hA hP hD hS [(mo, .inr (11, [.int th, .ref (ma 1), .int (nI tl), .int ea, .int tk, .int dp, .ref sh, .ref (ma 2), .ref (ma 3), .ref (ma 4), .int wk, .ref sn])), (ma 1, .inl (g 0, 2000, .inl tf))] (va_runS (As := [.int (fB tf tl p)]) (rest := []) ⟨hx, hb, hml, hown, hts⟩ (c_X13_isLetter l9 z D g (fB tf tl p)  (Array.size H)) (va_cwS 1 hts gs_X13_60 rfl rfl rfl (by decide +kernel) ⟨Nat.le_of_ble_eq_true rfl, Nat.le_of_ble_eq_true rfl⟩) ⟨kBlind, kPre.pc hK hZ hA hP hD hS [] rfl (by decide +kernel)⟩ rfl rfl hl.1 rfl (lv_room (Nat.le_of_ble_eq_true rfl)) dX13_kindAt_36 ⟨Nat.le_of_ble_eq_true rfl, Nat.le_of_ble_eq_true rfl⟩) [] [0, 1] rfl rfl rfl rfl (fun r_36 u_3 H locs hw_36 hP7 hD7 hS7 => ?_)
      clear hP hD hS
      have hP := hP7
      have hD := hD7
      have hS := hS7
      clear hP7 hD7 hS7
      obtain rfl := hw_36
      replace hP : va_P D CLS [(mo, .inr (11, [.int th, .ref (ma 1), .int (nI tl), .int ea, .int tk, .int dp, .ref sh, .ref (ma 2), .ref (ma 3), .ref (ma 4), .int wk, .ref sn])), (ma 1, .inl (g 0, 2000, .inl tf))] H := hP
      replace hD : va_D A [(mo, .inr (11, [.int th, .ref (ma 1), .int (nI tl), .int ea, .int tk, .int dp, .ref sh, .ref (ma 2), .ref (ma 3), .ref (ma 4), .int wk, .ref sn])), (ma 1, .inl (g 0, 2000, .inl tf))] := hD
      refine lv_if_eq (tgt := 60) hx hb dX13_kindAt_39 (by decide) (fun c_39 => ?_) (fun c_39 => ?_)
      · skip
        have c_39 := bI_0.mp c_39
        have hdS : isD (tf p) = false := by rw [← hfb]; exact c_18
        have hlS : isL (tf p) = false := by rw [← hfb]; exact c_39
        refine lv_iload_n hx hb dX13_kindAt_60 rfl (lv_at hl 3 rfl) ?_
        refine lv_iconst (v := 2) hx hb dX13_kindAt_61 (by decide) ?_
        refine lv_icmp_ne (tgt := 79) hx hb dX13_kindAt_62 (by decide) (fun c_62 => ?_) (fun c_62 => ?_)
        · skip
          have c_62 : ¬ (rln tf tl p) = 2 := fun h => c_62 ((nI_eq (a := (rln tf tl p)) (b := 2) (by omega) (by omega)).mpr h)
          refine va_ldcS hx hb hown hY.2.2.2.2.2 dX13_kindAt_79 ?_
          refine lv_iload_n hx hb dX13_kindAt_81 rfl (lv_at hl 0 rfl) ?_
          refine k_i hA hP hD hS [(mo, .inr (11, [.int th, .ref (ma 1), .int (nI tl), .int ea, .int tk, .int dp, .ref sh, .ref (ma 2), .ref (ma 3), .ref (ma 4), .int wk, .ref sn])), (ma 1, .inl (g 0, 2000, .inl tf))] (va_runV (As := [.int (fB tf tl p)]) (rest := []) ⟨hx, hb, hml, hown, hts⟩ (c_J0_indexOf_0f7a4 l9 z D g 29 (fB tf tl p) (by decide) (by rw [hfb, (hF p).1]; exact (sIx_k _ (hF p).2).1) (Array.size H)) (cwV 1 hts gv_X13_73 rfl rfl rfl (by decide +kernel) ⟨Nat.le_of_ble_eq_true rfl, Nat.le_of_ble_eq_true rfl⟩) ⟨kBlindS, vO_recv (hY.1 29 (by first | assumption | omega)).1 hS, kPreS.pc hY hK hZ hA hP hD hS [] rfl (by decide +kernel)⟩ rfl rfl hl.1 rfl (lv_room (Nat.le_of_ble_eq_true rfl)) dX13_kindAt_82 ⟨Nat.le_of_ble_eq_true rfl, Nat.le_of_ble_eq_true rfl⟩) [] [0, 1] rfl rfl rfl rfl (fun r_82 u_4 H locs hw_82 hP7 hD7 hS7 => ?_)
          clear hP hD hS
          have hP := hP7
          have hD := hD7
          have hS := hS7
          clear hP7 hD7 hS7
          obtain rfl := hw_82
          replace hP : va_P D CLS [(mo, .inr (11, [.int th, .ref (ma 1), .int (nI tl), .int ea, .int tk, .int dp, .ref sh, .ref (ma 2), .ref (ma 3), .ref (ma 4), .int wk, .ref sn])), (ma 1, .inl (g 0, 2000, .inl tf))] H := hP
          replace hD : va_D A [(mo, .inr (11, [.int th, .ref (ma 1), .int (nI tl), .int ea, .int tk, .int dp, .ref sh, .ref (ma 2), .ref (ma 3), .ref (ma 4), .int wk, .ref sn])), (ma 1, .inl (g 0, 2000, .inl tf))] := hD
          refine lv_istore (lv' := [(4, .int (sIx 29 (fB tf tl p))), (3, .int (fB tf tl p)), (0, .ref mo), (1, .int (nI p)), (2, .int (nI (rln tf tl p)))]) hx hb dX13_kindAt_85 hl (by decide) rfl (fun ls hl => ?_)
          refine lv_iload hx hb dX13_kindAt_87 (lv_at hl 0 rfl) ?_
          refine lv_if_ge (tgt := 97) hx hb dX13_kindAt_89 (by decide) (fun c_89 => ?_) (fun c_89 => ?_)
          · skip
            refine lv_bipush (v := 40) hx hb dX13_kindAt_97 (by decide) ?_
            refine lv_iload hx hb dX13_kindAt_99 (lv_at hl 0 rfl) ?_
            refine lv_iadd hx hb dX13_kindAt_101 ?_
            have hr9 : (40 + (sIx 29 (fB tf tl p))) = (km (lexS tf tl p 0)) := by rw [← kd_1 hF hpl hlS hdS c_62, ← hfb]; first | rw [if_neg (Int32.not_lt.mpr c_89)] | rw [if_pos (by first | exact c_89 | exact Int32.not_le.mp c_89)]
            have hP9 : va_P D CLS [(mo, .inr (11, [.int th, .ref (ma 1), .int (nI tl), .int ea, .int tk, .int dp, .ref sh, .ref (ma 2), .ref (ma 3), .ref (ma 4), .int wk, .ref sn])), (ma 1, .inl (g 0, 2000, .inl tf))] H := by exact kSub hP [0, 1] rfl
            have hD9 : va_D A [(mo, .inr (11, [.int th, .ref (ma 1), .int (nI tl), .int ea, .int tk, .int dp, .ref sh, .ref (ma 2), .ref (ma 3), .ref (ma 4), .int wk, .ref sn])), (ma 1, .inl (g 0, 2000, .inl tf))] := by exact hD.sub [0, 1] (by decide +kernel) rfl
            exact W.iret (v := (40 + (sIx 29 (fB tf tl p)))) hx hb hr (fun t9 ht9 hW9 => ⟨⟨(40 + (sIx 29 (fB tf tl p))), (), rfl, hr9, by rw [ht9]; exact hP9, va_K.moved hW9.alike hK, hD9⟩, hS.F ht9⟩) hS.2.2 dX13_kindAt_102
          · skip
            refine lv_bipush (v := 71) hx hb dX13_kindAt_92 (by decide) ?_
            refine lv_goto (tgt := 102) hx hb dX13_kindAt_94 (by decide) ?_
            have hr9 : 71 = (km (lexS tf tl p 0)) := by rw [← kd_1 hF hpl hlS hdS c_62, ← hfb]; first | rw [if_neg (Int32.not_lt.mpr c_89)] | rw [if_pos (by first | exact c_89 | exact Int32.not_le.mp c_89)]
            have hP9 : va_P D CLS [(mo, .inr (11, [.int th, .ref (ma 1), .int (nI tl), .int ea, .int tk, .int dp, .ref sh, .ref (ma 2), .ref (ma 3), .ref (ma 4), .int wk, .ref sn])), (ma 1, .inl (g 0, 2000, .inl tf))] H := by exact kSub hP [0, 1] rfl
            have hD9 : va_D A [(mo, .inr (11, [.int th, .ref (ma 1), .int (nI tl), .int ea, .int tk, .int dp, .ref sh, .ref (ma 2), .ref (ma 3), .ref (ma 4), .int wk, .ref sn])), (ma 1, .inl (g 0, 2000, .inl tf))] := by exact hD.sub [0, 1] (by decide +kernel) rfl
            exact W.iret (v := 71) hx hb hr (fun t9 ht9 hW9 => ⟨⟨71, (), rfl, hr9, by rw [ht9]; exact hP9, va_K.moved hW9.alike hK, hD9⟩, hS.F ht9⟩) hS.2.2 dX13_kindAt_102
        · skip
          have c_62 : (rln tf tl p) = 2 := (nI_eq (a := (rln tf tl p)) (b := 2) (by omega) (by omega)).mp c_62
          refine lv_iload_n hx hb dX13_kindAt_65 rfl (lv_at hl 0 rfl) ?_
          refine lv_bipush (v := 60) hx hb dX13_kindAt_66 (by decide) ?_
          refine lv_icmp_ne (tgt := 76) hx hb dX13_kindAt_68 (by decide) (fun c_68 => ?_) (fun c_68 => ?_)
          · skip
            refine lv_bipush (v := 54) hx hb dX13_kindAt_76 (by decide) ?_
            have hr9 : 54 = (km (lexS tf tl p 0)) := by first | exact kd_2a hpl hlS hdS c_62 (by rw [← hfb]; exact c_68) | exact kd_2b hpl hlS hdS c_62 (by rw [← hfb]; exact c_68)
            have hP9 : va_P D CLS [(mo, .inr (11, [.int th, .ref (ma 1), .int (nI tl), .int ea, .int tk, .int dp, .ref sh, .ref (ma 2), .ref (ma 3), .ref (ma 4), .int wk, .ref sn])), (ma 1, .inl (g 0, 2000, .inl tf))] H := by exact kSub hP [0, 1] rfl
            have hD9 : va_D A [(mo, .inr (11, [.int th, .ref (ma 1), .int (nI tl), .int ea, .int tk, .int dp, .ref sh, .ref (ma 2), .ref (ma 3), .ref (ma 4), .int wk, .ref sn])), (ma 1, .inl (g 0, 2000, .inl tf))] := by exact hD.sub [0, 1] (by decide +kernel) rfl
            exact W.iret (v := 54) hx hb hr (fun t9 ht9 hW9 => ⟨⟨54, (), rfl, hr9, by rw [ht9]; exact hP9, va_K.moved hW9.alike hK, hD9⟩, hS.F ht9⟩) hS.2.2 dX13_kindAt_78
          · skip
            refine lv_bipush (v := 53) hx hb dX13_kindAt_71 (by decide) ?_
            refine lv_goto (tgt := 78) hx hb dX13_kindAt_73 (by decide) ?_
            have hr9 : 53 = (km (lexS tf tl p 0)) := by first | exact kd_2a hpl hlS hdS c_62 (by rw [← hfb]; exact c_68) | exact kd_2b hpl hlS hdS c_62 (by rw [← hfb]; exact c_68)
            have hP9 : va_P D CLS [(mo, .inr (11, [.int th, .ref (ma 1), .int (nI tl), .int ea, .int tk, .int dp, .ref sh, .ref (ma 2), .ref (ma 3), .ref (ma 4), .int wk, .ref sn])), (ma 1, .inl (g 0, 2000, .inl tf))] H := by exact kSub hP [0, 1] rfl
            have hD9 : va_D A [(mo, .inr (11, [.int th, .ref (ma 1), .int (nI tl), .int ea, .int tk, .int dp, .ref sh, .ref (ma 2), .ref (ma 3), .ref (ma 4), .int wk, .ref sn])), (ma 1, .inl (g 0, 2000, .inl tf))] := by exact hD.sub [0, 1] (by decide +kernel) rfl
            exact W.iret (v := 53) hx hb hr (fun t9 ht9 hW9 => ⟨⟨53, (), rfl, hr9, by rw [ht9]; exact hP9, va_K.moved hW9.alike hK, hD9⟩, hS.F ht9⟩) hS.2.2 dX13_kindAt_78
      · skip
        have c_39 := bI_1.mp c_39
        refine lv_iload_n hx hb dX13_kindAt_42 rfl (lv_at hl 3 rfl) ?_
        refine lv_bipush (v := 10) hx hb dX13_kindAt_43 (by decide) ?_
        refine lv_icmp_le (tgt := 53) hx hb dX13_kindAt_45 (by decide) (fun c_45 => ?_) (fun c_45 => ?_)
        · skip
          have c_45 : (rln tf tl p) ≤ 10 := (nI_leI (a := (rln tf tl p)) (b := 10) (by omega) (by omega)).mp c_45
          refine lv_aload_n hx hb dX13_kindAt_53 rfl (lv_at hl 1 rfl) ?_
          refine lv_iload_n hx hb dX13_kindAt_54 rfl (lv_at hl 2 rfl) ?_
          refine lv_iload_n hx hb dX13_kindAt_55 rfl (lv_at hl 3 rfl) ?_
          refine k_i hA hP hD hS [] (va_runV (As := [.int (nI p), .int (nI (rln tf tl p))]) (rest := []) ⟨hx, hb, hml, hown, hts⟩ (c_X13_wordAt l9 z D g mo ma th tl ea tk dp sh wk sn tf p (rln tf tl p) htl (rln_le hp hpl) (Array.size H)) (cwV 2 hts gv_X13_67 rfl rfl rfl (by decide +kernel) ⟨Nat.le_of_ble_eq_true rfl, Nat.le_of_ble_eq_true rfl⟩) ⟨kBlindS, va_recv hK hP (ci := 11) (q0 := 0) rfl rfl, kPreS.pc hY hK hZ hA hP hD hS [0, 1] rfl (by decide +kernel)⟩ rfl rfl hl.1 rfl (lv_room (Nat.le_of_ble_eq_true rfl)) dX13_kindAt_56 ⟨Nat.le_of_ble_eq_true rfl, Nat.le_of_ble_eq_true rfl⟩) [0, 1] [] rfl rfl rfl rfl (fun r_56 u_5 H locs hw_56 hP7 hD7 hS7 => ?_)
          clear hP hD hS
          have hP := hP7
          have hD := hD7
          have hS := hS7
          clear hP7 hD7 hS7
          obtain rfl := hw_56
          replace hP : va_P D CLS [(mo, .inr (11, [.int th, .ref (ma 1), .int (nI tl), .int ea, .int tk, .int dp, .ref sh, .ref (ma 2), .ref (ma 3), .ref (ma 4), .int wk, .ref sn])), (ma 1, .inl (g 0, 2000, .inl tf))] H := hP
          replace hD : va_D A [(mo, .inr (11, [.int th, .ref (ma 1), .int (nI tl), .int ea, .int tk, .int dp, .ref sh, .ref (ma 2), .ref (ma 3), .ref (ma 4), .int wk, .ref sn])), (ma 1, .inl (g 0, 2000, .inl tf))] := hD
          have hr9 : (wRes tf p (rln tf tl p)) = (km (lexS tf tl p 0)) := by first | exact kd_L1 hpl (by rw [← hfb]; exact c_39) c_45 | exact kd_L2 hF hpl (by rw [← hfb]; exact c_39) c_45
          have hP9 : va_P D CLS [(mo, .inr (11, [.int th, .ref (ma 1), .int (nI tl), .int ea, .int tk, .int dp, .ref sh, .ref (ma 2), .ref (ma 3), .ref (ma 4), .int wk, .ref sn])), (ma 1, .inl (g 0, 2000, .inl tf))] H := by exact kSub hP [0, 1] rfl
          have hD9 : va_D A [(mo, .inr (11, [.int th, .ref (ma 1), .int (nI tl), .int ea, .int tk, .int dp, .ref sh, .ref (ma 2), .ref (ma 3), .ref (ma 4), .int wk, .ref sn])), (ma 1, .inl (g 0, 2000, .inl tf))] := by exact hD.sub [0, 1] (by decide +kernel) rfl
          exact W.iret (v := wRes tf p (rln tf tl p)) hx hb hr (fun t9 ht9 hW9 => ⟨⟨wRes tf p (rln tf tl p), (), rfl, hr9, by rw [ht9]; exact hP9, va_K.moved hW9.alike hK, hD9⟩, hS.F ht9⟩) hS.2.2 dX13_kindAt_59
        · skip
          have c_45 : ¬ (rln tf tl p) ≤ 10 := fun h => c_45 ((nI_leI (a := (rln tf tl p)) (b := 10) (by omega) (by omega)).mpr h)
          refine lv_bipush (v := 71) hx hb dX13_kindAt_48 (by decide) ?_
          refine lv_goto (tgt := 59) hx hb dX13_kindAt_50 (by decide) ?_
          have hr9 : 71 = (km (lexS tf tl p 0)) := by first | exact kd_L1 hpl (by rw [← hfb]; exact c_39) c_45 | exact kd_L2 hF hpl (by rw [← hfb]; exact c_39) c_45
          have hP9 : va_P D CLS [(mo, .inr (11, [.int th, .ref (ma 1), .int (nI tl), .int ea, .int tk, .int dp, .ref sh, .ref (ma 2), .ref (ma 3), .ref (ma 4), .int wk, .ref sn])), (ma 1, .inl (g 0, 2000, .inl tf))] H := by exact kSub hP [0, 1] rfl
          have hD9 : va_D A [(mo, .inr (11, [.int th, .ref (ma 1), .int (nI tl), .int ea, .int tk, .int dp, .ref sh, .ref (ma 2), .ref (ma 3), .ref (ma 4), .int wk, .ref sn])), (ma 1, .inl (g 0, 2000, .inl tf))] := by exact hD.sub [0, 1] (by decide +kernel) rfl
          exact W.iret (v := 71) hx hb hr (fun t9 ht9 hW9 => ⟨⟨71, (), rfl, hr9, by rw [ht9]; exact hP9, va_K.moved hW9.alike hK, hD9⟩, hS.F ht9⟩) hS.2.2 dX13_kindAt_59
    · skip
      have c_18 := bI_1.mp c_18
      have hdD : isD (tf p) = true := by rw [← hfb]; exact c_18
      have hlD : isL (tf p) = false := isD_nL hdD
      refine lv_iload_n hx hb dX13_kindAt_21 rfl (lv_at hl 3 rfl) ?_
      refine lv_bipush (v := 6) hx hb dX13_kindAt_22 (by decide) ?_
      refine lv_icmp_le (tgt := 32) hx hb dX13_kindAt_24 (by decide) (fun c_24 => ?_) (fun c_24 => ?_)
      · skip
        have c_24 : (rln tf tl p) ≤ 6 := (nI_leI (a := (rln tf tl p)) (b := 6) (by omega) (by omega)).mp c_24
        refine lv_bipush (v := 31) hx hb dX13_kindAt_32 (by decide) ?_
        have hr9 : 31 = (km (lexS tf tl p 0)) := by first | exact kd_D1 hpl hlD hdD c_24 | exact kd_D2 hpl hlD hdD c_24
        have hP9 : va_P D CLS [(mo, .inr (11, [.int th, .ref (ma 1), .int (nI tl), .int ea, .int tk, .int dp, .ref sh, .ref (ma 2), .ref (ma 3), .ref (ma 4), .int wk, .ref sn])), (ma 1, .inl (g 0, 2000, .inl tf))] H := by exact kSub hP [0, 1] rfl
        have hD9 : va_D A [(mo, .inr (11, [.int th, .ref (ma 1), .int (nI tl), .int ea, .int tk, .int dp, .ref sh, .ref (ma 2), .ref (ma 3), .ref (ma 4), .int wk, .ref sn])), (ma 1, .inl (g 0, 2000, .inl tf))] := by exact hD.sub [0, 1] (by decide +kernel) rfl
        exact W.iret (v := 31) hx hb hr (fun t9 ht9 hW9 => ⟨⟨31, (), rfl, hr9, by rw [ht9]; exact hP9, va_K.moved hW9.alike hK, hD9⟩, hS.F ht9⟩) hS.2.2 dX13_kindAt_34
      · skip
        have c_24 : ¬ (rln tf tl p) ≤ 6 := fun h => c_24 ((nI_leI (a := (rln tf tl p)) (b := 6) (by omega) (by omega)).mpr h)
        refine lv_bipush (v := 71) hx hb dX13_kindAt_27 (by decide) ?_
        refine lv_goto (tgt := 34) hx hb dX13_kindAt_29 (by decide) ?_
        have hr9 : 71 = (km (lexS tf tl p 0)) := by first | exact kd_D1 hpl hlD hdD c_24 | exact kd_D2 hpl hlD hdD c_24
        have hP9 : va_P D CLS [(mo, .inr (11, [.int th, .ref (ma 1), .int (nI tl), .int ea, .int tk, .int dp, .ref sh, .ref (ma 2), .ref (ma 3), .ref (ma 4), .int wk, .ref sn])), (ma 1, .inl (g 0, 2000, .inl tf))] H := by exact kSub hP [0, 1] rfl
        have hD9 : va_D A [(mo, .inr (11, [.int th, .ref (ma 1), .int (nI tl), .int ea, .int tk, .int dp, .ref sh, .ref (ma 2), .ref (ma 3), .ref (ma 4), .int wk, .ref sn])), (ma 1, .inl (g 0, 2000, .inl tf))] := by exact hD.sub [0, 1] (by decide +kernel) rfl
        exact W.iret (v := 71) hx hb hr (fun t9 ht9 hW9 => ⟨⟨71, (), rfl, hr9, by rw [ht9]; exact hP9, va_K.moved hW9.alike hK, hD9⟩, hS.F ht9⟩) hS.2.2 dX13_kindAt_34
  · skip
    skip
    refine lv_bipush (v := 70) hx hb dX13_kindAt_11 (by decide) ?_
    have hr9 : 70 = (km (lexS tf tl p 0)) := by rw [lxS_0 (fB_m1 hF c_8)]; rfl
    have hP9 : va_P D CLS [(mo, .inr (11, [.int th, .ref (ma 1), .int (nI tl), .int ea, .int tk, .int dp, .ref sh, .ref (ma 2), .ref (ma 3), .ref (ma 4), .int wk, .ref sn])), (ma 1, .inl (g 0, 2000, .inl tf))] H := by exact kSub hP [0, 1] rfl
    have hD9 : va_D A [(mo, .inr (11, [.int th, .ref (ma 1), .int (nI tl), .int ea, .int tk, .int dp, .ref sh, .ref (ma 2), .ref (ma 3), .ref (ma 4), .int wk, .ref sn])), (ma 1, .inl (g 0, 2000, .inl tf))] := by exact hD.sub [0, 1] (by decide +kernel) rfl
    exact W.iret (v := 70) hx hb hr (fun t9 ht9 hW9 => ⟨⟨70, (), rfl, hr9, by rw [ht9]; exact hP9, va_K.moved hW9.alike hK, hD9⟩, hS.F ht9⟩) hS.2.2 dX13_kindAt_13
theorem dX13_cut_0 : decode cX13_cut 0 = .ok (.iconst 0, 1) := by decide +kernel
theorem dX13_cut_1 : decode cX13_cut 1 = .ok (.istore_n 2, 1) := by decide +kernel
theorem dX13_cut_2 : decode cX13_cut 2 = .ok (.iconst 0, 1) := by decide +kernel
theorem dX13_cut_3 : decode cX13_cut 3 = .ok (.istore_n 3, 1) := by decide +kernel
theorem dX13_cut_4 : decode cX13_cut 4 = .ok (.iload_n 3, 1) := by decide +kernel
theorem dX13_cut_5 : decode cX13_cut 5 = .ok (.sipush 400, 3) := by decide +kernel
theorem dX13_cut_8 : decode cX13_cut 8 = .ok (.if_icmp .gt 117, 3) := by decide +kernel
theorem dX13_cut_11 : decode cX13_cut 11 = .ok (.aload_n 0, 1) := by decide +kernel
theorem dX13_cut_12 : decode cX13_cut 12 = .ok (.iload_n 2, 1) := by decide +kernel
theorem dX13_cut_13 : decode cX13_cut 13 = .ok (.invokevirtual 56, 3) := by decide +kernel
theorem dX13_cut_16 : decode cX13_cut 16 = .ok (.bipush 32, 2) := by decide +kernel
theorem dX13_cut_18 : decode cX13_cut 18 = .ok (.if_icmp .eq 13, 3) := by decide +kernel
theorem dX13_cut_21 : decode cX13_cut 21 = .ok (.aload_n 0, 1) := by decide +kernel
theorem dX13_cut_22 : decode cX13_cut 22 = .ok (.iload_n 2, 1) := by decide +kernel
theorem dX13_cut_23 : decode cX13_cut 23 = .ok (.invokevirtual 56, 3) := by decide +kernel
theorem dX13_cut_26 : decode cX13_cut 26 = .ok (.bipush 10, 2) := by decide +kernel
theorem dX13_cut_28 : decode cX13_cut 28 = .ok (.if_icmp .ne 9, 3) := by decide +kernel
theorem dX13_cut_31 : decode cX13_cut 31 = .ok (.iinc 2 1, 3) := by decide +kernel
theorem dX13_cut_34 : decode cX13_cut 34 = .ok (.goto (-23), 3) := by decide +kernel
theorem dX13_cut_37 : decode cX13_cut 37 = .ok (.aload_n 1, 1) := by decide +kernel
theorem dX13_cut_38 : decode cX13_cut 38 = .ok (.getfield 90, 3) := by decide +kernel
theorem dX13_cut_41 : decode cX13_cut 41 = .ok (.iload_n 3, 1) := by decide +kernel
theorem dX13_cut_42 : decode cX13_cut 42 = .ok (.iload_n 2, 1) := by decide +kernel
theorem dX13_cut_43 : decode cX13_cut 43 = .ok (.iastore, 1) := by decide +kernel
theorem dX13_cut_44 : decode cX13_cut 44 = .ok (.aload_n 1, 1) := by decide +kernel
theorem dX13_cut_45 : decode cX13_cut 45 = .ok (.getfield 93, 3) := by decide +kernel
theorem dX13_cut_48 : decode cX13_cut 48 = .ok (.iload_n 3, 1) := by decide +kernel
theorem dX13_cut_49 : decode cX13_cut 49 = .ok (.aload_n 0, 1) := by decide +kernel
theorem dX13_cut_50 : decode cX13_cut 50 = .ok (.iload_n 2, 1) := by decide +kernel
theorem dX13_cut_51 : decode cX13_cut 51 = .ok (.invokevirtual 96, 3) := by decide +kernel
theorem dX13_cut_54 : decode cX13_cut 54 = .ok (.iastore, 1) := by decide +kernel
theorem dX13_cut_55 : decode cX13_cut 55 = .ok (.aload_n 1, 1) := by decide +kernel
theorem dX13_cut_56 : decode cX13_cut 56 = .ok (.getfield 99, 3) := by decide +kernel
theorem dX13_cut_59 : decode cX13_cut 59 = .ok (.iload_n 3, 1) := by decide +kernel
theorem dX13_cut_60 : decode cX13_cut 60 = .ok (.aload_n 0, 1) := by decide +kernel
theorem dX13_cut_61 : decode cX13_cut 61 = .ok (.iload_n 2, 1) := by decide +kernel
theorem dX13_cut_62 : decode cX13_cut 62 = .ok (.aload_n 1, 1) := by decide +kernel
theorem dX13_cut_63 : decode cX13_cut 63 = .ok (.getfield 93, 3) := by decide +kernel
theorem dX13_cut_66 : decode cX13_cut 66 = .ok (.iload_n 3, 1) := by decide +kernel
theorem dX13_cut_67 : decode cX13_cut 67 = .ok (.iaload, 1) := by decide +kernel
theorem dX13_cut_68 : decode cX13_cut 68 = .ok (.invokevirtual 102, 3) := by decide +kernel
theorem dX13_cut_71 : decode cX13_cut 71 = .ok (.iastore, 1) := by decide +kernel
theorem dX13_cut_72 : decode cX13_cut 72 = .ok (.iload_n 3, 1) := by decide +kernel
theorem dX13_cut_73 : decode cX13_cut 73 = .ok (.sipush 400, 3) := by decide +kernel
theorem dX13_cut_76 : decode cX13_cut 76 = .ok (.if_icmp .ne 22, 3) := by decide +kernel
theorem dX13_cut_79 : decode cX13_cut 79 = .ok (.aload_n 1, 1) := by decide +kernel
theorem dX13_cut_80 : decode cX13_cut 80 = .ok (.getfield 99, 3) := by decide +kernel
theorem dX13_cut_83 : decode cX13_cut 83 = .ok (.iload_n 3, 1) := by decide +kernel
theorem dX13_cut_84 : decode cX13_cut 84 = .ok (.iaload, 1) := by decide +kernel
theorem dX13_cut_85 : decode cX13_cut 85 = .ok (.bipush 70, 2) := by decide +kernel
theorem dX13_cut_87 : decode cX13_cut 87 = .ok (.if_icmp .eq 11, 3) := by decide +kernel
theorem dX13_cut_90 : decode cX13_cut 90 = .ok (.aload_n 1, 1) := by decide +kernel
theorem dX13_cut_91 : decode cX13_cut 91 = .ok (.getfield 99, 3) := by decide +kernel
theorem dX13_cut_94 : decode cX13_cut 94 = .ok (.iload_n 3, 1) := by decide +kernel
theorem dX13_cut_95 : decode cX13_cut 95 = .ok (.bipush 71, 2) := by decide +kernel
theorem dX13_cut_97 : decode cX13_cut 97 = .ok (.iastore, 1) := by decide +kernel
theorem dX13_cut_98 : decode cX13_cut 98 = .ok (.aload_n 1, 1) := by decide +kernel
theorem dX13_cut_99 : decode cX13_cut 99 = .ok (.getfield 99, 3) := by decide +kernel
theorem dX13_cut_102 : decode cX13_cut 102 = .ok (.iload_n 3, 1) := by decide +kernel
theorem dX13_cut_103 : decode cX13_cut 103 = .ok (.iaload, 1) := by decide +kernel
theorem dX13_cut_104 : decode cX13_cut 104 = .ok (.bipush 70, 2) := by decide +kernel
theorem dX13_cut_106 : decode cX13_cut 106 = .ok (.if_icmp .lt 4, 3) := by decide +kernel
theorem dX13_cut_109 : decode cX13_cut 109 = .ok (.return_, 1) := by decide +kernel
theorem dX13_cut_110 : decode cX13_cut 110 = .ok (.iload_n 2, 1) := by decide +kernel
theorem dX13_cut_111 : decode cX13_cut 111 = .ok (.aload_n 1, 1) := by decide +kernel
theorem dX13_cut_112 : decode cX13_cut 112 = .ok (.getfield 93, 3) := by decide +kernel
theorem dX13_cut_115 : decode cX13_cut 115 = .ok (.iload_n 3, 1) := by decide +kernel
theorem dX13_cut_116 : decode cX13_cut 116 = .ok (.iaload, 1) := by decide +kernel
theorem dX13_cut_117 : decode cX13_cut 117 = .ok (.iadd, 1) := by decide +kernel
theorem dX13_cut_118 : decode cX13_cut 118 = .ok (.istore_n 2, 1) := by decide +kernel
theorem dX13_cut_119 : decode cX13_cut 119 = .ok (.iinc 3 1, 3) := by decide +kernel
theorem dX13_cut_122 : decode cX13_cut 122 = .ok (.goto (-118), 3) := by decide +kernel
set_option maxHeartbeats 20000000 in
set_option maxRecDepth 100000 in
/-- Model.cut -/
theorem c_X13_cut (l9 : Launch) (z : Nat → Nat) (D : va_G) (g : Nat → ClassId) (mo : Nat) (ma : Nat → Nat) (th : Int32) (tl : Nat) (ea : Int32) (tk : Int32) (dp : Int32) (sh : Nat) (wk : Int32) (sn : Nat) (sf : Nat) (tf : Nat → Int32) (bf : Nat → Nat) (ha : Nat → Nat) (q : RS) (k0 : Nat → Int32) (f0 : Nat → Int32) (m0 : Nat → Int32) (hF : byO tf bf) (htl : tl ≤ 2000) (sz : Nat) : Met l9 yX13_cut (WS yX13_cut cX13_cut 4 none) ({ frames := 6, cells := 0, slots := 0, locals := 133 }) (va_Pc [.ref mo, .ref sh] (kPreS z D g [(mo, .inr (11, [.int th, .ref (ma 1), .int (nI tl), .int ea, .int tk, .int dp, .ref sf, .ref (ma 2), .ref (ma 3), .ref (ma 4), .int wk, .ref sn])), (ma 1, .inl (g 0, 2000, .inl tf)), (sh, .inr (9, [.ref (ha 0), .ref (ha 1), .ref (ha 2), .ref (ha 3), .int (nI (q.1 0)), .ref (ha 4), .ref (ha 5), .ref (ha 6), .int (nI (q.1 1)), .ref (ha 7), .ref (ha 8), .ref (ha 9), .ref (ha 10), .int (nI (q.1 2)), .ref (ha 11), .ref (ha 12), .int (nI (q.1 3)), .ref (ha 13), .ref (ha 14), .ref (ha 15), .int (nI (q.1 4)), .ref (ha 16), .ref (ha 17), .ref (ha 18), .ref (ha 19), .ref (ha 20), .int q.2.2.2])), (ha 0, .inl (g 0, 401, .inl k0)), (ha 1, .inl (g 0, 401, .inl f0)), (ha 2, .inl (g 0, 401, .inl m0))] sz)) (va_Qv (fun (u9 : Nat) => (u9 ≤ 400 ∧ (∀ j, j < u9 → tkS tf tl j ≠ 0 ∧ tkS tf tl j ≠ 1) ∧ (tkS tf tl u9 = 0 ∨ tkS tf tl u9 = 1))) (kB D g (va_A [(mo, .inr (11, [.int th, .ref (ma 1), .int (nI tl), .int ea, .int tk, .int dp, .ref sf, .ref (ma 2), .ref (ma 3), .ref (ma 4), .int wk, .ref sn])), (ma 1, .inl (g 0, 2000, .inl tf)), (sh, .inr (9, [.ref (ha 0), .ref (ha 1), .ref (ha 2), .ref (ha 3), .int (nI (q.1 0)), .ref (ha 4), .ref (ha 5), .ref (ha 6), .int (nI (q.1 1)), .ref (ha 7), .ref (ha 8), .ref (ha 9), .ref (ha 10), .int (nI (q.1 2)), .ref (ha 11), .ref (ha 12), .int (nI (q.1 3)), .ref (ha 13), .ref (ha 14), .ref (ha 15), .int (nI (q.1 4)), .ref (ha 16), .ref (ha 17), .ref (ha 18), .ref (ha 19), .ref (ha 20), .int q.2.2.2])), (ha 0, .inl (g 0, 401, .inl k0)), (ha 1, .inl (g 0, 401, .inl f0)), (ha 2, .inl (g 0, 401, .inl m0))] sz) (fun (u9 : Nat) => [(mo, .inr (11, [.int th, .ref (ma 1), .int (nI tl), .int ea, .int tk, .int dp, .ref sf, .ref (ma 2), .ref (ma 3), .ref (ma 4), .int wk, .ref sn])), (ma 1, .inl (g 0, 2000, .inl tf)), (sh, .inr (9, [.ref (ha 0), .ref (ha 1), .ref (ha 2), .ref (ha 3), .int (nI (q.1 0)), .ref (ha 4), .ref (ha 5), .ref (ha 6), .int (nI (q.1 1)), .ref (ha 7), .ref (ha 8), .ref (ha 9), .ref (ha 10), .int (nI (q.1 2)), .ref (ha 11), .ref (ha 12), .int (nI (q.1 3)), .ref (ha 13), .ref (ha 14), .ref (ha 15), .int (nI (q.1 4)), .ref (ha 16), .ref (ha 17), .ref (ha 18), .ref (ha 19), .ref (ha 20), .int q.2.2.2])), (ha 0, .inl (g 0, 401, .inl (cutN (u9 + 1) (fun j => km (tkS tf tl j)) k0))), (ha 1, .inl (g 0, 401, .inl (cutN (u9 + 1) (fun j => nI (tkP tf tl j)) f0))), (ha 2, .inl (g 0, 401, .inl (cutN (u9 + 1) (fun j => nI (tkM tf tl j)) m0)))])) (va_A [(mo, .inr (11, [.int th, .ref (ma 1), .int (nI tl), .int ea, .int tk, .int dp, .ref sf, .ref (ma 2), .ref (ma 3), .ref (ma 4), .int wk, .ref sn])), (ma 1, .inl (g 0, 2000, .inl tf)), (sh, .inr (9, [.ref (ha 0), .ref (ha 1), .ref (ha 2), .ref (ha 3), .int (nI (q.1 0)), .ref (ha 4), .ref (ha 5), .ref (ha 6), .int (nI (q.1 1)), .ref (ha 7), .ref (ha 8), .ref (ha 9), .ref (ha 10), .int (nI (q.1 2)), .ref (ha 11), .ref (ha 12), .int (nI (q.1 3)), .ref (ha 13), .ref (ha 14), .ref (ha 15), .int (nI (q.1 4)), .ref (ha 16), .ref (ha 17), .ref (ha 18), .ref (ha 19), .ref (ha 20), .int q.2.2.2])), (ha 0, .inl (g 0, 401, .inl k0)), (ha 1, .inl (g 0, 401, .inl f0)), (ha 2, .inl (g 0, 401, .inl m0))] sz)) 0 0 (va_A [(mo, .inr (11, [.int th, .ref (ma 1), .int (nI tl), .int ea, .int tk, .int dp, .ref sf, .ref (ma 2), .ref (ma 3), .ref (ma 4), .int wk, .ref sn])), (ma 1, .inl (g 0, 2000, .inl tf)), (sh, .inr (9, [.ref (ha 0), .ref (ha 1), .ref (ha 2), .ref (ha 3), .int (nI (q.1 0)), .ref (ha 4), .ref (ha 5), .ref (ha 6), .int (nI (q.1 1)), .ref (ha 7), .ref (ha 8), .ref (ha 9), .ref (ha 10), .int (nI (q.1 2)), .ref (ha 11), .ref (ha 12), .int (nI (q.1 3)), .ref (ha 13), .ref (ha 14), .ref (ha 15), .int (nI (q.1 4)), .ref (ha 16), .ref (ha 17), .ref (ha 18), .ref (ha 19), .ref (ha 20), .int q.2.2.2])), (ha 0, .inl (g 0, 401, .inl k0)), (ha 1, .inl (g 0, 401, .inl f0)), (ha 2, .inl (g 0, 401, .inl m0))] sz) := by
  refine Met.ofW (cc := cX13_cut) (maxL := 4) (ret := none) (by decide) rfl ?_
  intro p9 e9 s9 m9 args9 below9 meth9 c9 s₁ B hml hv
  obtain ⟨rfl, hsz, hP, hK, hD0, hZ, hY⟩ := hv
  have hx := B.exec
  have hb := B.bytes
  have hr := B.returns
  have hts := ws_sub (atoms_spec (ws := WS yX13_cut cX13_cut 4 none) B.pre)
  have hown : s9.vm.findClass RX13 = some m9.cls := findClass_of_methodNamed B.named
  have hlocks := B.notSynchronized
  subst hsz
  have hD := hD0.self (sz := s9.heap.size)
  generalize hAe : va_A [(mo, .inr (11, [.int th, .ref (ma 1), .int (nI tl), .int ea, .int tk, .int dp, .ref sf, .ref (ma 2), .ref (ma 3), .ref (ma 4), .int wk, .ref sn])), (ma 1, .inl (g 0, 2000, .inl tf)), (sh, .inr (9, [.ref (ha 0), .ref (ha 1), .ref (ha 2), .ref (ha 3), .int (nI (q.1 0)), .ref (ha 4), .ref (ha 5), .ref (ha 6), .int (nI (q.1 1)), .ref (ha 7), .ref (ha 8), .ref (ha 9), .ref (ha 10), .int (nI (q.1 2)), .ref (ha 11), .ref (ha 12), .int (nI (q.1 3)), .ref (ha 13), .ref (ha 14), .ref (ha 15), .int (nI (q.1 4)), .ref (ha 16), .ref (ha 17), .ref (ha 18), .ref (ha 19), .ref (ha 20), .int q.2.2.2])), (ha 0, .inl (g 0, 401, .inl k0)), (ha 1, .inl (g 0, 401, .inl f0)), (ha 2, .inl (g 0, 401, .inl m0))] s9.heap.size = A at hD hZ hY ⊢
  have hA : ∀ q : Nat, s9.heap.size ≤ q → A q := fun q h => by rw [← hAe]; exact Or.inr h
  have hS : va_S A s9.heap s9.heap [] := va_S.rf
  have hP : va_P D CLS [(mo, .inr (11, [.int th, .ref (ma 1), .int (nI tl), .int ea, .int tk, .int dp, .ref sf, .ref (ma 2), .ref (ma 3), .ref (ma 4), .int wk, .ref sn])), (ma 1, .inl (g 0, 2000, .inl tf)), (sh, .inr (9, [.ref (ha 0), .ref (ha 1), .ref (ha 2), .ref (ha 3), .int (nI (q.1 0)), .ref (ha 4), .ref (ha 5), .ref (ha 6), .int (nI (q.1 1)), .ref (ha 7), .ref (ha 8), .ref (ha 9), .ref (ha 10), .int (nI (q.1 2)), .ref (ha 11), .ref (ha 12), .int (nI (q.1 3)), .ref (ha 13), .ref (ha 14), .ref (ha 15), .int (nI (q.1 4)), .ref (ha 16), .ref (ha 17), .ref (ha 18), .ref (ha 19), .ref (ha 20), .int q.2.2.2])), (ha 0, .inl (g 0, 401, .inl k0)), (ha 1, .inl (g 0, 401, .inl f0)), (ha 2, .inl (g 0, 401, .inl m0))] s9.heap := hP
  have hl := lv_entry ([.ref mo, .ref sh]) (n := 4) (Nat.le_of_ble_eq_true rfl)
  rw [lg_entry_eq]
  generalize (lg_sl ([.ref mo, .ref sh]) ++ List.replicate (4 - (lg_sl ([.ref mo, .ref sh])).length) Slot.unset).toArray = ls at hl ⊢
  have hl : lv_has ls 4 [(0, .ref mo), (1, .ref sh)] := hl
  change W p9 l9 e9 ({ frames := 6, cells := 0, slots := 0, locals := 133 } : Room) s9 m9 _ below9 meth9 c9 _ _ _ _ _ _
  have hlt49 := tkS_lt tf tl
  have hsq := tkS_lt tf tl
  refine lv_iconst (v := 0) hx hb dX13_cut_0 (by decide) ?_
  refine lv_istore_n (lv' := [(2, .int 0), (0, .ref mo), (1, .ref sh)]) hx hb dX13_cut_1 rfl hl (by decide) rfl (fun ls hl => ?_)
  refine lv_iconst (v := 0) hx hb dX13_cut_2 (by decide) ?_
  refine lv_istore_n (lv' := [(3, .int 0), (2, .int 0), (0, .ref mo), (1, .ref sh)]) hx hb dX13_cut_3 rfl hl (by decide) rfl (fun ls hl => ?_)
  have loop_4 : ∀ (n9 : Nat) (k : Nat), n9 > 401 - k → (k ≤ 401) → (∀ j, j < k → tkS tf tl j ≠ 0 ∧ tkS tf tl j ≠ 1) → ∀ (H : Heap) (locs : List Loc), va_P D CLS [(mo, .inr (11, [.int th, .ref (ma 1), .int (nI tl), .int ea, .int tk, .int dp, .ref sf, .ref (ma 2), .ref (ma 3), .ref (ma 4), .int wk, .ref sn])), (ma 1, .inl (g 0, 2000, .inl tf)), (sh, .inr (9, [.ref (ha 0), .ref (ha 1), .ref (ha 2), .ref (ha 3), .int (nI (q.1 0)), .ref (ha 4), .ref (ha 5), .ref (ha 6), .int (nI (q.1 1)), .ref (ha 7), .ref (ha 8), .ref (ha 9), .ref (ha 10), .int (nI (q.1 2)), .ref (ha 11), .ref (ha 12), .int (nI (q.1 3)), .ref (ha 13), .ref (ha 14), .ref (ha 15), .int (nI (q.1 4)), .ref (ha 16), .ref (ha 17), .ref (ha 18), .ref (ha 19), .ref (ha 20), .int q.2.2.2])), (ha 0, .inl (g 0, 401, .inl (cutN k (fun j => km (tkS tf tl j)) k0))), (ha 1, .inl (g 0, 401, .inl (cutN k (fun j => nI (tkP tf tl j)) f0))), (ha 2, .inl (g 0, 401, .inl (cutN k (fun j => nI (tkM tf tl j)) m0)))] H → va_D A [(mo, .inr (11, [.int th, .ref (ma 1), .int (nI tl), .int ea, .int tk, .int dp, .ref sf, .ref (ma 2), .ref (ma 3), .ref (ma 4), .int wk, .ref sn])), (ma 1, .inl (g 0, 2000, .inl tf)), (sh, .inr (9, [.ref (ha 0), .ref (ha 1), .ref (ha 2), .ref (ha 3), .int (nI (q.1 0)), .ref (ha 4), .ref (ha 5), .ref (ha 6), .int (nI (q.1 1)), .ref (ha 7), .ref (ha 8), .ref (ha 9), .ref (ha 10), .int (nI (q.1 2)), .ref (ha 11), .ref (ha 12), .int (nI (q.1 3)), .ref (ha 13), .ref (ha 14), .ref (ha 15), .int (nI (q.1 4)), .ref (ha 16), .ref (ha 17), .ref (ha 18), .ref (ha 19), .ref (ha 20), .int q.2.2.2])), (ha 0, .inl (g 0, 401, .inl (cutN k (fun j => km (tkS tf tl j)) k0))), (ha 1, .inl (g 0, 401, .inl (cutN k (fun j => nI (tkP tf tl j)) f0))), (ha 2, .inl (g 0, 401, .inl (cutN k (fun j => nI (tkM tf tl j)) m0)))] → va_S A s9.heap H locs → ∀ (ls : Array Slot), lv_has ls 4 [(0, .ref mo), (1, .ref sh), (2, .int (nI (posn tf tl k))), (3, .int (nI k))] → W p9 l9 e9 ({ frames := 6, cells := 0, slots := 0, locals := 133 } : Room) s9 m9 ([.ref mo, .ref sh] : List Value).toArray below9 meth9 c9 H locs 0 0 (MQ below9 (va_Qv (fun (u9 : Nat) => (u9 ≤ 400 ∧ (∀ j, j < u9 → tkS tf tl j ≠ 0 ∧ tkS tf tl j ≠ 1) ∧ (tkS tf tl u9 = 0 ∨ tkS tf tl u9 = 1))) (kB D g A (fun (u9 : Nat) => [(mo, .inr (11, [.int th, .ref (ma 1), .int (nI tl), .int ea, .int tk, .int dp, .ref sf, .ref (ma 2), .ref (ma 3), .ref (ma 4), .int wk, .ref sn])), (ma 1, .inl (g 0, 2000, .inl tf)), (sh, .inr (9, [.ref (ha 0), .ref (ha 1), .ref (ha 2), .ref (ha 3), .int (nI (q.1 0)), .ref (ha 4), .ref (ha 5), .ref (ha 6), .int (nI (q.1 1)), .ref (ha 7), .ref (ha 8), .ref (ha 9), .ref (ha 10), .int (nI (q.1 2)), .ref (ha 11), .ref (ha 12), .int (nI (q.1 3)), .ref (ha 13), .ref (ha 14), .ref (ha 15), .int (nI (q.1 4)), .ref (ha 16), .ref (ha 17), .ref (ha 18), .ref (ha 19), .ref (ha 20), .int q.2.2.2])), (ha 0, .inl (g 0, 401, .inl (cutN (u9 + 1) (fun j => km (tkS tf tl j)) k0))), (ha 1, .inl (g 0, 401, .inl (cutN (u9 + 1) (fun j => nI (tkP tf tl j)) f0))), (ha 2, .inl (g 0, 401, .inl (cutN (u9 + 1) (fun j => nI (tkM tf tl j)) m0)))])) A) ([.ref mo, .ref sh] : List Value).toArray s9 0 0 A) (F0 m9 4 ls []) := by
    intro n9
    induction n9 with
    | zero => intro k hm9; exact absurd hm9 (by omega)
    | succ n9 ih_4 =>
      intro k hm9 hk hf H locs hP hD hS ls hl
      have hpn := posn_le (f := tf) (n := tl) k
      have htn := skp_le (f := tf) hpn
      refine lv_iload_n hx hb dX13_cut_4 rfl (lv_at hl 3 rfl) ?_
      refine lv_sipush (v := 400) hx hb dX13_cut_5 (by decide) ?_
      refine lv_icmp_gt (tgt := 125) hx hb dX13_cut_8 (by decide) (fun c_8 => ?_) (fun c_8 => ?_)
      · skip
        have c_8 : 400 < k := (nI_ltI (a := 400) (b := k) (by omega) (by omega)).mp c_8
        exact absurd tkS_400 (fun h => by have h2 := hf 400 (by omega); rcases h with h | h; exact h2.1 h; exact h2.2 h)
      · skip
        have c_8 : ¬ 400 < k := fun h => c_8 ((nI_ltI (a := 400) (b := k) (by omega) (by omega)).mpr h)
        have loop_11 : ∀ (n9 : Nat) (p : Nat), n9 > tl - p → (p ≤ tl) → (skp tf tl p = tkP tf tl k) → ∀ (H : Heap) (locs : List Loc), va_P D CLS [(mo, .inr (11, [.int th, .ref (ma 1), .int (nI tl), .int ea, .int tk, .int dp, .ref sf, .ref (ma 2), .ref (ma 3), .ref (ma 4), .int wk, .ref sn])), (ma 1, .inl (g 0, 2000, .inl tf)), (sh, .inr (9, [.ref (ha 0), .ref (ha 1), .ref (ha 2), .ref (ha 3), .int (nI (q.1 0)), .ref (ha 4), .ref (ha 5), .ref (ha 6), .int (nI (q.1 1)), .ref (ha 7), .ref (ha 8), .ref (ha 9), .ref (ha 10), .int (nI (q.1 2)), .ref (ha 11), .ref (ha 12), .int (nI (q.1 3)), .ref (ha 13), .ref (ha 14), .ref (ha 15), .int (nI (q.1 4)), .ref (ha 16), .ref (ha 17), .ref (ha 18), .ref (ha 19), .ref (ha 20), .int q.2.2.2])), (ha 0, .inl (g 0, 401, .inl (cutN k (fun j => km (tkS tf tl j)) k0))), (ha 1, .inl (g 0, 401, .inl (cutN k (fun j => nI (tkP tf tl j)) f0))), (ha 2, .inl (g 0, 401, .inl (cutN k (fun j => nI (tkM tf tl j)) m0)))] H → va_D A [(mo, .inr (11, [.int th, .ref (ma 1), .int (nI tl), .int ea, .int tk, .int dp, .ref sf, .ref (ma 2), .ref (ma 3), .ref (ma 4), .int wk, .ref sn])), (ma 1, .inl (g 0, 2000, .inl tf)), (sh, .inr (9, [.ref (ha 0), .ref (ha 1), .ref (ha 2), .ref (ha 3), .int (nI (q.1 0)), .ref (ha 4), .ref (ha 5), .ref (ha 6), .int (nI (q.1 1)), .ref (ha 7), .ref (ha 8), .ref (ha 9), .ref (ha 10), .int (nI (q.1 2)), .ref (ha 11), .ref (ha 12), .int (nI (q.1 3)), .ref (ha 13), .ref (ha 14), .ref (ha 15), .int (nI (q.1 4)), .ref (ha 16), .ref (ha 17), .ref (ha 18), .ref (ha 19), .ref (ha 20), .int q.2.2.2])), (ha 0, .inl (g 0, 401, .inl (cutN k (fun j => km (tkS tf tl j)) k0))), (ha 1, .inl (g 0, 401, .inl (cutN k (fun j => nI (tkP tf tl j)) f0))), (ha 2, .inl (g 0, 401, .inl (cutN k (fun j => nI (tkM tf tl j)) m0)))] → va_S A s9.heap H locs → ∀ (ls : Array Slot), lv_has ls 4 [(0, .ref mo), (1, .ref sh), (2, .int (nI p)), (3, .int (nI k))] → W p9 l9 e9 ({ frames := 6, cells := 0, slots := 0, locals := 133 } : Room) s9 m9 ([.ref mo, .ref sh] : List Value).toArray below9 meth9 c9 H locs 0 0 (MQ below9 (va_Qv (fun (u9 : Nat) => (u9 ≤ 400 ∧ (∀ j, j < u9 → tkS tf tl j ≠ 0 ∧ tkS tf tl j ≠ 1) ∧ (tkS tf tl u9 = 0 ∨ tkS tf tl u9 = 1))) (kB D g A (fun (u9 : Nat) => [(mo, .inr (11, [.int th, .ref (ma 1), .int (nI tl), .int ea, .int tk, .int dp, .ref sf, .ref (ma 2), .ref (ma 3), .ref (ma 4), .int wk, .ref sn])), (ma 1, .inl (g 0, 2000, .inl tf)), (sh, .inr (9, [.ref (ha 0), .ref (ha 1), .ref (ha 2), .ref (ha 3), .int (nI (q.1 0)), .ref (ha 4), .ref (ha 5), .ref (ha 6), .int (nI (q.1 1)), .ref (ha 7), .ref (ha 8), .ref (ha 9), .ref (ha 10), .int (nI (q.1 2)), .ref (ha 11), .ref (ha 12), .int (nI (q.1 3)), .ref (ha 13), .ref (ha 14), .ref (ha 15), .int (nI (q.1 4)), .ref (ha 16), .ref (ha 17), .ref (ha 18), .ref (ha 19), .ref (ha 20), .int q.2.2.2])), (ha 0, .inl (g 0, 401, .inl (cutN (u9 + 1) (fun j => km (tkS tf tl j)) k0))), (ha 1, .inl (g 0, 401, .inl (cutN (u9 + 1) (fun j => nI (tkP tf tl j)) f0))), (ha 2, .inl (g 0, 401, .inl (cutN (u9 + 1) (fun j => nI (tkM tf tl j)) m0)))])) A) ([.ref mo, .ref sh] : List Value).toArray s9 0 0 A) (F0 m9 11 ls []) := by
          intro n9
          induction n9 with
          | zero => intro p hm9; exact absurd hm9 (by omega)
          | succ n9 ih_11 =>
            intro p hm9 hp hs H locs hP hD hS ls hl
            refine lv_aload_n hx hb dX13_cut_11 rfl (lv_at hl 0 rfl) ?_
            refine lv_iload_n hx hb dX13_cut_12 rfl (lv_at hl 2 rfl) ?_
            refine k_i hA hP hD hS [(sh, .inr (9, [.ref (ha 0), .ref (ha 1), .ref (ha 2), .ref (ha 3), .int (nI (q.1 0)), .ref (ha 4), .ref (ha 5), .ref (ha 6), .int (nI (q.1 1)), .ref (ha 7), .ref (ha 8), .ref (ha 9), .ref (ha 10), .int (nI (q.1 2)), .ref (ha 11), .ref (ha 12), .int (nI (q.1 3)), .ref (ha 13), .ref (ha 14), .ref (ha 15), .int (nI (q.1 4)), .ref (ha 16), .ref (ha 17), .ref (ha 18), .ref (ha 19), .ref (ha 20), .int q.2.2.2])), (ha 0, .inl (g 0, 401, .inl (cutN k (fun j => km (tkS tf tl j)) k0))), (ha 1, .inl (g 0, 401, .inl (cutN k (fun j => nI (tkP tf tl j)) f0))), (ha 2, .inl (g 0, 401, .inl (cutN k (fun j => nI (tkM tf tl j)) m0)))] (va_runV (As := [.int (nI p)]) (rest := []) ⟨hx, hb, hml, hown, hts⟩ (c_X13_byteAt l9 z D g mo ma th tl ea tk dp sf wk sn tf p htl (by omega) (Array.size H)) (cwV 1 hts gv_X13_56 rfl rfl rfl (by decide +kernel) ⟨Nat.le_of_ble_eq_true rfl, Nat.le_of_ble_eq_true rfl⟩) ⟨kBlind, va_recv hK hP (ci := 11) (q0 := 0) rfl rfl, kPre.pc hK hZ hA hP hD hS [0, 1] rfl (by decide +kernel)⟩ rfl rfl hl.1 rfl (lv_room (Nat.le_of_ble_eq_true rfl)) dX13_cut_13 ⟨Nat.le_of_ble_eq_true rfl, Nat.le_of_ble_eq_true rfl⟩) [0, 1] [2, 3, 4, 5] rfl rfl rfl rfl (fun r_13 u_1 H locs hw_13 hP7 hD7 hS7 => ?_)
            clear hP hD hS
            have hP := hP7
            have hD := hD7
            have hS := hS7
            clear hP7 hD7 hS7
            obtain rfl := hw_13
            replace hP : va_P D CLS [(sh, .inr (9, [.ref (ha 0), .ref (ha 1), .ref (ha 2), .ref (ha 3), .int (nI (q.1 0)), .ref (ha 4), .ref (ha 5), .ref (ha 6), .int (nI (q.1 1)), .ref (ha 7), .ref (ha 8), .ref (ha 9), .ref (ha 10), .int (nI (q.1 2)), .ref (ha 11), .ref (ha 12), .int (nI (q.1 3)), .ref (ha 13), .ref (ha 14), .ref (ha 15), .int (nI (q.1 4)), .ref (ha 16), .ref (ha 17), .ref (ha 18), .ref (ha 19), .ref (ha 20), .int q.2.2.2])), (ha 0, .inl (g 0, 401, .inl (cutN k (fun j => km (tkS tf tl j)) k0))), (ha 1, .inl (g 0, 401, .inl (cutN k (fun j => nI (tkP tf tl j)) f0))), (ha 2, .inl (g 0, 401, .inl (cutN k (fun j => nI (tkM tf tl j)) m0))), (mo, .inr (11, [.int th, .ref (ma 1), .int (nI tl), .int ea, .int tk, .int dp, .ref sf, .ref (ma 2), .ref (ma 3), .ref (ma 4), .int wk, .ref sn])), (ma 1, .inl (g 0, 2000, .inl tf))] H := hP
            replace hD : va_D A [(sh, .inr (9, [.ref (ha 0), .ref (ha 1), .ref (ha 2), .ref (ha 3), .int (nI (q.1 0)), .ref (ha 4), .ref (ha 5), .ref (ha 6), .int (nI (q.1 1)), .ref (ha 7), .ref (ha 8), .ref (ha 9), .ref (ha 10), .int (nI (q.1 2)), .ref (ha 11), .ref (ha 12), .int (nI (q.1 3)), .ref (ha 13), .ref (ha 14), .ref (ha 15), .int (nI (q.1 4)), .ref (ha 16), .ref (ha 17), .ref (ha 18), .ref (ha 19), .ref (ha 20), .int q.2.2.2])), (ha 0, .inl (g 0, 401, .inl (cutN k (fun j => km (tkS tf tl j)) k0))), (ha 1, .inl (g 0, 401, .inl (cutN k (fun j => nI (tkP tf tl j)) f0))), (ha 2, .inl (g 0, 401, .inl (cutN k (fun j => nI (tkM tf tl j)) m0))), (mo, .inr (11, [.int th, .ref (ma 1), .int (nI tl), .int ea, .int tk, .int dp, .ref sf, .ref (ma 2), .ref (ma 3), .ref (ma 4), .int wk, .ref sn])), (ma 1, .inl (g 0, 2000, .inl tf))] := hD
            refine lv_bipush (v := 32) hx hb dX13_cut_16 (by decide) ?_
            refine lv_icmp_eq (tgt := 31) hx hb dX13_cut_18 (by decide) (fun c_18 => ?_) (fun c_18 => ?_)
            · skip
              have hpt : p < tl := fB_eq c_18 (by decide)
              refine lv_iinc (v := nI (p + 1)) (lv' := [(2, .int (nI (p + 1))), (0, .ref mo), (1, .ref sh), (3, .int (nI k))]) hx hb dX13_cut_31 hl (k := 2) rfl (nI_1 p) (by decide) rfl (fun ls hl => ?_)
              refine lv_goto (tgt := 11) hx hb dX13_cut_34 (by decide) ?_
              exact ih_11  (p + 1) (by omega) (by first | (have := fB_eq c_18 (by decide); omega) | (have := fB_eq c_28 (by decide); omega)) (by rw [← hs]; first | exact (skp_go (fB_eq c_18 (by decide)) (decide_eq_true (Or.inl ((fB_lt (fB_eq c_18 (by decide))).symm.trans c_18)))).symm | exact (skp_go (fB_eq c_28 (by decide)) (decide_eq_true (Or.inr ((fB_lt (fB_eq c_28 (by decide))).symm.trans c_28)))).symm) _ _ (kSub hP [4, 5, 0, 1, 2, 3] rfl) (hD.sub [4, 5, 0, 1, 2, 3] (by decide +kernel) rfl) hS ls (lv_sub hl [1, 2, 0, 3] rfl)
            · skip
              refine lv_aload_n hx hb dX13_cut_21 rfl (lv_at hl 0 rfl) ?_
              refine lv_iload_n hx hb dX13_cut_22 rfl (lv_at hl 2 rfl) ?_
              refine k_i hA hP hD hS [(sh, .inr (9, [.ref (ha 0), .ref (ha 1), .ref (ha 2), .ref (ha 3), .int (nI (q.1 0)), .ref (ha 4), .ref (ha 5), .ref (ha 6), .int (nI (q.1 1)), .ref (ha 7), .ref (ha 8), .ref (ha 9), .ref (ha 10), .int (nI (q.1 2)), .ref (ha 11), .ref (ha 12), .int (nI (q.1 3)), .ref (ha 13), .ref (ha 14), .ref (ha 15), .int (nI (q.1 4)), .ref (ha 16), .ref (ha 17), .ref (ha 18), .ref (ha 19), .ref (ha 20), .int q.2.2.2])), (ha 0, .inl (g 0, 401, .inl (cutN k (fun j => km (tkS tf tl j)) k0))), (ha 1, .inl (g 0, 401, .inl (cutN k (fun j => nI (tkP tf tl j)) f0))), (ha 2, .inl (g 0, 401, .inl (cutN k (fun j => nI (tkM tf tl j)) m0)))] (va_runV (As := [.int (nI p)]) (rest := []) ⟨hx, hb, hml, hown, hts⟩ (c_X13_byteAt l9 z D g mo ma th tl ea tk dp sf wk sn tf p htl (by omega) (Array.size H)) (cwV 1 hts gv_X13_56 rfl rfl rfl (by decide +kernel) ⟨Nat.le_of_ble_eq_true rfl, Nat.le_of_ble_eq_true rfl⟩) ⟨kBlind, va_recv hK hP (ci := 11) (q0 := 4) rfl rfl, kPre.pc hK hZ hA hP hD hS [4, 5] rfl (by decide +kernel)⟩ rfl rfl hl.1 rfl (lv_room (Nat.le_of_ble_eq_true rfl)) dX13_cut_23 ⟨Nat.le_of_ble_eq_true rfl, Nat.le_of_ble_eq_true rfl⟩) [4, 5] [0, 1, 2, 3] rfl rfl rfl rfl (fun r_23 u_2 H locs hw_23 hP7 hD7 hS7 => ?_)
              clear hP hD hS
              have hP := hP7
              have hD := hD7
              have hS := hS7
              clear hP7 hD7 hS7
              obtain rfl := hw_23
              replace hP : va_P D CLS [(sh, .inr (9, [.ref (ha 0), .ref (ha 1), .ref (ha 2), .ref (ha 3), .int (nI (q.1 0)), .ref (ha 4), .ref (ha 5), .ref (ha 6), .int (nI (q.1 1)), .ref (ha 7), .ref (ha 8), .ref (ha 9), .ref (ha 10), .int (nI (q.1 2)), .ref (ha 11), .ref (ha 12), .int (nI (q.1 3)), .ref (ha 13), .ref (ha 14), .ref (ha 15), .int (nI (q.1 4)), .ref (ha 16), .ref (ha 17), .ref (ha 18), .ref (ha 19), .ref (ha 20), .int q.2.2.2])), (ha 0, .inl (g 0, 401, .inl (cutN k (fun j => km (tkS tf tl j)) k0))), (ha 1, .inl (g 0, 401, .inl (cutN k (fun j => nI (tkP tf tl j)) f0))), (ha 2, .inl (g 0, 401, .inl (cutN k (fun j => nI (tkM tf tl j)) m0))), (mo, .inr (11, [.int th, .ref (ma 1), .int (nI tl), .int ea, .int tk, .int dp, .ref sf, .ref (ma 2), .ref (ma 3), .ref (ma 4), .int wk, .ref sn])), (ma 1, .inl (g 0, 2000, .inl tf))] H := hP
              replace hD : va_D A [(sh, .inr (9, [.ref (ha 0), .ref (ha 1), .ref (ha 2), .ref (ha 3), .int (nI (q.1 0)), .ref (ha 4), .ref (ha 5), .ref (ha 6), .int (nI (q.1 1)), .ref (ha 7), .ref (ha 8), .ref (ha 9), .ref (ha 10), .int (nI (q.1 2)), .ref (ha 11), .ref (ha 12), .int (nI (q.1 3)), .ref (ha 13), .ref (ha 14), .ref (ha 15), .int (nI (q.1 4)), .ref (ha 16), .ref (ha 17), .ref (ha 18), .ref (ha 19), .ref (ha 20), .int q.2.2.2])), (ha 0, .inl (g 0, 401, .inl (cutN k (fun j => km (tkS tf tl j)) k0))), (ha 1, .inl (g 0, 401, .inl (cutN k (fun j => nI (tkP tf tl j)) f0))), (ha 2, .inl (g 0, 401, .inl (cutN k (fun j => nI (tkM tf tl j)) m0))), (mo, .inr (11, [.int th, .ref (ma 1), .int (nI tl), .int ea, .int tk, .int dp, .ref sf, .ref (ma 2), .ref (ma 3), .ref (ma 4), .int wk, .ref sn])), (ma 1, .inl (g 0, 2000, .inl tf))] := hD
              refine lv_bipush (v := 10) hx hb dX13_cut_26 (by decide) ?_
              refine lv_icmp_ne (tgt := 37) hx hb dX13_cut_28 (by decide) (fun c_28 => ?_) (fun c_28 => ?_)
              · skip
                have hpp : p = tkP tf tl k := by
                  rw [← hs]
                  rcases Nat.lt_or_ge p tl with q | q
                  · exact (skp_stop q (decide_eq_false (fun x => by rcases x with x | x; exact c_18 ((fB_lt q).trans x); exact c_28 ((fB_lt q).trans x)))).symm
                  · exact (skp_end q).symm
                subst hpp
                have htp : tkP tf tl k ≤ tl := tkP_le
                refine lv_aload_n hx hb dX13_cut_37 rfl (lv_at hl 1 rfl) ?_
                refine va_getN (D := D) (ci := 9) (v := .ref (ha 1)) (C := RX11) (T := TX11) (N := 27) hx hb hts in_X11 hown hK hP 0 rfl rfl 1 (by decide) (hZ.nst.use nw_1244) (fun _ h9 => h9) rfl dX13_cut_38 ?_
                refine lv_iload_n hx hb dX13_cut_41 rfl (lv_at hl 3 rfl) ?_
                refine lv_iload_n hx hb dX13_cut_42 rfl (lv_at hl 2 rfl) ?_
                refine k_iastN hx hb hK hP hD hS 2 0 rfl rfl (by omega) (by first | decide | omega) dX13_cut_43 (fun H locs hP7 hD7 hS7 => ?_)
                clear hP hD hS
                have hP := hP7
                have hD := hD7
                have hS := hS7
                clear hP7 hD7 hS7
                replace hP : va_P D CLS [(sh, .inr (9, [.ref (ha 0), .ref (ha 1), .ref (ha 2), .ref (ha 3), .int (nI (q.1 0)), .ref (ha 4), .ref (ha 5), .ref (ha 6), .int (nI (q.1 1)), .ref (ha 7), .ref (ha 8), .ref (ha 9), .ref (ha 10), .int (nI (q.1 2)), .ref (ha 11), .ref (ha 12), .int (nI (q.1 3)), .ref (ha 13), .ref (ha 14), .ref (ha 15), .int (nI (q.1 4)), .ref (ha 16), .ref (ha 17), .ref (ha 18), .ref (ha 19), .ref (ha 20), .int q.2.2.2])), (ha 0, .inl (g 0, 401, .inl (cutN k (fun j => km (tkS tf tl j)) k0))), (ha 1, .inl (g 0, 401, .inl (upd (cutN k (fun j => nI (tkP tf tl j)) f0) k (nI (tkP tf tl k))))), (ha 2, .inl (g 0, 401, .inl (cutN k (fun j => nI (tkM tf tl j)) m0))), (mo, .inr (11, [.int th, .ref (ma 1), .int (nI tl), .int ea, .int tk, .int dp, .ref sf, .ref (ma 2), .ref (ma 3), .ref (ma 4), .int wk, .ref sn])), (ma 1, .inl (g 0, 2000, .inl tf))] H := hP
                replace hD : va_D A [(sh, .inr (9, [.ref (ha 0), .ref (ha 1), .ref (ha 2), .ref (ha 3), .int (nI (q.1 0)), .ref (ha 4), .ref (ha 5), .ref (ha 6), .int (nI (q.1 1)), .ref (ha 7), .ref (ha 8), .ref (ha 9), .ref (ha 10), .int (nI (q.1 2)), .ref (ha 11), .ref (ha 12), .int (nI (q.1 3)), .ref (ha 13), .ref (ha 14), .ref (ha 15), .int (nI (q.1 4)), .ref (ha 16), .ref (ha 17), .ref (ha 18), .ref (ha 19), .ref (ha 20), .int q.2.2.2])), (ha 0, .inl (g 0, 401, .inl (cutN k (fun j => km (tkS tf tl j)) k0))), (ha 1, .inl (g 0, 401, .inl (upd (cutN k (fun j => nI (tkP tf tl j)) f0) k (nI (tkP tf tl k))))), (ha 2, .inl (g 0, 401, .inl (cutN k (fun j => nI (tkM tf tl j)) m0))), (mo, .inr (11, [.int th, .ref (ma 1), .int (nI tl), .int ea, .int tk, .int dp, .ref sf, .ref (ma 2), .ref (ma 3), .ref (ma 4), .int wk, .ref sn])), (ma 1, .inl (g 0, 2000, .inl tf))] := hD
                refine lv_aload_n hx hb dX13_cut_44 rfl (lv_at hl 1 rfl) ?_
                refine va_getN (D := D) (ci := 9) (v := .ref (ha 2)) (C := RX11) (T := TX11) (N := 27) hx hb hts in_X11 hown hK hP 0 rfl rfl 2 (by decide) (hZ.nst.use nw_1246) (fun _ h9 => h9) rfl dX13_cut_45 ?_
                refine lv_iload_n hx hb dX13_cut_48 rfl (lv_at hl 3 rfl) ?_
                refine lv_aload_n hx hb dX13_cut_49 rfl (lv_at hl 0 rfl) ?_
                refine lv_iload_n hx hb dX13_cut_50 rfl (lv_at hl 2 rfl) ?_
                refine k_i hA hP hD hS [(sh, .inr (9, [.ref (ha 0), .ref (ha 1), .ref (ha 2), .ref (ha 3), .int (nI (q.1 0)), .ref (ha 4), .ref (ha 5), .ref (ha 6), .int (nI (q.1 1)), .ref (ha 7), .ref (ha 8), .ref (ha 9), .ref (ha 10), .int (nI (q.1 2)), .ref (ha 11), .ref (ha 12), .int (nI (q.1 3)), .ref (ha 13), .ref (ha 14), .ref (ha 15), .int (nI (q.1 4)), .ref (ha 16), .ref (ha 17), .ref (ha 18), .ref (ha 19), .ref (ha 20), .int q.2.2.2])), (ha 0, .inl (g 0, 401, .inl (cutN k (fun j => km (tkS tf tl j)) k0))), (ha 1, .inl (g 0, 401, .inl (upd (cutN k (fun j => nI (tkP tf tl j)) f0) k (nI (tkP tf tl k))))), (ha 2, .inl (g 0, 401, .inl (cutN k (fun j => nI (tkM tf tl j)) m0)))] (va_runV (As := [.int (nI (tkP tf tl k))]) (rest := [.int (nI k), .ref (ha 2)]) ⟨hx, hb, hml, hown, hts⟩ (c_X13_lengthAt l9 z D g mo ma th tl ea tk dp sf wk sn tf (tkP tf tl k) htl htp (Array.size H)) (cwV 1 hts gv_X13_96 rfl rfl rfl (by decide +kernel) ⟨Nat.le_of_ble_eq_true rfl, Nat.le_of_ble_eq_true rfl⟩) ⟨kBlind, va_recv hK hP (ci := 11) (q0 := 4) rfl rfl, kPre.pc hK hZ hA hP hD hS [4, 5] rfl (by decide +kernel)⟩ rfl rfl hl.1 rfl (lv_room (Nat.le_of_ble_eq_true rfl)) dX13_cut_51 ⟨Nat.le_of_ble_eq_true rfl, Nat.le_of_ble_eq_true rfl⟩) [4, 5] [0, 1, 2, 3] rfl rfl rfl rfl (fun r_51 u_3 H locs hw_51 hP7 hD7 hS7 => ?_)
                clear hP hD hS
                have hP := hP7
                have hD := hD7
                have hS := hS7
                clear hP7 hD7 hS7
                obtain rfl := hw_51
                replace hP : va_P D CLS [(sh, .inr (9, [.ref (ha 0), .ref (ha 1), .ref (ha 2), .ref (ha 3), .int (nI (q.1 0)), .ref (ha 4), .ref (ha 5), .ref (ha 6), .int (nI (q.1 1)), .ref (ha 7), .ref (ha 8), .ref (ha 9), .ref (ha 10), .int (nI (q.1 2)), .ref (ha 11), .ref (ha 12), .int (nI (q.1 3)), .ref (ha 13), .ref (ha 14), .ref (ha 15), .int (nI (q.1 4)), .ref (ha 16), .ref (ha 17), .ref (ha 18), .ref (ha 19), .ref (ha 20), .int q.2.2.2])), (ha 0, .inl (g 0, 401, .inl (cutN k (fun j => km (tkS tf tl j)) k0))), (ha 1, .inl (g 0, 401, .inl (upd (cutN k (fun j => nI (tkP tf tl j)) f0) k (nI (tkP tf tl k))))), (ha 2, .inl (g 0, 401, .inl (cutN k (fun j => nI (tkM tf tl j)) m0))), (mo, .inr (11, [.int th, .ref (ma 1), .int (nI tl), .int ea, .int tk, .int dp, .ref sf, .ref (ma 2), .ref (ma 3), .ref (ma 4), .int wk, .ref sn])), (ma 1, .inl (g 0, 2000, .inl tf))] H := hP
                replace hD : va_D A [(sh, .inr (9, [.ref (ha 0), .ref (ha 1), .ref (ha 2), .ref (ha 3), .int (nI (q.1 0)), .ref (ha 4), .ref (ha 5), .ref (ha 6), .int (nI (q.1 1)), .ref (ha 7), .ref (ha 8), .ref (ha 9), .ref (ha 10), .int (nI (q.1 2)), .ref (ha 11), .ref (ha 12), .int (nI (q.1 3)), .ref (ha 13), .ref (ha 14), .ref (ha 15), .int (nI (q.1 4)), .ref (ha 16), .ref (ha 17), .ref (ha 18), .ref (ha 19), .ref (ha 20), .int q.2.2.2])), (ha 0, .inl (g 0, 401, .inl (cutN k (fun j => km (tkS tf tl j)) k0))), (ha 1, .inl (g 0, 401, .inl (upd (cutN k (fun j => nI (tkP tf tl j)) f0) k (nI (tkP tf tl k))))), (ha 2, .inl (g 0, 401, .inl (cutN k (fun j => nI (tkM tf tl j)) m0))), (mo, .inr (11, [.int th, .ref (ma 1), .int (nI tl), .int ea, .int tk, .int dp, .ref sf, .ref (ma 2), .ref (ma 3), .ref (ma 4), .int wk, .ref sn])), (ma 1, .inl (g 0, 2000, .inl tf))] := hD
                refine k_iastN hx hb hK hP hD hS 3 0 rfl rfl (by omega) (by first | decide | omega) dX13_cut_54 (fun H locs hP7 hD7 hS7 => ?_)
                clear hP hD hS
                have hP := hP7
                have hD := hD7
                have hS := hS7
                clear hP7 hD7 hS7
                replace hP : va_P D CLS [(sh, .inr (9, [.ref (ha 0), .ref (ha 1), .ref (ha 2), .ref (ha 3), .int (nI (q.1 0)), .ref (ha 4), .ref (ha 5), .ref (ha 6), .int (nI (q.1 1)), .ref (ha 7), .ref (ha 8), .ref (ha 9), .ref (ha 10), .int (nI (q.1 2)), .ref (ha 11), .ref (ha 12), .int (nI (q.1 3)), .ref (ha 13), .ref (ha 14), .ref (ha 15), .int (nI (q.1 4)), .ref (ha 16), .ref (ha 17), .ref (ha 18), .ref (ha 19), .ref (ha 20), .int q.2.2.2])), (ha 0, .inl (g 0, 401, .inl (cutN k (fun j => km (tkS tf tl j)) k0))), (ha 1, .inl (g 0, 401, .inl (upd (cutN k (fun j => nI (tkP tf tl j)) f0) k (nI (tkP tf tl k))))), (ha 2, .inl (g 0, 401, .inl (upd (cutN k (fun j => nI (tkM tf tl j)) m0) k (nI (rln tf tl (tkP tf tl k)))))), (mo, .inr (11, [.int th, .ref (ma 1), .int (nI tl), .int ea, .int tk, .int dp, .ref sf, .ref (ma 2), .ref (ma 3), .ref (ma 4), .int wk, .ref sn])), (ma 1, .inl (g 0, 2000, .inl tf))] H := hP
                replace hD : va_D A [(sh, .inr (9, [.ref (ha 0), .ref (ha 1), .ref (ha 2), .ref (ha 3), .int (nI (q.1 0)), .ref (ha 4), .ref (ha 5), .ref (ha 6), .int (nI (q.1 1)), .ref (ha 7), .ref (ha 8), .ref (ha 9), .ref (ha 10), .int (nI (q.1 2)), .ref (ha 11), .ref (ha 12), .int (nI (q.1 3)), .ref (ha 13), .ref (ha 14), .ref (ha 15), .int (nI (q.1 4)), .ref (ha 16), .ref (ha 17), .ref (ha 18), .ref (ha 19), .ref (ha 20), .int q.2.2.2])), (ha 0, .inl (g 0, 401, .inl (cutN k (fun j => km (tkS tf tl j)) k0))), (ha 1, .inl (g 0, 401, .inl (upd (cutN k (fun j => nI (tkP tf tl j)) f0) k (nI (tkP tf tl k))))), (ha 2, .inl (g 0, 401, .inl (upd (cutN k (fun j => nI (tkM tf tl j)) m0) k (nI (rln tf tl (tkP tf tl k)))))), (mo, .inr (11, [.int th, .ref (ma 1), .int (nI tl), .int ea, .int tk, .int dp, .ref sf, .ref (ma 2), .ref (ma 3), .ref (ma 4), .int wk, .ref sn])), (ma 1, .inl (g 0, 2000, .inl tf))] := hD
                refine lv_aload_n hx hb dX13_cut_55 rfl (lv_at hl 1 rfl) ?_
                refine va_getN (D := D) (ci := 9) (v := .ref (ha 0)) (C := RX11) (T := TX11) (N := 27) hx hb hts in_X11 hown hK hP 0 rfl rfl 0 (by decide) (hZ.nst.use nw_1242) (fun _ h9 => h9) rfl dX13_cut_56 ?_
                refine lv_iload_n hx hb dX13_cut_59 rfl (lv_at hl 3 rfl) ?_
                refine lv_aload_n hx hb dX13_cut_60 rfl (lv_at hl 0 rfl) ?_
                refine lv_iload_n hx hb dX13_cut_61 rfl (lv_at hl 2 rfl) ?_
                refine lv_aload_n hx hb dX13_cut_62 rfl (lv_at hl 1 rfl) ?_
                refine va_getN (D := D) (ci := 9) (v := .ref (ha 2)) (C := RX11) (T := TX11) (N := 27) hx hb hts in_X11 hown hK hP 0 rfl rfl 2 (by decide) (hZ.nst.use nw_1246) (fun _ h9 => h9) rfl dX13_cut_63 ?_
                refine lv_iload_n hx hb dX13_cut_66 rfl (lv_at hl 3 rfl) ?_
                refine k_ialdN hx hb hK hP 3 0 rfl rfl (by omega) (by first | decide | omega) dX13_cut_67 ?_
                refine k_topi (show ((upd (cutN k (fun j => nI (tkM tf tl j)) m0) k (nI (rln tf tl (tkP tf tl k)))) k) = (nI (rln tf tl (tkP tf tl k))) from (by show (if k = k then _ else _) = _; rw [if_pos rfl])) ?_
                refine k_i hA hP hD hS [(sh, .inr (9, [.ref (ha 0), .ref (ha 1), .ref (ha 2), .ref (ha 3), .int (nI (q.1 0)), .ref (ha 4), .ref (ha 5), .ref (ha 6), .int (nI (q.1 1)), .ref (ha 7), .ref (ha 8), .ref (ha 9), .ref (ha 10), .int (nI (q.1 2)), .ref (ha 11), .ref (ha 12), .int (nI (q.1 3)), .ref (ha 13), .ref (ha 14), .ref (ha 15), .int (nI (q.1 4)), .ref (ha 16), .ref (ha 17), .ref (ha 18), .ref (ha 19), .ref (ha 20), .int q.2.2.2])), (ha 0, .inl (g 0, 401, .inl (cutN k (fun j => km (tkS tf tl j)) k0))), (ha 1, .inl (g 0, 401, .inl (upd (cutN k (fun j => nI (tkP tf tl j)) f0) k (nI (tkP tf tl k))))), (ha 2, .inl (g 0, 401, .inl (upd (cutN k (fun j => nI (tkM tf tl j)) m0) k (nI (rln tf tl (tkP tf tl k))))))] (va_runV (As := [.int (nI (tkP tf tl k)), .int (nI (rln tf tl (tkP tf tl k)))]) (rest := [.int (nI k), .ref (ha 0)]) ⟨hx, hb, hml, hown, hts⟩ (c_X13_kindAt l9 z D g mo ma th tl ea tk dp sf wk sn tf bf (tkP tf tl k) hF htl htp (Array.size H)) (cwV 2 hts gv_X13_102 rfl rfl rfl (by decide +kernel) ⟨Nat.le_of_ble_eq_true rfl, Nat.le_of_ble_eq_true rfl⟩) ⟨kBlindS, va_recv hK hP (ci := 11) (q0 := 4) rfl rfl, kPreS.pc hY hK hZ hA hP hD hS [4, 5] rfl (by decide +kernel)⟩ rfl rfl hl.1 rfl (lv_room (Nat.le_of_ble_eq_true rfl)) dX13_cut_68 ⟨Nat.le_of_ble_eq_true rfl, Nat.le_of_ble_eq_true rfl⟩) [4, 5] [0, 1, 2, 3] rfl rfl rfl rfl (fun r_68 u_4 H locs hw_68 hP7 hD7 hS7 => ?_)
                clear hP hD hS
                have hP := hP7
                have hD := hD7
                have hS := hS7
                clear hP7 hD7 hS7
                obtain rfl := hw_68
                replace hP : va_P D CLS [(sh, .inr (9, [.ref (ha 0), .ref (ha 1), .ref (ha 2), .ref (ha 3), .int (nI (q.1 0)), .ref (ha 4), .ref (ha 5), .ref (ha 6), .int (nI (q.1 1)), .ref (ha 7), .ref (ha 8), .ref (ha 9), .ref (ha 10), .int (nI (q.1 2)), .ref (ha 11), .ref (ha 12), .int (nI (q.1 3)), .ref (ha 13), .ref (ha 14), .ref (ha 15), .int (nI (q.1 4)), .ref (ha 16), .ref (ha 17), .ref (ha 18), .ref (ha 19), .ref (ha 20), .int q.2.2.2])), (ha 0, .inl (g 0, 401, .inl (cutN k (fun j => km (tkS tf tl j)) k0))), (ha 1, .inl (g 0, 401, .inl (upd (cutN k (fun j => nI (tkP tf tl j)) f0) k (nI (tkP tf tl k))))), (ha 2, .inl (g 0, 401, .inl (upd (cutN k (fun j => nI (tkM tf tl j)) m0) k (nI (rln tf tl (tkP tf tl k)))))), (mo, .inr (11, [.int th, .ref (ma 1), .int (nI tl), .int ea, .int tk, .int dp, .ref sf, .ref (ma 2), .ref (ma 3), .ref (ma 4), .int wk, .ref sn])), (ma 1, .inl (g 0, 2000, .inl tf))] H := hP
                replace hD : va_D A [(sh, .inr (9, [.ref (ha 0), .ref (ha 1), .ref (ha 2), .ref (ha 3), .int (nI (q.1 0)), .ref (ha 4), .ref (ha 5), .ref (ha 6), .int (nI (q.1 1)), .ref (ha 7), .ref (ha 8), .ref (ha 9), .ref (ha 10), .int (nI (q.1 2)), .ref (ha 11), .ref (ha 12), .int (nI (q.1 3)), .ref (ha 13), .ref (ha 14), .ref (ha 15), .int (nI (q.1 4)), .ref (ha 16), .ref (ha 17), .ref (ha 18), .ref (ha 19), .ref (ha 20), .int q.2.2.2])), (ha 0, .inl (g 0, 401, .inl (cutN k (fun j => km (tkS tf tl j)) k0))), (ha 1, .inl (g 0, 401, .inl (upd (cutN k (fun j => nI (tkP tf tl j)) f0) k (nI (tkP tf tl k))))), (ha 2, .inl (g 0, 401, .inl (upd (cutN k (fun j => nI (tkM tf tl j)) m0) k (nI (rln tf tl (tkP tf tl k)))))), (mo, .inr (11, [.int th, .ref (ma 1), .int (nI tl), .int ea, .int tk, .int dp, .ref sf, .ref (ma 2), .ref (ma 3), .ref (ma 4), .int wk, .ref sn])), (ma 1, .inl (g 0, 2000, .inl tf))] := hD
                refine k_iastN hx hb hK hP hD hS 1 0 rfl rfl (by omega) (by first | decide | omega) dX13_cut_71 (fun H locs hP7 hD7 hS7 => ?_)
                clear hP hD hS
                have hP := hP7
                have hD := hD7
                have hS := hS7
                clear hP7 hD7 hS7
                replace hP : va_P D CLS [(sh, .inr (9, [.ref (ha 0), .ref (ha 1), .ref (ha 2), .ref (ha 3), .int (nI (q.1 0)), .ref (ha 4), .ref (ha 5), .ref (ha 6), .int (nI (q.1 1)), .ref (ha 7), .ref (ha 8), .ref (ha 9), .ref (ha 10), .int (nI (q.1 2)), .ref (ha 11), .ref (ha 12), .int (nI (q.1 3)), .ref (ha 13), .ref (ha 14), .ref (ha 15), .int (nI (q.1 4)), .ref (ha 16), .ref (ha 17), .ref (ha 18), .ref (ha 19), .ref (ha 20), .int q.2.2.2])), (ha 0, .inl (g 0, 401, .inl (upd (cutN k (fun j => km (tkS tf tl j)) k0) k (km (lexS tf tl (tkP tf tl k) 0))))), (ha 1, .inl (g 0, 401, .inl (upd (cutN k (fun j => nI (tkP tf tl j)) f0) k (nI (tkP tf tl k))))), (ha 2, .inl (g 0, 401, .inl (upd (cutN k (fun j => nI (tkM tf tl j)) m0) k (nI (rln tf tl (tkP tf tl k)))))), (mo, .inr (11, [.int th, .ref (ma 1), .int (nI tl), .int ea, .int tk, .int dp, .ref sf, .ref (ma 2), .ref (ma 3), .ref (ma 4), .int wk, .ref sn])), (ma 1, .inl (g 0, 2000, .inl tf))] H := hP
                replace hD : va_D A [(sh, .inr (9, [.ref (ha 0), .ref (ha 1), .ref (ha 2), .ref (ha 3), .int (nI (q.1 0)), .ref (ha 4), .ref (ha 5), .ref (ha 6), .int (nI (q.1 1)), .ref (ha 7), .ref (ha 8), .ref (ha 9), .ref (ha 10), .int (nI (q.1 2)), .ref (ha 11), .ref (ha 12), .int (nI (q.1 3)), .ref (ha 13), .ref (ha 14), .ref (ha 15), .int (nI (q.1 4)), .ref (ha 16), .ref (ha 17), .ref (ha 18), .ref (ha 19), .ref (ha 20), .int q.2.2.2])), (ha 0, .inl (g 0, 401, .inl (upd (cutN k (fun j => km (tkS tf tl j)) k0) k (km (lexS tf tl (tkP tf tl k) 0))))), (ha 1, .inl (g 0, 401, .inl (upd (cutN k (fun j => nI (tkP tf tl j)) f0) k (nI (tkP tf tl k))))), (ha 2, .inl (g 0, 401, .inl (upd (cutN k (fun j => nI (tkM tf tl j)) m0) k (nI (rln tf tl (tkP tf tl k)))))), (mo, .inr (11, [.int th, .ref (ma 1), .int (nI tl), .int ea, .int tk, .int dp, .ref sf, .ref (ma 2), .ref (ma 3), .ref (ma 4), .int wk, .ref sn])), (ma 1, .inl (g 0, 2000, .inl tf))] := hD
                rw [show upd (cutN k (fun j => nI (tkP tf tl j)) f0) k (nI (tkP tf tl k)) = (cutN (k + 1) (fun j => nI (tkP tf tl j)) f0) from cut_u] at hP hD
                replace hP : va_P D CLS [(sh, .inr (9, [.ref (ha 0), .ref (ha 1), .ref (ha 2), .ref (ha 3), .int (nI (q.1 0)), .ref (ha 4), .ref (ha 5), .ref (ha 6), .int (nI (q.1 1)), .ref (ha 7), .ref (ha 8), .ref (ha 9), .ref (ha 10), .int (nI (q.1 2)), .ref (ha 11), .ref (ha 12), .int (nI (q.1 3)), .ref (ha 13), .ref (ha 14), .ref (ha 15), .int (nI (q.1 4)), .ref (ha 16), .ref (ha 17), .ref (ha 18), .ref (ha 19), .ref (ha 20), .int q.2.2.2])), (ha 0, .inl (g 0, 401, .inl (upd (cutN k (fun j => km (tkS tf tl j)) k0) k (km (lexS tf tl (tkP tf tl k) 0))))), (ha 1, .inl (g 0, 401, .inl (cutN (k + 1) (fun j => nI (tkP tf tl j)) f0))), (ha 2, .inl (g 0, 401, .inl (upd (cutN k (fun j => nI (tkM tf tl j)) m0) k (nI (rln tf tl (tkP tf tl k)))))), (mo, .inr (11, [.int th, .ref (ma 1), .int (nI tl), .int ea, .int tk, .int dp, .ref sf, .ref (ma 2), .ref (ma 3), .ref (ma 4), .int wk, .ref sn])), (ma 1, .inl (g 0, 2000, .inl tf))] H := hP
                replace hD : va_D A [(sh, .inr (9, [.ref (ha 0), .ref (ha 1), .ref (ha 2), .ref (ha 3), .int (nI (q.1 0)), .ref (ha 4), .ref (ha 5), .ref (ha 6), .int (nI (q.1 1)), .ref (ha 7), .ref (ha 8), .ref (ha 9), .ref (ha 10), .int (nI (q.1 2)), .ref (ha 11), .ref (ha 12), .int (nI (q.1 3)), .ref (ha 13), .ref (ha 14), .ref (ha 15), .int (nI (q.1 4)), .ref (ha 16), .ref (ha 17), .ref (ha 18), .ref (ha 19), .ref (ha 20), .int q.2.2.2])), (ha 0, .inl (g 0, 401, .inl (upd (cutN k (fun j => km (tkS tf tl j)) k0) k (km (lexS tf tl (tkP tf tl k) 0))))), (ha 1, .inl (g 0, 401, .inl (cutN (k + 1) (fun j => nI (tkP tf tl j)) f0))), (ha 2, .inl (g 0, 401, .inl (upd (cutN k (fun j => nI (tkM tf tl j)) m0) k (nI (rln tf tl (tkP tf tl k)))))), (mo, .inr (11, [.int th, .ref (ma 1), .int (nI tl), .int ea, .int tk, .int dp, .ref sf, .ref (ma 2), .ref (ma 3), .ref (ma 4), .int wk, .ref sn])), (ma 1, .inl (g 0, 2000, .inl tf))] := hD
                rw [show upd (cutN k (fun j => nI (tkM tf tl j)) m0) k (nI (rln tf tl (tkP tf tl k))) = (cutN (k + 1) (fun j => nI (tkM tf tl j)) m0) from cut_u] at hP hD
                replace hP : va_P D CLS [(sh, .inr (9, [.ref (ha 0), .ref (ha 1), .ref (ha 2), .ref (ha 3), .int (nI (q.1 0)), .ref (ha 4), .ref (ha 5), .ref (ha 6), .int (nI (q.1 1)), .ref (ha 7), .ref (ha 8), .ref (ha 9), .ref (ha 10), .int (nI (q.1 2)), .ref (ha 11), .ref (ha 12), .int (nI (q.1 3)), .ref (ha 13), .ref (ha 14), .ref (ha 15), .int (nI (q.1 4)), .ref (ha 16), .ref (ha 17), .ref (ha 18), .ref (ha 19), .ref (ha 20), .int q.2.2.2])), (ha 0, .inl (g 0, 401, .inl (upd (cutN k (fun j => km (tkS tf tl j)) k0) k (km (lexS tf tl (tkP tf tl k) 0))))), (ha 1, .inl (g 0, 401, .inl (cutN (k + 1) (fun j => nI (tkP tf tl j)) f0))), (ha 2, .inl (g 0, 401, .inl (cutN (k + 1) (fun j => nI (tkM tf tl j)) m0))), (mo, .inr (11, [.int th, .ref (ma 1), .int (nI tl), .int ea, .int tk, .int dp, .ref sf, .ref (ma 2), .ref (ma 3), .ref (ma 4), .int wk, .ref sn])), (ma 1, .inl (g 0, 2000, .inl tf))] H := hP
                replace hD : va_D A [(sh, .inr (9, [.ref (ha 0), .ref (ha 1), .ref (ha 2), .ref (ha 3), .int (nI (q.1 0)), .ref (ha 4), .ref (ha 5), .ref (ha 6), .int (nI (q.1 1)), .ref (ha 7), .ref (ha 8), .ref (ha 9), .ref (ha 10), .int (nI (q.1 2)), .ref (ha 11), .ref (ha 12), .int (nI (q.1 3)), .ref (ha 13), .ref (ha 14), .ref (ha 15), .int (nI (q.1 4)), .ref (ha 16), .ref (ha 17), .ref (ha 18), .ref (ha 19), .ref (ha 20), .int q.2.2.2])), (ha 0, .inl (g 0, 401, .inl (upd (cutN k (fun j => km (tkS tf tl j)) k0) k (km (lexS tf tl (tkP tf tl k) 0))))), (ha 1, .inl (g 0, 401, .inl (cutN (k + 1) (fun j => nI (tkP tf tl j)) f0))), (ha 2, .inl (g 0, 401, .inl (cutN (k + 1) (fun j => nI (tkM tf tl j)) m0))), (mo, .inr (11, [.int th, .ref (ma 1), .int (nI tl), .int ea, .int tk, .int dp, .ref sf, .ref (ma 2), .ref (ma 3), .ref (ma 4), .int wk, .ref sn])), (ma 1, .inl (g 0, 2000, .inl tf))] := hD
                have hlx9 : lexS tf tl (tkP tf tl k) 0 < 49 := lexS_lt _ _ _ _
                by_cases h400 : k < 400 ∨ tl ≤ tkP tf tl k
                · skip
                  have hke : lexS tf tl (tkP tf tl k) 0 = tkS tf tl k := tkS_a h400
                  rw [hke] at hP hD
                  replace hP : va_P D CLS [(sh, .inr (9, [.ref (ha 0), .ref (ha 1), .ref (ha 2), .ref (ha 3), .int (nI (q.1 0)), .ref (ha 4), .ref (ha 5), .ref (ha 6), .int (nI (q.1 1)), .ref (ha 7), .ref (ha 8), .ref (ha 9), .ref (ha 10), .int (nI (q.1 2)), .ref (ha 11), .ref (ha 12), .int (nI (q.1 3)), .ref (ha 13), .ref (ha 14), .ref (ha 15), .int (nI (q.1 4)), .ref (ha 16), .ref (ha 17), .ref (ha 18), .ref (ha 19), .ref (ha 20), .int q.2.2.2])), (ha 0, .inl (g 0, 401, .inl (upd (cutN k (fun j => km (tkS tf tl j)) k0) k (km (tkS tf tl k))))), (ha 1, .inl (g 0, 401, .inl (cutN (k + 1) (fun j => nI (tkP tf tl j)) f0))), (ha 2, .inl (g 0, 401, .inl (cutN (k + 1) (fun j => nI (tkM tf tl j)) m0))), (mo, .inr (11, [.int th, .ref (ma 1), .int (nI tl), .int ea, .int tk, .int dp, .ref sf, .ref (ma 2), .ref (ma 3), .ref (ma 4), .int wk, .ref sn])), (ma 1, .inl (g 0, 2000, .inl tf))] H := hP
                  replace hD : va_D A [(sh, .inr (9, [.ref (ha 0), .ref (ha 1), .ref (ha 2), .ref (ha 3), .int (nI (q.1 0)), .ref (ha 4), .ref (ha 5), .ref (ha 6), .int (nI (q.1 1)), .ref (ha 7), .ref (ha 8), .ref (ha 9), .ref (ha 10), .int (nI (q.1 2)), .ref (ha 11), .ref (ha 12), .int (nI (q.1 3)), .ref (ha 13), .ref (ha 14), .ref (ha 15), .int (nI (q.1 4)), .ref (ha 16), .ref (ha 17), .ref (ha 18), .ref (ha 19), .ref (ha 20), .int q.2.2.2])), (ha 0, .inl (g 0, 401, .inl (upd (cutN k (fun j => km (tkS tf tl j)) k0) k (km (tkS tf tl k))))), (ha 1, .inl (g 0, 401, .inl (cutN (k + 1) (fun j => nI (tkP tf tl j)) f0))), (ha 2, .inl (g 0, 401, .inl (cutN (k + 1) (fun j => nI (tkM tf tl j)) m0))), (mo, .inr (11, [.int th, .ref (ma 1), .int (nI tl), .int ea, .int tk, .int dp, .ref sf, .ref (ma 2), .ref (ma 3), .ref (ma 4), .int wk, .ref sn])), (ma 1, .inl (g 0, 2000, .inl tf))] := hD
                  rw [show upd (cutN k (fun j => km (tkS tf tl j)) k0) k (km (tkS tf tl k)) = (cutN (k + 1) (fun j => km (tkS tf tl j)) k0) from cut_u] at hP hD
                  replace hP : va_P D CLS [(sh, .inr (9, [.ref (ha 0), .ref (ha 1), .ref (ha 2), .ref (ha 3), .int (nI (q.1 0)), .ref (ha 4), .ref (ha 5), .ref (ha 6), .int (nI (q.1 1)), .ref (ha 7), .ref (ha 8), .ref (ha 9), .ref (ha 10), .int (nI (q.1 2)), .ref (ha 11), .ref (ha 12), .int (nI (q.1 3)), .ref (ha 13), .ref (ha 14), .ref (ha 15), .int (nI (q.1 4)), .ref (ha 16), .ref (ha 17), .ref (ha 18), .ref (ha 19), .ref (ha 20), .int q.2.2.2])), (ha 0, .inl (g 0, 401, .inl (cutN (k + 1) (fun j => km (tkS tf tl j)) k0))), (ha 1, .inl (g 0, 401, .inl (cutN (k + 1) (fun j => nI (tkP tf tl j)) f0))), (ha 2, .inl (g 0, 401, .inl (cutN (k + 1) (fun j => nI (tkM tf tl j)) m0))), (mo, .inr (11, [.int th, .ref (ma 1), .int (nI tl), .int ea, .int tk, .int dp, .ref sf, .ref (ma 2), .ref (ma 3), .ref (ma 4), .int wk, .ref sn])), (ma 1, .inl (g 0, 2000, .inl tf))] H := hP
                  replace hD : va_D A [(sh, .inr (9, [.ref (ha 0), .ref (ha 1), .ref (ha 2), .ref (ha 3), .int (nI (q.1 0)), .ref (ha 4), .ref (ha 5), .ref (ha 6), .int (nI (q.1 1)), .ref (ha 7), .ref (ha 8), .ref (ha 9), .ref (ha 10), .int (nI (q.1 2)), .ref (ha 11), .ref (ha 12), .int (nI (q.1 3)), .ref (ha 13), .ref (ha 14), .ref (ha 15), .int (nI (q.1 4)), .ref (ha 16), .ref (ha 17), .ref (ha 18), .ref (ha 19), .ref (ha 20), .int q.2.2.2])), (ha 0, .inl (g 0, 401, .inl (cutN (k + 1) (fun j => km (tkS tf tl j)) k0))), (ha 1, .inl (g 0, 401, .inl (cutN (k + 1) (fun j => nI (tkP tf tl j)) f0))), (ha 2, .inl (g 0, 401, .inl (cutN (k + 1) (fun j => nI (tkM tf tl j)) m0))), (mo, .inr (11, [.int th, .ref (ma 1), .int (nI tl), .int ea, .int tk, .int dp, .ref sf, .ref (ma 2), .ref (ma 3), .ref (ma 4), .int wk, .ref sn])), (ma 1, .inl (g 0, 2000, .inl tf))] := hD
                  refine lv_iload_n hx hb dX13_cut_72 rfl (lv_at hl 3 rfl) ?_
                  refine lv_sipush (v := 400) hx hb dX13_cut_73 (by decide) ?_
                  refine lv_icmp_ne (tgt := 98) hx hb dX13_cut_76 (by decide) (fun c_76 => ?_) (fun c_76 => ?_)
                  · skip
                    have c_76 : ¬ k = 400 := fun h => c_76 ((nI_eq (a := k) (b := 400) (by omega) (by omega)).mpr h)
                    refine lv_aload_n hx hb dX13_cut_98 rfl (lv_at hl 1 rfl) ?_
                    refine va_getN (D := D) (ci := 9) (v := .ref (ha 0)) (C := RX11) (T := TX11) (N := 27) hx hb hts in_X11 hown hK hP 0 rfl rfl 0 (by decide) (hZ.nst.use nw_1242) (fun _ h9 => h9) rfl dX13_cut_99 ?_
                    refine lv_iload_n hx hb dX13_cut_102 rfl (lv_at hl 3 rfl) ?_
                    refine k_ialdN hx hb hK hP 1 0 rfl rfl (by omega) (by first | decide | omega) dX13_cut_103 ?_
                    refine k_topi (show ((cutN (k + 1) (fun j => km (tkS tf tl j)) k0) k) = (km (tkS tf tl k)) from (by show (if k < k + 1 then _ else _) = _; rw [if_pos (by omega)])) ?_
                    refine lv_bipush (v := 70) hx hb dX13_cut_104 (by decide) ?_
                    refine lv_icmp_lt (tgt := 110) hx hb dX13_cut_106 (by decide) (fun c_106 => ?_) (fun c_106 => ?_)
                    · skip
                      have hne := (km_70 _ (hlt49 k) tkS_4).1.mp c_106
                      refine lv_iload_n hx hb dX13_cut_110 rfl (lv_at hl 2 rfl) ?_
                      refine lv_aload_n hx hb dX13_cut_111 rfl (lv_at hl 1 rfl) ?_
                      refine va_getN (D := D) (ci := 9) (v := .ref (ha 2)) (C := RX11) (T := TX11) (N := 27) hx hb hts in_X11 hown hK hP 0 rfl rfl 2 (by decide) (hZ.nst.use nw_1246) (fun _ h9 => h9) rfl dX13_cut_112 ?_
                      refine lv_iload_n hx hb dX13_cut_115 rfl (lv_at hl 3 rfl) ?_
                      refine k_ialdN hx hb hK hP 3 0 rfl rfl (by omega) (by first | decide | omega) dX13_cut_116 ?_
                      refine k_topi (show ((cutN (k + 1) (fun j => nI (tkM tf tl j)) m0) k) = (nI (tkM tf tl k)) from (by show (if k < k + 1 then _ else _) = _; rw [if_pos (by omega)])) ?_
                      refine lv_iadd hx hb dX13_cut_117 ?_
                      refine k_topi (show ((nI (tkP tf tl k)) + (nI (tkM tf tl k))) = (nI (posn tf tl (k + 1))) from (by rw [nI_add]; exact congrArg nI (posn_s (tkM_e hne.1 hne.2)))) ?_
                      refine lv_istore_n (lv' := [(2, .int (nI (posn tf tl (k + 1)))), (0, .ref mo), (1, .ref sh), (3, .int (nI k))]) hx hb dX13_cut_118 rfl hl (by decide) rfl (fun ls hl => ?_)
                      refine lv_iinc (v := nI (k + 1)) (lv' := [(3, .int (nI (k + 1))), (2, .int (nI (posn tf tl (k + 1)))), (0, .ref mo), (1, .ref sh)]) hx hb dX13_cut_119 hl (k := 3) rfl (nI_1 k) (by decide) rfl (fun ls hl => ?_)
                      refine lv_goto (tgt := 4) hx hb dX13_cut_122 (by decide) ?_
                      exact ih_4  (k + 1) (by omega) (by omega) (ltS hf hne) _ _ (kSub hP [4, 5, 0, 1, 2, 3] rfl) (hD.sub [4, 5, 0, 1, 2, 3] (by decide +kernel) rfl) hS ls (lv_sub hl [2, 3, 1, 0] rfl)
                    · skip
                      have hend : tkS tf tl k = 0 ∨ tkS tf tl k = 1 := by
                        rcases Nat.eq_zero_or_pos (tkS tf tl k) with q | q
                        · exact Or.inl q
                        · rcases Nat.lt_or_ge 1 (tkS tf tl k) with q2 | q2
                          · exact absurd ((km_70 _ (hlt49 k) tkS_4).1.mpr ⟨by omega, by omega⟩) c_106
                          · exact Or.inr (by omega)
                      have he_5 : (cutN (k + 1) (fun j => km (tkS tf tl j)) k0) = (cutN (k + 1) (fun j => km (tkS tf tl j)) k0) := by rfl
                      have he_6 : (cutN (k + 1) (fun j => nI (tkP tf tl j)) f0) = (cutN (k + 1) (fun j => nI (tkP tf tl j)) f0) := by rfl
                      have he_7 : (cutN (k + 1) (fun j => nI (tkM tf tl j)) m0) = (cutN (k + 1) (fun j => nI (tkM tf tl j)) m0) := by rfl
                      have hP9 : va_P D CLS [(mo, .inr (11, [.int th, .ref (ma 1), .int (nI tl), .int ea, .int tk, .int dp, .ref sf, .ref (ma 2), .ref (ma 3), .ref (ma 4), .int wk, .ref sn])), (ma 1, .inl (g 0, 2000, .inl tf)), (sh, .inr (9, [.ref (ha 0), .ref (ha 1), .ref (ha 2), .ref (ha 3), .int (nI (q.1 0)), .ref (ha 4), .ref (ha 5), .ref (ha 6), .int (nI (q.1 1)), .ref (ha 7), .ref (ha 8), .ref (ha 9), .ref (ha 10), .int (nI (q.1 2)), .ref (ha 11), .ref (ha 12), .int (nI (q.1 3)), .ref (ha 13), .ref (ha 14), .ref (ha 15), .int (nI (q.1 4)), .ref (ha 16), .ref (ha 17), .ref (ha 18), .ref (ha 19), .ref (ha 20), .int q.2.2.2])), (ha 0, .inl (g 0, 401, .inl (cutN (k + 1) (fun j => km (tkS tf tl j)) k0))), (ha 1, .inl (g 0, 401, .inl (cutN (k + 1) (fun j => nI (tkP tf tl j)) f0))), (ha 2, .inl (g 0, 401, .inl (cutN (k + 1) (fun j => nI (tkM tf tl j)) m0)))] H := by rw [he_5, he_6, he_7]; exact kSub hP [4, 5, 0, 1, 2, 3] rfl
                      have hD9 : va_D A [(mo, .inr (11, [.int th, .ref (ma 1), .int (nI tl), .int ea, .int tk, .int dp, .ref sf, .ref (ma 2), .ref (ma 3), .ref (ma 4), .int wk, .ref sn])), (ma 1, .inl (g 0, 2000, .inl tf)), (sh, .inr (9, [.ref (ha 0), .ref (ha 1), .ref (ha 2), .ref (ha 3), .int (nI (q.1 0)), .ref (ha 4), .ref (ha 5), .ref (ha 6), .int (nI (q.1 1)), .ref (ha 7), .ref (ha 8), .ref (ha 9), .ref (ha 10), .int (nI (q.1 2)), .ref (ha 11), .ref (ha 12), .int (nI (q.1 3)), .ref (ha 13), .ref (ha 14), .ref (ha 15), .int (nI (q.1 4)), .ref (ha 16), .ref (ha 17), .ref (ha 18), .ref (ha 19), .ref (ha 20), .int q.2.2.2])), (ha 0, .inl (g 0, 401, .inl (cutN (k + 1) (fun j => km (tkS tf tl j)) k0))), (ha 1, .inl (g 0, 401, .inl (cutN (k + 1) (fun j => nI (tkP tf tl j)) f0))), (ha 2, .inl (g 0, 401, .inl (cutN (k + 1) (fun j => nI (tkM tf tl j)) m0)))] := by rw [he_5, he_6, he_7]; exact hD.sub [4, 5, 0, 1, 2, 3] (by decide +kernel) rfl
                      exact W.vret hx hb hr (fun t9 ht9 hW9 => ⟨⟨k, rfl, ⟨by omega, hf, hend⟩, by rw [ht9]; exact hP9, va_K.moved hW9.alike hK, hD9⟩, hS.F ht9⟩) hS.2.2 dX13_cut_109
                  · skip
                    have c_76 : k = 400 := (nI_eq (a := k) (b := 400) (by omega) (by omega)).mp c_76
                    refine lv_aload_n hx hb dX13_cut_79 rfl (lv_at hl 1 rfl) ?_
                    refine va_getN (D := D) (ci := 9) (v := .ref (ha 0)) (C := RX11) (T := TX11) (N := 27) hx hb hts in_X11 hown hK hP 0 rfl rfl 0 (by decide) (hZ.nst.use nw_1242) (fun _ h9 => h9) rfl dX13_cut_80 ?_
                    refine lv_iload_n hx hb dX13_cut_83 rfl (lv_at hl 3 rfl) ?_
                    refine k_ialdN hx hb hK hP 1 0 rfl rfl (by omega) (by first | decide | omega) dX13_cut_84 ?_
                    refine k_topi (show ((cutN (k + 1) (fun j => km (tkS tf tl j)) k0) k) = (km (tkS tf tl k)) from (by show (if k < k + 1 then _ else _) = _; rw [if_pos (by omega)])) ?_
                    refine lv_bipush (v := 70) hx hb dX13_cut_85 (by decide) ?_
                    refine lv_icmp_eq (tgt := 98) hx hb dX13_cut_87 (by decide) (fun c_87 => ?_) (fun c_87 => ?_)
                    · skip
                      have c_87 : (tkS tf tl k) = 0 := (km_eq (a := (tkS tf tl k)) (b := 0) (by first | decide | assumption | exact hsq _) (by first | decide | assumption | exact hsq _)).mp c_87
                      refine lv_aload_n hx hb dX13_cut_98 rfl (lv_at hl 1 rfl) ?_
                      refine va_getN (D := D) (ci := 9) (v := .ref (ha 0)) (C := RX11) (T := TX11) (N := 27) hx hb hts in_X11 hown hK hP 0 rfl rfl 0 (by decide) (hZ.nst.use nw_1242) (fun _ h9 => h9) rfl dX13_cut_99 ?_
                      refine lv_iload_n hx hb dX13_cut_102 rfl (lv_at hl 3 rfl) ?_
                      refine k_ialdN hx hb hK hP 1 0 rfl rfl (by omega) (by first | decide | omega) dX13_cut_103 ?_
                      refine k_topi (show ((cutN (k + 1) (fun j => km (tkS tf tl j)) k0) k) = (km (tkS tf tl k)) from (by show (if k < k + 1 then _ else _) = _; rw [if_pos (by omega)])) ?_
                      refine lv_bipush (v := 70) hx hb dX13_cut_104 (by decide) ?_
                      refine lv_icmp_lt (tgt := 110) hx hb dX13_cut_106 (by decide) (fun c_106 => ?_) (fun c_106 => ?_)
                      · skip
                        have hne := (km_70 _ (hlt49 k) tkS_4).1.mp c_106
                        refine lv_iload_n hx hb dX13_cut_110 rfl (lv_at hl 2 rfl) ?_
                        refine lv_aload_n hx hb dX13_cut_111 rfl (lv_at hl 1 rfl) ?_
                        refine va_getN (D := D) (ci := 9) (v := .ref (ha 2)) (C := RX11) (T := TX11) (N := 27) hx hb hts in_X11 hown hK hP 0 rfl rfl 2 (by decide) (hZ.nst.use nw_1246) (fun _ h9 => h9) rfl dX13_cut_112 ?_
                        refine lv_iload_n hx hb dX13_cut_115 rfl (lv_at hl 3 rfl) ?_
                        refine k_ialdN hx hb hK hP 3 0 rfl rfl (by omega) (by first | decide | omega) dX13_cut_116 ?_
                        refine k_topi (show ((cutN (k + 1) (fun j => nI (tkM tf tl j)) m0) k) = (nI (tkM tf tl k)) from (by show (if k < k + 1 then _ else _) = _; rw [if_pos (by omega)])) ?_
                        refine lv_iadd hx hb dX13_cut_117 ?_
                        refine k_topi (show ((nI (tkP tf tl k)) + (nI (tkM tf tl k))) = (nI (posn tf tl (k + 1))) from (by rw [nI_add]; exact congrArg nI (posn_s (tkM_e hne.1 hne.2)))) ?_
                        refine lv_istore_n (lv' := [(2, .int (nI (posn tf tl (k + 1)))), (0, .ref mo), (1, .ref sh), (3, .int (nI k))]) hx hb dX13_cut_118 rfl hl (by decide) rfl (fun ls hl => ?_)
                        refine lv_iinc (v := nI (k + 1)) (lv' := [(3, .int (nI (k + 1))), (2, .int (nI (posn tf tl (k + 1)))), (0, .ref mo), (1, .ref sh)]) hx hb dX13_cut_119 hl (k := 3) rfl (nI_1 k) (by decide) rfl (fun ls hl => ?_)
                        refine lv_goto (tgt := 4) hx hb dX13_cut_122 (by decide) ?_
                        exact ih_4  (k + 1) (by omega) (by omega) (ltS hf hne) _ _ (kSub hP [4, 5, 0, 1, 2, 3] rfl) (hD.sub [4, 5, 0, 1, 2, 3] (by decide +kernel) rfl) hS ls (lv_sub hl [2, 3, 1, 0] rfl)
                      · skip
                        have hend : tkS tf tl k = 0 ∨ tkS tf tl k = 1 := by
                          rcases Nat.eq_zero_or_pos (tkS tf tl k) with q | q
                          · exact Or.inl q
                          · rcases Nat.lt_or_ge 1 (tkS tf tl k) with q2 | q2
                            · exact absurd ((km_70 _ (hlt49 k) tkS_4).1.mpr ⟨by omega, by omega⟩) c_106
                            · exact Or.inr (by omega)
                        have he_8 : (cutN (k + 1) (fun j => km (tkS tf tl j)) k0) = (cutN (k + 1) (fun j => km (tkS tf tl j)) k0) := by rfl
                        have he_9 : (cutN (k + 1) (fun j => nI (tkP tf tl j)) f0) = (cutN (k + 1) (fun j => nI (tkP tf tl j)) f0) := by rfl
                        have he_10 : (cutN (k + 1) (fun j => nI (tkM tf tl j)) m0) = (cutN (k + 1) (fun j => nI (tkM tf tl j)) m0) := by rfl
                        have hP9 : va_P D CLS [(mo, .inr (11, [.int th, .ref (ma 1), .int (nI tl), .int ea, .int tk, .int dp, .ref sf, .ref (ma 2), .ref (ma 3), .ref (ma 4), .int wk, .ref sn])), (ma 1, .inl (g 0, 2000, .inl tf)), (sh, .inr (9, [.ref (ha 0), .ref (ha 1), .ref (ha 2), .ref (ha 3), .int (nI (q.1 0)), .ref (ha 4), .ref (ha 5), .ref (ha 6), .int (nI (q.1 1)), .ref (ha 7), .ref (ha 8), .ref (ha 9), .ref (ha 10), .int (nI (q.1 2)), .ref (ha 11), .ref (ha 12), .int (nI (q.1 3)), .ref (ha 13), .ref (ha 14), .ref (ha 15), .int (nI (q.1 4)), .ref (ha 16), .ref (ha 17), .ref (ha 18), .ref (ha 19), .ref (ha 20), .int q.2.2.2])), (ha 0, .inl (g 0, 401, .inl (cutN (k + 1) (fun j => km (tkS tf tl j)) k0))), (ha 1, .inl (g 0, 401, .inl (cutN (k + 1) (fun j => nI (tkP tf tl j)) f0))), (ha 2, .inl (g 0, 401, .inl (cutN (k + 1) (fun j => nI (tkM tf tl j)) m0)))] H := by rw [he_8, he_9, he_10]; exact kSub hP [4, 5, 0, 1, 2, 3] rfl
                        have hD9 : va_D A [(mo, .inr (11, [.int th, .ref (ma 1), .int (nI tl), .int ea, .int tk, .int dp, .ref sf, .ref (ma 2), .ref (ma 3), .ref (ma 4), .int wk, .ref sn])), (ma 1, .inl (g 0, 2000, .inl tf)), (sh, .inr (9, [.ref (ha 0), .ref (ha 1), .ref (ha 2), .ref (ha 3), .int (nI (q.1 0)), .ref (ha 4), .ref (ha 5), .ref (ha 6), .int (nI (q.1 1)), .ref (ha 7), .ref (ha 8), .ref (ha 9), .ref (ha 10), .int (nI (q.1 2)), .ref (ha 11), .ref (ha 12), .int (nI (q.1 3)), .ref (ha 13), .ref (ha 14), .ref (ha 15), .int (nI (q.1 4)), .ref (ha 16), .ref (ha 17), .ref (ha 18), .ref (ha 19), .ref (ha 20), .int q.2.2.2])), (ha 0, .inl (g 0, 401, .inl (cutN (k + 1) (fun j => km (tkS tf tl j)) k0))), (ha 1, .inl (g 0, 401, .inl (cutN (k + 1) (fun j => nI (tkP tf tl j)) f0))), (ha 2, .inl (g 0, 401, .inl (cutN (k + 1) (fun j => nI (tkM tf tl j)) m0)))] := by rw [he_8, he_9, he_10]; exact hD.sub [4, 5, 0, 1, 2, 3] (by decide +kernel) rfl
                        exact W.vret hx hb hr (fun t9 ht9 hW9 => ⟨⟨k, rfl, ⟨by omega, hf, hend⟩, by rw [ht9]; exact hP9, va_K.moved hW9.alike hK, hD9⟩, hS.F ht9⟩) hS.2.2 dX13_cut_109
                    · skip
                      have c_87 : ¬ (tkS tf tl k) = 0 := fun h => c_87 ((km_eq (a := (tkS tf tl k)) (b := 0) (by first | decide | assumption | exact hsq _) (by first | decide | assumption | exact hsq _)).mpr h)
                      exact absurd (lxS_0 (F := tf) (show tl ≤ tkP tf tl k by omega)) (fun h => c_87 (hke.symm.trans h))
                · skip
                  have hke : (1 : Nat) = tkS tf tl k := tkS_b h400
                  have hk4 : k = 400 := by omega
                  refine lv_iload_n hx hb dX13_cut_72 rfl (lv_at hl 3 rfl) ?_
                  refine lv_sipush (v := 400) hx hb dX13_cut_73 (by decide) ?_
                  refine lv_icmp_ne (tgt := 98) hx hb dX13_cut_76 (by decide) (fun c_76 => ?_) (fun c_76 => ?_)
                  · skip
                    have c_76 : ¬ k = 400 := fun h => c_76 ((nI_eq (a := k) (b := 400) (by omega) (by omega)).mpr h)
                    exact absurd hk4 c_76
                  · skip
                    have c_76 : k = 400 := (nI_eq (a := k) (b := 400) (by omega) (by omega)).mp c_76
                    refine lv_aload_n hx hb dX13_cut_79 rfl (lv_at hl 1 rfl) ?_
                    refine va_getN (D := D) (ci := 9) (v := .ref (ha 0)) (C := RX11) (T := TX11) (N := 27) hx hb hts in_X11 hown hK hP 0 rfl rfl 0 (by decide) (hZ.nst.use nw_1242) (fun _ h9 => h9) rfl dX13_cut_80 ?_
                    refine lv_iload_n hx hb dX13_cut_83 rfl (lv_at hl 3 rfl) ?_
                    refine k_ialdN hx hb hK hP 1 0 rfl rfl (by omega) (by first | decide | omega) dX13_cut_84 ?_
                    refine k_topi (show ((upd (cutN k (fun j => km (tkS tf tl j)) k0) k (km (lexS tf tl (tkP tf tl k) 0))) k) = (km (lexS tf tl (tkP tf tl k) 0)) from (by show (if k = k then _ else _) = _; rw [if_pos rfl])) ?_
                    refine lv_bipush (v := 70) hx hb dX13_cut_85 (by decide) ?_
                    refine lv_icmp_eq (tgt := 98) hx hb dX13_cut_87 (by decide) (fun c_87 => ?_) (fun c_87 => ?_)
                    · skip
                      have c_87 : (lexS tf tl (tkP tf tl k) 0) = 0 := (km_eq (a := (lexS tf tl (tkP tf tl k) 0)) (b := 0) (by first | decide | assumption | exact hsq _) (by first | decide | assumption | exact hsq _)).mp c_87
                      exact absurd (show lexS tf tl (tkP tf tl k) 0 = 0 from c_87) (lexS_n0 hF (by omega))
                    · skip
                      have c_87 : ¬ (lexS tf tl (tkP tf tl k) 0) = 0 := fun h => c_87 ((km_eq (a := (lexS tf tl (tkP tf tl k) 0)) (b := 0) (by first | decide | assumption | exact hsq _) (by first | decide | assumption | exact hsq _)).mpr h)
                      refine lv_aload_n hx hb dX13_cut_90 rfl (lv_at hl 1 rfl) ?_
                      refine va_getN (D := D) (ci := 9) (v := .ref (ha 0)) (C := RX11) (T := TX11) (N := 27) hx hb hts in_X11 hown hK hP 0 rfl rfl 0 (by decide) (hZ.nst.use nw_1242) (fun _ h9 => h9) rfl dX13_cut_91 ?_
                      refine lv_iload_n hx hb dX13_cut_94 rfl (lv_at hl 3 rfl) ?_
                      refine lv_bipush (v := 71) hx hb dX13_cut_95 (by decide) ?_
                      refine k_iastN hx hb hK hP hD hS 1 0 rfl rfl (by omega) (by first | decide | omega) dX13_cut_97 (fun H locs hP7 hD7 hS7 => ?_)
                      clear hP hD hS
                      have hP := hP7
                      have hD := hD7
                      have hS := hS7
                      clear hP7 hD7 hS7
                      replace hP : va_P D CLS [(sh, .inr (9, [.ref (ha 0), .ref (ha 1), .ref (ha 2), .ref (ha 3), .int (nI (q.1 0)), .ref (ha 4), .ref (ha 5), .ref (ha 6), .int (nI (q.1 1)), .ref (ha 7), .ref (ha 8), .ref (ha 9), .ref (ha 10), .int (nI (q.1 2)), .ref (ha 11), .ref (ha 12), .int (nI (q.1 3)), .ref (ha 13), .ref (ha 14), .ref (ha 15), .int (nI (q.1 4)), .ref (ha 16), .ref (ha 17), .ref (ha 18), .ref (ha 19), .ref (ha 20), .int q.2.2.2])), (ha 0, .inl (g 0, 401, .inl (upd (upd (cutN k (fun j => km (tkS tf tl j)) k0) k (km (lexS tf tl (tkP tf tl k) 0))) k 71))), (ha 1, .inl (g 0, 401, .inl (cutN (k + 1) (fun j => nI (tkP tf tl j)) f0))), (ha 2, .inl (g 0, 401, .inl (cutN (k + 1) (fun j => nI (tkM tf tl j)) m0))), (mo, .inr (11, [.int th, .ref (ma 1), .int (nI tl), .int ea, .int tk, .int dp, .ref sf, .ref (ma 2), .ref (ma 3), .ref (ma 4), .int wk, .ref sn])), (ma 1, .inl (g 0, 2000, .inl tf))] H := hP
                      replace hD : va_D A [(sh, .inr (9, [.ref (ha 0), .ref (ha 1), .ref (ha 2), .ref (ha 3), .int (nI (q.1 0)), .ref (ha 4), .ref (ha 5), .ref (ha 6), .int (nI (q.1 1)), .ref (ha 7), .ref (ha 8), .ref (ha 9), .ref (ha 10), .int (nI (q.1 2)), .ref (ha 11), .ref (ha 12), .int (nI (q.1 3)), .ref (ha 13), .ref (ha 14), .ref (ha 15), .int (nI (q.1 4)), .ref (ha 16), .ref (ha 17), .ref (ha 18), .ref (ha 19), .ref (ha 20), .int q.2.2.2])), (ha 0, .inl (g 0, 401, .inl (upd (upd (cutN k (fun j => km (tkS tf tl j)) k0) k (km (lexS tf tl (tkP tf tl k) 0))) k 71))), (ha 1, .inl (g 0, 401, .inl (cutN (k + 1) (fun j => nI (tkP tf tl j)) f0))), (ha 2, .inl (g 0, 401, .inl (cutN (k + 1) (fun j => nI (tkM tf tl j)) m0))), (mo, .inr (11, [.int th, .ref (ma 1), .int (nI tl), .int ea, .int tk, .int dp, .ref sf, .ref (ma 2), .ref (ma 3), .ref (ma 4), .int wk, .ref sn])), (ma 1, .inl (g 0, 2000, .inl tf))] := hD
                      rw [show upd (upd (cutN k (fun j => km (tkS tf tl j)) k0) k (km (lexS tf tl (tkP tf tl k) 0))) k 71 = (cutN (k + 1) (fun j => km (tkS tf tl j)) k0) from upd2_cut (h := fun j => km (tkS tf tl j)) (by rw [← hke]; rfl)] at hP hD
                      replace hP : va_P D CLS [(sh, .inr (9, [.ref (ha 0), .ref (ha 1), .ref (ha 2), .ref (ha 3), .int (nI (q.1 0)), .ref (ha 4), .ref (ha 5), .ref (ha 6), .int (nI (q.1 1)), .ref (ha 7), .ref (ha 8), .ref (ha 9), .ref (ha 10), .int (nI (q.1 2)), .ref (ha 11), .ref (ha 12), .int (nI (q.1 3)), .ref (ha 13), .ref (ha 14), .ref (ha 15), .int (nI (q.1 4)), .ref (ha 16), .ref (ha 17), .ref (ha 18), .ref (ha 19), .ref (ha 20), .int q.2.2.2])), (ha 0, .inl (g 0, 401, .inl (cutN (k + 1) (fun j => km (tkS tf tl j)) k0))), (ha 1, .inl (g 0, 401, .inl (cutN (k + 1) (fun j => nI (tkP tf tl j)) f0))), (ha 2, .inl (g 0, 401, .inl (cutN (k + 1) (fun j => nI (tkM tf tl j)) m0))), (mo, .inr (11, [.int th, .ref (ma 1), .int (nI tl), .int ea, .int tk, .int dp, .ref sf, .ref (ma 2), .ref (ma 3), .ref (ma 4), .int wk, .ref sn])), (ma 1, .inl (g 0, 2000, .inl tf))] H := hP
                      replace hD : va_D A [(sh, .inr (9, [.ref (ha 0), .ref (ha 1), .ref (ha 2), .ref (ha 3), .int (nI (q.1 0)), .ref (ha 4), .ref (ha 5), .ref (ha 6), .int (nI (q.1 1)), .ref (ha 7), .ref (ha 8), .ref (ha 9), .ref (ha 10), .int (nI (q.1 2)), .ref (ha 11), .ref (ha 12), .int (nI (q.1 3)), .ref (ha 13), .ref (ha 14), .ref (ha 15), .int (nI (q.1 4)), .ref (ha 16), .ref (ha 17), .ref (ha 18), .ref (ha 19), .ref (ha 20), .int q.2.2.2])), (ha 0, .inl (g 0, 401, .inl (cutN (k + 1) (fun j => km (tkS tf tl j)) k0))), (ha 1, .inl (g 0, 401, .inl (cutN (k + 1) (fun j => nI (tkP tf tl j)) f0))), (ha 2, .inl (g 0, 401, .inl (cutN (k + 1) (fun j => nI (tkM tf tl j)) m0))), (mo, .inr (11, [.int th, .ref (ma 1), .int (nI tl), .int ea, .int tk, .int dp, .ref sf, .ref (ma 2), .ref (ma 3), .ref (ma 4), .int wk, .ref sn])), (ma 1, .inl (g 0, 2000, .inl tf))] := hD
                      refine lv_aload_n hx hb dX13_cut_98 rfl (lv_at hl 1 rfl) ?_
                      refine va_getN (D := D) (ci := 9) (v := .ref (ha 0)) (C := RX11) (T := TX11) (N := 27) hx hb hts in_X11 hown hK hP 0 rfl rfl 0 (by decide) (hZ.nst.use nw_1242) (fun _ h9 => h9) rfl dX13_cut_99 ?_
                      refine lv_iload_n hx hb dX13_cut_102 rfl (lv_at hl 3 rfl) ?_
                      refine k_ialdN hx hb hK hP 1 0 rfl rfl (by omega) (by first | decide | omega) dX13_cut_103 ?_
                      refine k_topi (show ((cutN (k + 1) (fun j => km (tkS tf tl j)) k0) k) = (km (tkS tf tl k)) from (by show (if k < k + 1 then _ else _) = _; rw [if_pos (by omega)])) ?_
                      refine lv_bipush (v := 70) hx hb dX13_cut_104 (by decide) ?_
                      refine lv_icmp_lt (tgt := 110) hx hb dX13_cut_106 (by decide) (fun c_106 => ?_) (fun c_106 => ?_)
                      · skip
                        have hne := (km_70 _ (hlt49 k) tkS_4).1.mp c_106
                        refine lv_iload_n hx hb dX13_cut_110 rfl (lv_at hl 2 rfl) ?_
                        refine lv_aload_n hx hb dX13_cut_111 rfl (lv_at hl 1 rfl) ?_
                        refine va_getN (D := D) (ci := 9) (v := .ref (ha 2)) (C := RX11) (T := TX11) (N := 27) hx hb hts in_X11 hown hK hP 0 rfl rfl 2 (by decide) (hZ.nst.use nw_1246) (fun _ h9 => h9) rfl dX13_cut_112 ?_
                        refine lv_iload_n hx hb dX13_cut_115 rfl (lv_at hl 3 rfl) ?_
                        refine k_ialdN hx hb hK hP 3 0 rfl rfl (by omega) (by first | decide | omega) dX13_cut_116 ?_
                        refine k_topi (show ((cutN (k + 1) (fun j => nI (tkM tf tl j)) m0) k) = (nI (tkM tf tl k)) from (by show (if k < k + 1 then _ else _) = _; rw [if_pos (by omega)])) ?_
                        refine lv_iadd hx hb dX13_cut_117 ?_
                        refine k_topi (show ((nI (tkP tf tl k)) + (nI (tkM tf tl k))) = (nI (posn tf tl (k + 1))) from (by rw [nI_add]; exact congrArg nI (posn_s (tkM_e hne.1 hne.2)))) ?_
                        refine lv_istore_n (lv' := [(2, .int (nI (posn tf tl (k + 1)))), (0, .ref mo), (1, .ref sh), (3, .int (nI k))]) hx hb dX13_cut_118 rfl hl (by decide) rfl (fun ls hl => ?_)
                        refine lv_iinc (v := nI (k + 1)) (lv' := [(3, .int (nI (k + 1))), (2, .int (nI (posn tf tl (k + 1)))), (0, .ref mo), (1, .ref sh)]) hx hb dX13_cut_119 hl (k := 3) rfl (nI_1 k) (by decide) rfl (fun ls hl => ?_)
                        refine lv_goto (tgt := 4) hx hb dX13_cut_122 (by decide) ?_
                        exact ih_4  (k + 1) (by omega) (by omega) (ltS hf hne) _ _ (kSub hP [4, 5, 0, 1, 2, 3] rfl) (hD.sub [4, 5, 0, 1, 2, 3] (by decide +kernel) rfl) hS ls (lv_sub hl [2, 3, 1, 0] rfl)
                      · skip
                        have hend : tkS tf tl k = 0 ∨ tkS tf tl k = 1 := by
                          rcases Nat.eq_zero_or_pos (tkS tf tl k) with q | q
                          · exact Or.inl q
                          · rcases Nat.lt_or_ge 1 (tkS tf tl k) with q2 | q2
                            · exact absurd ((km_70 _ (hlt49 k) tkS_4).1.mpr ⟨by omega, by omega⟩) c_106
                            · exact Or.inr (by omega)
                        have he_11 : (cutN (k + 1) (fun j => km (tkS tf tl j)) k0) = (cutN (k + 1) (fun j => km (tkS tf tl j)) k0) := by rfl
                        have he_12 : (cutN (k + 1) (fun j => nI (tkP tf tl j)) f0) = (cutN (k + 1) (fun j => nI (tkP tf tl j)) f0) := by rfl
                        have he_13 : (cutN (k + 1) (fun j => nI (tkM tf tl j)) m0) = (cutN (k + 1) (fun j => nI (tkM tf tl j)) m0) := by rfl
                        have hP9 : va_P D CLS [(mo, .inr (11, [.int th, .ref (ma 1), .int (nI tl), .int ea, .int tk, .int dp, .ref sf, .ref (ma 2), .ref (ma 3), .ref (ma 4), .int wk, .ref sn])), (ma 1, .inl (g 0, 2000, .inl tf)), (sh, .inr (9, [.ref (ha 0), .ref (ha 1), .ref (ha 2), .ref (ha 3), .int (nI (q.1 0)), .ref (ha 4), .ref (ha 5), .ref (ha 6), .int (nI (q.1 1)), .ref (ha 7), .ref (ha 8), .ref (ha 9), .ref (ha 10), .int (nI (q.1 2)), .ref (ha 11), .ref (ha 12), .int (nI (q.1 3)), .ref (ha 13), .ref (ha 14), .ref (ha 15), .int (nI (q.1 4)), .ref (ha 16), .ref (ha 17), .ref (ha 18), .ref (ha 19), .ref (ha 20), .int q.2.2.2])), (ha 0, .inl (g 0, 401, .inl (cutN (k + 1) (fun j => km (tkS tf tl j)) k0))), (ha 1, .inl (g 0, 401, .inl (cutN (k + 1) (fun j => nI (tkP tf tl j)) f0))), (ha 2, .inl (g 0, 401, .inl (cutN (k + 1) (fun j => nI (tkM tf tl j)) m0)))] H := by rw [he_11, he_12, he_13]; exact kSub hP [4, 5, 0, 1, 2, 3] rfl
                        have hD9 : va_D A [(mo, .inr (11, [.int th, .ref (ma 1), .int (nI tl), .int ea, .int tk, .int dp, .ref sf, .ref (ma 2), .ref (ma 3), .ref (ma 4), .int wk, .ref sn])), (ma 1, .inl (g 0, 2000, .inl tf)), (sh, .inr (9, [.ref (ha 0), .ref (ha 1), .ref (ha 2), .ref (ha 3), .int (nI (q.1 0)), .ref (ha 4), .ref (ha 5), .ref (ha 6), .int (nI (q.1 1)), .ref (ha 7), .ref (ha 8), .ref (ha 9), .ref (ha 10), .int (nI (q.1 2)), .ref (ha 11), .ref (ha 12), .int (nI (q.1 3)), .ref (ha 13), .ref (ha 14), .ref (ha 15), .int (nI (q.1 4)), .ref (ha 16), .ref (ha 17), .ref (ha 18), .ref (ha 19), .ref (ha 20), .int q.2.2.2])), (ha 0, .inl (g 0, 401, .inl (cutN (k + 1) (fun j => km (tkS tf tl j)) k0))), (ha 1, .inl (g 0, 401, .inl (cutN (k + 1) (fun j => nI (tkP tf tl j)) f0))), (ha 2, .inl (g 0, 401, .inl (cutN (k + 1) (fun j => nI (tkM tf tl j)) m0)))] := by rw [he_11, he_12, he_13]; exact hD.sub [4, 5, 0, 1, 2, 3] (by decide +kernel) rfl
                        exact W.vret hx hb hr (fun t9 ht9 hW9 => ⟨⟨k, rfl, ⟨by omega, hf, hend⟩, by rw [ht9]; exact hP9, va_K.moved hW9.alike hK, hD9⟩, hS.F ht9⟩) hS.2.2 dX13_cut_109
              · skip
                have hpt : p < tl := fB_eq c_28 (by decide)
                refine lv_iinc (v := nI (p + 1)) (lv' := [(2, .int (nI (p + 1))), (0, .ref mo), (1, .ref sh), (3, .int (nI k))]) hx hb dX13_cut_31 hl (k := 2) rfl (nI_1 p) (by decide) rfl (fun ls hl => ?_)
                refine lv_goto (tgt := 11) hx hb dX13_cut_34 (by decide) ?_
                exact ih_11  (p + 1) (by omega) (by first | (have := fB_eq c_18 (by decide); omega) | (have := fB_eq c_28 (by decide); omega)) (by rw [← hs]; first | exact (skp_go (fB_eq c_18 (by decide)) (decide_eq_true (Or.inl ((fB_lt (fB_eq c_18 (by decide))).symm.trans c_18)))).symm | exact (skp_go (fB_eq c_28 (by decide)) (decide_eq_true (Or.inr ((fB_lt (fB_eq c_28 (by decide))).symm.trans c_28)))).symm) _ _ (kSub hP [4, 5, 0, 1, 2, 3] rfl) (hD.sub [4, 5, 0, 1, 2, 3] (by decide +kernel) rfl) hS ls (lv_sub hl [1, 2, 0, 3] rfl)
        exact loop_11 (tl - (posn tf tl k) + 1) (posn tf tl k) (by omega) hpn rfl _ _ (kSub hP [0, 1, 2, 3, 4, 5] rfl) (hD.sub [0, 1, 2, 3, 4, 5] (by decide +kernel) rfl) hS ls (lv_sub hl [0, 1, 2, 3] rfl)
  rw [show k0 = cutN 0 (fun j => km (tkS tf tl j)) k0 from cut_0.symm, show f0 = cutN 0 (fun j => nI (tkP tf tl j)) f0 from cut_0.symm, show m0 = cutN 0 (fun j => nI (tkM tf tl j)) m0 from cut_0.symm] at hP hD
  exact loop_4 (401 - 0 + 1) 0 (by omega) (Nat.zero_le _) (fun j h => absurd h (Nat.not_lt_zero j)) _ _ (kSub hP [0, 1, 2, 3, 4, 5] rfl) (hD.sub [0, 1, 2, 3, 4, 5] (by decide +kernel) rfl) hS ls (lv_sub hl [2, 3, 1, 0] rfl)
