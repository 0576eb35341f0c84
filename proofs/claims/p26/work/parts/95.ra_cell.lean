set_option maxHeartbeats 4000000 in
set_option maxRecDepth 100000 in
/-- ChoirStallsLaw.cell, of the script -/
theorem c_L_cell_S (l9 : Launch) (z : Nat → Nat) (D : va_G) (g : Nat → ClassId) (sa : Nat) (n : Nat) (f : Nat → Int32) (k : Nat) (hn : n < 1000) (hk : k < 1000) (sz : Nat) : Met l9 yL_cell (WS yL_cell cL_cell 2 (some .int)) ({ frames := 0, cells := 0, slots := 0, locals := 0 }) (va_Pc [.ref sa, .int (nI k)] (kPreU sa n f z D g [] sz)) (va_Qi (fun (r9 : Int32) (u9 : Unit) => r9 = cel n f k) (kB D g (va_A [] sz) (fun (u9 : Unit) => [])) (va_A [] sz)) 0 0 (va_A [] sz) := by
  refine Met.ofW (cc := cL_cell) (maxL := 2) (ret := (some .int)) (by decide) rfl ?_
  intro p9 e9 s9 m9 args9 below9 meth9 c9 s₁ B hml hv
  obtain ⟨rfl, hsz, hP, hK, hD0, hZ, hY, hG⟩ := hv
  have hx := B.exec
  have hb := B.bytes
  have hr := B.returns
  have hts := ws_sub (atoms_spec (ws := WS yL_cell cL_cell 2 (some .int)) B.pre)
  have hown : s9.vm.findClass RL = some m9.cls := findClass_of_methodNamed B.named
  have hlocks := B.notSynchronized
  subst hsz
  have hD := hD0.self (sz := s9.heap.size)
  generalize hAe : va_A [] s9.heap.size = A at hD hZ hY hG ⊢
  have hA : ∀ q : Nat, s9.heap.size ≤ q → A q := fun q h => by rw [← hAe]; exact Or.inr h
  have hS : va_S A s9.heap s9.heap [] := va_S.rf
  have hP : va_P D CLS [] s9.heap := hP
  have hl := lv_entry ([.ref sa, .int (nI k)]) (n := 2) (Nat.le_of_ble_eq_true rfl)
  rw [lg_entry_eq]
  generalize (lg_sl ([.ref sa, .int (nI k)]) ++ List.replicate (2 - (lg_sl ([.ref sa, .int (nI k)])).length) Slot.unset).toArray = ls at hl ⊢
  have hl : lv_has ls 2 [(0, .ref sa), (1, .int (nI k))] := hl
  change W p9 l9 e9 ({ frames := 0, cells := 0, slots := 0, locals := 0 } : Room) s9 m9 _ below9 meth9 c9 _ _ _ _ _ _
  refine lv_iload_n hx hb dL_cell_0 rfl (lv_at hl 1 rfl) ?_
  refine lv_aload_n hx hb dL_cell_1 rfl (lv_at hl 0 rfl) ?_
  refine va_tlen (v := nI n) hx hb hG hS rfl dL_cell_2 ?_
  refine lv_icmp_ge (tgt := 12) hx hb dL_cell_3 (by decide) (fun c_3 => ?_) (fun c_3 => ?_)
  · skip
    have c_3 : n ≤ k := (nI_leI (a := n) (b := k) (by omega) (by omega)).mp c_3
    refine lv_ldc (own := RL) (v := 790386105) hx hb hown (hts _ w_842) dL_cell_12 ?_
    refine lv_iload_n hx hb dL_cell_14 rfl (lv_at hl 1 rfl) ?_
    refine lv_iconst (v := 3) hx hb dL_cell_15 (by decide) ?_
    refine lv_iadd hx hb dL_cell_16 ?_
    refine lv_imul hx hb dL_cell_17 ?_
    have hr9 : (790386105 * ((nI k) + 3)) = (cel n f k) := by unfold cel; first | (rw [if_pos (by omega)]; done) | (rw [if_neg (by omega)]; done)
    have hP9 : va_P D CLS [] s9.heap := by exact kSub hP [] rfl
    have hD9 : va_D A [] := by exact hD.sub [] (by decide +kernel) rfl
    exact W.iret (v := (790386105 * ((nI k) + 3))) hx hb hr (fun t9 ht9 hW9 => ⟨⟨(790386105 * ((nI k) + 3)), (), rfl, hr9, by rw [ht9]; exact hP9, va_K.moved hW9.alike hK, hD9⟩, hS.F ht9⟩) hS.2.2 dL_cell_18
  · skip
    have c_3 : ¬ n ≤ k := fun h => c_3 ((nI_leI (a := n) (b := k) (by omega) (by omega)).mpr h)
    refine lv_aload_n hx hb dL_cell_6 rfl (lv_at hl 0 rfl) ?_
    refine lv_iload_n hx hb dL_cell_7 rfl (lv_at hl 1 rfl) ?_
    refine va_ti (v := .int (f k)) hx hb hG hS (vp_in_nI (by omega) (by omega)) (by rw [nI_clamp (by omega)]) dL_cell_8 ?_
    refine lv_goto (tgt := 18) hx hb dL_cell_9 (by decide) ?_
    have hr9 : (f k) = (cel n f k) := by unfold cel; first | (rw [if_pos (by omega)]; done) | (rw [if_neg (by omega)]; done)
    have hP9 : va_P D CLS [] s9.heap := by exact kSub hP [] rfl
    have hD9 : va_D A [] := by exact hD.sub [] (by decide +kernel) rfl
    exact W.iret (v := f k) hx hb hr (fun t9 ht9 hW9 => ⟨⟨f k, (), rfl, hr9, by rw [ht9]; exact hP9, va_K.moved hW9.alike hK, hD9⟩, hS.F ht9⟩) hS.2.2 dL_cell_18
