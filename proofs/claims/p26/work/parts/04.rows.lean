/-! small rows of ours: booleans, switches, arrays at counted places -/
def bI (b : Bool) : Int32 := if b = true then 1 else 0
theorem bI_0 {b : Bool} : bI b = 0 ↔ b = false := by cases b <;> simp [bI]
theorem bI_1 {b : Bool} : ¬ bI b = 0 ↔ b = true := by cases b <;> simp [bI]
theorem bI_t : bI true = 1 := rfl
theorem bI_f : bI false = 0 := rfl
theorem k_nb0 : narrow .boolean (.int 0) = .int 0 := rfl
theorem k_nb1 : narrow .boolean (.int 1) = .int 1 := rfl
theorem k_nbI (b : Bool) : narrow .boolean (.int (bI b)) = .int (bI b) := by cases b <;> rfl
theorem lgc_eq {x y : Int64} : lg_cmp x y = 0 ↔ x = y := by
  unfold lg_cmp
  by_cases h1 : y < x
  · simp only [h1, if_true]
    constructor
    · intro h; exact absurd h (by decide)
    · intro h; subst h; exact absurd h1 (Int64.lt_irrefl)
  · by_cases h2 : x = y
    · subst h2; simp [h1]
    · simp only [h1, if_false, h2]
      constructor
      · intro h; exact absurd h (by decide)
      · intro h; exact h.elim
theorem k_swout {x : Int32} (lo hi : Int) (n : Nat) (hh : hi = lo + n - 1) (h1 : -2147483648 ≤ lo) (h2 : lo + n ≤ 2147483648) (h : ∀ k : Nat, k < n → ¬ x = Int32.ofInt (lo + k)) : x.toInt < lo ∨ hi < x.toInt := by
  by_cases a : x.toInt < lo
  · exact Or.inl a
  · by_cases b : hi < x.toInt
    · exact Or.inr b
    · exfalso
      have hk := h (x.toInt - lo).toNat (by omega)
      apply hk
      have e : lo + ((x.toInt - lo).toNat : Int) = x.toInt := by omega
      rw [e, Int32.ofInt_toInt]
def sgo (z : Nat → Nat) (k : Nat) : Option Nat := if k < 49 then some (z k) else none
def sg (k : Nat) : Nat := if k < 49 then k else 1
theorem sg_lt (k : Nat) : sg k < 49 := by unfold sg; split <;> omega
theorem sg_of {k : Nat} (h : k < 49) : sg k = k := by unfold sg; rw [if_pos h]
theorem sg_not {k : Nat} (h : ¬ k < 49) : sg k = 1 := by unfold sg; rw [if_neg h]
theorem sgo_up (z : Nat → Nat) (kq : Nat → Nat) (j k : Nat) (hk : k < 49) : va_up (fun i9 => sgo z (kq i9)) j (some (z k)) = fun i9 => sgo z (va_up kq j k i9) := by
  funext i9
  by_cases h : i9 = j
  · simp [va_up, h, sgo, hk]
  · simp [va_up, h, sgo]
theorem SGo_is : ∀ k, k < 49 → SGo.getD k 0 = nI k := by decide +kernel
section KR
variable {p : Program} {l : Launch} {e : Env} {R : Room} {s : State} {m : MethodId} {args : Array Value} {below : List Frame} {meth : Method} {c : Code} {H : Heap} {locs : List Loc} {cells slots : Nat} {Q : State → Prop}
variable {cc : ByteArray} {pc : Nat} {ls : Array Slot} {rest : List Value} {D : va_G} {cl : List vw_C} {A : Nat → Prop} {a : Nat} {tys : List (ClassId × FieldType)} {ws : va_W} {H0 : Heap}
theorem k_clsI {g : Nat → ClassId} {cA : ClassId} (h : va_K D CLS (TYS g) s) (h9 : va_K D CLS (TYS g ++ [(cA, .int)]) s) : cA = g 0 := by
  have a1 : s.vm.findClass _ = some (g 0) := (h.2 0 _ rfl).2
  have a2 : s.vm.findClass _ = some cA := (h9.2 6 _ rfl).2
  exact Option.some.inj (a2.symm.trans a1)
theorem k_clsJ {g : Nat → ClassId} {cA : ClassId} (h : va_K D CLS (TYS g) s) (h9 : va_K D CLS (TYS g ++ [(cA, .long)]) s) : cA = g 1 := by
  have a1 : s.vm.findClass _ = some (g 1) := (h.2 1 _ rfl).2
  have a2 : s.vm.findClass _ = some cA := (h9.2 6 _ rfl).2
  exact Option.some.inj (a2.symm.trans a1)
theorem k_clsS {g : Nat → ClassId} {cA : ClassId} (h : va_K D CLS (TYS g) s) (h9 : va_K D CLS (TYS g ++ [(cA, .object "ChoirStalls$Sign")]) s) : cA = g 2 := by
  obtain ⟨_, _, _, _, _, a1⟩ := (h.2 2 _ rfl).2
  obtain ⟨_, _, _, _, _, a2⟩ := (h9.2 6 _ rfl).2
  exact Option.some.inj (a2.symm.trans a1)
theorem k_topi {x y : Int32} (h : x = y) (k : W p l e R s m args below meth c H locs cells slots Q (F0 m pc ls (.int y :: rest))) : W p l e R s m args below meth c H locs cells slots Q (F0 m pc ls (.int x :: rest)) := h ▸ k
theorem k_topl {x y : Int64} (h : x = y) (k : W p l e R s m args below meth c H locs cells slots Q (F0 m pc ls (.long y :: rest))) : W p l e R s m args below meth c H locs cells slots Q (F0 m pc ls (.long x :: rest)) := h ▸ k
theorem k_tops {z : Nat → Nat} {x y : Nat} (h : x = y) (k : W p l e R s m args below meth c H locs cells slots Q (F0 m pc ls (.ref (z y) :: rest))) : W p l e R s m args below meth c H locs cells slots Q (F0 m pc ls (.ref (z x) :: rest)) := h ▸ k
theorem k_inc (hexec : p.tables.exec = Jvm.exec) (hb : c.code = cc) {k : Nat} (hdg : decode cc pc = .ok (.iadd, 1)) (kk : W p l e R s m args below meth c H locs cells slots Q (F0 m (pc + 1) ls (.int (nI (k + 1)) :: rest))) : W p l e R s m args below meth c H locs cells slots Q (F0 m pc ls (.int 1 :: .int (nI k) :: rest)) := by
  refine lv_iadd hexec hb hdg ?_
  rw [nI_1]
  exact kk
theorem k_ialdN (hexec : p.tables.exec = Jvm.exec) (hb : c.code = cc) (hK : va_K D cl tys s) (hP : va_P D cl ws H) (q0 t0 : Nat) {cA : ClassId} {n : Nat} {f : Nat → Int32} (ha : ws[q0]? = some (a, .inl (cA, n, .inl f))) (ht : tys[t0]? = some (cA, .int)) {i : Nat} (hi : i < n) (hn : n < 2147483648) (hdg : decode cc pc = .ok (.iaload, 1))
    (kk : W p l e R s m args below meth c H locs cells slots Q (F0 m (pc + 1) ls (.int (f i) :: rest))) : W p l e R s m args below meth c H locs cells slots Q (F0 m pc ls (.int (nI i) :: .ref a :: rest)) := by
  refine va_iald hexec hb hK hP q0 t0 ha ht (vp_in_nI hi hn) hdg ?_
  rw [nI_clamp (by omega)]
  exact kk
theorem k_laldN (hexec : p.tables.exec = Jvm.exec) (hb : c.code = cc) (hK : va_K D cl tys s) (hP : va_P D cl ws H) (q0 t0 : Nat) {cA : ClassId} {n : Nat} {f : Nat → Int64} (ha : ws[q0]? = some (a, .inl (cA, n, .inr (.inl f)))) (ht : tys[t0]? = some (cA, .long)) {i : Nat} (hi : i < n) (hn : n < 2147483648) (hdg : decode cc pc = .ok (.laload, 1))
    (kk : W p l e R s m args below meth c H locs cells slots Q (F0 m (pc + 1) ls (.long (f i) :: rest))) : W p l e R s m args below meth c H locs cells slots Q (F0 m pc ls (.int (nI i) :: .ref a :: rest)) := by
  refine va_lald hexec hb hK hP q0 t0 ha ht (vp_in_nI hi hn) hdg ?_
  rw [nI_clamp (by omega)]
  exact kk
theorem k_iastN (hexec : p.tables.exec = Jvm.exec) (hb : c.code = cc) (hK : va_K D cl tys s) (hP : va_P D cl ws H) (hD : va_D A ws) (hS : va_S A H0 H locs) (q0 t0 : Nat) {cA : ClassId} {n : Nat} {f : Nat → Int32} (ha : ws[q0]? = some (a, .inl (cA, n, .inl f))) (ht : tys[t0]? = some (cA, .int)) {i : Nat} {x : Int32} (hi : i < n) (hn : n < 2147483648) (hdg : decode cc pc = .ok (.iastore, 1))
    (kk : ∀ (H1 : Heap) (locs1 : List Loc), va_P D cl (ws.set q0 (a, .inl (cA, n, .inl (upd f i x)))) H1 → va_D A (ws.set q0 (a, .inl (cA, n, .inl (upd f i x)))) → va_S A H0 H1 locs1 → W p l e R s m args below meth c H1 locs1 cells slots Q (F0 m (pc + 1) ls rest)) : W p l e R s m args below meth c H locs cells slots Q (F0 m pc ls (.int x :: .int (nI i) :: .ref a :: rest)) := by
  refine va_iast hexec hb hK hP hD hS q0 t0 ha ht (vp_in_nI hi hn) hdg ?_
  rw [nI_clamp (by omega)]
  exact kk
theorem k_lastN (hexec : p.tables.exec = Jvm.exec) (hb : c.code = cc) (hK : va_K D cl tys s) (hP : va_P D cl ws H) (hD : va_D A ws) (hS : va_S A H0 H locs) (q0 t0 : Nat) {cA : ClassId} {n : Nat} {f : Nat → Int64} (ha : ws[q0]? = some (a, .inl (cA, n, .inr (.inl f)))) (ht : tys[t0]? = some (cA, .long)) {i : Nat} {x : Int64} (hi : i < n) (hn : n < 2147483648) (hdg : decode cc pc = .ok (.lastore, 1))
    (kk : ∀ (H1 : Heap) (locs1 : List Loc), va_P D cl (ws.set q0 (a, .inl (cA, n, .inr (.inl (vp_updL f i x))))) H1 → va_D A (ws.set q0 (a, .inl (cA, n, .inr (.inl (vp_updL f i x))))) → va_S A H0 H1 locs1 → W p l e R s m args below meth c H1 locs1 cells slots Q (F0 m (pc + 1) ls rest)) : W p l e R s m args below meth c H locs cells slots Q (F0 m pc ls (.long x :: .int (nI i) :: .ref a :: rest)) := by
  refine va_last hexec hb hK hP hD hS q0 t0 ha ht (vp_in_nI hi hn) hdg ?_
  rw [nI_clamp (by omega)]
  exact kk
theorem k_sald {z : Nat → Nat} {kq : Nat → Nat} (hexec : p.tables.exec = Jvm.exec) (hb : c.code = cc) (hK : va_K D cl tys s) (hP : va_P D cl ws H) (q0 t0 : Nat) {cA : ClassId} {C : String} {n : Nat} (ha : ws[q0]? = some (a, .inl (cA, n, .inr (.inr (.inr (.inr (fun i9 => sgo z (kq i9)))))))) (ht : tys[t0]? = some (cA, .object C)) {i : Int32} (hin : vp_in i n) (hdg : decode cc pc = .ok (.aaload, 1))
    (k1 : kq i.toNatClampNeg < 49 → W p l e R s m args below meth c H locs cells slots Q (F0 m (pc + 1) ls (.ref (z (kq i.toNatClampNeg)) :: rest))) (k2 : ¬ kq i.toNatClampNeg < 49 → W p l e R s m args below meth c H locs cells slots Q (F0 m (pc + 1) ls (.null :: rest))) : W p l e R s m args below meth c H locs cells slots Q (F0 m pc ls (.int i :: .ref a :: rest)) := by
  refine va_aldq hexec hb hK hP q0 t0 ha ht hin hdg ?_
  by_cases h : kq i.toNatClampNeg < 49
  · rw [show sgo z (kq i.toNatClampNeg) = some (z (kq i.toNatClampNeg)) from if_pos h]
    exact k1 h
  · rw [show sgo z (kq i.toNatClampNeg) = none from if_neg h]
    exact k2 h
theorem k_saldN {z : Nat → Nat} {kq : Nat → Nat} (hexec : p.tables.exec = Jvm.exec) (hb : c.code = cc) (hK : va_K D cl tys s) (hP : va_P D cl ws H) (q0 t0 : Nat) {cA : ClassId} {C : String} {n : Nat} (ha : ws[q0]? = some (a, .inl (cA, n, .inr (.inr (.inr (.inr (fun i9 => sgo z (kq i9)))))))) (ht : tys[t0]? = some (cA, .object C)) {i : Nat} (hi : i < n) (hn : n < 2147483648) (hdg : decode cc pc = .ok (.aaload, 1))
    (k1 : kq i < 49 → W p l e R s m args below meth c H locs cells slots Q (F0 m (pc + 1) ls (.ref (z (kq i)) :: rest))) (k2 : ¬ kq i < 49 → W p l e R s m args below meth c H locs cells slots Q (F0 m (pc + 1) ls (.null :: rest))) : W p l e R s m args below meth c H locs cells slots Q (F0 m pc ls (.int (nI i) :: .ref a :: rest)) := by
  have hc : (nI i).toNatClampNeg = i := nI_clamp (by omega)
  refine k_sald hexec hb hK hP q0 t0 ha ht (vp_in_nI hi hn) hdg ?_ ?_
  · rw [hc]; exact k1
  · rw [hc]; exact k2
theorem k_sastN {z : Nat → Nat} {kq : Nat → Nat} (hexec : p.tables.exec = Jvm.exec) (hb : c.code = cc) (hZ : Zs z A s s.heap) (hK : va_K D cl tys s) (hP : va_P D cl ws H) (hD : va_D A ws) (hS : va_S A s.heap H locs) (q0 t0 : Nat) {cA : ClassId} {n k : Nat} (hk : k < 49) (ha : ws[q0]? = some (a, .inl (cA, n, .inr (.inr (.inr (.inr (fun i9 => sgo z (kq i9)))))))) (ht : tys[t0]? = some (cA, .object "ChoirStalls$Sign")) {i : Nat} (hi : i < n) (hn : n < 2147483648) (hdg : decode cc pc = .ok (.aastore, 1))
    (kk : ∀ (H1 : Heap) (locs1 : List Loc), va_P D cl (ws.set q0 (a, .inl (cA, n, .inr (.inr (.inr (.inr (fun i9 => sgo z (va_up kq i k i9)))))))) H1 → va_D A (ws.set q0 (a, .inl (cA, n, .inr (.inr (.inr (.inr (fun i9 => sgo z (va_up kq i k i9)))))))) → va_S A s.heap H1 locs1 → W p l e R s m args below meth c H1 locs1 cells slots Q (F0 m (pc + 1) ls rest)) : W p l e R s m args below meth c H locs cells slots Q (F0 m pc ls (.ref (z k) :: .int (nI i) :: .ref a :: rest)) := by
  refine vb_astq hexec hb hK hP hD hS q0 t0 ha ht (C := "ChoirStalls$Sign") (va_recvE hZ.en hk hS) vb_asgS (vp_in_nI hi hn) hdg ?_
  rw [nI_clamp (by omega), sgo_up z kq i k hk]
  exact kk
theorem k_tdef (hexec : p.tables.exec = Jvm.exec) (hb : c.code = cc) {dflt lo hi : Int} {offs : Array Int} {len : Nat} {x : Int32} {tgt : Nat} (n : Nat) (hdg : decode cc pc = .ok (.tableswitch dflt lo hi offs, len)) (hh : hi = lo + n - 1) (h1 : -2147483648 ≤ lo) (h2 : lo + n ≤ 2147483648) (h : ∀ k : Nat, k < n → offs[k]? = some dflt ∨ ¬ x = Int32.ofInt (lo + k)) (ht : (pc : Int) + dflt = (tgt : Int))
    (kk : W p l e R s m args below meth c H locs cells slots Q (F0 m tgt ls rest)) : W p l e R s m args below meth c H locs cells slots Q (F0 m pc ls (.int x :: rest)) := by
  by_cases a : x.toInt < lo
  · exact lv_tableOut hexec hb hdg (Or.inl a) ht kk
  · by_cases b : hi < x.toInt
    · exact lv_tableOut hexec hb hdg (Or.inr b) ht kk
    · refine lv_tableIn hexec hb hdg a b ?_ ht kk
      rcases h (x.toInt - lo).toNat (by omega) with q | q
      · exact q
      · exfalso
        apply q
        have e : lo + ((x.toInt - lo).toNat : Int) = x.toInt := by omega
        rw [e, Int32.ofInt_toInt]
theorem k_acmp_eq {z : Nat → Nat} (hexec : p.tables.exec = Jvm.exec) (hb : c.code = cc) (hZ : Zs z A s s.heap) {i j : Nat} (hi : i < 49) (hj : j < 49) {off : Int} {tgt : Nat} (hdg : decode cc pc = .ok (.if_acmp .eq off, 3)) (ht : (pc : Int) + off = (tgt : Int))
    (kt : i = j → W p l e R s m args below meth c H locs cells slots Q (F0 m tgt ls rest)) (kf : ¬ i = j → W p l e R s m args below meth c H locs cells slots Q (F0 m (pc + 3) ls rest)) : W p l e R s m args below meth c H locs cells slots Q (F0 m pc ls (.ref (z j) :: .ref (z i) :: rest)) :=
  lv_acmp_eq (rx := some (z i)) (ry := some (z j)) hexec hb hdg ht (fun h => kt (hZ.en.2 i j hi hj (Option.some.inj h))) (fun h => kf (fun q => h (by rw [q])))
theorem k_acmp_ne {z : Nat → Nat} (hexec : p.tables.exec = Jvm.exec) (hb : c.code = cc) (hZ : Zs z A s s.heap) {i j : Nat} (hi : i < 49) (hj : j < 49) {off : Int} {tgt : Nat} (hdg : decode cc pc = .ok (.if_acmp .ne off, 3)) (ht : (pc : Int) + off = (tgt : Int))
    (kt : ¬ i = j → W p l e R s m args below meth c H locs cells slots Q (F0 m tgt ls rest)) (kf : i = j → W p l e R s m args below meth c H locs cells slots Q (F0 m (pc + 3) ls rest)) : W p l e R s m args below meth c H locs cells slots Q (F0 m pc ls (.ref (z j) :: .ref (z i) :: rest)) :=
  lv_acmp_ne (rx := some (z i)) (ry := some (z j)) hexec hb hdg ht (fun h => kt (fun q => h (by rw [q]))) (fun h => kf (hZ.en.2 i j hi hj (Option.some.inj h)))
end KR
