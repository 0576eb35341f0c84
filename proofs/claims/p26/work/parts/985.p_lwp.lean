/-! rows of a table made at once, behind the law's model -/
theorem rowW_mem {g0 : ClassId} {ad : Nat → Nat} {n k i : Nat} {M : Nat → Nat → Int32} (hi : i < n) : ((ad i, .inl (g0, k, .inl (M i))) : Nat × va_E) ∈ rowW g0 ad n k M := by
  obtain ⟨W0, h⟩ := rowW_at (g0 := g0) (ad := ad) (k := k) (M := M) hi
  exact (h M (fun _ _ => rfl)).mem_iff.mpr List.mem_cons_self
def upR (M : Nat → Nat → Int32) (i q : Nat) (v : Int32) : Nat → Nat → Int32 := fun i' => if i' = i then upd (M i) q v else M i'
theorem upR_s {M : Nat → Nat → Int32} {i q : Nat} {v : Int32} : upR M i q v i = upd (M i) q v := if_pos rfl
theorem upR_n {M : Nat → Nat → Int32} {i q i' : Nat} {v : Int32} (h : i' ≠ i) : upR M i q v i' = M i' := if_neg h
theorem va_P.drp {D : va_G} {cl : List vw_C} {X pl pr : va_W} {H : Heap} (h : va_P D cl (X ++ (pl ++ pr)) H) : va_P D cl (X ++ pl) H := fun k q hk => h k q (by
  rw [← List.append_assoc, List.getElem?_append_left (List.getElem?_eq_some_iff.mp hk).1]; exact hk)
theorem va_D.drp {A : Nat → Prop} {X pl pr : va_W} (h : va_D A (X ++ (pl ++ pr))) : va_D A (X ++ pl) := by
  have e : ∀ (k : Nat) (q : Nat × va_E), (X ++ pl)[k]? = some q → (X ++ (pl ++ pr))[k]? = some q := fun k q hk => by
    rw [← List.append_assoc, List.getElem?_append_left (List.getElem?_eq_some_iff.mp hk).1]; exact hk
  exact ⟨fun i j p q hi hj => h.1 i j p q (e i p hi) (e j q hj), fun k q hk => h.2 k q (e k q hk)⟩
theorem map_rng (L : va_W) : (List.range L.length).map (fun i => L[i]?) = L.map some := by
  apply List.ext_getElem?
  intro i
  rw [List.getElem?_map, List.getElem?_map]
  by_cases h : i < L.length
  · rw [List.getElem?_range h, List.getElem?_eq_getElem h]
    show some L[i]? = some (some L[i])
    rw [List.getElem?_eq_getElem h]
  · rw [List.getElem?_eq_none (by rw [List.length_range]; omega), List.getElem?_eq_none (by omega)]; rfl
/-- a call's cells and the rest, without places -/
theorem va_joinL {A0 : Nat → Prop} {D : va_G} {cl : List vw_C} {cs rs w1 : va_W} {H H1 : Heap} (hP : va_P D cl (cs ++ rs) H) (hD : va_D A0 (cs ++ rs))
    (hk : ∀ q : Nat, q < H.size → ¬ va_A cs H.size q → H1[q]? = H[q]?) (hF : ∀ q, va_A cs H.size q → A0 q) (hP1 : va_P D cl w1 H1) (hD1 : va_D (va_A cs H.size) w1) : va_P D cl (w1 ++ rs) H1 ∧ va_D A0 (w1 ++ rs) := by
  have h := va_joinQ (wr := []) hP hD (List.range cs.length) [] (map_rng cs) rfl rfl (fun i hi => absurd hi List.not_mem_nil) hk hF hP1 hD1
  rw [List.nil_append] at h
  exact h
section K8
variable {p : Program} {l : Launch} {e : Env} {R : Room} {s : State} {m : MethodId} {args : Array Value} {below : List Frame} {meth : Method} {c : Code} {H H0 : Heap} {locs : List Loc} {cells slots : Nat} {Q : State → Prop}
variable {z : Nat → Nat} {D : va_G} {g : Nat → ClassId} {A : Nat → Prop} {ws wc wr X cx pl pr : va_W} {cc : ByteArray} {pc a : Nat} {ls : Array Slot} {rest st0 : List Value} {mc ms : Nat}
theorem k_clsA {cA : ClassId} {s : State} (h : va_K D CLS (TYS g) s) (h9 : va_K D CLS (TYS g ++ [(cA, .array .int)]) s) : cA = g 4 := by
  have a1 : s.vm.findClass _ = some (g 4) := (h.2 4 _ rfl).2
  have a2 : s.vm.findClass _ = some cA := (h9.2 6 _ rfl).2
  exact Option.some.inj (a2.symm.trans a1)
theorem rows_0 {r : Nat → Nat} {N : Nat} {c0 : ClassId} {f : Nat → va_E} : va_pl ([] ++ (List.range N).map r) (vr_up f ((List.range N).map r) (.inl (c0, (7, .inl (fun _ => 0))))) = rowW c0 r N 7 (fun _ _ => 0) := by
  unfold va_pl rowW
  rw [List.nil_append, List.map_map]
  refine List.map_congr_left fun i hi => ?_
  show (r i, vr_up f ((List.range N).map r) (.inl (c0, (7, .inl (fun _ => 0)))) (r i)) = _
  rw [vr_up_in (List.mem_map.mpr ⟨i, hi, rfl⟩)]
theorem k_mnaS (hexec : p.tables.exec = Jvm.exec) (hb : c.code = cc) {own : String} {index : Nat} (hown : s.vm.findClass own = some m.cls) (hcl : (Cond.classLink own index "[[I").before args s = true) (hO : va_AOA .int s) (harr : (Cond.arrayClass .int).before args s = true) (hK : va_K D CLS (TYS g) s) (hP : va_P D CLS (X ++ pl) H) (hD : va_D A (X ++ pl)) (hS : va_S A H0 H locs) (hA : ∀ q, H0.size ≤ q → A q)
    {N : Nat} (hN : N < 1000) (hcells : cells + (1 + N) ≤ R.cells) (hslots : slots + (N + N * 7) ≤ R.slots) (hdg : decode cc pc = .ok (.multianewarray index 2, 4))
    (kk : ∀ (q : Nat) (sd : Nat → Nat) (H1 : Heap), va_P D CLS ((X ++ [(q, .inl (g 4, N, .inr (.inr (.inr (.inr (bld sd N))))))]) ++ (pl ++ rowW (g 0) sd N 7 (fun _ _ => 0))) H1 → va_D A ((X ++ [(q, .inl (g 4, N, .inr (.inr (.inr (.inr (bld sd N))))))]) ++ (pl ++ rowW (g 0) sd N 7 (fun _ _ => 0))) → va_S A H0 H1 locs → W p l e R s m args below meth c H1 locs (cells + 1 + N) (slots + N + N * 7) Q (F0 m (pc + 4) ls (.ref q :: rest))) : W p l e R s m args below meth c H locs cells slots Q (F0 m pc ls (.int 7 :: .int (nI N) :: rest)) := by
  have a0 : s.vm.findClass (FieldType.array .int).toString = some (g 0) := by rw [nmI1]; exact va_nm_int (hK.2 0 _ rfl).2
  refine va_mna (X := X ++ pl) (L := []) (f := fun _ => .inl (g 0, (7, .inl (fun _ => 0)))) (ty := .int) (z := (7, .inl (fun _ => 0))) (N' := N) (K' := 7) hexec hb hown (by rw [nmII]; exact hcl) hO harr a0 hK (by rw [show va_pl [] (fun _ => (.inl (g 0, (7, .inl (fun _ => 0))) : va_E)) = [] from rfl, List.append_nil]; exact hP) (by rw [show va_pl [] (fun _ => (.inl (g 0, (7, .inl (fun _ => 0))) : va_E)) = [] from rfl, List.append_nil]; exact hD) hS hA (nI_pos (by omega)) (by decide) (nI_clamp (by omega)) (by decide)
    (by omega) (by decide) (by decide) (by rfl) (by rfl) hcells hslots (fun c9 => (show ({ cls := c9, slots := Array.replicate 7 (.int 0), vm := .none } : Cell) = _ from by rw [arrV_new]; rfl)) hdg (fun q r cA H1 hr hL hK9 hP1 hD1 hS1 => ?_)
  obtain rfl := k_clsA hK hK9
  rw [rows_0] at hP1 hD1
  exact kk q r H1 (vr_lay (pl := pl) hP1) (vr_layD (pl := pl) hD1) hS1
theorem k_ldR (hexec : p.tables.exec = Jvm.exec) (hb : c.code = cc) (hK : va_K D CLS (TYS g) s) {sd : Nat → Nat} {N : Nat} {S : Nat → Nat → Int32} (hP : va_P D CLS (X ++ (pl ++ rowW (g 0) sd N 7 S)) H) {i q : Nat} (hi : i < N) (hq : q < 7) (hdg : decode cc pc = .ok (.iaload, 1))
    (kk : W p l e R s m args below meth c H locs cells slots Q (F0 m (pc + 1) ls (.int (S i q) :: rest))) : W p l e R s m args below meth c H locs cells slots Q (F0 m pc ls (.int (nI q) :: .ref (sd i) :: rest)) := by
  have hP1 := rowP hP (List.mem_append_right X (List.mem_append_right pl (rowW_mem (g0 := g 0) (ad := sd) (k := 7) (M := S) hi)))
  exact k_ialdN hexec hb hK hP1 0 0 rfl rfl hq (by decide) hdg kk
theorem k_stR (hexec : p.tables.exec = Jvm.exec) (hb : c.code = cc) (hK : va_K D CLS (TYS g) s) {sd : Nat → Nat} {N : Nat} {S : Nat → Nat → Int32} (hP : va_P D CLS (X ++ (pl ++ rowW (g 0) sd N 7 S)) H) (hD : va_D A (X ++ (pl ++ rowW (g 0) sd N 7 S))) (hS : va_S A H0 H locs) {i q : Nat} (hi : i < N) (hq : q < 7) {v : Int32} (hdg : decode cc pc = .ok (.iastore, 1))
    (kk : ∀ (H1 : Heap) (locs1 : List Loc), va_P D CLS (X ++ (pl ++ rowW (g 0) sd N 7 (upR S i q v))) H1 → va_D A (X ++ (pl ++ rowW (g 0) sd N 7 (upR S i q v))) → va_S A H0 H1 locs1 → W p l e R s m args below meth c H1 locs1 cells slots Q (F0 m (pc + 1) ls rest)) : W p l e R s m args below meth c H locs cells slots Q (F0 m pc ls (.int v :: .int (nI q) :: .ref (sd i) :: rest)) := by
  obtain ⟨W0, h0⟩ := rowW_at (g0 := g 0) (ad := sd) (k := 7) (M := S) hi
  have p1 := pmL (P := X) (pmL (P := pl) (h0 S (fun _ _ => rfl)))
  have p2 := pmL (P := X) (pmL (P := pl) (h0 (upR S i q v) (fun _ h => upR_n h)))
  rw [upR_s] at p2
  exact k_iastN hexec hb hK (hP.perm p1) (hD.perm p1) hS 0 0 rfl rfl hq (by decide) hdg (fun H1 locs1 hP3 hD3 hS3 => kk H1 locs1 (hP3.perm p2.symm) (hD3.perm p2.symm) hS3)
/-- a call that takes the law's model, other rows behind it -/
theorem k_vPP {S : Type} {post : S → Prop} {w1 pl1 : S → va_W} {aa : Array Value} (hA : ∀ q : Nat, s.heap.size ≤ q → A q) (hP : va_P D CLS (X ++ (pl ++ pr)) H) (hD : va_D A (X ++ (pl ++ pr))) (hS : va_S A s.heap H locs) (wr : va_W)
    (hr : va_Run p l e R s m args below meth c H locs cells slots mc ms (F0 m pc ls st0) rest (va_Qv post (kB D g (va_A (cx ++ pl) H.size) (fun u => w1 u ++ pl1 u)) (va_A (cx ++ pl) H.size) aa) (va_A (cx ++ pl) H.size)) (isC isR : List Nat) (hC : isC.map (fun i => X[i]?) = cx.map some) (hR : isR.map (fun i => X[i]?) = wr.map some) (hn : va_nd (isC ++ isR) = true) (hdis : isR.all (fun i => !isC.contains i) = true)
    (kk : ∀ (u : S) (H1 : Heap) (locs1 : List Loc), post u → va_P D CLS ((wr ++ w1 u) ++ (pl1 u ++ pr)) H1 → va_D A ((wr ++ w1 u) ++ (pl1 u ++ pr)) → va_S A s.heap H1 locs1 → W p l e R s m args below meth c H1 locs1 (cells + mc) (slots + ms) Q (F0 m (pc + 3) ls rest)) : W p l e R s m args below meth c H locs cells slots Q (F0 m pc ls st0) := by
  have hCR : (isC ++ isR).map (fun i => X[i]?) = (cx ++ wr).map some := by rw [List.map_append, List.map_append, hC, hR]
  have pm : ((cx ++ wr) ++ (pl ++ pr)).Perm ((cx ++ pl) ++ (wr ++ pr)) := by
    rw [List.append_assoc, List.append_assoc]; exact (List.perm_append_comm_assoc wr pl pr).append_left cx
  have hP2 := (hP.part (isC ++ isR) hCR).perm pm
  have hD2 := (hD.part (isC ++ isR) hn hCR).perm pm
  have hF : ∀ q, va_A (cx ++ pl) H.size q → A q := fun q h => by
    rcases h with ⟨k, e9, hk⟩ | h
    · exact hD2.2 k _ (by rw [List.getElem?_append_left (List.getElem?_eq_some_iff.mp hk).1]; exact hk)
    · exact hA q (Nat.le_trans hS.1 h)
  refine va_callv hr hS (fun q _ h => hF q h) hF (fun u t H1 locs1 ht hvm hp hB hz hk hS1 => ?_)
  obtain ⟨hP1, hK1, hD1⟩ := hB
  rw [ht] at hP1
  obtain ⟨h1, h2⟩ := va_joinL hP2 hD2 hk hF hP1 hD1
  have pm2 : ((w1 u ++ pl1 u) ++ (wr ++ pr)).Perm ((wr ++ w1 u) ++ (pl1 u ++ pr)) := by
    have e1 : ((w1 u ++ pl1 u) ++ (wr ++ pr)).Perm (w1 u ++ (wr ++ (pl1 u ++ pr))) := by
      rw [List.append_assoc]; exact (List.perm_append_comm_assoc (pl1 u) wr pr).append_left (w1 u)
    refine e1.trans ?_
    rw [List.append_assoc]
    exact List.perm_append_comm_assoc (w1 u) wr (pl1 u ++ pr)
  exact kk u H1 locs1 hp (h1.perm pm2) (h2.perm pm2) hS1
theorem kPreX.pcP {z : Nat → Nat} {av : List Value} (hX : Xs z A s s.heap) (hK : va_K D CLS (TYS g) s) (hZ : Zs z A s s.heap) (hA : ∀ q : Nat, s.heap.size ≤ q → A q) (hP : va_P D CLS (X ++ pl) H) (hD : va_D A (X ++ pl)) (hS : va_S A s.heap H locs) (is : List Nat) (hs : is.map (fun i => X[i]?) = cx.map some) (hn : va_nd is = true) : ∀ U : State, U.heap = H → s.WarmedH U.vm → va_Pc av (kPreX z D g (cx ++ pl) H.size) av.toArray U := by
  intro U hU hW
  obtain ⟨a1, a2, a3, a4, a5⟩ := kPre.ofP hK hZ hA hP hD hS is hs hn U hU hW
  refine ⟨rfl, a1, a2, a3, a4, a5, ?_⟩
  rw [hU]
  have h1 : Xs z A s H := hX.kept hS.2.1
  exact Xs.moved (Xr.warm hW hX.2.2.1) hW.alike (h1.narrow (k_freeP hD hS hA is hs))
end K8
section
variable {tn : Nat → Nat} {tr : Nat → Nat → Int32} {od : Nat → Nat → Nat} {c e : CS} {dd m k i n b q w : Nat} {T : Nat → VS → Bool} {x : Int32} {fb fq fr : Nat → Int32}
theorem stq_0 (hk : k < 10) : fStl tr tn c k (nI 0) = tr 5 k := by unfold fStl; rw [if_pos (by decide), rat_nI (f := tr 5) (n := 10) (k := k) (by omega) (by decide)]
theorem stq_1 (hk : k < 10) : fStl tr tn c k (nI 1) = c.1.2.2.2.1 k := by unfold fStl; rw [if_neg (by decide), if_pos (by decide), rat_nI (f := c.1.2.2.2.1) (n := 10) (k := k) (by omega) (by decide)]
theorem stq_2 (hk : k < 10) : fStl tr tn c k (nI 2) = c.1.2.2.2.2.1 k := by unfold fStl; rw [if_neg (by decide), if_neg (by decide), if_pos (by decide), rat_nI (f := c.1.2.2.2.2.1) (n := 10) (k := k) (by omega) (by decide)]
theorem stq_3 (hk : k < 10) : fStl tr tn c k (nI 3) = c.1.2.2.2.2.2.1 k := by unfold fStl; rw [if_neg (by decide), if_neg (by decide), if_neg (by decide), if_pos (by decide), rat_nI (f := c.1.2.2.2.2.2.1) (n := 10) (k := k) (by omega) (by decide)]
theorem stq_4 (hk : k < 10) : fStl tr tn c k (nI 4) = c.1.2.2.2.2.2.2 k := by unfold fStl; rw [if_neg (by decide), if_neg (by decide), if_neg (by decide), if_neg (by decide), if_pos (by decide), rat_nI (f := c.1.2.2.2.2.2.2) (n := 10) (k := k) (by omega) (by decide)]
theorem stq_5 (hk : k < 10) : fStl tr tn c k (nI 5) = bI (fSq c.1.2.2.2.2.2.2 (nI k)) := by unfold fStl; rw [if_neg (by decide), if_neg (by decide), if_neg (by decide), if_neg (by decide), if_neg (by decide), if_pos (by decide)]
theorem stq_6 (hk : k < 10) : fStl tr tn c k (nI 6) = fDlt tr tn c k := by unfold fStl; rw [if_neg (by decide), if_neg (by decide), if_neg (by decide), if_neg (by decide), if_neg (by decide), if_neg (by decide)]
theorem cvq_0 (hk : k < 5) : fCvr tr tn T c k (nI 0) = tr 2 k := by unfold fCvr; rw [if_pos (by decide), rat_nI (f := tr 2) (n := 5) (k := k) (by omega) (by decide)]
theorem cvq_1 (hk : k < 5) : fCvr tr tn T c k (nI 1) = tr 3 k := by unfold fCvr; rw [if_neg (by decide), if_pos (by decide), rat_nI (f := tr 3) (n := 5) (k := k) (by omega) (by decide)]
theorem cvq_2 (hk : k < 5) : fCvr tr tn T c k (nI 2) = tr 4 k := by unfold fCvr; rw [if_neg (by decide), if_neg (by decide), if_pos (by decide), rat_nI (f := tr 4) (n := 5) (k := k) (by omega) (by decide)]
theorem cvq_3 (hk : k < 5) : fCvr tr tn T c k (nI 3) = oI (fToday tr (tn 4) T c.1 k) := by unfold fCvr; rw [if_neg (by decide), if_neg (by decide), if_neg (by decide), if_pos (by decide)]
theorem cvq_4 (hk : k < 5) : fCvr tr tn T c k (nI 4) = c.2.2.2 k := by unfold fCvr; rw [if_neg (by decide), if_neg (by decide), if_neg (by decide), if_neg (by decide), rat_nI (f := c.2.2.2) (n := 5) (k := k) (by omega) (by decide)]
theorem orq_0 (hN9 : tn 0 ≤ 1000) (ho : OrdS tn tr od k) (hk : k < 20) : fOrd tr T c k (nI 0) = nI (od k 0) := (ord_6 hN9 ho hk 0 (by decide)).symm.trans ((pk_un (by decide)).trans ((pk_un (by decide)).trans ((pk_un (by decide)).trans ((pk_un (by decide)).trans ((pk_un (by decide)).trans (pk_us))))))
theorem orq_1 (hN9 : tn 0 ≤ 1000) (ho : OrdS tn tr od k) (hk : k < 20) : fOrd tr T c k (nI 1) = nI (od k 1) := (ord_6 hN9 ho hk 1 (by decide)).symm.trans ((pk_un (by decide)).trans ((pk_un (by decide)).trans ((pk_un (by decide)).trans ((pk_un (by decide)).trans (pk_us)))))
theorem orq_2 (hN9 : tn 0 ≤ 1000) (ho : OrdS tn tr od k) (hk : k < 20) : fOrd tr T c k (nI 2) = tr 9 k := (ord_6 hN9 ho hk 2 (by decide)).symm.trans ((pk_un (by decide)).trans ((pk_un (by decide)).trans ((pk_un (by decide)).trans (pk_us))))
theorem orq_3 (hN9 : tn 0 ≤ 1000) (ho : OrdS tn tr od k) (hk : k < 20) : fOrd tr T c k (nI 3) = tr 10 k := (ord_6 hN9 ho hk 3 (by decide)).symm.trans ((pk_un (by decide)).trans ((pk_un (by decide)).trans (pk_us)))
theorem orq_4 (hN9 : tn 0 ≤ 1000) (ho : OrdS tn tr od k) (hk : k < 20) : fOrd tr T c k (nI 4) = c.2.2.1 k := (ord_6 hN9 ho hk 4 (by decide)).symm.trans ((pk_un (by decide)).trans (pk_us))
theorem orq_5 (hN9 : tn 0 ≤ 1000) (ho : OrdS tn tr od k) (hk : k < 20) : fOrd tr T c k (nI 5) = bI (fDue tr T c.1 k) := (ord_6 hN9 ho hk 5 (by decide)).symm.trans (pk_us)
theorem cnq_0 (hS : tn 2 ≤ 10) (h0 : n = 0) : fCnt tr tn n c (nI 0) = c.1.1 := (cnt_14 hS rfl h0 0 (by decide)).symm.trans ((pk_un (by decide)).trans ((pk_un (by decide)).trans ((pk_un (by decide)).trans ((pk_un (by decide)).trans ((pk_un (by decide)).trans ((pk_un (by decide)).trans ((pk_un (by decide)).trans ((pk_un (by decide)).trans ((pk_un (by decide)).trans ((pk_un (by decide)).trans ((pk_un (by decide)).trans ((pk_un (by decide)).trans ((pk_un (by decide)).trans (pk_us))))))))))))))
theorem cnq_1 (hS : tn 2 ≤ 10) (h0 : n = 0) : fCnt tr tn n c (nI 1) = c.1.2.1 := (cnt_14 hS rfl h0 1 (by decide)).symm.trans ((pk_un (by decide)).trans ((pk_un (by decide)).trans ((pk_un (by decide)).trans ((pk_un (by decide)).trans ((pk_un (by decide)).trans ((pk_un (by decide)).trans ((pk_un (by decide)).trans ((pk_un (by decide)).trans ((pk_un (by decide)).trans ((pk_un (by decide)).trans ((pk_un (by decide)).trans ((pk_un (by decide)).trans (pk_us)))))))))))))
theorem cnq_2 (hS : tn 2 ≤ 10) (h0 : n = 0) : fCnt tr tn n c (nI 2) = nI (tn 0) := (cnt_14 hS rfl h0 2 (by decide)).symm.trans ((pk_un (by decide)).trans ((pk_un (by decide)).trans ((pk_un (by decide)).trans ((pk_un (by decide)).trans ((pk_un (by decide)).trans ((pk_un (by decide)).trans ((pk_un (by decide)).trans ((pk_un (by decide)).trans ((pk_un (by decide)).trans ((pk_un (by decide)).trans ((pk_un (by decide)).trans (pk_us))))))))))))
theorem cnq_3 (hS : tn 2 ≤ 10) (h0 : n = 0) : fCnt tr tn n c (nI 3) = nI (tn 1) := (cnt_14 hS rfl h0 3 (by decide)).symm.trans ((pk_un (by decide)).trans ((pk_un (by decide)).trans ((pk_un (by decide)).trans ((pk_un (by decide)).trans ((pk_un (by decide)).trans ((pk_un (by decide)).trans ((pk_un (by decide)).trans ((pk_un (by decide)).trans ((pk_un (by decide)).trans ((pk_un (by decide)).trans (pk_us)))))))))))
theorem cnq_4 (hS : tn 2 ≤ 10) (h0 : n = 0) : fCnt tr tn n c (nI 4) = nI (tn 2) := (cnt_14 hS rfl h0 4 (by decide)).symm.trans ((pk_un (by decide)).trans ((pk_un (by decide)).trans ((pk_un (by decide)).trans ((pk_un (by decide)).trans ((pk_un (by decide)).trans ((pk_un (by decide)).trans ((pk_un (by decide)).trans ((pk_un (by decide)).trans ((pk_un (by decide)).trans (pk_us))))))))))
theorem cnq_5 (hS : tn 2 ≤ 10) (h0 : n = 0) : fCnt tr tn n c (nI 5) = nI (tn 3) := (cnt_14 hS rfl h0 5 (by decide)).symm.trans ((pk_un (by decide)).trans ((pk_un (by decide)).trans ((pk_un (by decide)).trans ((pk_un (by decide)).trans ((pk_un (by decide)).trans ((pk_un (by decide)).trans ((pk_un (by decide)).trans ((pk_un (by decide)).trans (pk_us)))))))))
theorem cnq_6 (hS : tn 2 ≤ 10) (h0 : n = 0) : fCnt tr tn n c (nI 6) = nI (tn 4) := (cnt_14 hS rfl h0 6 (by decide)).symm.trans ((pk_un (by decide)).trans ((pk_un (by decide)).trans ((pk_un (by decide)).trans ((pk_un (by decide)).trans ((pk_un (by decide)).trans ((pk_un (by decide)).trans ((pk_un (by decide)).trans (pk_us))))))))
theorem cnq_7 (hS : tn 2 ≤ 10) (h0 : n = 0) : fCnt tr tn n c (nI 7) = nI (nbr c.1.2.2.2.1 (tn 2)) := (cnt_14 hS rfl h0 7 (by decide)).symm.trans ((pk_un (by decide)).trans ((pk_un (by decide)).trans ((pk_un (by decide)).trans ((pk_un (by decide)).trans ((pk_un (by decide)).trans ((pk_un (by decide)).trans (pk_us)))))))
theorem cnq_8 (hS : tn 2 ≤ 10) (h0 : n = 0) : fCnt tr tn n c (nI 8) = fSqk c.1.2.2.2.2.2.2 (tn 2) := (cnt_14 hS rfl h0 8 (by decide)).symm.trans ((pk_un (by decide)).trans ((pk_un (by decide)).trans ((pk_un (by decide)).trans ((pk_un (by decide)).trans ((pk_un (by decide)).trans (pk_us))))))
theorem cnq_9 (hS : tn 2 ≤ 10) (h0 : n = 0) : fCnt tr tn n c (nI 9) = fWrm c.1.2.2.2.2.2.1 (tn 2) := (cnt_14 hS rfl h0 9 (by decide)).symm.trans ((pk_un (by decide)).trans ((pk_un (by decide)).trans ((pk_un (by decide)).trans ((pk_un (by decide)).trans (pk_us)))))
theorem cnq_10 (hS : tn 2 ≤ 10) (h0 : n = 0) : fCnt tr tn n c (nI 10) = c.1.2.2.1 := (cnt_14 hS rfl h0 10 (by decide)).symm.trans ((pk_un (by decide)).trans ((pk_un (by decide)).trans ((pk_un (by decide)).trans (pk_us))))
theorem cnq_11 (hS : tn 2 ≤ 10) (h0 : n = 0) : fCnt tr tn n c (nI 11) = c.2.1 := (cnt_14 hS rfl h0 11 (by decide)).symm.trans ((pk_un (by decide)).trans ((pk_un (by decide)).trans (pk_us)))
theorem cnq_12 (hS : tn 2 ≤ 10) (h0 : n = 0) : fCnt tr tn n c (nI 12) = fOpn tr c.1.2.2.2.1 (tn 4) := (cnt_14 hS rfl h0 12 (by decide)).symm.trans ((pk_un (by decide)).trans (pk_us))
theorem cnq_13 (hS : tn 2 ≤ 10) (h0 : n = 0) : fCnt tr tn n c (nI 13) = 0 := (cnt_14 hS rfl h0 13 (by decide)).symm.trans (pk_us)
theorem nim2 : 2 * nI q = nI (2 * q) := by rw [show (2 : Int32) = nI 2 from rfl, pk_mul]
theorem dlt_le (hO : SOKs tn tr od) (hC : CIn tn c dd m) (hk : k < tn 2) (hk2 : k < 10) (hq : c.1.2.2.2.2.1 k = nI q) (hq2 : q ≤ 31) : fDlt tr tn c k ≤ nI q := by
  have hN := hO.1
  unfold CntS at hN
  unfold fDlt
  split
  · exact nI_pos' (by omega)
  · rename_i h
    obtain ⟨B, hB, hB2⟩ := (BI_x (fBsp_BI (tr := tr) (day := c.1.1) (n := tn 3) (by omega))).resolve_left h
    rw [hB2]
    have h9 := del_r hO hk2 hB (hC.2.2.2.2.2 k hk).b hq hq2
    rw [Int32.le_iff_toInt_le, nI_toInt (by omega)]
    exact h9.2
theorem pl_1 (hB : b < 1000) (h : fBsp tr c.1.1 (tn 3) = nI b) : fDlt tr tn c k - 3 * bI (fSq c.1.2.2.2.2.2.2 (nI k)) = fPl1 tr c.1.2.2.2.1 c.1.2.2.2.2.1 c.1.2.2.2.2.2.2 (nI b) k := by
  rw [← dlt_c hB h]
  show _ = fDel tr c.1.2.2.2.1 c.1.2.2.2.2.1 (nI b) (nI k) - fCost c.1.2.2.2.2.2.2 (nI k)
  congr 1
  unfold fCost
  cases fSq c.1.2.2.2.2.2.2 (nI k) <;> rfl
theorem lg_sq (hk : k < 10) (hr : c.1.2.2.2.2.2.2 k = nI q) (hq : q ≤ 20) (h : ¬ q < 8) : 1 = bI (fSq c.1.2.2.2.2.2.2 (nI k)) := bIt (sq_t hk (by rw [hr]; exact fun z => h (by
  have := Int32.le_iff_toInt_le.mp z
  rw [nI_toInt (by omega), show (7 : Int32).toInt = 7 by decide] at this; omega)))
theorem lg_nsq (hk : k < 10) (hr : c.1.2.2.2.2.2.2 k = nI q) (h : q < 8) : 0 = bI (fSq c.1.2.2.2.2.2.2 (nI k)) := bIf (sq_f hk (by
  rw [hr, Int32.le_iff_toInt_le, nI_toInt (by omega), show (7 : Int32).toInt = 7 by decide]; omega))
theorem nbr_0 (h : ∀ j, j < n → fb j = (-1)) : nbr fb n = 0 := by
  induction n with
  | zero => rfl
  | succ n ih => rw [← nbr_t (h n (by omega))]; exact ih (fun j hj => h j (by omega))
theorem nbr_pos (hk : k < n) (h : ¬ fb k = (-1)) : 0 < nbr fb n := by
  induction n with
  | zero => omega
  | succ n ih =>
    rcases Nat.lt_or_ge k n with z | z
    · have := ih z
      show 0 < nbr fb n + (if fb n = (-1) then 0 else 1); omega
    · have e9 : k = n := by omega
      subst e9
      rw [← nbr_f h]; omega
/-- the bishop of the day and the least pleasing stall -/
def BWI (tr : Nat → Nat → Int32) (tn : Nat → Nat) (c : CS) (y18 y19 : Int32) : Prop :=
  (fBsp tr c.1.1 (tn 3) = (-1) ∧ y18 = (-1) ∧ y19 = (-1)) ∨ ∃ bp, bp < tn 3 ∧ fBsp tr c.1.1 (tn 3) = nI bp ∧ y18 = nI bp ∧
    ((y19 = (-1)) ∨ ∃ w0, w0 < tn 2 ∧ y19 = nI w0 ∧ ¬ c.1.2.2.2.1 w0 = (-1) ∧ ∀ k, k < tn 2 → ¬ c.1.2.2.2.1 k = (-1) → fPl1 tr c.1.2.2.2.1 c.1.2.2.2.2.1 c.1.2.2.2.2.2.2 (nI bp) w0 ≤ fPl1 tr c.1.2.2.2.1 c.1.2.2.2.2.1 c.1.2.2.2.2.2.2 (nI bp) k)
theorem wst_c {fr : Nat → Int32} (hS : tn 2 ≤ 10) : ((fWst tr fb fq fr x (tn 2)).1 = (-1) ∧ nbr fb (tn 2) = 0) ∨ ∃ w0, w0 < tn 2 ∧ (fWst tr fb fq fr x (tn 2)).1 = nI w0 ∧ ¬ fb w0 = (-1) ∧ ∀ k, k < tn 2 → ¬ fb k = (-1) → fPl1 tr fb fq fr x w0 ≤ fPl1 tr fb fq fr x k := by
  rcases fWst_WI (tr := tr) (fb := fb) (fq := fq) (fr := fr) (b := x) hS with ⟨h1, h2⟩ | ⟨w0, h1, _, h3, h4, _, h6⟩
  · exact Or.inl ⟨h1, nbr_0 (fun j hj => Decidable.not_not.mp (df' (h2 j (Nat.zero_le _) hj)))⟩
  · exact Or.inr ⟨w0, h3, h1, dt' h4, fun k hk hb => (h6 k (Nat.zero_le _) hk (dt hb)).1⟩
/-- when it will be so -/
def UNI (tr : Nat → Nat → Int32) (tn : Nat → Nat) (T : Nat → VS → Bool) (c : CS) (k w : Nat) (y : Int32) : Prop :=
  (y = (-1) ∧ ∀ j, j < 201 → fSo (fLive tr tn T (-1) c j) k (nI w) = false) ∨ ∃ u, u < 201 ∧ y = nI u ∧ fSo (fLive tr tn T (-1) c u) k (nI w) = true ∧ ∀ j, j < u → fSo (fLive tr tn T (-1) c j) k (nI w) = false
theorem fnd_c {p : Nat → Bool} : ∀ {n : Nat}, (ffind p n = none ∧ ∀ j, j < n → p j = false) ∨ ∃ u, u < n ∧ ffind p n = some u ∧ p u = true ∧ ∀ j, j < u → p j = false := by
  intro n
  induction n with
  | zero => exact Or.inl ⟨rfl, fun j h => absurd h (Nat.not_lt_zero j)⟩
  | succ n ih =>
    rcases ih with ⟨h1, h2⟩ | ⟨u, h1, h2, h3, h4⟩
    · cases hp : p n with
      | true => exact Or.inr ⟨n, Nat.lt_succ_self n, ffind_some (Nat.lt_succ_self n) hp h2, hp, h2⟩
      | false =>
        have h9 : ∀ j, j < n + 1 → p j = false := fun j hj => by
          rcases Nat.lt_or_ge j n with z | z
          · exact h2 j z
          · rw [show j = n by omega]; exact hp
        exact Or.inl ⟨ffind_none h9, h9⟩
    · exact Or.inr ⟨u, by omega, ffind_some (by omega) h3 h4, h3, h4⟩
theorem unt_c : UNI tr tn T c k w (fUnt tr tn T c k (nI w)) := by
  unfold fUnt
  rcases fnd_c (p := fun i => fSo (fLive tr tn T (-1) c i) k (nI w)) (n := 201) with ⟨h1, h2⟩ | ⟨u, h1, h2, h3, h4⟩
  · rw [h1]; exact Or.inl ⟨rfl, h2⟩
  · rw [h2]; exact Or.inr ⟨u, h1, rfl, h3, h4⟩
theorem liv_1 : fLive tr tn T (-1) c 1 = fDay tr tn T (-1) c := rfl
theorem liv_s : ∀ j, fLive tr tn T (-1) (fDay tr tn T (-1) c) j = fLive tr tn T (-1) c (j + 1) := by
  intro j
  induction j with
  | zero => rfl
  | succ j ih => show fDay tr tn T (-1) (fLive tr tn T (-1) (fDay tr tn T (-1) c) j) = fDay tr tn T (-1) (fLive tr tn T (-1) c (j + 1)); rw [ih]
theorem unt_n (hu : q < 201) (h0 : ¬ q = 0) (h1 : fSo (fLive tr tn T (-1) c q) k (nI w) = true) (h2 : ∀ j, j < q → fSo (fLive tr tn T (-1) c j) k (nI w) = false) (he : e = fDay tr tn T (-1) c) : fUnt tr tn T e k (nI w) = nI (q - 1) := by
  subst he
  unfold fUnt
  rw [ffind_some (p := fun i => fSo (fLive tr tn T (-1) (fDay tr tn T (-1) c) i) k (nI w)) (i := q - 1) (by omega) (by rw [liv_s, show q - 1 + 1 = q by omega]; exact h1) (fun j hj => by rw [liv_s]; exact h2 (j + 1) (by omega))]
  rfl
theorem so_0 (hk : k < 10) (h : ¬ c.1.2.2.2.1 k < 0) : 1 = bI (fSo c k (nI 0)) := by
  have e9 : fSo c k (nI 0) = decide (¬ rat 10 c.1.2.2.2.1 (nI k) = (-1)) := if_pos (by decide)
  rw [e9, rat_nI hk (by decide), dt (fun z => h (by rw [z]; decide))]; rfl
theorem so_0n (hk : k < 10) (h : c.1.2.2.2.1 k = (-1)) : 0 = bI (fSo c k (nI 0)) := by
  have e9 : fSo c k (nI 0) = decide (¬ rat 10 c.1.2.2.2.1 (nI k) = (-1)) := if_pos (by decide)
  rw [e9, rat_nI hk (by decide), df (fun z => z h)]; rfl
theorem so_1 : fSo c k (nI 1) = fSq c.1.2.2.2.2.2.2 (nI k) := by
  unfold fSo; rw [if_neg (by decide), if_pos (by decide)]
theorem so_2 (hk : k < 10) (hq : c.1.2.2.2.2.2.1 k = nI q) (hq2 : q < 1000) : fSo c k (nI 2) = decide (30 ≤ q) := by
  unfold fSo
  rw [if_neg (by decide), if_neg (by decide), rat_nI hk (by decide), hq]
  by_cases z : 30 ≤ q
  · rw [dt z]; exact dt (nI_le (a := 30) z (by omega))
  · rw [df z]; refine df (fun y => z ?_)
    have := Int32.le_iff_toInt_le.mp y
    rw [nI_toInt (by omega), show (30 : Int32).toInt = 30 by decide] at this; omega
theorem nI_nlm (h : q < 1000) : ¬ nI q < (-1) := fun z => by
  have := Int32.lt_iff_toInt_lt.mp z
  rw [nI_toInt (by omega), show (-1 : Int32).toInt = -1 by decide] at this; omega
theorem nlt_m1 : ¬ (-1 : Int32) < (-1) := by decide
theorem le_m (h1 : q ≤ 1000) (h2 : w ≤ q + 1) : ¬ nI q < nI w - 1 := fun z => by
  have := Int32.lt_iff_toInt_lt.mp (show nI q < nI w - nI 1 from z)
  rw [nI_toInt (by omega), pk_sub_toInt (by omega) (by omega)] at this
  omega
theorem abs_5 (h1 : q ≤ 99) (h2 : w ≤ 200) (h3 : q ≤ w + 5) (h4 : w ≤ q + 5) : (if 0 ≤ nI w - nI q then nI w - nI q else 0 - (nI w - nI q)) ≤ 5 := by
  have e := pk_sub_toInt (a := w) (b := q) (by omega) (by omega)
  have e5 : (5 : Int32).toInt = 5 := by decide
  by_cases z : 0 ≤ nI w - nI q
  · rw [if_pos z, Int32.le_iff_toInt_le, e, e5]; omega
  · rw [if_neg z, Int32.le_iff_toInt_le, i_sub (by rw [i_0, e]; omega) (by rw [i_0, e]; omega), i_0, e, e5]; omega
theorem mn_20 (h1 : q ≤ 1000) (h2 : w ≤ 1000) : (if nI w < nI q then nI w else nI q) = nI (min q w) := mn_nI (by omega) (by omega)
theorem ism_d (hd : c.1.2.1 = nI q) (hq : q ≤ 9) (h : 4 ≤ q) : isM c = true := by
  unfold isM
  rw [hd, df (p := nI q < 4) (nI_nlt (b := 4) h (by omega))]; rfl
theorem ism_3 (hD : c.1.1 = nI dd) (h : dd % 3 = 0) (hd : dd < 100000) : isM c = true := by
  unfold isM
  rw [hD, show nI dd - nI dd / 3 * 3 = nI (dd % 3) from nI_mod (m := 3) (by omega) (by omega), h, df (p := ¬ nI 0 = 0) (fun z => z rfl), Bool.and_false]; rfl
theorem ism_n (hd : c.1.2.1 = nI q) (hq : ¬ 4 ≤ q) (hD : c.1.1 = nI dd) (h : ¬ dd % 3 = 0) (hdd : dd < 100000) : isM c = false := by
  unfold isM
  have h3 := Nat.mod_lt dd (y := 3) (by decide)
  rw [hd, dt (p := nI q < 4) (nI_lt (b := 4) (by omega) (by omega)), hD, show nI dd - nI dd / 3 * 3 = nI (dd % 3) from nI_mod (m := 3) (by omega) (by omega), dt (p := ¬ nI (dd % 3) = 0) (nI_ne0 (by omega) (by omega))]; rfl
theorem addsub {a b : Int32} : a + b - a = b := by rw [Int32.sub_eq_add_neg, Int32.add_comm a b, Int32.add_assoc, Int32.add_right_neg, Int32.add_zero]
theorem upa {S F : Nat → Nat → Int32} {v : Int32} (h : ∀ k1, k1 < k → ∀ q, q < 7 → S k1 q = F k1 q) : ∀ k1, k1 < k → ∀ q, q < 7 → upR S k w v k1 q = F k1 q := fun k1 h1 q hq => by
  rw [upR_n (by omega)]; exact h k1 h1 q hq
theorem upb {S F : Nat → Nat → Int32} (h : ∀ q, q < w → S k q = F k q) : ∀ q, q < w + 1 → upR S k w (F k w) k q = F k q := fun q hq => by
  rw [upR_s]
  by_cases z : q = w
  · subst z; exact pk_us
  · rw [pk_un z]; exact h q (by omega)
theorem rows_k {S F : Nat → Nat → Int32} (h1 : ∀ k1, k1 < k → ∀ q, q < 7 → S k1 q = F k1 q) (h2 : ∀ q, q < 7 → S k q = F k q) : ∀ k1, k1 < k + 1 → ∀ q, q < 7 → S k1 q = F k1 q := fun k1 h q hq => by
  rcases Nat.lt_or_ge k1 k with z | z
  · exact h1 k1 z q hq
  · rw [show k1 = k by omega]; exact h2 q hq
theorem fw_up {f F : Nat → Int32} (h : ∀ k1, k1 < k → f k1 = F k1) : ∀ k1, k1 < k + 1 → upd f k (F k) k1 = F k1 := fun k1 h1 => by
  by_cases z : k1 = k
  · subst z; exact pk_us
  · rw [pk_un z]; exact h k1 (by omega)
theorem oil_u {zb : Nat → Int32} (h : ∀ o, o < k → od o 0 = 1 → zb (od o 1) = 1) : ∀ o, o < k + 1 → od o 0 = 1 → upd zb (od k 1) 1 (od o 1) = 1 := fun o h1 h2 => by
  by_cases z : od o 1 = od k 1
  · rw [z]; exact pk_us
  · rw [pk_un z]
    rcases Nat.lt_or_ge o k with y | y
    · exact h o y h2
    · exact absurd (by rw [show o = k by omega]) z
theorem oil_n {zb : Nat → Int32} (h0 : ¬ od k 0 = 1) (h : ∀ o, o < k → od o 0 = 1 → zb (od o 1) = 1) : ∀ o, o < k + 1 → od o 0 = 1 → zb (od o 1) = 1 := fun o h1 h2 => by
  rcases Nat.lt_or_ge o k with y | y
  · exact h o y h2
  · exact absurd (by rw [show k = o by omega]; exact h2) h0
theorem opn_o (ho : OrdS tn tr od k) (hk : k < 20) (h : od k 0 = 1) : fOpn tr fb k = fOpn tr fb (k + 1) := by
  show _ = fOpn tr fb k + bI (fOpen tr fb (nI k))
  rw [op_oil ho hk (by omega)]; exact (Int32.add_zero _).symm
theorem br_ge (h : StlS tn c k) (hn : tn 0 < 1000) (hb : ¬ c.1.2.2.2.1 k = (-1)) : 0 ≤ c.1.2.2.2.1 k := by
  obtain ⟨b, hb2, e9⟩ := h.b.resolve_left hb
  rw [e9]; exact nI_pos' (by omega)
theorem bI_n1 {v : Bool} (h : ¬ bI v = 1) : 0 = bI v := by
  cases v with
  | true => exact absurd rfl h
  | false => rfl
theorem foq_0 : fFor tr tn c e (nI 0) = e.1.2.2.1 - c.1.2.2.1 := by unfold fFor; rw [if_pos (by decide)]
theorem foq_1 : fFor tr tn c e (nI 1) = e.2.1 - c.2.1 := by unfold fFor; rw [if_neg (by decide), if_pos (by decide)]
theorem foq_2 : fFor tr tn c e (nI 2) = fSqk e.1.2.2.2.2.2.2 (tn 2) := by unfold fFor; rw [if_neg (by decide), if_neg (by decide), if_pos (by decide)]
theorem foq_3 : fFor tr tn c e (nI 3) = fWrm e.1.2.2.2.2.2.1 (tn 2) := by unfold fFor; rw [if_neg (by decide), if_neg (by decide), if_neg (by decide), if_pos (by decide)]
theorem foq_4 : fFor tr tn c e (nI 4) = fPls0 tr (tn 2) (tn 3) e := by unfold fFor; rw [if_neg (by decide), if_neg (by decide), if_neg (by decide), if_neg (by decide)]
theorem cnt_s {p : Nat → Bool} : cntB p (k + 1) = cntB p k + (if p k = true then 1 else 0) := rfl
end
