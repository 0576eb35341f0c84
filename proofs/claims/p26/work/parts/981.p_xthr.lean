/-! methods that throw: what a throw asks of the machine's state, beside the words -/
def WSH (y : MethodName) (b : ByteArray) (n : Nat) (r : Option FieldType) (hh : List (Nat × Nat × Nat × Nat)) : List Cond := Cond.codeWith y b n r hh :: WALL
theorem wsh_sub {s : State} {args : Array Value} {y : MethodName} {b : ByteArray} {n : Nat} {r : Option FieldType} {hh : List (Nat × Nat × Nat × Nat)} (h : ∀ w ∈ WSH y b n r hh, w.before args s = true) : ∀ w ∈ WALL, w.before args s = true := fun w hw => h w (List.mem_cons_of_mem _ hw)
theorem k_ofWH {l : Launch} {y : MethodName} {ws ws' : List Cond} {rm : Room} {Pc : Array Value → State → Prop} {Qc : Array Value → State → Outcome → State → Prop} {mc ms : Nat} {free : Addr → Prop} {cc : ByteArray} {maxL : Nat} {ret : Option FieldType} {hh : List (Nat × Nat × Nat × Nat)}
    (hy : plainName y.cls = true) (hw : ws = Cond.codeWith y cc maxL ret hh :: ws')
    (body : ∀ p e s m args below meth c s₁, BodyLoose p l y (headSpec ws rm) cc maxL ret e s m args below meth c s₁ → c.maxLocals = maxL → Pc args s →
      W p l e (headSpec ws rm).room s m args below meth c s.heap [] 0 0 (MQ below Qc args s mc ms free) (entryFrame m args maxL)) : Met l y ws rm Pc Qc mc ms free := by
  refine MetFree.of_bodyS (code := cc) (maxLocals := maxL) (ret := ret) hy ?_ ?_
  · intro args s m h hn
    obtain ⟨m9, meth, c, hn9, h1, h2, h3, h4, -, h5, h6, -⟩ := Cond.codeWith_spec (atoms_spec (ws := ws) h _ (by rw [hw]; exact List.mem_cons_self))
    cases hn.symm.trans hn9
    exact ⟨meth, c, h1, h2, h3, h4, h5, h6⟩
  · intro p e s m args below meth c s₁ B hml hP _
    have hh0 : s₁.heap = s.heap := by rw [B.state]; rfl
    obtain ⟨t, a1, o, b1, b2, b3⟩ := body p e s m args below meth c s₁ B hml hP s₁ hh0 (Stand.of_body B)
    exact ⟨t, o, a1, b1, b2, ⟨b3.1, b3.2⟩⟩
def xNM : List String := ["java/lang/RuntimeException", "java/lang/Exception"]
/-- the texts of the class's own throws -/
def Xr (z : Nat → Nat) (U : State) : Prop := vk_R RX10 153 "there is no coin" (z 200) U ∧ vk_R RX10 161 "the stall bears no beast" (z 201) U
theorem Xr.same {z : Nat → Nat} {u U : State} (hv : U.vm = u.vm) (h : Xr z u) : Xr z U := ⟨vk_R.same hv h.1, vk_R.same hv h.2⟩
theorem Xr.warm {z : Nat → Nat} {s U : State} (hW : s.WarmedH U.vm) (h : Xr z s) : Xr z U := ⟨vk_R.warm hW h.1, vk_R.warm hW h.2⟩
def Xs (z : Nat → Nat) (A : Nat → Prop) (U : State) (H : Heap) : Prop :=
  vx_Zq Bundle.tN "UNASSIGNED_STACK" Bundle.steD A U H ∧ vx_Zq Bundle.tN "SUPPRESSED_SENTINEL" Bundle.listD A U H ∧ Xr z U ∧ True
theorem Xs.kept {z : Nat → Nat} {A : Nat → Prop} {U : State} {H H1 : Heap} (h : Xs z A U H) (hq : ∀ a : Nat, a < H.size → ¬ A a → H1[a]? = H[a]?) : Xs z A U H1 := ⟨h.1.kept hq, h.2.1.kept hq, h.2.2⟩
theorem Xs.narrow {z : Nat → Nat} {A B : Nat → Prop} {U : State} {H : Heap} (h : Xs z A U H) (hq : ∀ q, B q → A q) : Xs z B U H := ⟨h.1.narrow hq, h.2.1.narrow hq, h.2.2⟩
theorem Xs.moved {z : Nat → Nat} {A : Nat → Prop} {u U : State} {H : Heap} (hn : Xr z U) (hv : u.vm.Alike U.vm) (h : Xs z A u H) : Xs z A U H := ⟨vx_Zq.moved hv h.1, vx_Zq.moved hv h.2.1, hn, trivial⟩
def kPreX (z : Nat → Nat) (D : va_G) (g : Nat → ClassId) (w : va_W) (sz : Nat) : State → Prop := fun U => U.heap.size = sz ∧ va_P D CLS w U.heap ∧ va_K D CLS (TYS g) U ∧ va_D (fun _ => True) w ∧ Zs z (va_A w sz) U U.heap ∧ Xs z (va_A w sz) U U.heap
theorem kBlindX {z : Nat → Nat} {D : va_G} {g : Nat → ClassId} {w : va_W} {sz : Nat} {av : List Value} : FrameBlind (va_Pc av (kPreX z D g w sz)) := by
  intro a U gg mk q
  obtain ⟨q0, q1, qP, qK, qD, qZ, qX⟩ := q
  exact ⟨q0, q1, qP, va_K.moved (u := U) (U := U.calling gg mk a) (Vm.Alike.refl U.vm) qK, qD, Zs.moved (u := U) (U := U.calling gg mk a) (Nst.same (u := U) rfl qZ.1) (Vm.Alike.refl U.vm) qZ, Xs.moved (u := U) (U := U.calling gg mk a) (Xr.same (u := U) rfl qX.2.2.1) (Vm.Alike.refl U.vm) qX⟩
theorem kPreX.pc {s : State} {H : Heap} {locs : List Loc} {z : Nat → Nat} {D : va_G} {g : Nat → ClassId} {A : Nat → Prop} {ws wc : va_W} {av : List Value} (hX : Xs z A s s.heap) (hK : va_K D CLS (TYS g) s) (hZ : Zs z A s s.heap) (hA : ∀ q : Nat, s.heap.size ≤ q → A q) (hP : va_P D CLS ws H) (hD : va_D A ws) (hS : va_S A s.heap H locs) (is : List Nat) (hs : is.map (fun i => ws[i]?) = wc.map some) (hn : va_nd is = true) : ∀ U : State, U.heap = H → s.WarmedH U.vm → va_Pc av (kPreX z D g wc H.size) av.toArray U := by
  intro U hU hW
  obtain ⟨a1, a2, a3, a4, a5⟩ := kPre.of hK hZ hA hP hD hS is hs hn U hU hW
  refine ⟨rfl, a1, a2, a3, a4, a5, ?_⟩
  rw [hU]
  have h1 : Xs z A s H := hX.kept hS.2.1
  have h2 : Xs z (va_A wc H.size) s H := h1.narrow (va_free hD hS hA is hs)
  exact Xs.moved (Xr.warm hW hX.2.2.1) hW.alike h2
theorem xat_of {L : List Cond} (ps : List Nat) (h : L = ps.filterMap (fun i => lw_tbl[i]?)) (hg : L.all (fun w => goodWord w || nk_w w) = true) {args : Array Value} {s : State} (hts : ∀ w ∈ WALL, w.before args s = true) (hn : Nst s) : ∀ w ∈ L, w.before args s = true := by
  intro w hw
  have hm : w ∈ lw_tbl := by
    have h2 := hw
    rw [h] at h2
    obtain ⟨i, -, hi⟩ := List.mem_filterMap.mp h2
    exact List.mem_of_getElem? hi
  have h1 := List.all_eq_true.mp hg w hw
  rw [Bool.or_eq_true] at h1
  rcases h1 with h1 | h1
  · exact hts w (List.mem_filter.mpr ⟨hm, h1⟩)
  · exact hn.use (List.mem_filter.mpr ⟨hm, h1⟩)
theorem xal_ISE : vx_atS RX10 68 "java/lang/IllegalStateException" xNM = [69, 460, 469, 473, 476, 478, 461, 462, 84, 85, 463, 468, 474, 494, 450, 495, 452, 496, 454, 464, 466, 456, 490, 491, 493, 456, 914, 915, 916, 484, 442, 484, 485, 486, 487, 444, 487, 488, 489, 490, 446, 913, 904, 905, 906, 472, 907, 908, 909, 910, 459, 458, 911].filterMap (fun i => lw_tbl[i]?) := by decide +kernel
theorem xag_ISE : (vx_atS RX10 68 "java/lang/IllegalStateException" xNM).all (fun w => goodWord w || nk_w w) = true := by decide +kernel
theorem xat_ISE {args : Array Value} {s : State} (hts : ∀ w ∈ WALL, w.before args s = true) (hn : Nst s) : ∀ w ∈ vx_atS RX10 68 "java/lang/IllegalStateException" xNM, w.before args s = true := xat_of _ xal_ISE xag_ISE hts hn
theorem xgd_ISE : ∀ w ∈ Cond.classLink RX10 64 "java/lang/IllegalStateException" :: Cond.initialized "java/lang/IllegalStateException" :: vx_atS RX10 68 "java/lang/IllegalStateException" xNM, vx_ot w = true := List.all_eq_true.mp (by decide +kernel)
section KX9
variable {p : Program} {l : Launch} {e : Env} {R : Room} {s : State} {m : MethodId} {args : Array Value} {below : List Frame} {meth : Method} {c : Code} {H : Heap} {locs : List Loc} {cells slots : Nat} {Q : State → Prop}
variable {z : Nat → Nat} {D : va_G} {g : Nat → ClassId} {A : Nat → Prop} {ws wc wr : va_W} {E0 : String}
/-- an unchanged world, where a throw leaves -/
theorem xk_X (hP : va_P D CLS ws H) (hK : va_K D CLS (TYS g) s) (hD : va_D A ws) (hS : va_S A s.heap H locs) (is : List Nat) (hs : is.map (fun i => ws[i]?) = wc.map some) (hn : va_nd is = true) :
    ∀ t : State, s.vm.Alike t.vm → H.size ≤ t.heap.size → (∀ q : Nat, q < H.size → t.heap[q]? = H[q]?) → vx_X (fun (_ : Unit) => True) (fun (E9 : String) (u9 : Unit) (t9 : State) => E9 = E0 ∧ kB D g A (fun (_ : Unit) => wc) u9 t9) A E0 s t := by
  intro t ha hz hk
  refine ⟨(), trivial, ⟨rfl, ?_, va_K.moved ha hK, hD.sub is hn hs⟩, ⟨Nat.le_trans hS.1 hz, fun q h1 h2 => (hk q (Nat.lt_of_lt_of_le h1 hS.1)).trans (hS.2.1 q h1 h2)⟩⟩
  exact (kSub hP is hs).kept (fun k q hq => hk _ ((kSub hP is hs) k q hq).lt)
variable {pc : Nat} {ls : Array Slot} {rest st0 : List Value} {a : Array Value} {mc ms : Nat}
theorem kx_v (hA : ∀ q : Nat, s.heap.size ≤ q → A q) (hP : va_P D CLS ws H) (hD : va_D A ws) (hS : va_S A s.heap H locs) (wr : va_W)
    (hr : vx_Run p l e R s m args below meth c H locs cells slots mc ms (F0 m pc ls st0) rest (va_Qv (fun (_ : Unit) => False) (kB D g (va_A wc H.size) (fun (_ : Unit) => wc)) (va_A wc H.size) a) (vx_X (fun (_ : Unit) => True) (fun (E9 : String) (u9 : Unit) (t9 : State) => E9 = E0 ∧ kB D g (va_A wc H.size) (fun (_ : Unit) => wc) u9 t9) (va_A wc H.size)) (va_A wc H.size)) (isC isR : List Nat) (hC : isC.map (fun i => ws[i]?) = wc.map some) (hR : isR.map (fun i => ws[i]?) = wr.map some) (hn : va_nd isR = true) (hdis : isR.all (fun i => !isC.contains i) = true)
    (kx : ∀ (ce : Cell) (q9 : Addr) (H1 : Heap) (locs1 : List Loc), va_P D CLS (wr ++ wc) H1 → va_D A (wr ++ wc) → va_S A s.heap H1 locs1 → H1[q9]? = some ce → ce.vm = .none → s.vm.findClass E0 = some ce.cls → vx_W p l e R s m args below meth c H1 locs1 (cells + mc) (slots + ms) Q (F0 m pc ls rest) q9) : W p l e R s m args below meth c H locs cells slots Q (F0 m pc ls st0) := by
  have hF := va_free hD hS hA isC hC
  have hd : ∀ i ∈ isR, i ∉ isC := fun i hi => by simpa using List.all_eq_true.mp hdis i hi
  refine vx_callv hr hS (fun q _ h => hF q h) hF (fun q _ h => hF q h) (fun E ce q9 u t H1 locs1 ht hvm hp hB hz hk hS1 hce hcv hcl => ?_) (fun u t H1 locs1 ht hvm hp hB hz hk hS1 => hp.elim)
  obtain ⟨hE, hP1, hK1, hD1⟩ := hB
  rw [ht] at hP1
  obtain ⟨h1, h2⟩ := va_join hP hD isC isR hC hR hn hd hk hF hP1 hD1
  exact kx ce q9 H1 locs1 h1 h2 hS1 hce hcv (hE ▸ hcl)
theorem kx_i (hA : ∀ q : Nat, s.heap.size ≤ q → A q) (hP : va_P D CLS ws H) (hD : va_D A ws) (hS : va_S A s.heap H locs) (wr : va_W)
    (hr : vx_Run p l e R s m args below meth c H locs cells slots mc ms (F0 m pc ls st0) rest (va_Qi (fun (_ : Int32) (_ : Unit) => False) (kB D g (va_A wc H.size) (fun (_ : Unit) => wc)) (va_A wc H.size) a) (vx_X (fun (_ : Unit) => True) (fun (E9 : String) (u9 : Unit) (t9 : State) => E9 = E0 ∧ kB D g (va_A wc H.size) (fun (_ : Unit) => wc) u9 t9) (va_A wc H.size)) (va_A wc H.size)) (isC isR : List Nat) (hC : isC.map (fun i => ws[i]?) = wc.map some) (hR : isR.map (fun i => ws[i]?) = wr.map some) (hn : va_nd isR = true) (hdis : isR.all (fun i => !isC.contains i) = true)
    (kx : ∀ (ce : Cell) (q9 : Addr) (H1 : Heap) (locs1 : List Loc), va_P D CLS (wr ++ wc) H1 → va_D A (wr ++ wc) → va_S A s.heap H1 locs1 → H1[q9]? = some ce → ce.vm = .none → s.vm.findClass E0 = some ce.cls → vx_W p l e R s m args below meth c H1 locs1 (cells + mc) (slots + ms) Q (F0 m pc ls rest) q9) : W p l e R s m args below meth c H locs cells slots Q (F0 m pc ls st0) := by
  have hF := va_free hD hS hA isC hC
  have hd : ∀ i ∈ isR, i ∉ isC := fun i hi => by simpa using List.all_eq_true.mp hdis i hi
  refine vx_calli hr hS (fun q _ h => hF q h) hF (fun q _ h => hF q h) (fun E ce q9 u t H1 locs1 ht hvm hp hB hz hk hS1 hce hcv hcl => ?_) (fun r u t H1 locs1 ht hvm hp hB hz hk hS1 => hp.elim)
  obtain ⟨hE, hP1, hK1, hD1⟩ := hB
  rw [ht] at hP1
  obtain ⟨h1, h2⟩ := va_join hP hD isC isR hC hR hn hd hk hF hP1 hD1
  exact kx ce q9 H1 locs1 h1 h2 hS1 hce hcv (hE ▸ hcl)

variable {X cx pl : va_W} {aa : Array Value}
theorem kx_iQ (hA : ∀ q : Nat, s.heap.size ≤ q → A q) (hP : va_P D CLS (X ++ pl) H) (hD : va_D A (X ++ pl)) (hS : va_S A s.heap H locs) (wr : va_W)
    (hr : vx_Run p l e R s m args below meth c H locs cells slots mc ms (F0 m pc ls st0) rest (va_Qi (fun (_ : Int32) (_ : Unit) => False) (kB D g (va_A cx H.size) (fun (_ : Unit) => cx)) (va_A cx H.size) aa) (vx_X (fun (_ : Unit) => True) (fun (E9 : String) (u9 : Unit) (t9 : State) => E9 = E0 ∧ kB D g (va_A cx H.size) (fun (_ : Unit) => cx) u9 t9) (va_A cx H.size)) (va_A cx H.size)) (isC isR : List Nat) (hC : isC.map (fun i => X[i]?) = cx.map some) (hR : isR.map (fun i => X[i]?) = wr.map some) (hn : va_nd isR = true) (hdis : isR.all (fun i => !isC.contains i) = true)
    (kx : ∀ (ce : Cell) (q9 : Addr) (H1 : Heap) (locs1 : List Loc), va_P D CLS ((wr ++ cx) ++ pl) H1 → va_D A ((wr ++ cx) ++ pl) → va_S A s.heap H1 locs1 → H1[q9]? = some ce → ce.vm = .none → s.vm.findClass E0 = some ce.cls → vx_W p l e R s m args below meth c H1 locs1 (cells + mc) (slots + ms) Q (F0 m pc ls rest) q9) : W p l e R s m args below meth c H locs cells slots Q (F0 m pc ls st0) := by
  have hF : ∀ q, va_A cx H.size q → A q := k_freeQ hD hS hA isC hC
  have hd : ∀ i ∈ isR, i ∉ isC := fun i hi => by simpa using List.all_eq_true.mp hdis i hi
  refine vx_calli hr hS (fun q _ h => hF q h) hF (fun q _ h => hF q h) (fun E ce q9 u t H1 locs1 ht hvm hp hB hz hk hS1 hce hcv hcl => ?_) (fun r u t H1 locs1 ht hvm hp hB hz hk hS1 => hp.elim)
  obtain ⟨hE, hP1, hK1, hD1⟩ := hB
  rw [ht] at hP1
  obtain ⟨h1, h2⟩ := va_joinQ hP hD isC isR hC hR hn hd hk hF hP1 hD1
  exact kx ce q9 H1 locs1 h1 h2 hS1 hce hcv (hE ▸ hcl)
end KX9
theorem gw_SH {own : String} {idx : Nat} {y : MethodName} {b : ByteArray} {n : Nat} {r : Option FieldType} {hh : List (Nat × Nat × Nat × Nat)} (h1 : Cond.methodLink own idx y ∈ WALL) (h2 : Cond.static y ∈ WALL) (h4 : Cond.initialized y.cls ∈ WALL) (h5 : Cond.codeWith y b n r hh ∈ WALL) : GoodIn WALL (va_wsS own idx y (WSH y b n r hh)) := by
  refine wl_good fun w hw => ?_
  simp only [va_wsS, WSH, List.cons_append, List.nil_append, List.mem_cons] at hw
  rcases hw with rfl | rfl | rfl | rfl | hw
  · exact h1
  · exact h2
  · exact h4
  · exact h5
  · exact hw
