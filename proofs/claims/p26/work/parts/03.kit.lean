/-! words that every method takes: those of the tables that stay; and those of nests -/
def WALL : List Cond := lw_tbl.filter goodWord
def nk_w : Cond → Bool
  | .fieldLinkNest .. => true
  | .methodLinkNest .. => true
  | .declares _ => true
  | .castable .. => true
  | _ => false
def NWALL : List Cond := lw_tbl.filter nk_w
theorem wl_in {i : Nat} {w : Cond} (h : lw_tbl[i]? = some w) (g : goodWord w = true) : w ∈ WALL := List.mem_filter.mpr ⟨List.mem_of_getElem? h, g⟩
theorem nw_in {i : Nat} {w : Cond} (h : lw_tbl[i]? = some w) (g : nk_w w = true) : w ∈ NWALL := List.mem_filter.mpr ⟨List.mem_of_getElem? h, g⟩
theorem wl_good {ws : List Cond} (h : ∀ w ∈ ws, w ∈ WALL) : GoodIn WALL ws := fun w hw => ⟨h w hw, good_of_word (List.mem_filter.mp (h w hw)).2⟩
def WS (y : MethodName) (b : ByteArray) (n : Nat) (r : Option FieldType) : List Cond := Cond.code y b n r :: WALL
def Nst (U : State) : Prop := ∀ w ∈ NWALL, va_Nw w U
theorem Nst.warm {s U : State} (hW : s.WarmedH U.vm) (h : Nst s) : Nst U := by
  intro w hw
  have hk := (List.mem_filter.mp hw).2
  have h1 := h w hw
  cases w <;> first | exact va_Nw.warmF hW h1 | exact va_Nw.warmM hW h1 | exact va_Nw.warmD hW h1 | exact va_Nw.warmC hW h1 | (simp [nk_w] at hk)
theorem Nst.same {u U : State} (hv : u.vm = U.vm) (h : Nst u) : Nst U := by
  intro w hw
  have hk := (List.mem_filter.mp hw).2
  have h1 := h w hw
  cases w <;> first | exact va_Nw.same rfl hv h1 | (simp [nk_w] at hk)
theorem Nst.use {s : State} {w : Cond} {A : Array Value} (h : Nst s) (hw : w ∈ NWALL) : w.before A s = true := by
  have hk := (List.mem_filter.mp hw).2
  have h1 := h w hw
  cases w <;> first | exact va_Nw.use rfl h1 | (simp [nk_w] at hk)
theorem ws_sub {s : State} {args : Array Value} {y : MethodName} {b : ByteArray} {n : Nat} {r : Option FieldType} (h : ∀ w ∈ WS y b n r, w.before args s = true) : ∀ w ∈ WALL, w.before args s = true := fun w hw => h w (List.mem_cons_of_mem _ hw)
theorem gw_V {own : String} {idx : Nat} {C : String} {y : MethodName} {b : ByteArray} {n : Nat} {r : Option FieldType} (h1 : Cond.methodLink own idx y ∈ WALL) (h2 : Cond.instanceMethod y ∈ WALL) (h3 : Cond.selects C y y ∈ WALL) (h4 : Cond.initialized C ∈ WALL) (h5 : Cond.code y b n r ∈ WALL) : GoodIn WALL (wsV own idx C y (WS y b n r)) := by
  refine wl_good fun w hw => ?_
  simp only [wsV, WS, List.cons_append, List.nil_append, List.mem_cons] at hw
  rcases hw with rfl | rfl | rfl | rfl | rfl | hw
  · exact h1
  · exact h2
  · exact h3
  · exact h4
  · exact h5
  · exact hw
theorem gw_S {own : String} {idx : Nat} {y : MethodName} {b : ByteArray} {n : Nat} {r : Option FieldType} (h1 : Cond.methodLink own idx y ∈ WALL) (h2 : Cond.static y ∈ WALL) (h4 : Cond.initialized y.cls ∈ WALL) (h5 : Cond.code y b n r ∈ WALL) : GoodIn WALL (va_wsS own idx y (WS y b n r)) := by
  refine wl_good fun w hw => ?_
  simp only [va_wsS, WS, List.cons_append, List.nil_append, List.mem_cons] at hw
  rcases hw with rfl | rfl | rfl | rfl | hw
  · exact h1
  · exact h2
  · exact h4
  · exact h5
  · exact hw
theorem gw_U {own : String} {idx : Nat} {C owner : String} {x y : MethodName} {b : ByteArray} {n : Nat} {r : Option FieldType} (h1 : Cond.methodLink own idx x ∈ WALL) (h2 : Cond.sameMethod x.cls owner x.name x.desc ∈ WALL) (h3 : Cond.selects C x y ∈ WALL) (h4 : Cond.instanceMethod y ∈ WALL) (h6 : Cond.initialized y.cls ∈ WALL) (h5 : Cond.code y b n r ∈ WALL) : GoodIn WALL (va_wsU own idx C owner x y (WS y b n r)) := by
  refine wl_good fun w hw => ?_
  simp only [va_wsU, WS, List.cons_append, List.nil_append, List.mem_cons] at hw
  rcases hw with rfl | rfl | rfl | rfl | rfl | rfl | hw
  · exact h1
  · exact h2
  · exact h3
  · exact h4
  · exact h6
  · exact h5
  · exact hw
theorem gw_W {y : MethodName} {b : ByteArray} {n : Nat} {r : Option FieldType} (h5 : Cond.code y b n r ∈ WALL) : GoodIn WALL (WS y b n r) := by
  refine wl_good fun w hw => ?_
  simp only [WS, List.mem_cons] at hw
  rcases hw with rfl | hw
  · exact h5
  · exact hw
/-! the constants of the enum, the switch table: what a launch holds, at the addresses z -/
def SGN : List String := ["END", "BAD", "NAME", "NUMBER", "NEGATE", "OPEN", "CLOSE", "OPEN_TEST", "CLOSE_TEST", "SEMICOLON", "COMMA", "PLUS", "MINUS", "TIMES", "DIVIDE", "LESS", "GREATER", "EQUAL", "AT_MOST", "AT_LEAST", "BEAST", "GRIM", "FINE", "CARVER", "SKILL", "PACE", "LIKES", "STALL", "OAK", "BISHOP", "FROM", "CARVE", "ON", "BY", "OIL", "WHEN", "DAY", "DAMP", "QUALITY", "WORMS", "RUST", "COINS", "BEARS", "SQUEAKS", "NOT", "AND", "OR", "MIN", "MAX"]
def SGo : List Int32 := [0, 1, 2, 3, 4, 5, 6, 7, 8, 9, 10, 11, 12, 13, 14, 15, 16, 17, 18, 19, 20, 21, 22, 23, 24, 25, 26, 27, 28, 29, 30, 31, 32, 33, 34, 35, 36, 37, 38, 39, 40, 41, 42, 43, 44, 45, 46, 47, 48]
def SGc : List Int64 := [0, 0, 0, 0, 0, 0, 0, 0, 0, 0, 0, 0, 0, 0, 0, 0, 0, 0, 0, 0, 23265889, 900159, 837362, 923549887, 55441229, 1332533, 42223282, 55886154, 34653, 869231073, 849728, 24960807, 949, 479, 34950, 1696770, 19608, 725078, 71446033003, 63152850, 1461826, 25657346, 23265851, 76337227351, 33811, 15961, 953, 32214, 31928]
def SGm : List Int32 := [0, 0, 0, 11, 22, 19, 0, 8, 0, 0, 0, 23, 18, 24, 25, 26, 27, 28, 29, 30, 1, 0, 0, 2, 0, 0, 0, 3, 0, 4, 0, 5, 0, 0, 6, 0, 12, 13, 15, 16, 17, 14, 9, 10, 7, 31, 0, 20, 21]
def SGF : List (String × String × String × List Int32) := [("java/lang/Enum", "ordinal", "I", SGo)]
/-- what never changes: nests' words, the enum's constants with ordinal and code, the switch table, the constants kept once -/
def Zs (z : Nat → Nat) (A : Nat → Prop) (U : State) (H : Heap) : Prop :=
  Nst U ∧ va_En "ChoirStalls$Sign" "LChoirStalls$Sign;" SGN SGF z A U H ∧
  va_Ef 49 "ChoirStalls$Sign" "code" "J" (fun k => .long (SGc.getD k 0)) z A U H ∧
  va_Z "ChoirStalls$1" "$SwitchMap$ChoirStalls$Sign" "[I" (.ref (z 100)) A U H ∧
  va_T .int (z 100) 49 (fun j => .int (SGm.getD j 0)) A U H ∧
  va_Z "ChoirStalls" "SIGNS" "[LChoirStalls$Sign;" (.ref (z 101)) A U H ∧
  va_T (.object "ChoirStalls$Sign") (z 101) 49 (fun j => .ref (z j)) A U H ∧ va_AO "ChoirStalls$Sign" U
theorem Zs.nst {z : Nat → Nat} {A : Nat → Prop} {U : State} {H : Heap} (h : Zs z A U H) : Nst U := h.1
theorem Zs.en {z : Nat → Nat} {A : Nat → Prop} {U : State} {H : Heap} (h : Zs z A U H) : va_En "ChoirStalls$Sign" "LChoirStalls$Sign;" SGN SGF z A U H := h.2.1
theorem Zs.cod {z : Nat → Nat} {A : Nat → Prop} {U : State} {H : Heap} (h : Zs z A U H) : va_Ef 49 "ChoirStalls$Sign" "code" "J" (fun k => .long (SGc.getD k 0)) z A U H := h.2.2.1
theorem Zs.sws {z : Nat → Nat} {A : Nat → Prop} {U : State} {H : Heap} (h : Zs z A U H) : va_Z "ChoirStalls$1" "$SwitchMap$ChoirStalls$Sign" "[I" (.ref (z 100)) A U H := h.2.2.2.1
theorem Zs.swt {z : Nat → Nat} {A : Nat → Prop} {U : State} {H : Heap} (h : Zs z A U H) : va_T .int (z 100) 49 (fun j => .int (SGm.getD j 0)) A U H := h.2.2.2.2.1
theorem Zs.sgs {z : Nat → Nat} {A : Nat → Prop} {U : State} {H : Heap} (h : Zs z A U H) : va_Z "ChoirStalls" "SIGNS" "[LChoirStalls$Sign;" (.ref (z 101)) A U H := h.2.2.2.2.2.1
theorem Zs.sgt {z : Nat → Nat} {A : Nat → Prop} {U : State} {H : Heap} (h : Zs z A U H) : va_T (.object "ChoirStalls$Sign") (z 101) 49 (fun j => .ref (z j)) A U H := h.2.2.2.2.2.2.1
theorem Zs.ao {z : Nat → Nat} {A : Nat → Prop} {U : State} {H : Heap} (h : Zs z A U H) : va_AO "ChoirStalls$Sign" U := h.2.2.2.2.2.2.2
theorem Zs.kept {z : Nat → Nat} {A : Nat → Prop} {U : State} {H H1 : Heap} (h : Zs z A U H) (hq : ∀ a : Nat, a < H.size → ¬ A a → H1[a]? = H[a]?) : Zs z A U H1 := by
  obtain ⟨h0, h1, h2, h3, h4, h5, h6, h7⟩ := h
  exact ⟨h0, h1.kept hq, h2.kept hq, h3.kept hq, h4.kept hq, h5.kept hq, h6.kept hq, h7⟩
theorem Zs.narrow {z : Nat → Nat} {A B : Nat → Prop} {U : State} {H : Heap} (h : Zs z A U H) (hq : ∀ q, B q → A q) : Zs z B U H := by
  obtain ⟨h0, h1, h2, h3, h4, h5, h6, h7⟩ := h
  exact ⟨h0, h1.narrow hq, h2.narrow hq, h3.narrow hq, h4.narrow hq, h5.narrow hq, h6.narrow hq, h7⟩
theorem Zs.moved {z : Nat → Nat} {A : Nat → Prop} {u U : State} {H : Heap} (hn : Nst U) (hv : u.vm.Alike U.vm) (h : Zs z A u H) : Zs z A U H := by
  obtain ⟨h0, h1, h2, h3, h4, h5, h6, h7⟩ := h
  exact ⟨hn, va_En.moved hv h1, va_Ef.moved hv h2, va_Z.moved hv h3, va_T.moved hv h4, va_Z.moved hv h5, va_T.moved hv h6, va_AO.moved hv h7⟩
abbrev CLS : List vw_C := [(RX1, TX1, 14), (RX2, TX2, 6), (RX3, TX3, 2), (RX4, TX4, 2), (RX5, TX5, 1), (RX7, TX7, 4), (RX8, TX8, 8), (RX9, TX9, 19), (RX10, TX10, 8), (RX11, TX11, 9), (RB1, TB1, 4), (RB0, TB0, 4)]
abbrev TYS (g : Nat → ClassId) : List (ClassId × FieldType) := [(g 0, .int), (g 1, .long), (g 2, .object "ChoirStalls$Sign"), (g 3, .byte), (g 4, .array .int), (g 5, .boolean)]
/-- a contract's start: the cells w, nothing else of the heap is touched -/
def kPre (z : Nat → Nat) (D : va_G) (g : Nat → ClassId) (w : va_W) (sz : Nat) : State → Prop := fun U => U.heap.size = sz ∧ va_P D CLS w U.heap ∧ va_K D CLS (TYS g) U ∧ va_D (fun _ => True) w ∧ Zs z (va_A w sz) U U.heap
/-- .. and its end: the cells w1 -/
def kB {S : Type} (D : va_G) (g : Nat → ClassId) (A : Nat → Prop) (w1 : S → va_W) : S → State → Prop := fun u t => va_P D CLS (w1 u) t.heap ∧ va_K D CLS (TYS g) t ∧ va_D A (w1 u)
theorem kBlind {z : Nat → Nat} {D : va_G} {g : Nat → ClassId} {w : va_W} {sz : Nat} {av : List Value} : FrameBlind (va_Pc av (kPre z D g w sz)) := by
  intro a U gg mk q
  obtain ⟨q0, q1, qP, qK, qD, qZ⟩ := q
  exact ⟨q0, q1, qP, va_K.moved (u := U) (U := U.calling gg mk a) (Vm.Alike.refl U.vm) qK, qD, Zs.moved (u := U) (U := U.calling gg mk a) (Nst.same (u := U) rfl qZ.1) (Vm.Alike.refl U.vm) qZ⟩
theorem kSub {D : va_G} {cl : List vw_C} {ws wc : va_W} {H : Heap} (h : va_P D cl ws H) (is : List Nat) (hs : is.map (fun i => ws[i]?) = wc.map some) : va_P D cl wc H := by
  intro k q hk
  have h1 : (is.map (fun i => ws[i]?))[k]? = some (some q) := by rw [hs, List.getElem?_map, hk]; rfl
  rw [List.getElem?_map] at h1
  cases hi : is[k]? with
  | none => rw [hi] at h1; cases h1
  | some i => rw [hi] at h1; exact h i q (Option.some.inj h1)
section KW
variable {p : Program} {l : Launch} {e : Env} {R : Room} {s : State} {m : MethodId} {args : Array Value} {below : List Frame} {meth : Method} {c : Code} {H : Heap} {locs : List Loc} {cells slots : Nat} {Q : State → Prop}
variable {z : Nat → Nat} {D : va_G} {g : Nat → ClassId} {A : Nat → Prop} {ws wc wr : va_W}
theorem kPre.of (hK : va_K D CLS (TYS g) s) (hZ : Zs z A s s.heap) (hA : ∀ q : Nat, s.heap.size ≤ q → A q) (hP : va_P D CLS ws H) (hD : va_D A ws) (hS : va_S A s.heap H locs) (is : List Nat) (hs : is.map (fun i => ws[i]?) = wc.map some) (hn : va_nd is = true) : ∀ U : State, U.heap = H → s.WarmedH U.vm → kPre z D g wc H.size U := by
  intro U hU hW
  refine ⟨by rw [hU], by rw [hU]; exact kSub hP is hs, va_K.moved hW.alike hK, (hD.sub is hn hs).weaken (fun _ _ _ _ => trivial), ?_⟩
  rw [hU]
  have h1 : Zs z A s H := hZ.kept hS.2.1
  have h2 : Zs z (va_A wc H.size) s H := h1.narrow (va_free hD hS hA is hs)
  exact Zs.moved (Nst.warm hW hZ.1) hW.alike h2
theorem kPre.pc {av : List Value} (hK : va_K D CLS (TYS g) s) (hZ : Zs z A s s.heap) (hA : ∀ q : Nat, s.heap.size ≤ q → A q) (hP : va_P D CLS ws H) (hD : va_D A ws) (hS : va_S A s.heap H locs) (is : List Nat) (hs : is.map (fun i => ws[i]?) = wc.map some) (hn : va_nd is = true) : ∀ U : State, U.heap = H → s.WarmedH U.vm → va_Pc av (kPre z D g wc H.size) av.toArray U := fun U h1 h2 => ⟨rfl, kPre.of hK hZ hA hP hD hS is hs hn U h1 h2⟩
variable {pc : Nat} {ls : Array Slot} {rest st0 : List Value} {a : Array Value} {mc ms : Nat}
theorem k_i {S : Type} {post : Int32 → S → Prop} {w1 : S → va_W} (hA : ∀ q : Nat, s.heap.size ≤ q → A q) (hP : va_P D CLS ws H) (hD : va_D A ws) (hS : va_S A s.heap H locs) (wr : va_W)
    (hr : va_Run p l e R s m args below meth c H locs cells slots mc ms (F0 m pc ls st0) rest (va_Qi post (kB D g (va_A wc H.size) w1) (va_A wc H.size) a) (va_A wc H.size)) (isC isR : List Nat) (hC : isC.map (fun i => ws[i]?) = wc.map some) (hR : isR.map (fun i => ws[i]?) = wr.map some) (hn : va_nd isR = true) (hdis : isR.all (fun i => !isC.contains i) = true)
    (kk : ∀ (r : Int32) (u : S) (H1 : Heap) (locs1 : List Loc), post r u → va_P D CLS (wr ++ w1 u) H1 → va_D A (wr ++ w1 u) → va_S A s.heap H1 locs1 → W p l e R s m args below meth c H1 locs1 (cells + mc) (slots + ms) Q (F0 m (pc + 3) ls (.int r :: rest))) : W p l e R s m args below meth c H locs cells slots Q (F0 m pc ls st0) := by
  have hF := va_free hD hS hA isC hC
  have hd : ∀ i ∈ isR, i ∉ isC := fun i hi => by simpa using List.all_eq_true.mp hdis i hi
  refine va_calli hr hS (fun q _ h => hF q h) hF (fun r u t H1 locs1 ht hvm hp hB hz hk hS1 => ?_)
  obtain ⟨hP1, hK1, hD1⟩ := hB
  rw [ht] at hP1
  obtain ⟨h1, h2⟩ := va_join hP hD isC isR hC hR hn hd hk hF hP1 hD1
  exact kk r u H1 locs1 hp h1 h2 hS1
theorem k_l {S : Type} {post : Int64 → S → Prop} {w1 : S → va_W} (hA : ∀ q : Nat, s.heap.size ≤ q → A q) (hP : va_P D CLS ws H) (hD : va_D A ws) (hS : va_S A s.heap H locs) (wr : va_W)
    (hr : va_Run p l e R s m args below meth c H locs cells slots mc ms (F0 m pc ls st0) rest (va_Ql post (kB D g (va_A wc H.size) w1) (va_A wc H.size) a) (va_A wc H.size)) (isC isR : List Nat) (hC : isC.map (fun i => ws[i]?) = wc.map some) (hR : isR.map (fun i => ws[i]?) = wr.map some) (hn : va_nd isR = true) (hdis : isR.all (fun i => !isC.contains i) = true)
    (kk : ∀ (r : Int64) (u : S) (H1 : Heap) (locs1 : List Loc), post r u → va_P D CLS (wr ++ w1 u) H1 → va_D A (wr ++ w1 u) → va_S A s.heap H1 locs1 → W p l e R s m args below meth c H1 locs1 (cells + mc) (slots + ms) Q (F0 m (pc + 3) ls (.long r :: rest))) : W p l e R s m args below meth c H locs cells slots Q (F0 m pc ls st0) := by
  have hF := va_free hD hS hA isC hC
  have hd : ∀ i ∈ isR, i ∉ isC := fun i hi => by simpa using List.all_eq_true.mp hdis i hi
  refine va_calll hr hS (fun q _ h => hF q h) hF (fun r u t H1 locs1 ht hvm hp hB hz hk hS1 => ?_)
  obtain ⟨hP1, hK1, hD1⟩ := hB
  rw [ht] at hP1
  obtain ⟨h1, h2⟩ := va_join hP hD isC isR hC hR hn hd hk hF hP1 hD1
  exact kk r u H1 locs1 hp h1 h2 hS1
theorem k_v {S : Type} {post : S → Prop} {w1 : S → va_W} (hA : ∀ q : Nat, s.heap.size ≤ q → A q) (hP : va_P D CLS ws H) (hD : va_D A ws) (hS : va_S A s.heap H locs) (wr : va_W)
    (hr : va_Run p l e R s m args below meth c H locs cells slots mc ms (F0 m pc ls st0) rest (va_Qv post (kB D g (va_A wc H.size) w1) (va_A wc H.size) a) (va_A wc H.size)) (isC isR : List Nat) (hC : isC.map (fun i => ws[i]?) = wc.map some) (hR : isR.map (fun i => ws[i]?) = wr.map some) (hn : va_nd isR = true) (hdis : isR.all (fun i => !isC.contains i) = true)
    (kk : ∀ (u : S) (H1 : Heap) (locs1 : List Loc), post u → va_P D CLS (wr ++ w1 u) H1 → va_D A (wr ++ w1 u) → va_S A s.heap H1 locs1 → W p l e R s m args below meth c H1 locs1 (cells + mc) (slots + ms) Q (F0 m (pc + 3) ls rest)) : W p l e R s m args below meth c H locs cells slots Q (F0 m pc ls st0) := by
  have hF := va_free hD hS hA isC hC
  have hd : ∀ i ∈ isR, i ∉ isC := fun i hi => by simpa using List.all_eq_true.mp hdis i hi
  refine va_callv hr hS (fun q _ h => hF q h) hF (fun u t H1 locs1 ht hvm hp hB hz hk hS1 => ?_)
  obtain ⟨hP1, hK1, hD1⟩ := hB
  rw [ht] at hP1
  obtain ⟨h1, h2⟩ := va_join hP hD isC isR hC hR hn hd hk hF hP1 hD1
  exact kk u H1 locs1 hp h1 h2 hS1
theorem k_q {S : Type} {post : Option Nat → S → Prop} {w1 : S → va_W} (hA : ∀ q : Nat, s.heap.size ≤ q → A q) (hP : va_P D CLS ws H) (hD : va_D A ws) (hS : va_S A s.heap H locs) (wr : va_W)
    (hr : va_Run p l e R s m args below meth c H locs cells slots mc ms (F0 m pc ls st0) rest (va_Qq post (kB D g (va_A wc H.size) w1) (va_A wc H.size) a) (va_A wc H.size)) (isC isR : List Nat) (hC : isC.map (fun i => ws[i]?) = wc.map some) (hR : isR.map (fun i => ws[i]?) = wr.map some) (hn : va_nd isR = true) (hdis : isR.all (fun i => !isC.contains i) = true)
    (kk : ∀ (r : Option Nat) (u : S) (H1 : Heap) (locs1 : List Loc), post r u → va_P D CLS (wr ++ w1 u) H1 → va_D A (wr ++ w1 u) → va_S A s.heap H1 locs1 → W p l e R s m args below meth c H1 locs1 (cells + mc) (slots + ms) Q (F0 m (pc + 3) ls (va_rf r :: rest))) : W p l e R s m args below meth c H locs cells slots Q (F0 m pc ls st0) := by
  have hF := va_free hD hS hA isC hC
  have hd : ∀ i ∈ isR, i ∉ isC := fun i hi => by simpa using List.all_eq_true.mp hdis i hi
  refine va_callq hr hS (fun q _ h => hF q h) hF (fun r u t H1 locs1 ht hvm hp hB hz hk hS1 => ?_)
  obtain ⟨hP1, hK1, hD1⟩ := hB
  rw [ht] at hP1
  obtain ⟨h1, h2⟩ := va_join hP hD isC isR hC hR hn hd hk hF hP1 hD1
  exact kk r u H1 locs1 hp h1 h2 hS1
end KW
