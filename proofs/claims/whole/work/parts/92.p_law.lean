/-! the law: its world, what holds at its loop's head -/
theorem gw_SH {own : String} {idx : Nat} {y : MethodName} {b : ByteArray} {n : Nat} {r : Option FieldType} {hh : List (Nat × Nat × Nat × Nat)} (h1 : Cond.methodLink own idx y ∈ WALL) (h2 : Cond.static y ∈ WALL) (h4 : Cond.initialized y.cls ∈ WALL) (h5 : Cond.codeWith y b n r hh ∈ WALL) : GoodIn WALL (va_wsS own idx y (WSH y b n r hh)) := by
  refine wl_good fun w hw => ?_
  simp only [va_wsS, WSH, List.cons_append, List.nil_append, List.mem_cons] at hw
  rcases hw with rfl | rfl | rfl | rfl | hw
  · exact h1
  · exact h2
  · exact h4
  · exact h5
  · exact hw
theorem nI6 (i : Nat) : nI (6 * i) + 6 = nI (6 * (i + 1)) := by
  rw [show (6 : Int32) = nI 6 from rfl, nI_add, show 6 * i + 6 = 6 * (i + 1) by omega]
section KDW
variable {p : Program} {l : Launch} {e : Env} {R : Room} {s : State} {m : MethodId} {args : Array Value} {below : List Frame} {meth : Method} {c : Code} {H : Heap} {locs : List Loc} {cells slots : Nat} {Q : State → Prop}
variable {D : va_G} {g : Nat → ClassId} {A : Nat → Prop} {ws wc wr : va_W} {pc : Nat} {ls : Array Slot} {rest st0 : List Value} {a : Array Value} {mc ms : Nat}
theorem k_d {S : Type} {post : UInt64 → S → Prop} {w1 : S → va_W} (hA : ∀ q : Nat, s.heap.size ≤ q → A q) (hP : va_P D CLS ws H) (hD : va_D A ws) (hS : va_S A s.heap H locs) (wr : va_W)
    (hr : va_Run p l e R s m args below meth c H locs cells slots mc ms (F0 m pc ls st0) rest (va_Qd post (kB D g (va_A wc H.size) w1) (va_A wc H.size) a) (va_A wc H.size)) (isC isR : List Nat) (hC : isC.map (fun i => ws[i]?) = wc.map some) (hR : isR.map (fun i => ws[i]?) = wr.map some) (hn : va_nd isR = true) (hdis : isR.all (fun i => !isC.contains i) = true)
    (kk : ∀ (r : UInt64) (u : S) (H1 : Heap) (locs1 : List Loc), post r u → va_P D CLS (wr ++ w1 u) H1 → va_D A (wr ++ w1 u) → va_S A s.heap H1 locs1 → W p l e R s m args below meth c H1 locs1 (cells + mc) (slots + ms) Q (F0 m (pc + 3) ls (.double r :: rest))) : W p l e R s m args below meth c H locs cells slots Q (F0 m pc ls st0) := by
  have hF := va_free hD hS hA isC hC
  have hd : ∀ i ∈ isR, i ∉ isC := fun i hi => by simpa using List.all_eq_true.mp hdis i hi
  refine va_calld hr hS (fun q _ h => hF q h) hF (fun r u t H1 locs1 ht hvm hp hB hz hk hS1 => ?_)
  obtain ⟨hP1, hK1, hD1⟩ := hB
  rw [ht] at hP1
  obtain ⟨h1, h2⟩ := va_join hP hD isC isR hC hR hn hd hk hF hP1 hD1
  exact kk r u H1 locs1 hp h1 h2 hS1
end KDW
def tnY (y : LSt) : Nat → Nat := updN y.2.1 5 (kc y.1)
def LWW (z : Nat → Nat) (g : Nat → ClassId) (x : Nat) (tp : Nat) (tpa : Nat) (t : Nat) (u : Nat) (rd : Nat) (tk : Nat) (ch : Nat) (ci : Nat) (ta : Nat → Nat) (ua : Nat → Nat) (xa : Nat → Nat) (ca : Nat → Nat) (cb : Nat → Nat) (mo : Nat) (sh : Nat) (ma : Nat → Nat) (ha : Nat → Nat) (sa : Nat → Nat) (sb : Nat → Nat) (ou : Nat) (n : Nat) (ep : Int32) (bt : Nat → Int32) (y : LSt) (y2 : LSt) (c : CS) (e : CS) (la : Int32) (t0 : Nat) (fv : Nat → Int32) (gv : Nat → Int32) (ks : Nat → Int32) (kt : Nat) (lks : Nat → Int32) (lkt : Nat) (d0 : Nat) (fd : Int32) (er : Int32) (et : Int32) (ep2 : Int32) (fi : Int32) (le : Nat) (pz : Nat) (v0 : Int64) (sq : Nat → Nat) (sv : Nat → Int64) (spl : Nat → Int32) (th : Int32) (mtk : Int32) (mdp : Int32) (wk : Int32) (sn : Nat) (ln : Int32) (sr : Nat → Nat → Int32) (s2 : Nat → Nat → Int32) (we : Nat → Int32) (e2 : CS) (of : Nat → Int64) : va_W :=
  [(x, .inr (8, [.ref tp, .ref t, .ref u, .ref rd, .ref ch, .ref ci, .int (nI n), .int ep])), (tp, .inr (4, [.ref tpa])), (tpa, .inl (g 0, 2000, .inl bt)), (ta 35, .inr (5, [.ref (ta 36), .ref (ta 37), .ref (ta 39), .int (nI (kc y.1))])), (ta 36, .inl (g 2, 400, .inr (.inr (.inr (.inr (fun i9 => sgo z (y.1.2.2.2.2.2.1 i9))))))), (ta 37, .inr (4, [.ref (ta 38)])), (ta 38, .inl (g 0, 400, .inl y.1.2.2.2.2.2.2.1)), (ta 39, .inr (4, [.ref (ta 40)])), (ta 40, .inl (g 0, 400, .inl y.1.2.2.2.2.2.2.2)), (t, .inr (7, [.ref (ta 1), .ref (ta 3), .ref (ta 5), .ref (ta 7), .int (nI (y.2.1 4)), .ref (ta 9), .ref (ta 11), .ref (ta 13), .ref (ta 15), .ref (ta 17), .ref (ta 19), .ref (ta 21), .ref (ta 23), .ref (ta 25), .ref (ta 27), .ref (ta 29), .ref (ta 31), .ref (ta 33), .ref (ta 35)])), (ta 1, .inr (2, [.ref (ta 2), .int (nI (y.2.1 0))])), (ta 2, .inl (g 1, 8, .inr (.inl (y.2.2.1 0)))), (ta 3, .inr (2, [.ref (ta 4), .int (nI (y.2.1 1))])), (ta 4, .inl (g 1, 5, .inr (.inl (y.2.2.1 1)))), (ta 5, .inr (2, [.ref (ta 6), .int (nI (y.2.1 2))])), (ta 6, .inl (g 1, 10, .inr (.inl (y.2.2.1 2)))), (ta 7, .inr (2, [.ref (ta 8), .int (nI (y.2.1 3))])), (ta 8, .inl (g 1, 6, .inr (.inl (y.2.2.1 3)))), (ta 9, .inr (4, [.ref (ta 10)])), (ta 10, .inl (g 0, 8, .inl (y.2.2.2.1 0))), (ta 11, .inr (4, [.ref (ta 12)])), (ta 12, .inl (g 0, 8, .inl (y.2.2.2.1 1))), (ta 13, .inr (4, [.ref (ta 14)])), (ta 14, .inl (g 0, 5, .inl (y.2.2.2.1 2))), (ta 15, .inr (4, [.ref (ta 16)])), (ta 16, .inl (g 0, 5, .inl (y.2.2.2.1 3))), (ta 17, .inr (4, [.ref (ta 18)])), (ta 18, .inl (g 0, 5, .inl (y.2.2.2.1 4))), (ta 19, .inr (4, [.ref (ta 20)])), (ta 20, .inl (g 0, 10, .inl (y.2.2.2.1 5))), (ta 21, .inr (4, [.ref (ta 22)])), (ta 22, .inl (g 0, 6, .inl (y.2.2.2.1 6))), (ta 23, .inr (4, [.ref (ta 24)])), (ta 24, .inl (g 0, 6, .inl (y.2.2.2.1 7))), (ta 25, .inr (4, [.ref (ta 26)])), (ta 26, .inl (g 0, 20, .inl (y.2.2.2.1 8))), (ta 27, .inr (4, [.ref (ta 28)])), (ta 28, .inl (g 0, 20, .inl (y.2.2.2.1 9))), (ta 29, .inr (4, [.ref (ta 30)])), (ta 30, .inl (g 0, 20, .inl (y.2.2.2.1 10))), (ta 31, .inr (4, [.ref (ta 32)])), (ta 32, .inl (g 0, 20, .inl (fun j => nI (y.2.2.2.2.1 j)))), (ta 33, .inr (4, [.ref (ta 34)])), (ta 34, .inl (g 0, 20, .inl (fun j => nI (y.2.2.2.2.2 j)))), (ua 35, .inr (5, [.ref (ua 36), .ref (ua 37), .ref (ua 39), .int (nI (kc y2.1))])), (ua 36, .inl (g 2, 400, .inr (.inr (.inr (.inr (fun i9 => sgo z (y2.1.2.2.2.2.2.1 i9))))))), (ua 37, .inr (4, [.ref (ua 38)])), (ua 38, .inl (g 0, 400, .inl y2.1.2.2.2.2.2.2.1)), (ua 39, .inr (4, [.ref (ua 40)])), (ua 40, .inl (g 0, 400, .inl y2.1.2.2.2.2.2.2.2)), (u, .inr (7, [.ref (ua 1), .ref (ua 3), .ref (ua 5), .ref (ua 7), .int (nI (y2.2.1 4)), .ref (ua 9), .ref (ua 11), .ref (ua 13), .ref (ua 15), .ref (ua 17), .ref (ua 19), .ref (ua 21), .ref (ua 23), .ref (ua 25), .ref (ua 27), .ref (ua 29), .ref (ua 31), .ref (ua 33), .ref (ua 35)])), (ua 1, .inr (2, [.ref (ua 2), .int (nI (y2.2.1 0))])), (ua 2, .inl (g 1, 8, .inr (.inl (y2.2.2.1 0)))), (ua 3, .inr (2, [.ref (ua 4), .int (nI (y2.2.1 1))])), (ua 4, .inl (g 1, 5, .inr (.inl (y2.2.2.1 1)))), (ua 5, .inr (2, [.ref (ua 6), .int (nI (y2.2.1 2))])), (ua 6, .inl (g 1, 10, .inr (.inl (y2.2.2.1 2)))), (ua 7, .inr (2, [.ref (ua 8), .int (nI (y2.2.1 3))])), (ua 8, .inl (g 1, 6, .inr (.inl (y2.2.2.1 3)))), (ua 9, .inr (4, [.ref (ua 10)])), (ua 10, .inl (g 0, 8, .inl (y2.2.2.2.1 0))), (ua 11, .inr (4, [.ref (ua 12)])), (ua 12, .inl (g 0, 8, .inl (y2.2.2.2.1 1))), (ua 13, .inr (4, [.ref (ua 14)])), (ua 14, .inl (g 0, 5, .inl (y2.2.2.2.1 2))), (ua 15, .inr (4, [.ref (ua 16)])), (ua 16, .inl (g 0, 5, .inl (y2.2.2.2.1 3))), (ua 17, .inr (4, [.ref (ua 18)])), (ua 18, .inl (g 0, 5, .inl (y2.2.2.2.1 4))), (ua 19, .inr (4, [.ref (ua 20)])), (ua 20, .inl (g 0, 10, .inl (y2.2.2.2.1 5))), (ua 21, .inr (4, [.ref (ua 22)])), (ua 22, .inl (g 0, 6, .inl (y2.2.2.2.1 6))), (ua 23, .inr (4, [.ref (ua 24)])), (ua 24, .inl (g 0, 6, .inl (y2.2.2.2.1 7))), (ua 25, .inr (4, [.ref (ua 26)])), (ua 26, .inl (g 0, 20, .inl (y2.2.2.2.1 8))), (ua 27, .inr (4, [.ref (ua 28)])), (ua 28, .inl (g 0, 20, .inl (y2.2.2.2.1 9))), (ua 29, .inr (4, [.ref (ua 30)])), (ua 30, .inl (g 0, 20, .inl (y2.2.2.2.1 10))), (ua 31, .inr (4, [.ref (ua 32)])), (ua 32, .inl (g 0, 20, .inl (fun j => nI (y2.2.2.2.2.1 j)))), (ua 33, .inr (4, [.ref (ua 34)])), (ua 34, .inl (g 0, 20, .inl (fun j => nI (y2.2.2.2.2.2 j)))), (rd, .inr (1, [.ref tk, .ref d0, .int fd, .int er, .int et, .int ep2])), (tk, .inr (6, [.ref tp, .ref (xa 1), .ref (xa 2), .ref (xa 3), .int fi, .int (nI le), .int (nI pz), .long v0])), (xa 1, .inl (g 2, 401, .inr (.inr (.inr (.inr (fun i9 => sgo z (sq i9))))))), (xa 2, .inl (g 1, 401, .inr (.inl sv))), (xa 3, .inr (4, [.ref (xa 4)])), (xa 4, .inl (g 0, 401, .inl spl)), (ch, .inr (0, [.ref t, .int c.1.1, .int c.1.2.1, .int c.1.2.2.1, .int c.2.1, .int (-1), .ref (ca 1), .ref (ca 3), .ref (ca 5), .ref (ca 7), .ref (ca 9), .ref (ca 11), .ref (ca 13), .ref (ca 15)])), (ca 1, .inr (4, [.ref (ca 2)])), (ca 2, .inl (g 0, 10, .inl c.1.2.2.2.1)), (ca 3, .inr (4, [.ref (ca 4)])), (ca 4, .inl (g 0, 10, .inl c.1.2.2.2.2.1)), (ca 5, .inr (4, [.ref (ca 6)])), (ca 6, .inl (g 0, 10, .inl c.1.2.2.2.2.2.1)), (ca 7, .inr (4, [.ref (ca 8)])), (ca 8, .inl (g 0, 10, .inl fv)), (ca 9, .inr (4, [.ref (ca 10)])), (ca 10, .inl (g 0, 10, .inl c.1.2.2.2.2.2.2)), (ca 11, .inr (4, [.ref (ca 12)])), (ca 12, .inl (g 0, 20, .inl c.2.2.1)), (ca 13, .inr (4, [.ref (ca 14)])), (ca 14, .inl (g 0, 5, .inl c.2.2.2)), (ca 15, .inr (3, [.ref (ca 16), .int (nI kt)])), (ca 16, .inl (g 0, 400, .inl ks)), (ci, .inr (0, [.ref t0, .int e.1.1, .int e.1.2.1, .int e.1.2.2.1, .int e.2.1, .int la, .ref (cb 1), .ref (cb 3), .ref (cb 5), .ref (cb 7), .ref (cb 9), .ref (cb 11), .ref (cb 13), .ref (cb 15)])), (cb 1, .inr (4, [.ref (cb 2)])), (cb 2, .inl (g 0, 10, .inl e.1.2.2.2.1)), (cb 3, .inr (4, [.ref (cb 4)])), (cb 4, .inl (g 0, 10, .inl e.1.2.2.2.2.1)), (cb 5, .inr (4, [.ref (cb 6)])), (cb 6, .inl (g 0, 10, .inl e.1.2.2.2.2.2.1)), (cb 7, .inr (4, [.ref (cb 8)])), (cb 8, .inl (g 0, 10, .inl gv)), (cb 9, .inr (4, [.ref (cb 10)])), (cb 10, .inl (g 0, 10, .inl e.1.2.2.2.2.2.2)), (cb 11, .inr (4, [.ref (cb 12)])), (cb 12, .inl (g 0, 20, .inl e.2.2.1)), (cb 13, .inr (4, [.ref (cb 14)])), (cb 14, .inl (g 0, 5, .inl e.2.2.2)), (cb 15, .inr (3, [.ref (cb 16), .int (nI lkt)])), (cb 16, .inl (g 0, 400, .inl lks)), (mo, .inr (11, [.int th, .ref (ma 1), .int (nI n), .int ep, .int mtk, .int mdp, .ref sh, .ref (ma 2), .ref (ma 3), .ref (ma 4), .int wk, .ref sn])), (ma 1, .inl (g 0, 2000, .inl bt)), (sh, .inr (9, [.ref (ha 0), .ref (ha 1), .ref (ha 2), .ref (ha 3), .int (nI (tnY y 0)), .ref (ha 4), .ref (ha 5), .ref (ha 6), .int (nI (tnY y 1)), .ref (ha 7), .ref (ha 8), .ref (ha 9), .ref (ha 10), .int (nI (tnY y 2)), .ref (ha 11), .ref (ha 12), .int (nI (tnY y 3)), .ref (ha 13), .ref (ha 14), .ref (ha 15), .int (nI (tnY y 4)), .ref (ha 16), .ref (ha 17), .ref (ha 18), .ref (ha 19), .ref (ha 20), .int ln])), (ha 0, .inl (g 0, 401, .inl (sr 0))), (ha 1, .inl (g 0, 401, .inl (s2 1))), (ha 2, .inl (g 0, 401, .inl (s2 2))), (ha 3, .inl (g 0, 401, .inl (sr 3))), (ha 4, .inl (g 0, 8, .inl (s2 4))), (ha 5, .inl (g 0, 8, .inl (sr 5))), (ha 6, .inl (g 0, 8, .inl (sr 6))), (ha 7, .inl (g 0, 5, .inl (s2 7))), (ha 8, .inl (g 0, 5, .inl (sr 8))), (ha 9, .inl (g 0, 5, .inl (sr 9))), (ha 10, .inl (g 0, 5, .inl (sr 10))), (ha 11, .inl (g 0, 10, .inl (s2 11))), (ha 12, .inl (g 0, 10, .inl (sr 12))), (ha 13, .inl (g 0, 6, .inl (s2 13))), (ha 14, .inl (g 0, 6, .inl (sr 14))), (ha 15, .inl (g 0, 6, .inl (sr 15))), (ha 16, .inl (g 0, 20, .inl (sr 16))), (ha 17, .inl (g 0, 20, .inl (sr 17))), (ha 18, .inl (g 0, 20, .inl (sr 18))), (ha 19, .inl (g 0, 20, .inl (sr 19))), (ha 20, .inl (g 0, 20, .inl (sr 20))), (ma 2, .inr (10, [.int c.1.1, .int c.1.2.1, .int c.1.2.2.1, .int c.2.1, .ref (sa 1), .ref (sa 2), .ref (sa 3), .ref (sa 4), .ref (sa 5), .ref (sa 6)])), (sa 1, .inl (g 0, 10, .inl c.1.2.2.2.1)), (sa 2, .inl (g 0, 10, .inl c.1.2.2.2.2.1)), (sa 3, .inl (g 0, 10, .inl c.1.2.2.2.2.2.1)), (sa 4, .inl (g 0, 10, .inl c.1.2.2.2.2.2.2)), (sa 5, .inl (g 0, 20, .inl c.2.2.1)), (sa 6, .inl (g 0, 5, .inl c.2.2.2)), (ma 3, .inr (10, [.int e2.1.1, .int e2.1.2.1, .int e2.1.2.2.1, .int e2.2.1, .ref (sb 1), .ref (sb 2), .ref (sb 3), .ref (sb 4), .ref (sb 5), .ref (sb 6)])), (sb 1, .inl (g 0, 10, .inl e2.1.2.2.2.1)), (sb 2, .inl (g 0, 10, .inl e2.1.2.2.2.2.1)), (sb 3, .inl (g 0, 10, .inl e2.1.2.2.2.2.2.1)), (sb 4, .inl (g 0, 10, .inl e2.1.2.2.2.2.2.2)), (sb 5, .inl (g 0, 20, .inl e2.2.2.1)), (sb 6, .inl (g 0, 5, .inl e2.2.2.2)), (ma 4, .inl (g 0, 10, .inl we)), (ou, .inl (g 1, 1, .inr (.inl of)))]
/-- what class and reference know alike: the tape's length and bytes, what is told, the day's state -/
def INV (i n : Nat) (bt : Nat → Int32) (y : LSt) (tst : Nat → VS → Bool) (sqm : Nat → Nat) (K : Nat) (sr : Nat → Nat → Int32) (c : CS) : Prop :=
  n ≤ 2000 ∧ (∃ q, byO bt q) ∧ SOK (tnY y) y.2.2.2.1 tst sqm K sr ∧ TstOK (tnY y 4) y.2.2.2.2.1 y.2.2.2.2.2 y.1.2.2.2.2.2.1 y.1.2.2.2.2.2.2.1 y.1.2.2.2.2.2.2.2 tst ∧ BOK (tnY y 0) (tnY y 2) c ∧ RGO (tnY y) y.2.2.2.1 ∧ QOK c ∧ ∃ m, c.1.2.2.1 = nI m ∧ m ≤ 3720 * i
def LWK (l9 : Launch) (s9 : State) (b : Nat) (z : Nat → Nat) (D : va_G) (g : Nat → ClassId) (A : Nat → Prop) : Prop :=
  va_K D CLS (TYS g) s9 ∧ Zs z A s9 s9.heap ∧ Ys z A s9 s9.heap ∧ Xs z A s9 s9.heap ∧ (∀ q : Nat, s9.heap.size ≤ q → A q) ∧ ¬ A b ∧ l9.stackTraces = false
def LWI (p9 : Program) (l9 : Launch) (e9 : Env) (s9 : State) (m9 : MethodId) (below9 : List Frame) (meth9 : Method) (c9 : Code) (b : Nat) (z : Nat → Nat) (D : va_G) (g : Nat → ClassId) (A : Nat → Prop) (i pc : Nat) : Prop :=
  ∀ (x : Nat) (tp : Nat) (tpa : Nat) (t : Nat) (u : Nat) (rd : Nat) (tk : Nat) (ch : Nat) (ci : Nat) (ta : Nat → Nat) (ua : Nat → Nat) (xa : Nat → Nat) (ca : Nat → Nat) (cb : Nat → Nat) (mo : Nat) (sh : Nat) (ma : Nat → Nat) (ha : Nat → Nat) (sa : Nat → Nat) (sb : Nat → Nat) (ou : Nat) (n : Nat) (ep : Int32) (bt : Nat → Int32) (y : LSt) (y2 : LSt) (c : CS) (e : CS) (la : Int32) (t0 : Nat) (fv : Nat → Int32) (gv : Nat → Int32) (ks : Nat → Int32) (kt : Nat) (lks : Nat → Int32) (lkt : Nat) (d0 : Nat) (fd : Int32) (er : Int32) (et : Int32) (ep2 : Int32) (fi : Int32) (le : Nat) (pz : Nat) (v0 : Int64) (sq : Nat → Nat) (sv : Nat → Int64) (spl : Nat → Int32) (th : Int32) (mtk : Int32) (mdp : Int32) (wk : Int32) (sn : Nat) (ln : Int32) (sr : Nat → Nat → Int32) (s2 : Nat → Nat → Int32) (we : Nat → Int32) (e2 : CS) (of : Nat → Int64) (tst : Nat → VS → Bool) (sqm : Nat → Nat) (K : Nat), INV i n bt y tst sqm K sr c → kt ≤ 400 → lkt ≤ 400 → ∀ (H : Heap) (locs : List Loc), va_P D CLS (LWW z g x tp tpa t u rd tk ch ci ta ua xa ca cb mo sh ma ha sa sb ou n ep bt y y2 c e la t0 fv gv ks kt lks lkt d0 fd er et ep2 fi le pz v0 sq sv spl th mtk mdp wk sn ln sr s2 we e2 of) H → va_D A (LWW z g x tp tpa t u rd tk ch ci ta ua xa ca cb mo sh ma ha sa sb ou n ep bt y y2 c e la t0 fv gv ks kt lks lkt d0 fd er et ep2 fi le pz v0 sq sv spl th mtk mdp wk sn ln sr s2 we e2 of) → va_S A s9.heap H locs → ∀ (ls : Array Slot), lv_has ls 9 [(0, .ref b), (1, .ref x), (2, .ref mo), (3, .ref ou), (4, .int (nI (6 * i)))] → W p9 l9 e9 room_1 s9 m9 #[Value.ref b] below9 meth9 c9 H locs (1000 + 100 * i) (100000 + 5000 * i) (lw_Z below9 #[Value.ref b] s9) (F0 m9 pc ls [])
section
variable {i n k d : Nat} {bt : Nat → Int32} {y : LSt} {tst : Nat → VS → Bool} {sqm : Nat → Nat} {K : Nat} {sr : Nat → Nat → Int32} {c : CS}
theorem inv_up (h : INV i n bt y tst sqm K sr c) : INV (i + 1) n bt y tst sqm K sr c := by
  obtain ⟨h1, h2, h3, h4, h5, h6, h7, m, h8, h9⟩ := h
  exact ⟨h1, h2, h3, h4, h5, h6, h7, m, h8, by omega⟩
theorem inv_feed (h : INV i n bt y tst sqm K sr c) (hn : n + 20 ≤ 2000) {p q r s t : Int32} : INV (i + 1) (n + 20) (fd5 bt n p q r s t) y tst sqm K sr c := by
  obtain ⟨h1, h2, h3, h4, h5, h6, h7, m, h8, h9⟩ := h
  exact ⟨hn, byO_fd h2, h3, h4, h5, h6, h7, m, h8, by omega⟩
theorem inv_trim (h : INV i n bt y tst sqm K sr c) (hk : k ≤ n) : INV (i + 1) k bt y tst sqm K sr c := by
  obtain ⟨h1, h2, h3, h4, h5, h6, h7, m, h8, h9⟩ := h
  exact ⟨by omega, h2, h3, h4, h5, h6, h7, m, h8, by omega⟩
theorem inv_damp (h : INV i n bt y tst sqm K sr c) {p : Int32} : INV (i + 1) n bt y tst sqm K sr (fDmp c p) := by
  obtain ⟨h1, h2, h3, h4, h5, h6, h7, m, h8, h9⟩ := h
  exact ⟨h1, h2, h3, h4, BOK_eq h5 rfl, h6, h7, m, h8, by omega⟩
theorem inv_oil (h : INV i n bt y tst sqm K sr c) : INV (i + 1) n bt y tst sqm K sr (fOld c k) := by
  obtain ⟨h1, h2, h3, h4, h5, h6, h7, m, h8, h9⟩ := h
  exact ⟨h1, h2, h3, h4, BOK_eq h5 rfl, h6, h7, m, h8, by omega⟩
theorem inv_smoke (h : INV i n bt y tst sqm K sr c) (hc : ¬ c.1.2.2.1 = 0) : INV (i + 1) n bt y tst sqm K sr (fSmk c k) := by
  obtain ⟨h1, h2, h3, h4, h5, h6, h7, m, h8, h9⟩ := h
  refine ⟨h1, h2, h3, h4, BOK_eq h5 rfl, h6, h7, m - 1, ?_, by omega⟩
  show c.1.2.2.1 - 1 = nI (m - 1)
  rw [h8] at hc ⊢
  cases m with
  | zero => exact absurd nI_0 hc
  | succ m => exact nI_pred m
theorem inv_strip (h : INV i n bt y tst sqm K sr c) : INV (i + 1) n bt y tst sqm K sr (fStp c k) := by
  obtain ⟨h1, h2, h3, h4, h5, h6, h7, m, h8, h9⟩ := h
  refine ⟨h1, h2, h3, h4, fun j hj hj2 => ?_, h6, QP_put h7 (by rw [i_0]; omega) (by rw [i_0]; omega), m, h8, by omega⟩
  show rat 10 (rput 10 c.1.2.2.2.1 (nI k) (-1)) (nI j) = (-1) ∨ inC (rat 10 (rput 10 c.1.2.2.2.1 (nI k) (-1)) (nI j)) (tnY y 0)
  rcases rat_rp (n := 10) (f := c.1.2.2.2.1) (i := nI k) (x := -1) (j := nI j) with e | e
  · exact Or.inl e
  · rw [e]; exact h5 j hj hj2
theorem inv_pass (h : INV i n bt y tst sqm K sr c) (hd : d ≤ 120) : INV (i + 1) n bt y tst sqm K sr (fLive y.2.2.2.1 (tnY y) tst (-1) c d) := by
  obtain ⟨h1, h2, h3, h4, h5, h6, h7, m, h8, h9⟩ := h
  obtain ⟨q1, m2, q2, q3, q4⟩ := fLive_q (ab := -1) h3 h6 h5 h7 h8 d
  exact ⟨h1, h2, h3, h4, fLive_ok h3 h5 d, h6, q1, m2, q2, by omega⟩
theorem inv_co (h : INV i n bt y tst sqm K sr c) (hi : i ≤ 600) : (c.1.2.2.1 = 0 ∧ c.1.2.2.1 < 1) ∨ (¬ c.1.2.2.1 = 0 ∧ 1 ≤ c.1.2.2.1) := by
  obtain ⟨h1, h2, h3, h4, h5, h6, h7, m, h8, h9⟩ := h
  rw [h8]
  cases m with
  | zero => exact Or.inl ⟨nI_0, by decide⟩
  | succ m => exact Or.inr ⟨fun e => absurd ((nI_eq (b := 0) (by omega) (by omega)).mp e) (by omega), nI_le (a := 1) (by omega) (by omega)⟩
theorem inv_adv (h : INV i n bt y tst sqm K sr c) (hi : i ≤ 600) (hd : d ≤ 120) : (fBest true (fAdC y.2.2.2.1 (tnY y) tst c d) (-1, 0) 10).1 = (fBmx true (fAdC y.2.2.2.1 (tnY y) tst c d) (0, (-1)) 10).1 := by
  obtain ⟨h1, h2, h3, h4, h5, h6, h7, m, h8, h9⟩ := h
  refine congrArg Prod.fst (best_1 (by omega) (fun j hj => ?_) (by omega)).1
  obtain ⟨q1, m2, q2, q3, q4⟩ := fLive_q (ab := -1) (c := fDmp c (nI j)) h3 h6 (BOK_eq h5 rfl) h7 h8 d
  show 0 ≤ (fLive y.2.2.2.1 (tnY y) tst (-1) (fDmp c (nI j)) d).1.2.2.1
  rw [q2]
  exact nI_pos' (by omega)
theorem inv_spa (h : INV i n bt y tst sqm K sr c) (hi : i ≤ 600) (hd : d ≤ 120) : (fBest false (fSpC y.2.2.2.1 (tnY y) tst c d) (-1, 0) (tnY y 1)).1 = (fBmx false (fSpC y.2.2.2.1 (tnY y) tst c d) ((-1), (-1)) (tnY y 1)).1 := by
  obtain ⟨h1, h2, h3, h4, h5, h6, h7, m, h8, h9⟩ := h
  refine best_0 (by have := h3.1; omega) (fun j hj => ?_)
  obtain ⟨q1, m2, q2, q3, q4⟩ := fLive_q (ab := nI j) h3 h6 h5 h7 h8 d
  show 0 ≤ (fLive y.2.2.2.1 (tnY y) tst (nI j) c d).1.2.2.1
  rw [q2]
  exact nI_pos' (by omega)
theorem inv_mean (h : INV i n bt y tst sqm K sr c) : ¬ (nI (tnY y 2) - fBear c.1.2.2.2.1 (-1) (tnY y 2)) = 0 → vf_n64 (FP.ddiv (FP.i2d (fQua c.1.2.2.2.1 c.1.2.2.2.2.1 (tnY y 2))) (FP.i2d (nI (tnY y 2) - fBear c.1.2.2.2.1 (-1) (tnY y 2)))) := by
  obtain ⟨h1, h2, h3, h4, h5, h6, h7, m, h8, h9⟩ := h
  exact mean_ok (by have := h3.1; omega) h7
theorem mean_c : ∀ q, q < 311 → ∀ d, d < 11 → Op.cmpValue (FP.dcmp (fMean (nI d) (nI q)) (fMean (nI d) (nI q))) .l = 0 := by decide +kernel
theorem inv_dcm (h : INV i n bt y tst sqm K sr c) : Op.cmpValue (FP.dcmp (fMean (nI (tnY y 2) - fBear c.1.2.2.2.1 (-1) (tnY y 2)) (fQua c.1.2.2.2.1 c.1.2.2.2.2.1 (tnY y 2))) (fMean (nI (tnY y 2) - fBear c.1.2.2.2.1 (-1) (tnY y 2)) (fQua c.1.2.2.2.1 c.1.2.2.2.2.1 (tnY y 2)))) .l = 0 := by
  obtain ⟨h1, h2, h3, h4, h5, h6, h7, m, h8, h9⟩ := h
  obtain ⟨-, -, hS, -, -⟩ := h3.1
  obtain ⟨j, hj, ej⟩ := fBear_n (fb := c.1.2.2.2.1) (x := -1) (tnY y 2)
  obtain ⟨q, hq, eq⟩ := fQua_n (fb := c.1.2.2.2.1) h7 (tnY y 2)
  rw [ej, eq, pk_sub hj]
  exact mean_c q (by omega) _ (by omega)
end
theorem kok_u {f : Nat → Int32} {n K K2 : Nat} (h : KOK f n K) (h2 : KOK f n K2) : K = K2 := by
  rcases Nat.lt_trichotomy K K2 with q | q | q
  · have := h2.2.1 K q; have := h.2.2; omega
  · exact q
  · have := h.2.1 K2 q; have := h2.2.2; omega
theorem eRg_p {v lo hi : Int32} : eRg v lo hi = 0 ∨ 0 < eRg v lo hi := by
  unfold eRg; split
  · exact Or.inl rfl
  · exact Or.inr (by decide)
theorem qEr_p {sq : Nat → Nat} {sm : Nat → Nat → Bool} {num : Nat → Int32} {k : Nat} {q : RS} : (qErr sq sm num k q).1 = 0 ∨ 0 < (qErr sq sm num k q).1 := by
  unfold qErr qNam qNum qOrd qNew
  repeat' split
  all_goals first | exact Or.inl rfl | exact Or.inr (show (0 : Int32) < 2 by decide) | exact Or.inr (show (0 : Int32) < 3 by decide) | exact Or.inr (show (0 : Int32) < 4 by decide) | exact eRg_p
theorem qEr_pos {sq : Nat → Nat} {sm : Nat → Nat → Bool} {num : Nat → Int32} {k : Nat} {q : RS} (h : ¬ (qErr sq sm num k q).1 = 0) : 0 < (qErr sq sm num k q).1 := qEr_p.resolve_left h
theorem rdR_pos {f : Nat → Int32} {n : Nat} (h : ¬ rdR f n q00 = 0) : 0 < rdR f n q00 := by
  unfold rdR at h ⊢
  by_cases c : (rLst (tkS f n) 401 0).1 = true
  · rw [if_pos c] at h ⊢
    split
    · rename_i e; rw [e] at h; exact absurd rfl h
    · rename_i k e
      rw [e] at h
      exact qEr_pos h
  · rw [if_neg c]; decide
theorem inv_teach {i n : Nat} {bt : Nat → Int32} {y d : LSt} {tst : Nat → VS → Bool} {sqm : Nat → Nat} {K K2 : Nat} {sr : Nat → Nat → Int32} {c : CS} {q9 : RS} (h : INV i n bt y tst sqm K sr c) (hk : KOK bt n K2) (hE : rdR bt n q00 = 0) (hq : q9 = qAtT bt n q00 K2)
    (hR : Rl (tkS bt n) (tkV bt n) (fun j => q9.2.2.1 3 j) K2 xN K2 d q9) : INV (i + 1) 0 bt d (tsQ (tkS bt n) (q9.2.2.1 3) q9) (tkS bt n) K2 (fun i => if i = 0 then (cutN (K2 + 1) (fun j => km (tkS bt n j)) (fun _ => 0)) else q9.2.2.1 i) (fBgn c) := by
  obtain ⟨h1, h2, h3, h4, h5, h6, h7, m, h8, h9⟩ := h
  have hn : ∀ j, j < 5 → tnY d j = q9.1 j := fun j hj => by
    unfold tnY
    rw [show updN d.2.1 5 (kc d.1) j = d.2.1 j from if_neg (by omega)]
    exact hR.2.1.1 j hj
  have hM : MOK (tkS bt n) K2 (q9.2.2.1 3) := fun j hj hj2 => by
    rw [hq]
    exact (q00_ok (sq := tkS bt n) (sm := smT bt n) (num := numT bt n) K2).2.2 j hj2
  refine ⟨by omega, h2, rl_sok (M := q9.2.2.1 3) hR hk.1 hn (tko_of (g := fun _ => 0) hk) hM rfl, rl_tok (tn := tnY d) (M := q9.2.2.1 3) hR hk.1 (hn 4 (by omega)), fun k hk1 hk2 => Or.inl ?_, rl_rgo hR hn, QP_0, 0, nI_0.symm, by omega⟩
  show rat 10 (fun _ => (-1)) (nI k) = (-1)
  rw [rat_nI (by omega) (by decide)]
theorem bF9 {b : Bool} (h : ¬ b = true) : b = false := by cases b with
  | true => exact absurd rfl h
  | false => rfl
theorem dys_of {p : Int32} {m : Nat} (hm : m < 1000) (h : fDys p m = true) : ∃ d, 1 ≤ d ∧ d ≤ m ∧ p = nI d := by
  obtain ⟨h1, h2⟩ := of_decide_eq_true h
  have a1 := Int32.le_iff_toInt_le.mp h1
  have a2 := Int32.le_iff_toInt_le.mp h2
  rw [i_1] at a1
  rw [nI_toInt (by omega)] at a2
  obtain ⟨j, hj, rfl⟩ := nI_of (x := p) (by rw [Int32.lt_iff_toInt_lt, i_0]; omega)
  rw [nI_toInt hj] at a1 a2
  exact ⟨j, by omega, by omega, rfl⟩
theorem tri_of {p : Int32} {m : Nat} (hm : m ≤ 2000) (h : 0 ≤ p ∧ p ≤ nI m) : ∃ d, d ≤ m ∧ p = nI d := by
  obtain ⟨h1, h2⟩ := h
  have a1 := Int32.le_iff_toInt_le.mp h1
  have a2 := Int32.le_iff_toInt_le.mp h2
  rw [i_0] at a1
  rw [nI_toInt (by omega)] at a2
  obtain ⟨j, hj, rfl⟩ := nI_of (x := p) (by rw [Int32.lt_iff_toInt_lt, i_0]; omega)
  rw [nI_toInt hj] at a2
  exact ⟨j, by omega, rfl⟩
section
variable {p : Program} {l : Launch} {e : Env} {R : Room} {s : State} {m : MethodId} {args : Array Value} {below : List Frame} {meth : Method} {c : Code} {H : Heap} {locs : List Loc} {cells slots : Nat} {Q : State → Prop} {cc : ByteArray} {pc : Nat} {ls : Array Slot} {rest : List Value} {A : Nat → Prop}
theorem k_scr (hexec : p.tables.exec = Jvm.exec) (hb : c.code = cc) {b L : Nat} {xs : Nat → Int32} (hX : va_X b L xs s s.heap) (hbl : b < s.heap.size) (hbA : ¬ A b) (hS : va_S A s.heap H locs) {j : Nat} (hj : j < L) (hL : L ≤ 3072) (hdg : decode cc pc = .ok (.iaload, 1))
    (kk : W p l e R s m args below meth c H locs cells slots Q (F0 m (pc + 1) ls (.int (xs j) :: rest))) : W p l e R s m args below meth c H locs cells slots Q (F0 m pc ls (.int (nI j) :: .ref b :: rest)) := by
  refine va_sld hexec hb hX hbl hbA hS (vp_in_nI hj (by omega)) hdg ?_
  rw [nI_clamp (by omega)]
  exact kk
end
