/-! orders' lines; a printed list read to its end -/
section
variable {sq : Nat → Nat} {sv : Nat → Int64} {c : Nat → Nat} {N : Nat → Nat → Int64} {r : Nat → Nat → Int32} {t : (Nat → Nat) × (Nat → Nat)} {i i2 j k m n x b s q : Nat} {fd fd2 et : Int32} {X X2 : SX} {v : Int64} {d tn : Nat → Nat}
theorem la_ok {r : Bool × LSt} {g : LFn} {y : LSt} {q : Bool × LSt} (h : r = (true, y)) (h2 : g y = q) : lAnd r g = q := by subst h; exact (lAnd_t rfl).trans h2
theorem lt_ok {r : Bool × LSt} {f : LSt → LSt} {y z : LSt} (h : r = (true, y)) (h2 : f y = z) : lThen r f = (true, z) := by subst h; subst h2; rfl
theorem lo_ok {r : Bool × LSt} {g : LFn} {y : LSt} {q : Bool × LSt} (h : r = (true, y)) (h2 : g y = q) : lOpt r g = q := by subst h; exact (lOpt_t rfl).trans h2
theorem lo_no {r : Bool × LSt} {g : LFn} {y : LSt} (h : r = (false, y)) : lOpt r g = (true, y) := by subst h; exact lOpt_f rfl
theorem y_row {x : Int32} (h : m < 20) : yRow (ys i fd et X c N r t) j 20 (nI (m + 1) - 1) x = ys i fd et X c N (updR r j (upd (r j) m x)) t := by
  show (_, _, _, updR r j (rput 20 (r j) (nI (m + 1) - 1) x), _) = _
  rw [row_u h (by decide)]
theorem l_ord (h : c 4 < 20) : lNo (ys i fd et X c N r t) = ys (i + 1) fd et X (updN c 4 (c 4 + 1)) N r t := by
  rw [lNo_a (y := ys i fd et X c N r t) h]
  show (eStep (es i fd et X), _) = _
  rw [ev_st]; rfl
theorem rputN_nI {f : Nat → Nat} (h : k < n) (hn : n < 2147483648) : rputN n f (nI k) m = updN f k m := by
  unfold rputN
  rw [if_pos (vp_in_iff.mp (vp_in_nI h hn)), nI_clamp (by omega)]
/-- the names that are known -/
def NmI (c : Nat → Nat) (N : Nat → Nat → Int64) : Prop := (c 0 ≤ 8 ∧ c 1 ≤ 5 ∧ c 2 ≤ 10) ∧ (∀ q, q < c 0 → N 0 q = nm 98 q) ∧ (∀ q, q < c 1 → N 1 q = nm 99 q) ∧ (∀ q, q < c 2 → N 2 q = nm 115 q)
theorem NmI.up (h : NmI c N) : NmI (updN c 4 x) N := h
theorem kn_0 (h : NmI c N) (hk : k < c 0) : nfind (N 0) (nm 98 k) (c 0) = some k := nf_s (j := 0) (by decide) rfl h.2.1 (by have := h.1; omega) hk
theorem kn_1 (h : NmI c N) (hk : k < c 1) : nfind (N 1) (nm 99 k) (c 1) = some k := nf_s (j := 1) (by decide) rfl h.2.2.1 (by have := h.1; omega) hk
theorem kn_2 (h : NmI c N) (hk : k < c 2) : nfind (N 2) (nm 115 k) (c 2) = some k := nf_s (j := 2) (by decide) rfl h.2.2.2 (by have := h.1; omega) hk
theorem o_carve (hT : TK sq sv i (tk_carve b s q)) (hc : c 4 = m) (hm : m < 20) (hN : NmI c N) (hb : b < c 0) (hs : s < c 2) (hq : q < c 1) :
    lCarv sq sv (ys i fd et X c N r t) = (true, ys (i + 1 + 1 + 1 + 1 + 1 + 1) (nI q) et X (updN c 4 (m + 1)) N (updR (updR (updR r 9 (upd (r 9) m (nI b))) 8 (upd (r 8) m (nI s))) 10 (upd (r 10) m (nI q))) t) := by
  obtain ⟨_, _, h1, v1, h2, _, h3, v3, h4, _, h5, v5, -⟩ := hT
  dsimp only at h1 v1 h2 h3 v3 h4 h5 v5
  have hB := hN.1
  have e0 : lNo (ys i fd et X c N r t) = ys (i + 1) fd et X (updN c 4 (m + 1)) N r t := by rw [← hc]; exact l_ord (by omega)
  have e1 : lKnw sq sv 0 (ys (i + 1) fd et X (updN c 4 (m + 1)) N r t) = (true, ys (i + 1 + 1) (nI b) et X (updN c 4 (m + 1)) N r t) := l_knw h1 (by rw [v1]; exact kn_0 (hN.up (x := m + 1)) hb) (by omega)
  have e2 : lKnw sq sv 2 (ys (i + 1 + 1 + 1) (nI b) et X (updN c 4 (m + 1)) N (updR r 9 (upd (r 9) m (nI b))) t) = (true, ys (i + 1 + 1 + 1 + 1) (nI s) et X (updN c 4 (m + 1)) N (updR r 9 (upd (r 9) m (nI b))) t) := l_knw h3 (by rw [v3]; exact kn_2 (hN.up (x := m + 1)) hs) (by omega)
  have e3 : lKnw sq sv 1 (ys (i + 1 + 1 + 1 + 1 + 1) (nI s) et X (updN c 4 (m + 1)) N (updR (updR r 9 (upd (r 9) m (nI b))) 8 (upd (r 8) m (nI s))) t) = (true, ys (i + 1 + 1 + 1 + 1 + 1 + 1) (nI q) et X (updN c 4 (m + 1)) N (updR (updR r 9 (upd (r 9) m (nI b))) 8 (upd (r 8) m (nI s))) t) := l_knw h5 (by rw [v5]; exact kn_1 (hN.up (x := m + 1)) hq) (by omega)
  have y1 : yRow (ys (i + 1 + 1) (nI b) et X (updN c 4 (m + 1)) N r t) 9 20 (nI (m + 1) - 1) (nI b) = ys (i + 1 + 1) (nI b) et X (updN c 4 (m + 1)) N (updR r 9 (upd (r 9) m (nI b))) t := y_row hm
  have y2 : yRow (ys (i + 1 + 1 + 1 + 1) (nI s) et X (updN c 4 (m + 1)) N (updR r 9 (upd (r 9) m (nI b))) t) 8 20 (nI (m + 1) - 1) (nI s) = ys (i + 1 + 1 + 1 + 1) (nI s) et X (updN c 4 (m + 1)) N (updR (updR r 9 (upd (r 9) m (nI b))) 8 (upd (r 8) m (nI s))) t := y_row hm
  have y3 : yRow (ys (i + 1 + 1 + 1 + 1 + 1 + 1) (nI q) et X (updN c 4 (m + 1)) N (updR (updR r 9 (upd (r 9) m (nI b))) 8 (upd (r 8) m (nI s))) t) 10 20 (nI (m + 1) - 1) (nI q) = ys (i + 1 + 1 + 1 + 1 + 1 + 1) (nI q) et X (updN c 4 (m + 1)) N (updR (updR (updR r 9 (upd (r 9) m (nI b))) 8 (upd (r 8) m (nI s))) 10 (upd (r 10) m (nI q))) t := y_row hm
  have hm4 : (ys (i + 1) fd et X (updN c 4 (m + 1)) N r t).2.1 4 = m + 1 := (uN_same : updN c 4 (m + 1) 4 = m + 1)
  unfold lCarv
  rw [e0, hm4]
  exact lt_ok (la_ok (lt_ok (la_ok (lt_ok e1 y1) (la_ok (l_skp h2) e2)) y2) (la_ok (l_skp h4) e3)) y3
theorem o_oil (hT : TK sq sv i (tk_oil s)) (hc : c 4 = m) (hm : m < 20) (hN : NmI c N) (hs : s < c 2) :
    lOil sq sv (ys i fd et X c N r t) = (true, ys (i + 1 + 1) (nI s) et X (updN c 4 (m + 1)) N (updR (updR (updR r 8 (upd (r 8) m (nI s))) 9 (upd (r 9) m (-1))) 10 (upd (r 10) m (-1))) t) := by
  obtain ⟨_, _, h1, v1, -⟩ := hT
  dsimp only at h1 v1
  have hB := hN.1
  have e0 : lNo (ys i fd et X c N r t) = ys (i + 1) fd et X (updN c 4 (m + 1)) N r t := by rw [← hc]; exact l_ord (by omega)
  have e1 : lKnw sq sv 2 (ys (i + 1) fd et X (updN c 4 (m + 1)) N r t) = (true, ys (i + 1 + 1) (nI s) et X (updN c 4 (m + 1)) N r t) := l_knw h1 (by rw [v1]; exact kn_2 (hN.up (x := m + 1)) hs) (by omega)
  have hm4 : (ys (i + 1) fd et X (updN c 4 (m + 1)) N r t).2.1 4 = m + 1 := (uN_same : updN c 4 (m + 1) 4 = m + 1)
  have y1 : yRow (ys (i + 1 + 1) (nI s) et X (updN c 4 (m + 1)) N r t) 8 20 (nI (m + 1) - 1) (nI s) = ys (i + 1 + 1) (nI s) et X (updN c 4 (m + 1)) N (updR r 8 (upd (r 8) m (nI s))) t := y_row hm
  have y2 : yRow (ys (i + 1 + 1) (nI s) et X (updN c 4 (m + 1)) N (updR r 8 (upd (r 8) m (nI s))) t) 9 20 (nI (m + 1) - 1) (-1) = ys (i + 1 + 1) (nI s) et X (updN c 4 (m + 1)) N (updR (updR r 8 (upd (r 8) m (nI s))) 9 (upd (r 9) m (-1))) t := y_row hm
  have y3 : yRow (ys (i + 1 + 1) (nI s) et X (updN c 4 (m + 1)) N (updR (updR r 8 (upd (r 8) m (nI s))) 9 (upd (r 9) m (-1))) t) 10 20 (nI (m + 1) - 1) (-1) = ys (i + 1 + 1) (nI s) et X (updN c 4 (m + 1)) N (updR (updR (updR r 8 (upd (r 8) m (nI s))) 9 (upd (r 9) m (-1))) 10 (upd (r 10) m (-1))) t := y_row hm
  unfold lOil
  rw [e0, hm4]
  refine lt_ok e1 ?_
  show yRow (yRow (yRow (ys (i + 1 + 1) (nI s) et X (updN c 4 (m + 1)) N r t) 8 20 (nI (m + 1) - 1) (nI s)) 9 20 (nI (m + 1) - 1) (-1)) 10 20 (nI (m + 1) - 1) (-1) = _
  rw [y1, y2, y3]
theorem o_tf {u : Nat × (Nat → Nat)} (hc : c 4 = m + 1) (hm : m < 20) (hX : X.1 ≤ 400) : yTf (ys i fd et X c N r t) (nI (c 4) - 1) (kc (es i fd et X)) = ys i fd et X c N r (updN t.1 m X.1, t.2) := by
  show (_, _, _, _, rputN 20 t.1 (nI (c 4) - 1) (min X.1 400), t.2) = _
  rw [hc, nI_pred, rputN_nI hm (by decide), Nat.min_eq_left hX]
theorem o_tt (hc : c 4 = m + 1) (hm : m < 20) (hX : X.1 ≤ 400) : yTt (ys i fd et X c N r t) (nI (c 4) - 1) (kc (es i fd et X)) = ys i fd et X c N r (t.1, updN t.2 m X.1) := by
  show (_, _, _, _, t.1, rputN 20 t.2 (nI (c 4) - 1) (min X.1 400)) = _
  rw [hc, nI_pred, rputN_nI hm (by decide), Nat.min_eq_left hX]
theorem o_cond0 (h9 : ¬ tSg sq (nI i) = 35) (hc : c 4 = m + 1) (hm : m < 20) (hX : X.1 ≤ 400) : lCond sq sv (ys i fd et X c N r t) = (true, ys i fd et X c N r (updN t.1 m X.1, updN t.2 m X.1)) := by
  unfold lCond
  show lThen (lOpt (lSkp sq 35 (yTf (ys i fd et X c N r t) (nI (c 4) - 1) (kc (es i fd et X)))) (lTst sq sv)) _ = _
  rw [o_tf (u := (0, fun _ => 0)) hc hm hX]
  exact lt_ok (lo_no (l_no h9)) (o_tt hc hm hX)
theorem o_cond1 (h : tSg sq (nI i) = 35) (he : eT sq sv c N 8 (es (i + 1) fd et X) = (true, es i2 fd2 et X2)) (hc : c 4 = m + 1) (hm : m < 20) (hX : X.1 ≤ 400) (hX2 : X2.1 ≤ 400) : lCond sq sv (ys i fd et X c N r t) = (true, ys i2 fd2 et X2 c N r (updN t.1 m X.1, updN t.2 m X2.1)) := by
  have e1 : lTst sq sv (ys (i + 1) fd et X c N r (updN t.1 m X.1, t.2)) = (true, ys i2 fd2 et X2 c N r (updN t.1 m X.1, t.2)) := by
    show ((eT sq sv c N 8 (es (i + 1) fd et X)).1, yE _ (eT sq sv c N 8 (es (i + 1) fd et X)).2) = _
    rw [he]; rfl
  unfold lCond
  show lThen (lOpt (lSkp sq 35 (yTf (ys i fd et X c N r t) (nI (c 4) - 1) (kc (es i fd et X)))) (lTst sq sv)) _ = _
  rw [o_tf (u := (0, fun _ => 0)) hc hm hX]
  exact lt_ok (lo_ok (l_skp h) e1) (o_tt hc hm hX2)
def adL (X : SX) : List (Nat × Int32 × Int32) → SX
  | [] => X
  | t :: L => adL (ad1 t.1 t.2.1 t.2.2 X) L
theorem adL_1 : ∀ {L : List (Nat × Int32 × Int32)} {X : SX}, (adL X L).1 = X.1 + L.length := by
  intro L
  induction L with
  | nil => intro X; rfl
  | cons t L ih => intro X; show (adL (ad1 t.1 t.2.1 t.2.2 X) L).1 = _; rw [ih, List.length_cons]; show X.1 + 1 + L.length = _; omega
theorem adL_k : ∀ {L : List (Nat × Int32 × Int32)} {X : SX}, j < X.1 → (adL X L).2.1 j = X.2.1 j ∧ (adL X L).2.2.1 j = X.2.2.1 j ∧ (adL X L).2.2.2 j = X.2.2.2 j := by
  intro L
  induction L with
  | nil => intro X _; exact ⟨rfl, rfl, rfl⟩
  | cons t L ih =>
    intro X h
    obtain ⟨h1, h2, h3⟩ := ih (X := ad1 t.1 t.2.1 t.2.2 X) (by show j < X.1 + 1; omega)
    have hne : j ≠ X.1 := by omega
    exact ⟨h1.trans (va_up_ne _ _ hne), h2.trans (pk_un hne), h3.trans (pk_un hne)⟩
theorem adL_s : ∀ {L : List (Nat × Int32 × Int32)} {X : SX}, StH (adL X L).2.1 (adL X L).2.2.1 (adL X L).2.2.2 X.1 L := by
  intro L
  induction L with
  | nil => intro X; exact trivial
  | cons t L ih =>
    intro X
    obtain ⟨h1, h2, h3⟩ := adL_k (j := X.1) (L := L) (X := ad1 t.1 t.2.1 t.2.2 X) (Nat.lt_succ_self _)
    exact ⟨⟨h1.trans (va_up_self _ _ _), h2.trans pk_us, h3.trans pk_us⟩, ih (X := ad1 t.1 t.2.1 t.2.2 X)⟩
theorem StH.ext {kq kq2 : Nat → Nat} {ff ff2 fs fs2 : Nat → Int32} : ∀ {L : List (Nat × Int32 × Int32)} {m : Nat}, StH kq ff fs m L → (∀ j, j < m + L.length → kq2 j = kq j ∧ ff2 j = ff j ∧ fs2 j = fs j) → StH kq2 ff2 fs2 m L := by
  intro L
  induction L with
  | nil => intro m _ _; exact trivial
  | cons t L ih =>
    intro m h h2
    rw [List.length_cons] at h2
    obtain ⟨a1, a2, a3⟩ := h2 m (by omega)
    exact ⟨⟨a1.trans h.1.1, a2.trans h.1.2.1, a3.trans h.1.2.2⟩, ih h.2 (fun j hj => h2 j (by omega))⟩
theorem wSl_l : (wSl tn d).length ≤ 18 := by unfold wSl; (repeat' split) <;> exact Nat.le_of_ble_eq_true rfl
theorem w_ad (h5 : d 5 ≤ 8) : wSt tn d X = adL X (wSl tn d) := by
  have h9 : d 5 = 0 ∨ d 5 = 1 ∨ d 5 = 2 ∨ d 5 = 3 ∨ d 5 = 4 ∨ d 5 = 5 ∨ d 5 = 6 ∨ d 5 = 7 ∨ d 5 = 8 := by omega
  rcases h9 with h | h | h | h | h | h | h | h | h
  · rw [(wE_0 (X := X) h).2.2.1, (wE_0 (X := X) h).2.2.2]; rfl
  · rw [(wE_1 (X := X) h).2.2.1, (wE_1 (X := X) h).2.2.2]; rfl
  · rw [(wE_2 (X := X) h).2.2.1, (wE_2 (X := X) h).2.2.2]; rfl
  · rw [(wE_3 (X := X) h).2.2.1, (wE_3 (X := X) h).2.2.2]; rfl
  · rw [(wE_4 (X := X) h).2.2.1, (wE_4 (X := X) h).2.2.2]; rfl
  · rw [(wE_5 (X := X) h).2.2.1, (wE_5 (X := X) h).2.2.2]; rfl
  · rw [(wE_6 (X := X) h).2.2.1, (wE_6 (X := X) h).2.2.2]; rfl
  · rw [(wE_7 (X := X) h).2.2.1, (wE_7 (X := X) h).2.2.2]; rfl
  · rw [(wE_8 (X := X) h).2.2.1, (wE_8 (X := X) h).2.2.2]; rfl
theorem o_cond (h5 : d 5 ≤ 8) (h6 : d 6 < 130) (hT : TK sq sv i (wTk tn d)) (h9 : tSg sq (nI (i + (wTk tn d).length)) = 9) (hc : c 4 = m + 1) (hm : m < 20) (hX : X.1 + 30 < 400) (hN : NmI c N) (t0 : tn 0 = c 0) (t2 : tn 2 = c 2) (p0 : 1 ≤ tn 0) (p2 : 1 ≤ tn 2) :
    ∃ fd2, lCond sq sv (ys i fd et X c N r t) = (true, ys (i + (wTk tn d).length) fd2 et (adL X (wSl tn d)) c N r (updN t.1 m X.1, updN t.2 m (X.1 + (wSl tn d).length))) := by
  have hB := hN.1
  have ha := Nat.mod_lt (d 7) (y := tn 2) (by omega)
  have hb := Nat.mod_lt (d 8) (y := tn 2) (by omega)
  have hq := Nat.mod_lt (d 9) (y := tn 0) (by omega)
  have fa := kn_2 (k := d 7 % tn 2) hN (by omega)
  have fb := kn_2 (k := d 8 % tn 2) hN (by omega)
  have fq := kn_0 (k := d 9 % tn 0) hN (by omega)
  have hl := wSl_l (tn := tn) (d := d)
  have e1 := adL_1 (L := wSl tn d) (X := X)
  have e9 : d 5 = 0 ∨ d 5 = 1 ∨ d 5 = 2 ∨ d 5 = 3 ∨ d 5 = 4 ∨ d 5 = 5 ∨ d 5 = 6 ∨ d 5 = 7 ∨ d 5 = 8 := by omega
  rw [← e1, ← w_ad h5]
  have hX2 : (wSt tn d X).1 ≤ 400 := by rw [w_ad h5, e1]; omega
  rcases e9 with h | h | h | h | h | h | h | h | h
  · rw [(wE_0 (X := X) h).2.1] at h9 ⊢
    rw [(wE_0 (X := X) h).2.2.1]
    exact ⟨fd, o_cond0 (by have h8 : tSg sq (nI i) = 9 := h9; rw [h8]; decide) hc hm (by omega)⟩
  · rw [(wE_1 (X := X) h).2.1] at hT h9 ⊢
    rw [(wE_1 (X := X) h).2.2.1] at hX2 ⊢
    exact ⟨_, o_cond1 hT.1 (ev_w1 (by omega) (by omega) hT.2.2 h9) hc hm (by omega) hX2⟩
  · rw [(wE_2 (X := X) h).2.1] at hT h9 ⊢
    rw [(wE_2 (X := X) h).2.2.1] at hX2 ⊢
    exact ⟨_, o_cond1 hT.1 (ev_w2 (by omega) fa (by omega) hT.2.2 h9) hc hm (by omega) hX2⟩
  · rw [(wE_3 (X := X) h).2.1] at hT h9 ⊢
    rw [(wE_3 (X := X) h).2.2.1] at hX2 ⊢
    exact ⟨_, o_cond1 hT.1 (ev_w3 (by omega) (by omega) fa (by omega) hT.2.2 h9) hc hm (by omega) hX2⟩
  · rw [(wE_4 (X := X) h).2.1] at hT h9 ⊢
    rw [(wE_4 (X := X) h).2.2.1] at hX2 ⊢
    exact ⟨_, o_cond1 hT.1 (ev_w4 (by omega) (by omega) (by omega) (by omega) fq fa fb (by omega) hT.2.2 h9) hc hm (by omega) hX2⟩
  · rw [(wE_5 (X := X) h).2.1] at hT h9 ⊢
    rw [(wE_5 (X := X) h).2.2.1] at hX2 ⊢
    exact ⟨_, o_cond1 hT.1 (ev_w5 (by omega) (by omega) fa (by omega) hT.2.2 h9) hc hm (by omega) hX2⟩
  · rw [(wE_6 (X := X) h).2.1] at hT h9 ⊢
    rw [(wE_6 (X := X) h).2.2.1] at hX2 ⊢
    exact ⟨_, o_cond1 hT.1 (ev_w6 (by omega) (by omega) hT.2.2 h9) hc hm (by omega) hX2⟩
  · rw [(wE_7 (X := X) h).2.1] at hT h9 ⊢
    rw [(wE_7 (X := X) h).2.2.1] at hX2 ⊢
    exact ⟨_, o_cond1 hT.1 (ev_w7 (by omega) (by omega) hT.2.2 h9) hc hm (by omega) hX2⟩
  · rw [(wE_8 (X := X) h).2.1] at hT h9 ⊢
    rw [(wE_8 (X := X) h).2.2.1] at hX2 ⊢
    exact ⟨_, o_cond1 hT.1 (ev_w8 (by omega) (by omega) (by omega) fa fb (by omega) hT.2.2 h9) hc hm (by omega) hX2⟩
end
/-! the whole of it: od, dt tell what is printed -/
def tkO (tn d : Nat → Nat) : List (Nat × Int64) := (if d 0 = 1 then tk_oil (d 1) else tk_carve (d 2) (d 1) (d 3)) ++ (wTk tn d ++ [(9, 0)])
def tkC (dt : Nat → Nat → Nat) (k : Nat) : List (Nat × Int64) := (if dt 4 k = 0 then tk_carv0 k (dt 2 k) (dt 3 k) else tk_carv1 k (dt 2 k) (dt 3 k) (dt 4 k - 1)) ++ [(9, 0)]
def cat {α : Type} (f : Nat → List α) : Nat → List α
  | 0 => []
  | k + 1 => cat f k ++ f k
def own (q : Nat) : Nat := if q ≤ 1 then 0 else if q ≤ 4 then 1 else if q = 5 then 2 else if q ≤ 7 then 3 else 4
def vD (dt od : Nat → Nat → Nat) (q k : Nat) : Int32 := if q = 4 then nI (dt 4 k) + (-1) else if q ≤ 7 then nI (dt q k) else if q = 8 then nI (od k 1) else if od k 0 = 1 then (-1) else if q = 9 then nI (od k 2) else nI (od k 3)
def trC (dt od : Nat → Nat → Nat) (c : Nat → Nat) : Nat → Nat → Int32 := fun q k => if q ≤ 10 ∧ k < c (own q) then vD dt od q k else 0
def xs (j : Nat) : Nat := [98, 99, 115, 112].getD j 0
def NC (c : Nat → Nat) : Nat → Nat → Int64 := fun j k => if j < 4 ∧ k < c j then nm (xs j) k else 0
/-- the tests' steps: what is told of them -/
def TI (od : Nat → Nat → Nat) (tn : Nat → Nat) (n : Nat) (X : SX) (t : (Nat → Nat) × (Nat → Nat)) : Prop := X.1 ≤ 18 * n ∧ ∀ k, k < n → StH X.2.1 X.2.2.1 X.2.2.2 (t.1 k) (wSl tn (od k)) ∧ t.2 k = t.1 k + (wSl tn (od k)).length ∧ t.2 k ≤ X.1
def RS (dt od : Nat → Nat → Nat) (tn : Nat → Nat) (et : Int32) (c : Nat → Nat) (i : Nat) (z : LSt) : Prop := ∃ fd X t, z = ys i fd et X c (NC c) (trC dt od c) t ∧ TI od tn (c 4) X t
section
variable {sq : Nat → Nat} {sv : Nat → Int64} {c : Nat → Nat} {i j k m n q : Nat} {fd et : Int32} {dt od : Nat → Nat → Nat} {tn : Nat → Nat} {z : LSt} {X : SX} {t : (Nat → Nat) × (Nat → Nat)}
theorem trC_o (h : own q ≠ j) : trC dt od (updN c j (c j + 1)) q = trC dt od c q := by
  funext k
  unfold trC
  rw [uN_ne h]
theorem trC_s (hq : q ≤ 10) (h : own q = j) : trC dt od (updN c j (c j + 1)) q = upd (trC dt od c q) (c j) (vD dt od q (c j)) := by
  funext k
  subst h
  unfold trC
  rw [uN_same]
  by_cases hk : k = c (own q)
  · subst hk; rw [pk_us, if_pos ⟨hq, Nat.lt_succ_self _⟩]
  · rw [pk_un hk]
    by_cases hl : k < c (own q)
    · rw [if_pos ⟨hq, Nat.lt_succ_of_lt hl⟩, if_pos ⟨hq, hl⟩]
    · rw [if_neg (fun z => by have := z.2; omega), if_neg (fun z => hl z.2)]
theorem uR_s {α : Type} {f : Nat → α} {j : Nat} {x : α} : updR f j x j = x := if_pos rfl
theorem trC_b (h : 10 < q) : trC dt od c q = fun _ => 0 := by funext k; exact if_neg (fun z => by have := z.1; omega)
theorem NC_s (hj : j < 4) : updR (NC c) j (vp_updL (NC c j) (c j) (nm (xs j) (c j))) = NC (updN c j (c j + 1)) := by
  funext a k
  unfold NC
  by_cases h : a = j
  · subst h
    rw [uR_s, uN_same]
    by_cases hk : k = c a
    · subst hk; rw [pk_uLs, if_pos ⟨hj, Nat.lt_succ_self _⟩]
    · rw [pk_uLn hk]
      by_cases hl : k < c a
      · rw [if_pos ⟨hj, hl⟩, if_pos ⟨hj, by omega⟩]
      · rw [if_neg (fun z => hl z.2), if_neg (fun z => by have := z.2; omega)]
  · rw [uR_ne h, uN_ne h]
theorem NC_4 : NC (updN c 4 m) = NC c := by
  funext a k
  unfold NC
  by_cases h : a = 4
  · subst h; rw [if_neg (fun z => absurd z.1 (by decide)), if_neg (fun z => absurd z.1 (by decide))]
  · rw [uN_ne h]
theorem NC_n (hj : j < 4) : ∀ k, k < c j → NC c j k = nm (xs j) k := fun k hk => if_pos ⟨hj, hk⟩
theorem up_r1 {R : Nat → Nat → Int32} (hq : q ≤ 10) (ho : own q = j) (h1 : ∀ a, own a = j → a ≤ 10 → a = q) (hv : R q (c j) = R q (c j)) : updR (trC dt od c) q (upd (trC dt od c q) (c j) (vD dt od q (c j))) = trC dt od (updN c j (c j + 1)) := by
  funext a
  by_cases h : a = q
  · subst h; rw [uR_same, trC_s hq ho]
  · rw [uR_ne h]
    by_cases ha : own a = j
    · by_cases h10 : a ≤ 10
      · exact absurd (h1 a ha h10) h
      · rw [trC_b (by omega), trC_b (by omega)]
    · rw [trC_o ha]
theorem own_v : ∀ q, q < 11 → own q = [0, 0, 1, 1, 1, 2, 3, 3, 4, 4, 4].getD q 9 := by decide
/-- rows told at a line's end are those of one more -/
theorem rows_eq {R : Nat → Nat → Int32} (h : ∀ q, q ≤ 10 → own q = j → R q = upd (trC dt od c q) (c j) (vD dt od q (c j))) (h2 : ∀ q, (own q ≠ j ∨ 10 < q) → R q = trC dt od c q) : R = trC dt od (updN c j (c j + 1)) := by
  funext q
  by_cases hq : q ≤ 10
  · by_cases ho : own q = j
    · rw [h q hq ho, trC_s hq ho]
    · rw [h2 q (Or.inl ho), trC_o ho]
  · rw [h2 q (Or.inr (by omega)), trC_b (by omega), trC_b (by omega)]
theorem run_cat {F : Nat → List (Nat × Int64)} (step : ∀ k, k < n → ∀ i z, RS dt od tn et (updN c j k) i z → TK sq sv i (F k) → ∃ z', LnOK sq sv z z' ∧ RS dt od tn et (updN c j (k + 1)) (i + (F k).length) z') : ∀ k, k ≤ n → ∀ i z, RS dt od tn et (updN c j 0) i z → TK sq sv i (cat F k) → ∃ z', (∀ q, lRun sq sv (q + k) true z = lRun sq sv q true z') ∧ RS dt od tn et (updN c j k) (i + (cat F k).length) z' := by
  intro k
  induction k with
  | zero => intro _ i z h _; exact ⟨z, fun q => rfl, h⟩
  | succ k ih =>
    intro hk i z h hT
    obtain ⟨t1, t2⟩ := TK.app (T := cat F k) hT
    obtain ⟨z1, g1, g2⟩ := ih (by omega) i z h t1
    obtain ⟨z2, g3, g4⟩ := step k (by omega) _ z1 g2 t2
    refine ⟨z2, fun q => ?_, ?_⟩
    · rw [show q + (k + 1) = (q + 1) + k by omega, g1 (q + 1)]; exact run_1 g3
    · rw [show cat F (k + 1) = cat F k ++ F k from rfl, List.length_append, ← Nat.add_assoc]; exact g4
end
section
variable {sq : Nat → Nat} {sv : Nat → Int64} {c : Nat → Nat} {i j k m n q x : Nat} {fd et : Int32} {dt od : Nat → Nat → Nat} {tn : Nat → Nat} {z : LSt} {X : SX} {t : (Nat → Nat) × (Nat → Nat)}
/-- what is printed lies in its ranges -/
def DtS (tn : Nat → Nat) (dt od : Nat → Nat → Nat) : Prop := CntS tn ∧ (∀ k, k < tn 0 → dt 0 k ≤ 9 ∧ 1 ≤ dt 1 k ∧ dt 1 k ≤ 9) ∧ (∀ k, k < tn 1 → 1 ≤ dt 2 k ∧ dt 2 k ≤ 9 ∧ 1 ≤ dt 3 k ∧ dt 3 k ≤ 4 ∧ dt 4 k ≤ tn 0) ∧ (∀ k, k < tn 2 → 1 ≤ dt 5 k ∧ dt 5 k ≤ 9) ∧ (∀ k, k < tn 3 → dt 6 k ≤ 9 ∧ dt 7 k ≤ 999) ∧
  (∀ k, k < tn 4 → od k 0 ≤ 1 ∧ od k 1 < tn 2 ∧ od k 2 < tn 0 ∧ od k 3 < tn 1 ∧ od k 5 ≤ 8 ∧ od k 6 < 130 ∧ od k 7 < 30 ∧ od k 8 < 30 ∧ od k 9 < 30)
theorem vD_0 : vD dt od 0 k = nI (dt 0 k) := rfl
theorem vD_1 : vD dt od 1 k = nI (dt 1 k) := rfl
theorem vD_2 : vD dt od 2 k = nI (dt 2 k) := rfl
theorem vD_3 : vD dt od 3 k = nI (dt 3 k) := rfl
theorem vD_4 : vD dt od 4 k = nI (dt 4 k) + (-1) := rfl
theorem vD_5 : vD dt od 5 k = nI (dt 5 k) := rfl
theorem vD_6 : vD dt od 6 k = nI (dt 6 k) := rfl
theorem vD_7 : vD dt od 7 k = nI (dt 7 k) := rfl
theorem vD_8 : vD dt od 8 k = nI (od k 1) := rfl
theorem vD_91 (h : od k 0 = 1) : vD dt od 9 k = (-1) := if_pos h
theorem vD_90 (h : ¬ od k 0 = 1) : vD dt od 9 k = nI (od k 2) := if_neg h
theorem vD_A1 (h : od k 0 = 1) : vD dt od 10 k = (-1) := if_pos h
theorem vD_A0 (h : ¬ od k 0 = 1) : vD dt od 10 k = nI (od k 3) := if_neg h
theorem TI_n (h : TI od tn 0 X t) : TI od tn 0 X t := h
theorem sq_beast (hD : DtS tn dt od) (hk : k < tn 0) (hc : ∀ a, a ≠ 0 → c a = 0) (h : RS dt od tn et (updN c 0 k) i z) (hT : TK sq sv i (tk_beast k (dt 0 k) (dt 1 k))) : ∃ z', LnOK sq sv z z' ∧ RS dt od tn et (updN c 0 (k + 1)) (i + (tk_beast k (dt 0 k) (dt 1 k)).length) z' := by
  obtain ⟨fd, X, t, rfl, hI⟩ := h
  have hn := hD.1
  unfold CntS at hn
  obtain ⟨d1, d2, d3⟩ := hD.2.1 k hk
  have e := rd_beast (sq := sq) (sv := sv) (fd := fd) (et := et) (X := X) (c := updN c 0 k) (N := NC (updN c 0 k)) (r := trC dt od (updN c 0 k)) (t := t) hT uN_same (by omega) (fun q hq => NC_n (c := updN c 0 k) (j := 0) (by decide) q (by rw [uN_same]; exact hq)) d1 d2 d3
  have ec : updN (updN c 0 k) 0 (k + 1) = updN c 0 (k + 1) := by funext a; by_cases h : a = 0 <;> simp [updN, h]
  refine ⟨_, e, fd, X, t, ?_, hI⟩
  have e1 := NC_s (c := updN c 0 k) (j := 0) (by decide)
  have e2 : updR (updR (trC dt od (updN c 0 k)) 0 (upd (trC dt od (updN c 0 k) 0) k (nI (dt 0 k)))) 1 (upd (trC dt od (updN c 0 k) 1) k (nI (dt 1 k))) = trC dt od (updN (updN c 0 k) 0 (updN c 0 k 0 + 1)) := by
    refine rows_eq (fun q hq ho => ?_) (fun q h => ?_)
    · rw [uN_same]
      rw [own_v q (by omega)] at ho
      have h9 : q = 0 ∨ q = 1 := by
        rcases (by omega : q = 0 ∨ q = 1 ∨ q = 2 ∨ q = 3 ∨ q = 4 ∨ q = 5 ∨ q = 6 ∨ q = 7 ∨ q = 8 ∨ q = 9 ∨ q = 10) with r | r | r | r | r | r | r | r | r | r | r <;> subst r <;> first | exact Or.inl rfl | exact Or.inr rfl | exact absurd ho (by decide)
      rcases h9 with r | r <;> subst r
      · rw [uR_ne (by decide), uR_s]; rfl
      · rw [uR_s]; rfl
    · have h0 : q ≠ 0 := fun z => by subst z; rcases h with h | h; exact h rfl; omega
      have h1 : q ≠ 1 := fun z => by subst z; rcases h with h | h; exact h rfl; omega
      rw [uR_ne h1, uR_ne h0]
  rw [uN_same] at e1 e2
  rw [ec] at e1 e2
  have e1' : updR (NC (updN c 0 k)) 0 (vp_updL (NC (updN c 0 k) 0) k (nm 98 k)) = NC (updN c 0 (k + 1)) := e1
  rw [ec, e1', e2]
  rfl
end
section
variable {sq : Nat → Nat} {sv : Nat → Int64} {c : Nat → Nat} {i j k m n q x : Nat} {fd et : Int32} {dt od : Nat → Nat → Nat} {tn : Nat → Nat} {z : LSt} {X : SX} {t : (Nat → Nat) × (Nat → Nat)}
theorem sq_stall (hD : DtS tn dt od) (hk : k < tn 2) (h : RS dt od tn et (updN c 2 k) i z) (hT : TK sq sv i (tk_stall k (dt 5 k))) : ∃ z', LnOK sq sv z z' ∧ RS dt od tn et (updN c 2 (k + 1)) (i + (tk_stall k (dt 5 k)).length) z' := by
  obtain ⟨fd, X, t, rfl, hI⟩ := h
  have hn := hD.1
  unfold CntS at hn
  obtain ⟨d1, d2⟩ := hD.2.2.2.1 k hk
  have e := rd_stall (sq := sq) (sv := sv) (fd := fd) (et := et) (X := X) (c := updN c 2 k) (N := NC (updN c 2 k)) (r := trC dt od (updN c 2 k)) (t := t) hT uN_same (by omega) (fun q hq => NC_n (c := updN c 2 k) (j := 2) (by decide) q (by rw [uN_same]; exact hq)) d1 d2
  have ec : updN (updN c 2 k) 2 (k + 1) = updN c 2 (k + 1) := by funext a; by_cases h : a = 2 <;> simp [updN, h]
  refine ⟨_, e, fd, X, t, ?_, hI⟩
  have e1 := NC_s (c := updN c 2 k) (j := 2) (by decide)
  have e2 : updR (trC dt od (updN c 2 k)) 5 (upd (trC dt od (updN c 2 k) 5) k (nI (dt 5 k))) = trC dt od (updN (updN c 2 k) 2 (updN c 2 k 2 + 1)) := by
    refine rows_eq (fun q hq ho => ?_) (fun q h => ?_)
    · rw [uN_same]
      rw [own_v q (by omega)] at ho
      have h9 : q = 5 := by
        rcases (by omega : q = 0 ∨ q = 1 ∨ q = 2 ∨ q = 3 ∨ q = 4 ∨ q = 5 ∨ q = 6 ∨ q = 7 ∨ q = 8 ∨ q = 9 ∨ q = 10) with r | r | r | r | r | r | r | r | r | r | r <;> subst r <;> first | exact absurd ho (by decide) | decide
      subst h9
      · rw [uR_s]; rfl
    · have h5 : q ≠ 5 := fun z => by subst z; rcases h with h | h; exact h rfl; omega
      rw [uR_ne h5]
  rw [uN_same] at e1 e2
  rw [ec] at e1 e2
  have e1' : updR (NC (updN c 2 k)) 2 (vp_updL (NC (updN c 2 k) 2) k (nm 115 k)) = NC (updN c 2 (k + 1)) := e1
  rw [ec, e1', e2]
  rfl
theorem sq_bish (hD : DtS tn dt od) (hk : k < tn 3) (h : RS dt od tn et (updN c 3 k) i z) (hT : TK sq sv i (tk_bish k (dt 6 k) (dt 7 k))) : ∃ z', LnOK sq sv z z' ∧ RS dt od tn et (updN c 3 (k + 1)) (i + (tk_bish k (dt 6 k) (dt 7 k)).length) z' := by
  obtain ⟨fd, X, t, rfl, hI⟩ := h
  have hn := hD.1
  unfold CntS at hn
  obtain ⟨d1, d2⟩ := hD.2.2.2.2.1 k hk
  have e := rd_bish (sq := sq) (sv := sv) (fd := fd) (et := et) (X := X) (c := updN c 3 k) (N := NC (updN c 3 k)) (r := trC dt od (updN c 3 k)) (t := t) hT uN_same (by omega) (fun q hq => NC_n (c := updN c 3 k) (j := 3) (by decide) q (by rw [uN_same]; exact hq)) d1 d2
  have ec : updN (updN c 3 k) 3 (k + 1) = updN c 3 (k + 1) := by funext a; by_cases h : a = 3 <;> simp [updN, h]
  refine ⟨_, e, fd, X, t, ?_, hI⟩
  have e1 := NC_s (c := updN c 3 k) (j := 3) (by decide)
  have e2 : updR (updR (trC dt od (updN c 3 k)) 6 (upd (trC dt od (updN c 3 k) 6) k (nI (dt 6 k)))) 7 (upd (trC dt od (updN c 3 k) 7) k (nI (dt 7 k))) = trC dt od (updN (updN c 3 k) 3 (updN c 3 k 3 + 1)) := by
    refine rows_eq (fun q hq ho => ?_) (fun q h => ?_)
    · rw [uN_same]
      rw [own_v q (by omega)] at ho
      have h9 : q = 6 ∨ q = 7 := by
        rcases (by omega : q = 0 ∨ q = 1 ∨ q = 2 ∨ q = 3 ∨ q = 4 ∨ q = 5 ∨ q = 6 ∨ q = 7 ∨ q = 8 ∨ q = 9 ∨ q = 10) with r | r | r | r | r | r | r | r | r | r | r <;> subst r <;> first | exact absurd ho (by decide) | decide
      rcases h9 with r | r <;> subst r
      · rw [uR_ne (by decide), uR_s]; rfl
      · rw [uR_s]; rfl
    · have h6 : q ≠ 6 := fun z => by subst z; rcases h with h | h; exact h rfl; omega
      have h7 : q ≠ 7 := fun z => by subst z; rcases h with h | h; exact h rfl; omega
      rw [uR_ne h7, uR_ne h6]
  rw [uN_same] at e1 e2
  rw [ec] at e1 e2
  have e1' : updR (NC (updN c 3 k)) 3 (vp_updL (NC (updN c 3 k) 3) k (nm 112 k)) = NC (updN c 3 (k + 1)) := e1
  rw [ec, e1', e2]
  rfl
theorem sq_carv (hD : DtS tn dt od) (hc0 : c 0 = tn 0) (hk : k < tn 1) (h : RS dt od tn et (updN c 1 k) i z) (hT : TK sq sv i (tkC dt k)) : ∃ z', LnOK sq sv z z' ∧ RS dt od tn et (updN c 1 (k + 1)) (i + (tkC dt k).length) z' := by
  obtain ⟨fd, X, t, rfl, hI⟩ := h
  have hn := hD.1
  unfold CntS at hn
  obtain ⟨d1, d2, d3, d4, d5⟩ := hD.2.2.1 k hk
  obtain ⟨t1, t2⟩ := TK.app (T := if dt 4 k = 0 then tk_carv0 k (dt 2 k) (dt 3 k) else tk_carv1 k (dt 2 k) (dt 3 k) (dt 4 k - 1)) hT
  have el : i + (if dt 4 k = 0 then tk_carv0 k (dt 2 k) (dt 3 k) else tk_carv1 k (dt 2 k) (dt 3 k) (dt 4 k - 1)).length = (if dt 4 k = 0 then i + 1 + 1 + 1 + 1 + 1 + 1 else i + 1 + 1 + 1 + 1 + 1 + 1 + 1 + 1) := by split <;> rfl
  rw [el] at t2
  obtain ⟨fd2, e⟩ := rd_carv (sq := sq) (sv := sv) (fd := fd) (et := et) (X := X) (c := updN c 1 k) (N := NC (updN c 1 k)) (r := trC dt od (updN c 1 k)) (t := t) t1 t2.1 uN_same (by omega) (fun q hq => NC_n (c := updN c 1 k) (j := 1) (by decide) q (by rw [uN_same]; exact hq)) (fun q hq => NC_n (c := updN c 1 k) (j := 0) (by decide) q hq) (by rw [uN_ne (by decide), hc0]; omega) (by rw [uN_ne (by decide), hc0]; exact d5) d1 d2 d3 d4
  have ec : updN (updN c 1 k) 1 (k + 1) = updN c 1 (k + 1) := by funext a; by_cases h : a = 1 <;> simp [updN, h]
  have e1 := NC_s (c := updN c 1 k) (j := 1) (by decide)
  have e2 : updR (updR (updR (trC dt od (updN c 1 k)) 2 (upd (trC dt od (updN c 1 k) 2) k (nI (dt 2 k)))) 3 (upd (trC dt od (updN c 1 k) 3) k (nI (dt 3 k)))) 4 (upd (trC dt od (updN c 1 k) 4) k (nI (dt 4 k) + (-1))) = trC dt od (updN (updN c 1 k) 1 (updN c 1 k 1 + 1)) := by
    refine rows_eq (fun q hq ho => ?_) (fun q h => ?_)
    · rw [uN_same]
      rw [own_v q (by omega)] at ho
      have h9 : q = 2 ∨ q = 3 ∨ q = 4 := by
        rcases (by omega : q = 0 ∨ q = 1 ∨ q = 2 ∨ q = 3 ∨ q = 4 ∨ q = 5 ∨ q = 6 ∨ q = 7 ∨ q = 8 ∨ q = 9 ∨ q = 10) with r | r | r | r | r | r | r | r | r | r | r <;> subst r <;> first | exact absurd ho (by decide) | decide
      rcases h9 with r | r | r <;> subst r
      · rw [uR_ne (by decide), uR_ne (by decide), uR_s]; rfl
      · rw [uR_ne (by decide), uR_s]; rfl
      · rw [uR_s]; rfl
    · have h2 : q ≠ 2 := fun z => by subst z; rcases h with h | h; exact h rfl; omega
      have h3 : q ≠ 3 := fun z => by subst z; rcases h with h | h; exact h rfl; omega
      have h4 : q ≠ 4 := fun z => by subst z; rcases h with h | h; exact h rfl; omega
      rw [uR_ne h4, uR_ne h3, uR_ne h2]
  rw [uN_same] at e1 e2
  rw [ec] at e1 e2
  have e1' : updR (NC (updN c 1 k)) 1 (vp_updL (NC (updN c 1 k) 1) k (nm 99 k)) = NC (updN c 1 (k + 1)) := e1
  rw [ec, e1', e2] at e
  refine ⟨_, e, fd2, X, t, ?_, hI⟩
  rw [← el]
  unfold tkC
  rw [List.length_append, ← Nat.add_assoc]
  rfl
set_option maxHeartbeats 4000000 in
/-- an order's line -/
theorem sq_ord (hD : DtS tn dt od) (hc0 : c 0 = tn 0) (hc1 : c 1 = tn 1) (hc2 : c 2 = tn 2) (hk : k < tn 4) (h : RS dt od tn et (updN c 4 k) i z) (hT : TK sq sv i (tkO tn (od k))) : ∃ z', LnOK sq sv z z' ∧ RS dt od tn et (updN c 4 (k + 1)) (i + (tkO tn (od k)).length) z' := by
  obtain ⟨fd, X, t, rfl, hI⟩ := h
  have hn := hD.1
  unfold CntS at hn
  obtain ⟨o0, o1, o2, o3, o5, o6, _, _, _⟩ := hD.2.2.2.2.2 k hk
  have hN : NmI (updN c 4 k) (NC (updN c 4 k)) := ⟨by rw [uN_ne (by decide), uN_ne (by decide), uN_ne (by decide)]; omega, fun q hq => NC_n (c := updN c 4 k) (j := 0) (by decide) q hq, fun q hq => NC_n (c := updN c 4 k) (j := 1) (by decide) q hq, fun q hq => NC_n (c := updN c 4 k) (j := 2) (by decide) q hq⟩
  have n0 : updN c 4 k 0 = tn 0 := (uN_ne (by decide)).trans hc0
  have n1 : updN c 4 k 1 = tn 1 := (uN_ne (by decide)).trans hc1
  have n2 : updN c 4 k 2 = tn 2 := (uN_ne (by decide)).trans hc2
  have ec : updN (updN c 4 k) 4 (k + 1) = updN c 4 (k + 1) := by funext a; by_cases h : a = 4 <;> simp [updN, h]
  have eN : NC (updN c 4 k) = NC (updN c 4 (k + 1)) := by rw [NC_4, NC_4]
  obtain ⟨hI1, hI2⟩ := hI
  rw [uN_same] at hI1
  have hl := wSl_l (tn := tn) (d := od k)
  have hX : X.1 + 30 < 400 := by omega
  obtain ⟨t1, t2⟩ := TK.app (T := if od k 0 = 1 then tk_oil (od k 1) else tk_carve (od k 2) (od k 1) (od k 3)) hT
  obtain ⟨t3, t4⟩ := TK.app (T := wTk tn (od k)) t2
  have t9 := t4.1
  have hTI : TI od tn (updN c 4 (k + 1) 4) (adL X (wSl tn (od k))) (updN t.1 k X.1, updN t.2 k (X.1 + (wSl tn (od k)).length)) := by
    rw [uN_same]
    refine ⟨by rw [adL_1]; omega, fun q hq => ?_⟩
    by_cases hqk : q = k
    · subst hqk
      have a1 : updN t.1 q X.1 q = X.1 := if_pos rfl
      have a2 : updN t.2 q (X.1 + (wSl tn (od q)).length) q = X.1 + (wSl tn (od q)).length := if_pos rfl
      dsimp only
      rw [a1, a2, adL_1]
      exact ⟨adL_s, rfl, Nat.le_refl _⟩
    · have a1 : updN t.1 k X.1 q = t.1 q := if_neg hqk
      have a2 : updN t.2 k (X.1 + (wSl tn (od k)).length) q = t.2 q := if_neg hqk
      obtain ⟨b1, b2, b3⟩ := hI2 q (by rw [uN_same]; omega)
      dsimp only
      rw [a1, a2, adL_1]
      exact ⟨b1.ext (fun j hj => adL_k (by omega)), b2, by omega⟩
  by_cases h0 : od k 0 = 1
  · rw [if_pos h0] at t1 t2 t3 t9
    have l2 : i + (tk_oil (od k 1)).length = i + 1 + 1 := rfl
    rw [l2] at t3 t9
    have eC := o_oil (fd := fd) (et := et) (X := X) (r := trC dt od (updN c 4 k)) (t := t) t1 uN_same (by omega) hN (by omega)
    rw [ec] at eC
    obtain ⟨fd2, eD⟩ := o_cond (sq := sq) (sv := sv) (i := i + 1 + 1) (fd := nI (od k 1)) (et := et) (c := updN c 4 (k + 1)) (N := NC (updN c 4 k)) (r := updR (updR (updR (trC dt od (updN c 4 k)) 8 (upd (trC dt od (updN c 4 k) 8) k (nI (od k 1)))) 9 (upd (trC dt od (updN c 4 k) 9) k (-1))) 10 (upd (trC dt od (updN c 4 k) 10) k (-1))) (t := t) (X := X) o5 o6 t3 t9 uN_same (by omega) hX (hN.up (x := k + 1) |> fun z => by rw [ec] at z; exact z) n0.symm n2.symm (by omega) (by omega)
    have e2 : updR (updR (updR (trC dt od (updN c 4 k)) 8 (upd (trC dt od (updN c 4 k) 8) k (nI (od k 1)))) 9 (upd (trC dt od (updN c 4 k) 9) k (-1))) 10 (upd (trC dt od (updN c 4 k) 10) k (-1)) = trC dt od (updN (updN c 4 k) 4 (updN c 4 k 4 + 1)) := by
      refine rows_eq (fun q hq ho => ?_) (fun q h => ?_)
      · rw [uN_same]
        rw [own_v q (by omega)] at ho
        have h9 : q = 8 ∨ q = 9 ∨ q = 10 := by
          rcases (by omega : q = 0 ∨ q = 1 ∨ q = 2 ∨ q = 3 ∨ q = 4 ∨ q = 5 ∨ q = 6 ∨ q = 7 ∨ q = 8 ∨ q = 9 ∨ q = 10) with r | r | r | r | r | r | r | r | r | r | r <;> subst r <;> first | exact absurd ho (by decide) | decide
        rcases h9 with r | r | r <;> subst r
        · rw [uR_ne (by decide), uR_ne (by decide), uR_s]; rfl
        · rw [uR_ne (by decide), uR_s, vD_91 h0]
        · rw [uR_s, vD_A1 h0]
      · have h8 : q ≠ 8 := fun z => by subst z; rcases h with h | h; exact h rfl; omega
        have h9 : q ≠ 9 := fun z => by subst z; rcases h with h | h; exact h rfl; omega
        have h10 : q ≠ 10 := fun z => by subst z; rcases h with h | h; exact h rfl; omega
        rw [uR_ne h10, uR_ne h9, uR_ne h8]
    rw [uN_same, ec] at e2
    rw [e2] at eC
    rw [e2] at eD
    have eA := la_ok eC eD
    rw [eN] at eA
    have eB : lLine sq sv (ys i fd et X (updN c 4 k) (NC (updN c 4 (k + 1))) (trC dt od (updN c 4 k)) t) = lAnd (lOil sq sv (ys i fd et X (updN c 4 k) (NC (updN c 4 (k + 1))) (trC dt od (updN c 4 k)) t)) (lCond sq sv) := lLine_6 (mS_is t1.1 (by decide))
    have eL := ln_end (by show ¬ tSg sq (nI i) = 0; rw [t1.1]; decide) (eB.trans eA) t9
    rw [eN]
    refine ⟨_, eL, fd2, _, _, ?_, hTI⟩
    unfold tkO
    rw [if_pos h0, List.length_append, List.length_append, ← Nat.add_assoc, ← Nat.add_assoc, l2, show ([(9, 0)] : List (Nat × Int64)).length = 1 from rfl]
  · rw [if_neg h0] at t1 t2 t3 t9
    have l2 : i + (tk_carve (od k 2) (od k 1) (od k 3)).length = i + 1 + 1 + 1 + 1 + 1 + 1 := rfl
    rw [l2] at t3 t9
    have eC := o_carve (fd := fd) (et := et) (X := X) (r := trC dt od (updN c 4 k)) (t := t) t1 uN_same (by omega) hN (by omega) (by omega) (by omega)
    rw [ec] at eC
    obtain ⟨fd2, eD⟩ := o_cond (sq := sq) (sv := sv) (i := i + 1 + 1 + 1 + 1 + 1 + 1) (fd := nI (od k 3)) (et := et) (c := updN c 4 (k + 1)) (N := NC (updN c 4 k)) (r := updR (updR (updR (trC dt od (updN c 4 k)) 9 (upd (trC dt od (updN c 4 k) 9) k (nI (od k 2)))) 8 (upd (trC dt od (updN c 4 k) 8) k (nI (od k 1)))) 10 (upd (trC dt od (updN c 4 k) 10) k (nI (od k 3)))) (t := t) (X := X) o5 o6 t3 t9 uN_same (by omega) hX (hN.up (x := k + 1) |> fun z => by rw [ec] at z; exact z) n0.symm n2.symm (by omega) (by omega)
    have e2 : updR (updR (updR (trC dt od (updN c 4 k)) 9 (upd (trC dt od (updN c 4 k) 9) k (nI (od k 2)))) 8 (upd (trC dt od (updN c 4 k) 8) k (nI (od k 1)))) 10 (upd (trC dt od (updN c 4 k) 10) k (nI (od k 3))) = trC dt od (updN (updN c 4 k) 4 (updN c 4 k 4 + 1)) := by
      refine rows_eq (fun q hq ho => ?_) (fun q h => ?_)
      · rw [uN_same]
        rw [own_v q (by omega)] at ho
        have h9 : q = 8 ∨ q = 9 ∨ q = 10 := by
          rcases (by omega : q = 0 ∨ q = 1 ∨ q = 2 ∨ q = 3 ∨ q = 4 ∨ q = 5 ∨ q = 6 ∨ q = 7 ∨ q = 8 ∨ q = 9 ∨ q = 10) with r | r | r | r | r | r | r | r | r | r | r <;> subst r <;> first | exact absurd ho (by decide) | decide
        rcases h9 with r | r | r <;> subst r
        · rw [uR_ne (by decide), uR_s]; rfl
        · rw [uR_ne (by decide), uR_ne (by decide), uR_s, vD_90 h0]
        · rw [uR_s, vD_A0 h0]
      · have h8 : q ≠ 8 := fun z => by subst z; rcases h with h | h; exact h rfl; omega
        have h9 : q ≠ 9 := fun z => by subst z; rcases h with h | h; exact h rfl; omega
        have h10 : q ≠ 10 := fun z => by subst z; rcases h with h | h; exact h rfl; omega
        rw [uR_ne h10, uR_ne h8, uR_ne h9]
    rw [uN_same, ec] at e2
    rw [e2] at eC
    rw [e2] at eD
    have eA := la_ok eC eD
    rw [eN] at eA
    have eB : lLine sq sv (ys i fd et X (updN c 4 k) (NC (updN c 4 (k + 1))) (trC dt od (updN c 4 k)) t) = lAnd (lCarv sq sv (ys i fd et X (updN c 4 k) (NC (updN c 4 (k + 1))) (trC dt od (updN c 4 k)) t)) (lCond sq sv) := lLine_5 (mS_is t1.1 (by decide))
    have eL := ln_end (by show ¬ tSg sq (nI i) = 0; rw [t1.1]; decide) (eB.trans eA) t9
    rw [eN]
    refine ⟨_, eL, fd2, _, _, ?_, hTI⟩
    unfold tkO
    rw [if_neg h0, List.length_append, List.length_append, ← Nat.add_assoc, ← Nat.add_assoc, l2, show ([(9, 0)] : List (Nat × Int64)).length = 1 from rfl]
end
