/-! a printed list, read line by line -/
abbrev ys (i : Nat) (fd et : Int32) (X : SX) (c : Nat → Nat) (N : Nat → Nat → Int64) (r : Nat → Nat → Int32) (t : (Nat → Nat) × (Nat → Nat)) : LSt := (es i fd et X, c, N, r, t)
theorem mS_is {sq : Nat → Nat} {i s : Nat} {x : Int32} (h : tSg sq (nI i) = s) (hs : mS s = x) : mS (tSg sq (nI i)) = x := by rw [h]; exact hs
section
variable {sq : Nat → Nat} {sv : Nat → Int64} {c : Nat → Nat} {N : Nat → Nat → Int64} {r : Nat → Nat → Int32} {t : (Nat → Nat) × (Nat → Nat)} {i j k m n nn rn x : Nat} {fd et lo hi : Int32} {X : SX} {v : Int64}
theorem nf_s {f : Nat → Int64} (hj : j < 4) (hx : x = [98, 99, 115, 112].getD j 0) (h : ∀ k, k < m → f k = nm x k) (hm : m ≤ 10) (hi : i < m) : nfind f (nm x i) m = some i := by
  refine nfind_some hi (h i hi) (fun q hq e => ?_)
  rw [h q (by omega), hx] at e
  exact absurd ((nm_ok j hj i (by omega)).2 q (by omega) e) (by omega)
theorem nf_n {f : Nat → Int64} (hj : j < 4) (hx : x = [98, 99, 115, 112].getD j 0) (h : ∀ k, k < m → f k = nm x k) (hm : m < 10) : nfind f (nm x m) m = none := by
  refine nfind_none.mpr (fun q hq e => ?_)
  rw [h q hq, hx] at e
  exact absurd ((nm_ok j hj m hm).2 q (by omega) e) (by omega)
theorem l_nam (h1 : tSg sq (nI (i + 1)) = 2) (hv : tVl sv (nI (i + 1)) = v) (h2 : nfind (N j) v (c j) = none) (h3 : c j < nn) : lNam sq sv j nn (ys i fd et X c N r t) = (true, ys (i + 1 + 1) fd et X (updN c j (c j + 1)) (updR N j (vp_updL (N j) (c j) v)) r t) := by
  have e := nNew_c (sq := sq) (sv := sv) (nk := c j) (nn := nn) (nf := N j) (q := es i fd et X) (by rw [ev_st]; exact h1) (by rw [ev_st]; show oI (nfind (N j) (tVl sv (nI (i + 1))) (c j)) = (-1); rw [hv, h2]; rfl) (decide_eq_true h3)
  rw [ev_st, ev_st] at e
  have e2 : nNew sq sv (c j) nn (N j) (es i fd et X) = (true, es (i + 1 + 1) fd et X, c j + 1, vp_updL (N j) (c j) v) := by rw [e]; show (true, es (i + 1 + 1) fd et X, c j + 1, vp_updL (N j) (c j) (tVl sv (nI (i + 1)))) = _; rw [hv]
  show ((nNew sq sv (c j) nn (N j) (es i fd et X)).1, ((nNew sq sv (c j) nn (N j) (es i fd et X)).2.1, updN c j (nNew sq sv (c j) nn (N j) (es i fd et X)).2.2.1, updR N j (nNew sq sv (c j) nn (N j) (es i fd et X)).2.2.2, r, t)) = _
  rw [e2]
theorem l_num {key : Nat} (h1 : tSg sq (nI i) = key) (h2 : tSg sq (nI (i + 1)) = 3) (hv : tVl sv (nI (i + 1)) = v) (h3 : ¬ v < lo.toInt64) (h4 : v ≤ hi.toInt64) : lNum sq sv key lo hi j rn k (ys i fd et X c N r t) = (true, ys (i + 1 + 1) fd et X c N (updR r j (rput rn (r j) (nI (c k) - 1) v.toInt32)) t) := by
  have e := nNum_d (sq := sq) (sv := sv) (key := key) (nk := c k) (rn := rn) (lo := lo) (hi := hi) (rf := r j) (q := es i fd et X) (by rw [sk1 h1]) (by rw [sk1 h1]; exact h2) (by rw [sk1 h1]; show ¬ tVl sv (nI (i + 1)) < lo.toInt64; rw [hv]; exact h3) (by rw [sk1 h1]; show tVl sv (nI (i + 1)) ≤ hi.toInt64; rw [hv]; exact h4)
  rw [sk1 h1] at e
  have e2 : nNum sq sv key lo hi (c k) rn (r j) (es i fd et X) = (true, es (i + 1 + 1) fd et X, rput rn (r j) (nI (c k) - 1) v.toInt32) := by
    rw [e]; show (true, eStep (es (i + 1) fd et X), rput rn (r j) (nI (c k) - 1) (tVl sv (nI (i + 1))).toInt32) = _; rw [hv, ev_st]
  show ((nNum sq sv key lo hi (c k) rn (r j) (es i fd et X)).1, ((nNum sq sv key lo hi (c k) rn (r j) (es i fd et X)).2.1, c, N, updR r j (nNum sq sv key lo hi (c k) rn (r j) (es i fd et X)).2.2, t)) = _
  rw [e2]
theorem l_skp {s : Nat} (h : tSg sq (nI i) = s) : lSkp sq s (ys i fd et X c N r t) = (true, ys (i + 1) fd et X c N r t) := by
  show ((eSkip sq s (es i fd et X)).1, yE (ys i fd et X c N r t) (eSkip sq s (es i fd et X)).2) = _
  rw [sk1 h]; rfl
theorem l_no {s : Nat} (h : ¬ tSg sq (nI i) = s) : lSkp sq s (ys i fd et X c N r t) = (false, ys i fd et X c N r t) := by
  show ((eSkip sq s (es i fd et X)).1, yE (ys i fd et X c N r t) (eSkip sq s (es i fd et X)).2) = _
  rw [eSkip_b (q := es i fd et X) h]; rfl
theorem l_knw (h : tSg sq (nI i) = 2) (h2 : nfind (N j) (tVl sv (nI i)) (c j) = some k) (hk : k < 1000) : lKnw sq sv j (ys i fd et X c N r t) = (true, ys (i + 1) (nI k) et X c N r t) := by
  show ((eKnown sq sv (c j) (N j) (es i fd et X)).1, yE (ys i fd et X c N r t) (eKnown sq sv (c j) (N j) (es i fd et X)).2) = _
  rw [ev_kn h h2 hk]; rfl
theorem row_u {f : Nat → Int32} {n : Nat} {x : Int32} (h : m < n) (hn : n < 1000) : rput n f (nI (m + 1) - 1) x = upd f m x := by rw [nI_pred]; exact rput_nI h (by omega)
theorem rng {a b n : Nat} (h1 : a ≤ n) (h2 : n ≤ b) (hb : b < 1000) : ¬ lN n < (nI a).toInt64 ∧ lN n ≤ (nI b).toInt64 := by
  rw [nI_l (by omega), nI_l (by omega)]
  exact ⟨fun q => by have := (lN_lt (by omega) (by omega)).mp q; omega, (lN_le (by omega) (by omega)).mpr h2⟩
/-- one line and its end -/
def LnOK (sq : Nat → Nat) (sv : Nat → Int64) (y z : LSt) : Prop := ¬ tSg sq y.1.1 = 0 ∧ lAnd (lLine sq sv y) (lSkp sq 9) = (true, z)
theorem ln_end {y : LSt} {i : Nat} (h0 : ¬ tSg sq y.1.1 = 0) (h : lLine sq sv y = (true, ys i fd et X c N r t)) (h9 : tSg sq (nI i) = 9) : LnOK sq sv y (ys (i + 1) fd et X c N r t) := ⟨h0, by rw [lAnd_t (by rw [h]), h]; exact l_skp h9⟩
theorem run_1 {y z : LSt} (h : LnOK sq sv y z) : lRun sq sv (n + 1) true y = lRun sq sv n true z := by
  show (if true = true ∧ ¬ tSg sq y.1.1 = 0 then lRun sq sv n (lAnd (lLine sq sv y) (lSkp sq 9)).1 (lAnd (lLine sq sv y) (lSkp sq 9)).2 else _) = _
  rw [if_pos ⟨rfl, h.1⟩, h.2]
theorem uR_same {f : Nat → Nat → Int32} {j : Nat} {x : Nat → Int32} : updR f j x j = x := if_pos rfl
theorem uR_ne {α : Type} {f : Nat → α} {j q : Nat} {x : α} (h : q ≠ j) : updR f j x q = f q := if_neg h
theorem uN_same {f : Nat → Nat} {j x : Nat} : updN f j x j = x := if_pos rfl
theorem uN_ne {f : Nat → Nat} {j q x : Nat} (h : q ≠ j) : updN f j x q = f q := if_neg h
variable {a b : Nat}
theorem rd_beast (hT : TK sq sv i (tk_beast k a b)) (hc : c 0 = k) (hk : k < 5) (hN : ∀ q, q < k → N 0 q = nm 98 q) (ha : a ≤ 9) (hb : 1 ≤ b) (hb2 : b ≤ 9) :
    LnOK sq sv (ys i fd et X c N r t) (ys (i + 1 + 1 + 1 + 1 + 1 + 1 + 1) fd et X (updN c 0 (k + 1)) (updR N 0 (vp_updL (N 0) k (nm 98 k))) (updR (updR r 0 (upd (r 0) k (nI a))) 1 (upd (r 1) k (nI b))) t) := by
  obtain ⟨h0, v0, h1, v1, h2, v2, h3, v3, h4, v4, h5, v5, h6, v6, -⟩ := hT
  dsimp only at h0 v0 h1 v1 h2 v2 h3 v3 h4 v4 h5 v5 h6 v6
  refine ln_end (by show ¬ tSg sq (nI i) = 0; rw [h0]; decide) ?_ h6
  have e1 := l_nam (sq := sq) (sv := sv) (c := c) (N := N) (r := r) (t := t) (i := i) (j := 0) (nn := 8) (fd := fd) (et := et) (X := X) (v := nm 98 k) h1 v1 (by rw [hc]; exact nf_n (j := 0) (by decide) rfl hN (by omega)) (by omega)
  have e2 := l_num (sq := sq) (sv := sv) (c := updN c 0 (k + 1)) (N := updR N 0 (vp_updL (N 0) k (nm 98 k))) (r := r) (t := t) (i := i + 1 + 1) (j := 0) (rn := 8) (k := 0) (fd := fd) (et := et) (X := X) (lo := 0) (hi := 9) h2 h3 v3 (rng (a := 0) (b := 9) (by omega) ha (by omega)).1 (rng (a := 0) (b := 9) (by omega) ha (by omega)).2
  have e3 := l_num (sq := sq) (sv := sv) (c := updN c 0 (k + 1)) (N := updR N 0 (vp_updL (N 0) k (nm 98 k))) (r := updR r 0 (upd (r 0) k (nI a))) (t := t) (i := i + 1 + 1 + 1 + 1) (j := 1) (rn := 8) (k := 0) (fd := fd) (et := et) (X := X) (lo := 1) (hi := 9) h4 h5 v5 (rng (a := 1) (b := 9) hb hb2 (by omega)).1 (rng (a := 1) (b := 9) hb hb2 (by omega)).2
  rw [hc] at e1
  rw [uN_same, row_u (by omega) (by decide), lN_I] at e2 e3
  rw [uR_ne (by decide)] at e3
  rw [lLine_1 (y := ys i fd et X c N r t) (mS_is h0 (by decide)), e1, lAnd_t rfl, e2, lAnd_t rfl, e3]
theorem rd_stall (hT : TK sq sv i (tk_stall k a)) (hc : c 2 = k) (hk : k < 6) (hN : ∀ q, q < k → N 2 q = nm 115 q) (ha : 1 ≤ a) (ha2 : a ≤ 9) :
    LnOK sq sv (ys i fd et X c N r t) (ys (i + 1 + 1 + 1 + 1 + 1) fd et X (updN c 2 (k + 1)) (updR N 2 (vp_updL (N 2) k (nm 115 k))) (updR r 5 (upd (r 5) k (nI a))) t) := by
  obtain ⟨h0, v0, h1, v1, h2, v2, h3, v3, h4, v4, -⟩ := hT
  dsimp only at h0 v0 h1 v1 h2 v2 h3 v3 h4 v4
  refine ln_end (by show ¬ tSg sq (nI i) = 0; rw [h0]; decide) ?_ h4
  have e1 := l_nam (sq := sq) (sv := sv) (c := c) (N := N) (r := r) (t := t) (i := i) (j := 2) (nn := 10) (fd := fd) (et := et) (X := X) (v := nm 115 k) h1 v1 (by rw [hc]; exact nf_n (j := 2) (by decide) rfl hN (by omega)) (by omega)
  have e2 := l_num (sq := sq) (sv := sv) (c := updN c 2 (k + 1)) (N := updR N 2 (vp_updL (N 2) k (nm 115 k))) (r := r) (t := t) (i := i + 1 + 1) (j := 5) (rn := 10) (k := 2) (fd := fd) (et := et) (X := X) (lo := 1) (hi := 9) h2 h3 v3 (rng (a := 1) (b := 9) ha ha2 (by omega)).1 (rng (a := 1) (b := 9) ha ha2 (by omega)).2
  rw [hc] at e1
  rw [uN_same, row_u (by omega) (by decide), lN_I] at e2
  rw [lLine_3 (y := ys i fd et X c N r t) (mS_is h0 (by decide)), e1, lAnd_t rfl, e2]
theorem rd_bish (hT : TK sq sv i (tk_bish k a b)) (hc : c 3 = k) (hk : k < 4) (hN : ∀ q, q < k → N 3 q = nm 112 q) (ha : a ≤ 9) (hb : b ≤ 999) :
    LnOK sq sv (ys i fd et X c N r t) (ys (i + 1 + 1 + 1 + 1 + 1 + 1 + 1) fd et X (updN c 3 (k + 1)) (updR N 3 (vp_updL (N 3) k (nm 112 k))) (updR (updR r 6 (upd (r 6) k (nI a))) 7 (upd (r 7) k (nI b))) t) := by
  obtain ⟨h0, v0, h1, v1, h2, v2, h3, v3, h4, v4, h5, v5, h6, v6, -⟩ := hT
  dsimp only at h0 v0 h1 v1 h2 v2 h3 v3 h4 v4 h5 v5 h6 v6
  refine ln_end (by show ¬ tSg sq (nI i) = 0; rw [h0]; decide) ?_ h6
  have e1 := l_nam (sq := sq) (sv := sv) (c := c) (N := N) (r := r) (t := t) (i := i) (j := 3) (nn := 6) (fd := fd) (et := et) (X := X) (v := nm 112 k) h1 v1 (by rw [hc]; exact nf_n (j := 3) (by decide) rfl hN (by omega)) (by omega)
  have e2 := l_num (sq := sq) (sv := sv) (c := updN c 3 (k + 1)) (N := updR N 3 (vp_updL (N 3) k (nm 112 k))) (r := r) (t := t) (i := i + 1 + 1) (j := 6) (rn := 6) (k := 3) (fd := fd) (et := et) (X := X) (lo := 0) (hi := 9) h2 h3 v3 (rng (a := 0) (b := 9) (by omega) ha (by omega)).1 (rng (a := 0) (b := 9) (by omega) ha (by omega)).2
  have e3 := l_num (sq := sq) (sv := sv) (c := updN c 3 (k + 1)) (N := updR N 3 (vp_updL (N 3) k (nm 112 k))) (r := updR r 6 (upd (r 6) k (nI a))) (t := t) (i := i + 1 + 1 + 1 + 1) (j := 7) (rn := 6) (k := 3) (fd := fd) (et := et) (X := X) (lo := 0) (hi := 999) h4 h5 v5 (rng (a := 0) (b := 999) (by omega) hb (by omega)).1 (rng (a := 0) (b := 999) (by omega) hb (by omega)).2
  rw [hc] at e1
  rw [uN_same, row_u (by omega) (by decide), lN_I] at e2 e3
  rw [uR_ne (by decide)] at e3
  rw [lLine_4 (y := ys i fd et X c N r t) (mS_is h0 (by decide)), e1, lAnd_t rfl, e2, lAnd_t rfl, e3]
theorem rd_carv {x : Nat} (hT : TK sq sv i (if x = 0 then tk_carv0 k a b else tk_carv1 k a b (x - 1))) (h9 : tSg sq (nI (if x = 0 then i + 1 + 1 + 1 + 1 + 1 + 1 else i + 1 + 1 + 1 + 1 + 1 + 1 + 1 + 1)) = 9) (hc : c 1 = k) (hk : k < 4) (hN : ∀ q, q < k → N 1 q = nm 99 q) (hB : ∀ q, q < c 0 → N 0 q = nm 98 q) (hB2 : c 0 ≤ 8) (hx : x ≤ c 0) (ha : 1 ≤ a) (ha2 : a ≤ 9) (hb : 1 ≤ b) (hb2 : b ≤ 4) :
    ∃ fd2, LnOK sq sv (ys i fd et X c N r t) (ys ((if x = 0 then i + 1 + 1 + 1 + 1 + 1 + 1 else i + 1 + 1 + 1 + 1 + 1 + 1 + 1 + 1) + 1) fd2 et X (updN c 1 (k + 1)) (updR N 1 (vp_updL (N 1) k (nm 99 k))) (updR (updR (updR r 2 (upd (r 2) k (nI a))) 3 (upd (r 3) k (nI b))) 4 (upd (r 4) k (nI x + (-1)))) t) := by
  have e1 : ∀ {h1 : tSg sq (nI (i + 1)) = 2} {v1 : tVl sv (nI (i + 1)) = nm 99 k}, lNam sq sv 1 5 (ys i fd et X c N r t) = (true, ys (i + 1 + 1) fd et X (updN c 1 (k + 1)) (updR N 1 (vp_updL (N 1) k (nm 99 k))) r t) := fun {h1 v1} => by
    have e := l_nam (sq := sq) (sv := sv) (c := c) (N := N) (r := r) (t := t) (i := i) (j := 1) (nn := 5) (fd := fd) (et := et) (X := X) (v := nm 99 k) h1 v1 (by rw [hc]; exact nf_n (j := 1) (by decide) rfl hN (by omega)) (by omega)
    rw [hc] at e; exact e
  have e2 : ∀ {h2 : tSg sq (nI (i + 1 + 1)) = 24} {h3 : tSg sq (nI (i + 1 + 1 + 1)) = 3} {v3 : tVl sv (nI (i + 1 + 1 + 1)) = lN a}, lNum sq sv 24 1 9 2 5 1 (ys (i + 1 + 1) fd et X (updN c 1 (k + 1)) (updR N 1 (vp_updL (N 1) k (nm 99 k))) r t) = (true, ys (i + 1 + 1 + 1 + 1) fd et X (updN c 1 (k + 1)) (updR N 1 (vp_updL (N 1) k (nm 99 k))) (updR r 2 (upd (r 2) k (nI a))) t) := fun {h2 h3 v3} => by
    have e := l_num (sq := sq) (sv := sv) (c := updN c 1 (k + 1)) (N := updR N 1 (vp_updL (N 1) k (nm 99 k))) (r := r) (t := t) (i := i + 1 + 1) (j := 2) (rn := 5) (k := 1) (fd := fd) (et := et) (X := X) (lo := 1) (hi := 9) h2 h3 v3 (rng (a := 1) (b := 9) ha ha2 (by omega)).1 (rng (a := 1) (b := 9) ha ha2 (by omega)).2
    rw [uN_same, row_u (by omega) (by decide), lN_I] at e; exact e
  have e3 : ∀ {h2 : tSg sq (nI (i + 1 + 1 + 1 + 1)) = 25} {h3 : tSg sq (nI (i + 1 + 1 + 1 + 1 + 1)) = 3} {v3 : tVl sv (nI (i + 1 + 1 + 1 + 1 + 1)) = lN b}, lNum sq sv 25 1 4 3 5 1 (ys (i + 1 + 1 + 1 + 1) fd et X (updN c 1 (k + 1)) (updR N 1 (vp_updL (N 1) k (nm 99 k))) (updR r 2 (upd (r 2) k (nI a))) t) = (true, ys (i + 1 + 1 + 1 + 1 + 1 + 1) fd et X (updN c 1 (k + 1)) (updR N 1 (vp_updL (N 1) k (nm 99 k))) (updR (updR r 2 (upd (r 2) k (nI a))) 3 (upd (r 3) k (nI b))) t) := fun {h2 h3 v3} => by
    have e := l_num (sq := sq) (sv := sv) (c := updN c 1 (k + 1)) (N := updR N 1 (vp_updL (N 1) k (nm 99 k))) (r := updR r 2 (upd (r 2) k (nI a))) (t := t) (i := i + 1 + 1 + 1 + 1) (j := 3) (rn := 5) (k := 1) (fd := fd) (et := et) (X := X) (lo := 1) (hi := 4) h2 h3 v3 (rng (a := 1) (b := 4) hb hb2 (by omega)).1 (rng (a := 1) (b := 4) hb hb2 (by omega)).2
    rw [uN_same, row_u (by omega) (by decide), lN_I, uR_ne (by decide)] at e; exact e
  by_cases hx0 : x = 0
  · subst hx0
    rw [if_pos rfl] at hT h9 ⊢
    obtain ⟨h0, v0, h1, v1, h2, v2, h3, v3, h4, v4, h5, v5, -⟩ := hT
    dsimp only at h0 v0 h1 v1 h2 v2 h3 v3 h4 v4 h5 v5
    refine ⟨-1, ln_end (by show ¬ tSg sq (nI i) = 0; rw [h0]; decide) ?_ h9⟩
    rw [lLine_2 (y := ys i fd et X c N r t) (mS_is h0 (by decide)), e1 (h1 := h1) (v1 := v1), lAnd_t rfl, e2 (h2 := h2) (h3 := h3) (v3 := v3), lAnd_t rfl, e3 (h2 := h4) (h3 := h5) (v3 := v5), lAnd_t rfl]
    have e4 := l_no (sq := sq) (c := updN c 1 (k + 1)) (N := updR N 1 (vp_updL (N 1) k (nm 99 k))) (r := updR (updR r 2 (upd (r 2) k (nI a))) 3 (upd (r 3) k (nI b))) (t := t) (i := i + 1 + 1 + 1 + 1 + 1 + 1) (fd := -1) (et := et) (X := X) (s := 26) (by rw [h9]; decide)
    unfold lLik
    show lThen (lOpt (lSkp sq 26 (ys (i + 1 + 1 + 1 + 1 + 1 + 1) (-1) et X (updN c 1 (k + 1)) (updR N 1 (vp_updL (N 1) k (nm 99 k))) (updR (updR r 2 (upd (r 2) k (nI a))) 3 (upd (r 3) k (nI b))) t)) (lKnw sq sv 0)) _ = _
    rw [e4, lOpt_f rfl]
    show (true, (es (i + 1 + 1 + 1 + 1 + 1 + 1) (-1) et X, updN c 1 (k + 1), updR N 1 (vp_updL (N 1) k (nm 99 k)), updR (updR (updR r 2 (upd (r 2) k (nI a))) 3 (upd (r 3) k (nI b))) 4 (rput 5 (updR (updR r 2 (upd (r 2) k (nI a))) 3 (upd (r 3) k (nI b)) 4) (nI (updN c 1 (k + 1) 1) - 1) (-1)), t)) = _
    rw [uN_same, row_u (by omega) (by decide), uR_ne (by decide), uR_ne (by decide)]
    rfl
  · rw [if_neg hx0] at hT h9 ⊢
    obtain ⟨h0, v0, h1, v1, h2, v2, h3, v3, h4, v4, h5, v5, h6, v6, h7, v7, -⟩ := hT
    dsimp only at h0 v0 h1 v1 h2 v2 h3 v3 h4 v4 h5 v5 h6 v6 h7 v7
    refine ⟨nI (x - 1), ln_end (by show ¬ tSg sq (nI i) = 0; rw [h0]; decide) ?_ h9⟩
    rw [lLine_2 (y := ys i fd et X c N r t) (mS_is h0 (by decide)), e1 (h1 := h1) (v1 := v1), lAnd_t rfl, e2 (h2 := h2) (h3 := h3) (v3 := v3), lAnd_t rfl, e3 (h2 := h4) (h3 := h5) (v3 := v5), lAnd_t rfl]
    have e4 := l_skp (sq := sq) (c := updN c 1 (k + 1)) (N := updR N 1 (vp_updL (N 1) k (nm 99 k))) (r := updR (updR r 2 (upd (r 2) k (nI a))) 3 (upd (r 3) k (nI b))) (t := t) (i := i + 1 + 1 + 1 + 1 + 1 + 1) (fd := -1) (et := et) (X := X) h6
    have e5 := l_knw (sq := sq) (sv := sv) (c := updN c 1 (k + 1)) (N := updR N 1 (vp_updL (N 1) k (nm 99 k))) (r := updR (updR r 2 (upd (r 2) k (nI a))) 3 (upd (r 3) k (nI b))) (t := t) (i := i + 1 + 1 + 1 + 1 + 1 + 1 + 1) (j := 0) (fd := -1) (et := et) (X := X) (k := x - 1) h7 (by rw [v7, uR_ne (by decide), uN_ne (by decide)]; exact nf_s (j := 0) (by decide) rfl hB (by omega) (by omega)) (by omega)
    unfold lLik
    show lThen (lOpt (lSkp sq 26 (ys (i + 1 + 1 + 1 + 1 + 1 + 1) (-1) et X (updN c 1 (k + 1)) (updR N 1 (vp_updL (N 1) k (nm 99 k))) (updR (updR r 2 (upd (r 2) k (nI a))) 3 (upd (r 3) k (nI b))) t)) (lKnw sq sv 0)) _ = _
    rw [e4, lOpt_t rfl, e5]
    show (true, (es (i + 1 + 1 + 1 + 1 + 1 + 1 + 1 + 1) (nI (x - 1)) et X, updN c 1 (k + 1), updR N 1 (vp_updL (N 1) k (nm 99 k)), updR (updR (updR r 2 (upd (r 2) k (nI a))) 3 (upd (r 3) k (nI b))) 4 (rput 5 (updR (updR r 2 (upd (r 2) k (nI a))) 3 (upd (r 3) k (nI b)) 4) (nI (updN c 1 (k + 1) 1) - 1) (nI (x - 1))), t)) = _
    rw [uN_same, row_u (by omega) (by decide), uR_ne (by decide), uR_ne (by decide), sb_m1 (p := x) (by omega)]
end
