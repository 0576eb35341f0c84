/-! the class has read what was printed -/
section
variable {f F : Nat → Int32} {n p e k m b : Nat} {tn d : Nat → Nat} {dt od : Nat → Nat → Nat} {sq : Nat → Nat} {sv : Nat → Int64} {y : LSt} {fd et : Int32} {K : Nat} {X : SX} {t : (Nat → Nat) × (Nat → Nat)}
theorem posn_cz : ∀ {T : List (Nat × Int64)} {i : Nat}, ChZ f n (posn f n i) T → i + T.length ≤ 400 → tkS f n (i + T.length) = 0 ∧ ∀ j, j < T.length → tkS f n (i + j) = (T.getD j (0, 0)).1 ∧ tkV f n (i + j) = (T.getD j (0, 0)).2 := by
  intro T
  induction T with
  | nil =>
    intro i h _
    refine ⟨?_, fun j hj => absurd hj (Nat.not_lt_zero j)⟩
    have h1 : skp f n (posn f n i) = n := h
    show tkS f n i = 0
    unfold tkS tkP
    rw [h1, if_pos (Or.inr (Nat.le_refl _))]
    unfold lexS; rw [if_pos (Nat.le_refl _)]
  | cons t T ih =>
    intro i h hl
    obtain ⟨q, ⟨h0, h1, h2, h3⟩, h4⟩ := h
    rw [List.length_cons] at hl
    have hp : posn f n (i + 1) = q := h1
    obtain ⟨g1, g2⟩ := ih (i := i + 1) (by rw [hp]; exact h4) (by omega)
    refine ⟨by rw [List.length_cons, show i + (T.length + 1) = i + 1 + T.length by omega]; exact g1, fun j hj => ?_⟩
    match j, hj with
    | 0, _ =>
      refine ⟨?_, ?_⟩
      · rw [← tkS_a (Or.inl (by omega))]; exact h2
      · rw [← tkV_a (Or.inl (by omega))]; exact h3
    | j + 1, hj =>
      have := g2 j (by rw [List.length_cons] at hj; omega)
      rw [show i + (j + 1) = i + 1 + j by omega]
      exact this
def okS (t : Nat × Int64) : Bool := decide (2 ≤ t.1 ∧ t.1 < 49)
theorem cat_all {G : Nat → List (Nat × Int64)} : ∀ m, (∀ k, k < m → (G k).all okS = true) → (cat G m).all okS = true := by
  intro m
  induction m with
  | zero => intro _; rfl
  | succ m ih =>
    intro h
    show (cat G m ++ G m).all okS = true
    rw [List.all_append, ih (fun k hk => h k (by omega)), h m (by omega)]; rfl
theorem cat_len {α : Type} {G : Nat → List α} : ∀ m, (∀ k, k < m → (G k).length ≤ b) → (cat G m).length ≤ b * m := by
  intro m
  induction m with
  | zero => intro _; exact Nat.zero_le _
  | succ m ih =>
    intro h
    have h1 := ih (fun k hk => h k (by omega))
    have h2 := h m (by omega)
    show (cat G m ++ G m).length ≤ _
    rw [List.length_append, Nat.mul_succ]; omega
theorem wTk_all : (wTk tn d).all okS = true := by unfold wTk; (repeat' split) <;> rfl
theorem wTk_len : (wTk tn d).length ≤ 22 := by unfold wTk; (repeat' split) <;> exact Nat.le_of_ble_eq_true rfl
theorem tkO_all : (tkO tn d).all okS = true := by
  unfold tkO
  rw [List.all_append, List.all_append, wTk_all]
  split <;> rfl
theorem tkO_len : (tkO tn d).length ≤ 29 := by
  have := wTk_len (tn := tn) (d := d)
  unfold tkO
  rw [List.length_append, List.length_append]
  split
  · show 2 + ((wTk tn d).length + 1) ≤ _; omega
  · show 6 + ((wTk tn d).length + 1) ≤ _; omega
theorem tkC_all : (tkC dt k).all okS = true := by unfold tkC; split <;> rfl
theorem tkC_len : (tkC dt k).length ≤ 9 := by unfold tkC; split <;> exact Nat.le_of_ble_eq_true rfl
theorem TT_all : (TT tn dt od).all okS = true := by
  unfold TT
  rw [List.all_append, List.all_append, List.all_append, List.all_append, cat_all _ (fun _ _ => rfl), cat_all _ (fun _ _ => tkC_all), cat_all _ (fun _ _ => rfl), cat_all _ (fun _ _ => rfl), cat_all _ (fun _ _ => tkO_all)]
  rfl
theorem TT_len (hD : CntS tn) : (TT tn dt od).length ≤ 400 := by
  unfold CntS at hD
  have h0 := cat_len (b := 7) (G := fun k => tk_beast k (dt 0 k) (dt 1 k)) (tn 0) (fun _ _ => Nat.le_refl 7)
  have h1 := cat_len (b := 9) (G := tkC dt) (tn 1) (fun _ _ => tkC_len)
  have h2 := cat_len (b := 5) (G := fun k => tk_stall k (dt 5 k)) (tn 2) (fun _ _ => Nat.le_refl 5)
  have h3 := cat_len (b := 7) (G := fun k => tk_bish k (dt 6 k) (dt 7 k)) (tn 3) (fun _ _ => Nat.le_refl 7)
  have h4 := cat_len (b := 29) (G := fun k => tkO tn (od k)) (tn 4) (fun _ _ => tkO_len)
  unfold TT
  rw [List.length_append, List.length_append, List.length_append, List.length_append]; omega
theorem ll_beast {k a b : Nat} : (ln_beast k a b).length ≤ 29 := by
  have hk := (dec_len (v := k)).2
  have ha := (dec_len (v := a)).2
  have hb := (dec_len (v := b)).2
  have t27 : (TX 27).length = 6 := rfl
  have t26 : (TX 26).length = 6 := rfl
  have t28 : (TX 28).length = 1 := rfl
  have t25 : (TX 25).length = 7 := rfl
  unfold ln_beast
  simp only [List.length_append]
  omega
theorem ll_carv0 {k a b : Nat} : (ln_carv0 k a b).length ≤ 30 := by
  have hk := (dec_len (v := k)).2
  have ha := (dec_len (v := a)).2
  have hb := (dec_len (v := b)).2
  have t2 : (TX 2).length = 0 := rfl
  have t31 : (TX 31).length = 6 := rfl
  have t30 : (TX 30).length = 7 := rfl
  have t29 : (TX 29).length = 8 := rfl
  unfold ln_carv0
  simp only [List.length_append]
  omega
theorem ll_carv1 {k a b x : Nat} : (ln_carv1 k a b x).length ≤ 41 := by
  have hk := (dec_len (v := k)).2
  have ha := (dec_len (v := a)).2
  have hb := (dec_len (v := b)).2
  have hx := (dec_len (v := x)).2
  have t32 : (TX 32).length = 8 := rfl
  have t31 : (TX 31).length = 6 := rfl
  have t30 : (TX 30).length = 7 := rfl
  have t29 : (TX 29).length = 8 := rfl
  unfold ln_carv1
  simp only [List.length_append]
  omega
theorem ll_stall {k a : Nat} : (ln_stall k a).length ≤ 19 := by
  have hk := (dec_len (v := k)).2
  have ha := (dec_len (v := a)).2
  have t35 : (TX 35).length = 5 := rfl
  have t28 : (TX 28).length = 1 := rfl
  have t34 : (TX 34).length = 7 := rfl
  unfold ln_stall
  simp only [List.length_append]
  omega
theorem ll_bish {k a b : Nat} : (ln_bish k a b).length ≤ 30 := by
  have hk := (dec_len (v := k)).2
  have ha := (dec_len (v := a)).2
  have hb := (dec_len (v := b)).2
  have t37 : (TX 37).length = 6 := rfl
  have t26 : (TX 26).length = 6 := rfl
  have t28 : (TX 28).length = 1 := rfl
  have t36 : (TX 36).length = 8 := rfl
  unfold ln_bish
  simp only [List.length_append]
  omega
theorem ll_oil {s : Nat} : (ln_oil s).length ≤ 8 := by
  have hs := (dec_len (v := s)).2
  have t38 : (TX 38).length = 5 := rfl
  unfold ln_oil
  simp only [List.length_append]
  omega
theorem ll_carve {b s c : Nat} : (ln_carve b s c).length ≤ 26 := by
  have hb := (dec_len (v := b)).2
  have hs := (dec_len (v := s)).2
  have hc := (dec_len (v := c)).2
  have t41 : (TX 41).length = 5 := rfl
  have t40 : (TX 40).length = 5 := rfl
  have t39 : (TX 39).length = 7 := rfl
  unfold ln_carve
  simp only [List.length_append]
  omega
theorem ll_w1 {m : Nat} : (ln_w1 m).length ≤ 15 := by
  have hm := (dec_len (v := m)).2
  have t3 : (TX 3).length = 10 := rfl
  have t4 : (TX 4).length = 2 := rfl
  unfold ln_w1
  simp only [List.length_append]
  omega
theorem ll_w2 {a : Nat} : (ln_w2 a).length ≤ 22 := by
  have ha := (dec_len (v := a)).2
  have t0 : (TX 0).length = 2 := rfl
  have t5 : (TX 5).length = 17 := rfl
  unfold ln_w2
  simp only [List.length_append]
  omega
theorem ll_w3 {a m : Nat} : (ln_w3 a m).length ≤ 22 := by
  have ha := (dec_len (v := a)).2
  have hm := (dec_len (v := m)).2
  have t0 : (TX 0).length = 2 := rfl
  have t6 : (TX 6).length = 10 := rfl
  have t8 : (TX 8).length = 2 := rfl
  have t7 : (TX 7).length = 2 := rfl
  unfold ln_w3
  simp only [List.length_append]
  omega
theorem ll_w4 {a b c m : Nat} : (ln_w4 a b c m).length ≤ 39 := by
  have ha := (dec_len (v := a)).2
  have hb := (dec_len (v := b)).2
  have hc := (dec_len (v := c)).2
  have hm := (dec_len (v := m)).2
  have t1 : (TX 1).length = 2 := rfl
  have t10 : (TX 10).length = 9 := rfl
  have t0 : (TX 0).length = 2 := rfl
  have t9 : (TX 9).length = 11 := rfl
  have t11 : (TX 11).length = 1 := rfl
  unfold ln_w4
  simp only [List.length_append]
  omega
theorem ll_w5 {a m : Nat} : (ln_w5 a m).length ≤ 59 := by
  have ha := (dec_len (v := a)).2
  have hm := (dec_len (v := m)).2
  have t0 : (TX 0).length = 2 := rfl
  have t12 : (TX 12).length = 14 := rfl
  have t15 : (TX 15).length = 15 := rfl
  have t16 : (TX 16).length = 2 := rfl
  have t14 : (TX 14).length = 12 := rfl
  have t13 : (TX 13).length = 2 := rfl
  unfold ln_w5
  simp only [List.length_append]
  omega
theorem ll_w6 {m : Nat} : (ln_w6 m).length ≤ 32 := by
  have hm := (dec_len (v := m)).2
  have t17 : (TX 17).length = 16 := rfl
  have t18 : (TX 18).length = 10 := rfl
  unfold ln_w6
  simp only [List.length_append]
  omega
theorem ll_w7 {m : Nat} : (ln_w7 m).length ≤ 17 := by
  have hm := (dec_len (v := m)).2
  have t19 : (TX 19).length = 6 := rfl
  have t20 : (TX 20).length = 5 := rfl
  unfold ln_w7
  simp only [List.length_append]
  omega
theorem ll_w8 {a c m : Nat} : (ln_w8 a c m).length ≤ 38 := by
  have ha := (dec_len (v := a)).2
  have hc := (dec_len (v := c)).2
  have hm := (dec_len (v := m)).2
  have t0 : (TX 0).length = 2 := rfl
  have t21 : (TX 21).length = 15 := rfl
  have t23 : (TX 23).length = 2 := rfl
  have t22 : (TX 22).length = 6 := rfl
  have t24 : (TX 24).length = 2 := rfl
  unfold ln_w8
  simp only [List.length_append]
  omega
theorem wTx_len : (wTx tn d).length ≤ 59 := by
  unfold wTx
  split
  · exact Nat.le_trans ll_w1 (Nat.le_of_ble_eq_true rfl)
  split
  · exact Nat.le_trans ll_w2 (Nat.le_of_ble_eq_true rfl)
  split
  · exact Nat.le_trans ll_w3 (Nat.le_of_ble_eq_true rfl)
  split
  · exact Nat.le_trans ll_w4 (Nat.le_of_ble_eq_true rfl)
  split
  · exact Nat.le_trans ll_w5 (Nat.le_of_ble_eq_true rfl)
  split
  · exact Nat.le_trans ll_w6 (Nat.le_of_ble_eq_true rfl)
  split
  · exact Nat.le_trans ll_w7 (Nat.le_of_ble_eq_true rfl)
  split
  · exact Nat.le_trans ll_w8 (Nat.le_of_ble_eq_true rfl)
  · exact Nat.zero_le _
theorem lnO_len : (lnO tn d).length ≤ 87 := by
  have := wTx_len (tn := tn) (d := d)
  unfold lnO
  rw [List.length_append, List.length_append]
  have e : ([59, 10] : List Nat).length = 2 := rfl
  split
  · have := ll_oil (s := d 1); omega
  · have := ll_carve (b := d 2) (s := d 1) (c := d 3); omega
theorem lnC_len : (lnC dt k).length ≤ 44 := by
  unfold lnC
  rw [List.length_append]
  have e : (if k % 2 = 0 then [59] else [32, 59, 10] : List Nat).length ≤ 3 := by split <;> exact Nat.le_of_ble_eq_true rfl
  split
  · have := ll_carv0 (k := k) (a := dt 2 k) (b := dt 3 k); omega
  · have := ll_carv1 (k := k) (a := dt 2 k) (b := dt 3 k) (x := dt 4 k - 1); omega
theorem LL_len (hD : CntS tn) : (LL tn dt od).length ≤ 1900 := by
  unfold CntS at hD
  have h0 := cat_len (b := 29) (G := fun k => ln_beast k (dt 0 k) (dt 1 k)) (tn 0) (fun _ _ => ll_beast)
  have h1 := cat_len (b := 44) (G := lnC dt) (tn 1) (fun _ _ => lnC_len)
  have h2 := cat_len (b := 19) (G := fun k => ln_stall k (dt 5 k)) (tn 2) (fun _ _ => ll_stall)
  have h3 := cat_len (b := 30) (G := fun k => ln_bish k (dt 6 k) (dt 7 k)) (tn 3) (fun _ _ => ll_bish)
  have h4 := cat_len (b := 87) (G := fun k => lnO tn (od k)) (tn 4) (fun _ _ => lnO_len)
  unfold LL
  rw [List.length_append, List.length_append, List.length_append, List.length_append]; omega
theorem tSg_nI {s : Nat → Nat} {j : Nat} (h : j < 401) : tSg s (nI j) = sg (s j) := by
  unfold tSg; rw [nI_toInt (by omega), if_pos (by omega), nI_clamp (by omega)]
theorem tVl_nI {s : Nat → Int64} {j : Nat} (h : j < 401) : tVl s (nI j) = s j := by
  unfold tVl; rw [nI_toInt (by omega), if_pos (by omega), nI_clamp (by omega)]
theorem okS_at {T : List (Nat × Int64)} {j : Nat} (h : T.all okS = true) (hj : j < T.length) : 2 ≤ (T.getD j (0, 0)).1 ∧ (T.getD j (0, 0)).1 < 49 := by
  rw [List.getD_eq_getElem?_getD, List.getElem?_eq_getElem hj]
  exact of_decide_eq_true (List.all_eq_true.mp h _ (List.getElem_mem hj))
theorem rd_ok (hD : DtS tn dt od) (hz : ∀ j, 4 < j → tn j = 0) (hF : ∀ j, j < (LL tn dt od).length → F j = nI ((LL tn dt od).getD j 0)) (hn : n = (LL tn dt od).length) (hK : KOK F n K) (y1 : y.2.2.1 = fun _ _ => 0) (y2 : y.2.2.2.1 = fun _ _ => 0) :
    ∃ fd2 X t p, RdS F n K sq sv y fd et = (true, ys p fd2 et X tn (NC tn) (trC dt od tn) t) ∧ TI od tn (tn 4) X t := by
  have hc := lz_all (f := F) hD (Hold.of (p := 0) (fun j hj => by rw [Nat.zero_add]; exact hF j hj))
  rw [← hn] at hc
  have hl := TT_len (dt := dt) (od := od) hD.1
  have ha := TT_all (tn := tn) (dt := dt) (od := od)
  obtain ⟨p1, p2⟩ := posn_cz (i := 0) hc (by omega)
  simp only [Nat.zero_add] at p1 p2
  obtain ⟨k1, k2, k3⟩ := hK
  have eK : K = (TT tn dt od).length := by
    rcases Nat.lt_trichotomy K (TT tn dt od).length with q | q | q
    · have h9 := okS_at ha q
      rw [← (p2 K q).1] at h9
      rcases k3 with z | z <;> rw [z] at h9 <;> omega
    · exact q
    · exact absurd p1 (k2 _ q).1
  subst eK
  have hT : TK (cutN ((TT tn dt od).length + 1) (tkS F n) sq) (cutN ((TT tn dt od).length + 1) (tkV F n) sv) 0 (TT tn dt od) := TK.of (fun j hj => by
    have h9 := okS_at ha hj
    rw [Nat.zero_add, tSg_nI (by omega), tVl_nI (by omega)]
    unfold cutN
    rw [if_pos (by omega), if_pos (by omega), (p2 j hj).1, (p2 j hj).2]
    exact ⟨sg_of h9.2, rfl⟩)
  have hend : tSg (cutN ((TT tn dt od).length + 1) (tkS F n) sq) (nI (TT tn dt od).length) = 0 := by
    rw [tSg_nI (by omega)]
    unfold cutN
    rw [if_pos (by omega), p1]
    exact sg_of (by decide)
  obtain ⟨z', r1, fd2, X, t, r2, r3⟩ := run_all (fd := fd) (et := et) (X := (0, y.1.2.2.2.2.2)) (t := y.2.2.2.2) hD hz hT hend rfl
  refine ⟨fd2, X, t, (TT tn dt od).length, ?_, r3⟩
  rw [← r2, ← r1]
  unfold RdS
  show lRun _ _ 400 true ((((0 : Int32), fd, 0, et, 0, y.1.2.2.2.2.2), (fun _ => 0), y.2.2.1, y.2.2.2.1, y.2.2.2.2) : LSt) = _
  rw [y1, y2]
  rfl
theorem tst_ok (hD : DtS tn dt od) (hI : TI od tn (tn 4) X t) : TstOK (tn 4) t.1 t.2 X.2.1 X.2.2.1 X.2.2.2 (fun j v => sHold tn (od j) v) := by
  have hn := hD.1
  unfold CntS at hn
  obtain ⟨h1, h2⟩ := hI
  refine ⟨by omega, fun k hk => ?_⟩
  obtain ⟨a1, a2, a3⟩ := h2 k hk
  obtain ⟨_, _, _, _, o5, o6, _⟩ := hD.2.2.2.2.2 k hk
  refine ⟨by omega, by omega, fun v f0 => ?_⟩
  rw [a2]
  exact ts_ok a1 (by omega) o5 o6 (by omega) (by omega)
theorem TI_400 (hD : CntS tn) (hI : TI od tn (tn 4) X t) : X.1 ≤ 400 := by
  unfold CntS at hD
  have := hI.1
  omega
theorem trC_in {q : Nat} (hq : q ≤ 10) (hk : k < tn (own q)) : trC dt od tn q k = vD dt od q k := if_pos ⟨hq, hk⟩
theorem sok_ok (hD : DtS tn dt od) : SOKs tn (trC dt od tn) od := by
  refine ⟨hD.1, fun k hk => ?_, fun k hk => ?_, fun k hk => ?_, fun k hk => ?_, fun k hk => ?_⟩
  · obtain ⟨d1, d2, d3⟩ := hD.2.1 k hk
    exact ⟨dt 0 k, dt 1 k, trC_in (q := 0) (by decide) hk, d1, trC_in (q := 1) (by decide) hk, d2, d3⟩
  · obtain ⟨d1, d2, d3, d4, d5⟩ := hD.2.2.1 k hk
    refine ⟨dt 2 k, dt 3 k, trC_in (q := 2) (by decide) hk, d1, d2, trC_in (q := 3) (by decide) hk, d3, d4, ?_⟩
    rw [trC_in (q := 4) (by decide) hk, vD_4]
    rcases Nat.eq_zero_or_pos (dt 4 k) with z | z
    · rw [z]; exact Or.inl (by decide)
    · exact Or.inr ⟨dt 4 k - 1, by omega, sb_m1 z⟩
  · obtain ⟨d1, d2⟩ := hD.2.2.2.1 k hk
    exact ⟨dt 5 k, trC_in (q := 5) (by decide) hk, d1, d2⟩
  · obtain ⟨d1, d2⟩ := hD.2.2.2.2.1 k hk
    exact ⟨dt 6 k, dt 7 k, trC_in (q := 6) (by decide) hk, d1, trC_in (q := 7) (by decide) hk, d2⟩
  · refine ⟨hD.2.2.2.2.2 k hk, trC_in (q := 8) (by decide) hk, fun h => ?_, fun h => ?_⟩
    · rw [trC_in (q := 9) (by decide) hk, trC_in (q := 10) (by decide) hk]; exact ⟨vD_90 (by omega), vD_A0 (by omega)⟩
    · rw [trC_in (q := 9) (by decide) hk, trC_in (q := 10) (by decide) hk]; exact ⟨vD_91 h, vD_A1 h⟩
end
