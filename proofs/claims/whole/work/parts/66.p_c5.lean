/-! tests: all levels; a test's steps answer what the reference reckons -/
section
variable {T : Nat → Nat} {V : Nat → Int64} {K n : Nat} {q : ES} {lv ls lg lt : EF} {R G RG RT RS9 rs : RF} {sq : Nat → Nat} {sv : Nat → Int64} {tn : Nat → Nat} {tc : Nat → Nat → Int64} {t s : Nat} {l r : Int32} {M : Nat → Int32}
theorem xcmp_d : xcmp s l r = decide ((l = r ∧ (s = 17 ∨ 18 ≤ s)) ∨ (¬ l = r ∧ l < r ∧ (s = 15 ∨ s = 18)) ∨ (¬ l = r ∧ ¬ l < r ∧ (s = 16 ∨ s = 19))) := by
  unfold xcmp
  split
  · rename_i h; exact decide_eq_decide.mpr ⟨fun a => Or.inl ⟨h, a⟩, fun a => by rcases a with a | a | a; exact a.2; exact absurd h a.1; exact absurd h a.1⟩
  · rename_i h
    split
    · rename_i h2; exact decide_eq_decide.mpr ⟨fun a => Or.inr (Or.inl ⟨h, h2, a⟩), fun a => by rcases a with a | a | a; exact absurd a.1 h; exact a.2.2; exact absurd h2 a.2.1⟩
    · rename_i h2; exact decide_eq_decide.mpr ⟨fun a => Or.inr (Or.inr ⟨h, h2, a⟩), fun a => by rcases a with a | a | a; exact absurd a.1 h; exact absurd a.2.1 h2; exact a.2.2⟩
theorem bI_dd {p q : Prop} {dp : Decidable p} {dq : Decidable q} (h : p ↔ q) : bI (@decide p dp) = bI (@decide q dq) := by rw [decide_eq_decide.mpr h]
theorem sj_cmp (h1 : 15 ≤ s) (h2 : s ≤ 19) : sjoin s l r = bI (xcmp s l r) := by
  have e1 : l = r ↔ l.toInt = r.toInt := ⟨fun h => by rw [h], fun h => Int32.toInt_inj.mp h⟩
  have e2 : l < r ↔ l.toInt < r.toInt := Int32.lt_iff_toInt_lt
  have e3 : r < l ↔ r.toInt < l.toInt := Int32.lt_iff_toInt_lt
  have e4 : l ≤ r ↔ l.toInt ≤ r.toInt := Int32.le_iff_toInt_le
  have e5 : r ≤ l ↔ r.toInt ≤ l.toInt := Int32.le_iff_toInt_le
  rw [xcmp_d]
  rcases (show s = 15 ∨ s = 16 ∨ s = 17 ∨ s = 18 ∨ s = 19 by omega) with rfl | rfl | rfl | rfl | rfl
  · refine (show sjoin 15 l r = bI (decide (l < r)) from rfl).trans (bI_dd ?_); rw [e1, e2]; omega
  · refine (show sjoin 16 l r = bI (decide (r < l)) from rfl).trans (bI_dd ?_); rw [e1, e2, e3]; omega
  · refine (show sjoin 17 l r = bI (decide (l = r)) from rfl).trans (bI_dd ?_); rw [e1, e2]; omega
  · refine (show sjoin 18 l r = bI (decide (l ≤ r)) from rfl).trans (bI_dd ?_); rw [e1, e2, e4]; omega
  · refine (show sjoin 19 l r = bI (decide (r ≤ l)) from rfl).trans (bI_dd ?_); rw [e1, e2, e5]; omega
theorem sj_P (h1 : 13 ≤ s) (h2 : s ≤ 14) : sjoin s l r = opP s l r := by
  rcases (show s = 13 ∨ s = 14 by omega) with rfl | rfl <;> rfl
theorem sj_S (h1 : 11 ≤ s) (h2 : s ≤ 12) : sjoin s l r = opS s l r := by
  rcases (show s = 11 ∨ s = 12 by omega) with rfl | rfl <;> rfl
theorem sj_47 : sjoin 47 l r = xMM 47 l r := by
  unfold xMM; rw [if_pos rfl]; rfl
theorem sj_48 : sjoin 48 l r = xMM 48 l r := by
  unfold xMM; rw [if_neg (by decide)]; rfl
theorem sj_M (h1 : 47 ≤ s) (h2 : s ≤ 48) : sjoin s l r = xMM s l r := by
  by_cases c : s = 47
  · subst c; exact sj_47
  · have c2 : s = 48 := by omega
    subst c2; exact sj_48
theorem sj_A {x y : Bool} : sjoin 45 (bI x) (bI y) = bI (x && y) := bI_and x y
theorem sj_O {x y : Bool} : sjoin 46 (bI x) (bI y) = bI (x || y) := bI_or x y
theorem sp_4 {v : VS} {a b : Int32} {s : SK} : sperf v 4 a b s = spush (spop s).2 (-(spop s).1) := rfl
theorem sp_44 {v : VS} {a b : Int32} {s : SK} : sperf v 44 a b s = spush (spop s).2 (1 - (spop s).1) := rfl
theorem bI_not (x : Bool) : 1 - bI x = bI (!x) := by cases x <;> rfl
theorem eth_t {r : Bool × ES} {g : ES → ES} (h : r.1 = true) : (eThen r (fun q => (true, g q))).2 = g r.2 := by rw [eThen_t h]
/-- behind a bracket -/
theorem eskip_s {q : ES} {c w : Nat} (hT : TKC T K sq) (hw : w ≤ K) (hq : q.1 = nI w) (hc : T w = c) : eSkip sq c q = (true, eStep q) := eSkip_a (by rw [hq, hT.2.1 w hw]; exact hc)
set_option maxHeartbeats 8000000 in
theorem sem_valF (hT : TVC T V K sq sv) {d : Bool} {xv xs : VS → Nat → Int32} (hcv : Ctl K lv R) (hcs : Ctl K ls G) (hks : KpE ls) (hv : Sem (badN T V tn tc) (bdM T V tn tc M) K lv R xv) (hs9 : Sem (badN T V tn tc) (bdM T V tn tc M) K ls G xs) (hrs : d = true → rs = G) :
    Sem (badN T V tn tc) (bdM T V tn tc M) K (eValF sq sv tn tc d lv ls) (rValF T d R G) (fun v => xValF T M v (xv v) (xs v) rs) := by
  intro t q ht hq h0 hs hr
  obtain ⟨e, eV9⟩ := tv_sg hT ht hq
  obtain ⟨m1, m2, m3, m4, m5⟩ := mS_v (T t) (hT.1.2.2.1 t)
  rw [← e] at m1 m2 m3 m4 m5
  have hst : 2 ≤ T t → t + 1 ≤ K := tkc_s hT.1 ht
  have hK := hT.1.1
  have hq1 : (eStep q).1 = nI (t + 1) := by show q.1 + 1 = _; rw [hq, nI_1]
  by_cases c1 : T t = 12
  · have er : rValF T d R G t = rDeep d R t := if_pos c1
    rw [er] at hr ⊢
    obtain ⟨hd, hr1, hr2⟩ := rDeep_inv hr
    subst hd
    obtain ⟨x1, x2, x3, x4⟩ := hcv (t + 1) (eStep q) (hst (by omega)) hq1
    rw [eVal_3 (m3.mpr (e.trans c1)), eDp_t, eth_t (x1.trans hr1), hr2]
    refine smr_eq (smr_un (y := fun v => -(xv v (t + 1))) (smr_st0 (hv (t + 1) (eStep q) (hst (by omega)) hq1 h0 (by show kS q.2.2.2.2 + 1 ≤ t + 1; omega) hr1) rfl) (cln_one (nb_of (by omega))) (by omega) x3 hs (by omega) (Nat.le_refl _) (by omega) (fun v s1 s p hs => by rw [sp_4, (psh_pop p).1]; exact psh_un p hs)) (fun v => ?_)
    dsimp only; unfold xValF; rw [if_pos c1]
  by_cases c2 : T t = 3 ∨ T t = 36 ∨ T t = 37 ∨ T t = 41
  · have h1 := hst (by omega)
    rw [eVal_1 (m1.mpr (by rw [e]; exact c2)), rValF_2 c2, e, eV9]
    rcases c2 with c | c | c | c
    · exact smr_eqc (sem_one (kd := T t) (x := fun _ => (V t).toInt32) hT (by omega) (by omega) h1 h0 hs (fun v s => by rw [c]; rfl)) (fun hc v => by dsimp only; unfold xValF; rw [if_neg (by omega), if_pos c, bdM_3 (hc t (Nat.le_refl _) (Nat.lt_succ_self _)) c])
    · rw [c]; exact smr_eq (sem_one (x := fun v => v.1) hT (by omega) (by omega) h1 h0 hs (fun v s => rfl)) (fun v => by dsimp only; unfold xValF; rw [c]; rfl)
    · rw [c]; exact smr_eq (sem_one (x := fun v => v.2.1) hT (by omega) (by omega) h1 h0 hs (fun v s => rfl)) (fun v => by dsimp only; unfold xValF; rw [c]; rfl)
    · rw [c]; exact smr_eq (sem_one (x := fun v => v.2.2.1) hT (by omega) (by omega) h1 h0 hs (fun v s => rfl)) (fun v => by dsimp only; unfold xValF; rw [c]; rfl)
  by_cases c3 : 38 ≤ T t ∧ T t ≤ 40
  · have h1 := hst (by omega)
    rw [rValF_3 c3] at hr ⊢
    rw [eVal_2 (m2.mpr (by rw [e]; exact c3)), e]
    rcases (show T t = 38 ∨ T t = 39 ∨ T t = 40 by omega) with c | c | c
    · rw [c]; exact smr_eq (sem_of (g := fun v a => rat 10 v.2.2.2.2.1 a) hT (by omega) (fun v a s => rfl) (by omega) h1 hq h0 hs hr) (fun v => by dsimp only; unfold xValF; rw [c]; rfl)
    · rw [c]; exact smr_eq (sem_of (g := fun v a => rat 10 v.2.2.2.2.2.1 a) hT (by omega) (fun v a s => rfl) (by omega) h1 hq h0 hs hr) (fun v => by dsimp only; unfold xValF; rw [c]; rfl)
    · rw [c]; exact smr_eq (sem_of (g := fun v a => rat 10 v.2.2.2.2.2.2 a) hT (by omega) (fun v a s => rfl) (by omega) h1 hq h0 hs hr) (fun v => by dsimp only; unfold xValF; rw [c]; rfl)
  by_cases c4 : 47 ≤ T t ∧ T t ≤ 48
  · have h1 := hst (by omega)
    rw [rValF_4 c4] at hr ⊢
    by_cases c5 : T (t + 1) = 5
    · rw [if_pos c5] at hr ⊢
      obtain ⟨hd, hr1, hr2⟩ := rDeep_inv hr
      subst hd
      have h2 := tkc_s hT.1 h1 (by omega)
      have e1 : tSg sq (eStep q).1 = 5 := by rw [hq1, hT.1.2.1 _ h1]; exact c5
      obtain ⟨a, b, ce⟩ := rThen_inv (r := G (t + 1 + 1)) hr1
      obtain ⟨a2, b2, ce2⟩ := rThen_inv b
      have z2 : T (G (t + 1 + 1)).2 = 10 ∧ rEat T 10 (G (t + 1 + 1)).2 = (true, (G (t + 1 + 1)).2 + 1) := rEat_t a2
      rw [show (rEat T 10 (G (t + 1 + 1)).2).2 = (G (t + 1 + 1)).2 + 1 by rw [z2.2]] at b2
      obtain ⟨a3, b3, ce3⟩ := rThen_inv b2
      have z3 := rEat_t b3
      have a3 : (G ((G (t + 1 + 1)).2 + 1)).1 = true := a3
      have z3 : T (G ((G (t + 1 + 1)).2 + 1)).2 = 6 ∧ rEat T 6 (G ((G (t + 1 + 1)).2 + 1)).2 = (true, (G ((G (t + 1 + 1)).2 + 1)).2 + 1) := z3
      have hend : (rCh2 T G (t + 1 + 1)).2 = (G ((G (t + 1 + 1)).2 + 1)).2 + 1 := by
        show (rThen (G (t + 1 + 1)) (fun t => rThen (rEat T 10 t) (fun t => rThen (G t) (rEat T 6)))).2 = _
        rw [rThen_t a]
        show (rThen (rEat T 10 (G (t + 1 + 1)).2) (fun t => rThen (G t) (rEat T 6))).2 = _
        rw [z2.2, rThen_t rfl]
        show (rThen (G ((G (t + 1 + 1)).2 + 1)) (rEat T 6)).2 = _
        rw [rThen_t a3, z3.2]
      have hq2 : (eStep (eStep q)).1 = nI (t + 1 + 1) := by show q.1 + 1 + 1 = _; rw [hq, nI_1, nI_1]
      obtain ⟨x1, x2, x3, x4⟩ := hcs (t + 1 + 1) (eStep (eStep q)) h2 hq2
      have hw1 : (G (t + 1 + 1)).2 + 1 ≤ K := tkc_s hT.1 x4 (by rw [z2.1]; omega)
      have s1 := eskip_s (q := (ls (eStep (eStep q))).2) hT.1 x4 x2 z2.1
      have hq3 : (eStep (ls (eStep (eStep q))).2).1 = nI ((G (t + 1 + 1)).2 + 1) := by show (ls (eStep (eStep q))).2.1 + 1 = _; rw [x2, nI_1]
      obtain ⟨y1, y2, y3, y4⟩ := hcs _ _ hw1 hq3
      have s2 := eskip_s (q := (ls (eStep (ls (eStep (eStep q))).2)).2) hT.1 y4 y2 z3.1
      have hw2 : (G ((G (t + 1 + 1)).2 + 1)).2 + 1 ≤ K := tkc_s hT.1 y4 (by rw [z3.1]; omega)
      rw [eVal_5 (m5.mpr (by rw [e]; exact c4)), eChoF_c e1, eCh2_d (x1.trans a) (by rw [s1]) (by rw [s1]; exact y1.trans a3), s1, s2, hr2, hend, e]
      refine smr_st (q1 := eAdd (T t) 0 0 (ls (eStep (ls (eStep (eStep q))).2)).2) ?_ rfl rfl rfl
      refine smr_eq (smr_bin (r := fun v => xMM (T t) (xs v (t + 1 + 1)) (xs v ((G (t + 1 + 1)).2 + 1))) (t1 := t + 1 + 1) (q2 := eStep (ls (eStep (eStep q))).2) (u := (G (t + 1 + 1)).2 + 1) (smr_st0 (hs9 (t + 1 + 1) (eStep (eStep q)) h2 hq2 h0 (by show kS q.2.2.2.2 + 1 ≤ _; omega) a) rfl) rfl rfl rfl (fun g0 gu => hs9 _ _ hw1 hq3 g0 gu a3) (fun g => hks _ g)
        (cln_app (cln_one (nb_of (by omega))) (cln_one (nb_of (by omega)))) (cln_one (nb_of (by rw [z2.1]; omega))) (cln_one (nb_of (by rw [z3.1]; omega))) (by omega) x3 (Nat.le_refl _) y3 (by omega) (by omega) hs (by omega) (by omega) (pj_of (by omega) (by omega) (fun v => sj_M c4.1 c4.2))) (fun v => ?_)
      rw [hrs rfl]
      dsimp only
      unfold xValF
      rw [if_neg c1, if_neg (by omega), if_neg (by omega), if_neg (by omega), if_neg (by omega), if_neg (by omega), if_neg (by omega), if_neg (by omega), if_neg (by omega)]
    · rw [if_neg c5] at hr; cases hr
  by_cases c6 : T t = 5
  · have h1 := hst (by omega)
    rw [rValF_5 c6] at hr ⊢
    obtain ⟨hd, hr1, hr2⟩ := rDeep_inv hr
    subst hd
    obtain ⟨a, b, ce⟩ := rThen_inv (r := G (t + 1)) hr1
    have z2 := rEat_t b
    obtain ⟨x1, x2, x3, x4⟩ := hcs (t + 1) (eStep q) h1 hq1
    have s1 := eskip_s (q := (ls (eStep q)).2) hT.1 x4 x2 z2.1
    have hend : (rDeep true (fun t => rThen (G t) (rEat T 6)) t).2 = (G (t + 1)).2 + 1 := by rw [hr2]; show (rThen (G (t + 1)) (rEat T 6)).2 = _; rw [ce, z2.2]
    rw [eVal_4 (m4.mpr (e.trans c6)), eDp_t, eThen_t (x1.trans a), s1, hend]
    refine smr_eq (smr_st (q1 := (ls (eStep q)).2) (smr_wk (smr_st0 (hs9 (t + 1) (eStep q) h1 hq1 h0 (by show kS q.2.2.2.2 + 1 ≤ _; omega) a) rfl) (cln_one (nb_of (by omega))) (cln_one (nb_of (by rw [z2.1]; omega))) (by omega) (Nat.le_succ _)) rfl rfl rfl) (fun v => ?_)
    dsimp only; unfold xValF; rw [c6]; rfl
  · rw [rValF_6 c1 (by omega) (by omega) (by omega) c3 c4 c6] at hr; cases hr
set_option maxHeartbeats 8000000 in
theorem sem_sinF (hT : TVC T V K sq sv) {d : Bool} {xg xt : VS → Nat → Bool} {xs : VS → Nat → Int32} (hcg : Ctl K lg RG) (hct : Ctl K lt RT) (hcs : Ctl K ls RS9) (hks : KpE ls) (hg : Sem (badN T V tn tc) (bdM T V tn tc M) K lg RG (fun v t => bI (xg v t))) (ht9 : Sem (badN T V tn tc) (bdM T V tn tc M) K lt RT (fun v t => bI (xt v t))) (hs9 : Sem (badN T V tn tc) (bdM T V tn tc M) K ls RS9 xs) :
    Sem (badN T V tn tc) (bdM T V tn tc M) K (eSinF sq sv tn tc d lg lt ls) (rSinF T d RG RT RS9) (fun v t => bI (xSinF T M v RS9 (xg v) (xt v) (xs v) t)) := by
  intro t q ht hq h0 hs hr
  obtain ⟨e, eV9⟩ := tv_sg hT ht hq
  obtain ⟨m1, m2, m3, m4⟩ := mS_g (T t) (hT.1.2.2.1 t)
  rw [← e] at m1 m2 m3 m4
  have hst : 2 ≤ T t → t + 1 ≤ K := tkc_s hT.1 ht
  have hK := hT.1.1
  have hq1 : (eStep q).1 = nI (t + 1) := by show q.1 + 1 = _; rw [hq, nI_1]
  by_cases c1 : T t = 44
  · have er : rSinF T d RG RT RS9 t = rDeep d RG t := if_pos c1
    rw [er] at hr ⊢
    obtain ⟨hd, hr1, hr2⟩ := rDeep_inv hr
    subst hd
    obtain ⟨x1, x2, x3, x4⟩ := hcg (t + 1) (eStep q) (hst (by omega)) hq1
    rw [eSin_1 (m1.mpr (e.trans c1)), eDp_t, eth_t (x1.trans hr1), hr2]
    refine smr_eq (smr_un (y := fun v => 1 - bI (xg v (t + 1))) (smr_st0 (hg (t + 1) (eStep q) (hst (by omega)) hq1 h0 (by show kS q.2.2.2.2 + 1 ≤ t + 1; omega) hr1) rfl) (cln_one (nb_of (by omega))) (by omega) x3 hs (by omega) (Nat.le_refl _) (by omega) (fun v s1 s p hs => by rw [sp_44, (psh_pop p).1]; exact psh_un p hs)) (fun v => ?_)
    dsimp only; unfold xSinF; rw [if_pos c1]; exact bI_not _
  by_cases c2 : T t = 7
  · have h1 := hst (by omega)
    have er : rSinF T d RG RT RS9 t = rDeep d (fun t => rThen (RT t) (rEat T 8)) t := by unfold rSinF; rw [if_neg (by omega), if_pos c2]
    rw [er] at hr ⊢
    obtain ⟨hd, hr1, hr2⟩ := rDeep_inv hr
    subst hd
    obtain ⟨a, b, ce⟩ := rThen_inv (r := RT (t + 1)) hr1
    have z2 := rEat_t b
    obtain ⟨x1, x2, x3, x4⟩ := hct (t + 1) (eStep q) h1 hq1
    have s1 := eskip_s (q := (lt (eStep q)).2) hT.1 x4 x2 z2.1
    have hend : (rDeep true (fun t => rThen (RT t) (rEat T 8)) t).2 = (RT (t + 1)).2 + 1 := by rw [hr2]; show (rThen (RT (t + 1)) (rEat T 8)).2 = _; rw [ce, z2.2]
    rw [eSin_2 (m2.mpr (e.trans c2)), eDp_t, eThen_t (x1.trans a), s1, hend]
    refine smr_eq (smr_st (q1 := (lt (eStep q)).2) (smr_wk (smr_st0 (ht9 (t + 1) (eStep q) h1 hq1 h0 (by show kS q.2.2.2.2 + 1 ≤ _; omega) a) rfl) (cln_one (nb_of (by omega))) (cln_one (nb_of (by rw [z2.1]; omega))) (by omega) (Nat.le_succ _)) rfl rfl rfl) (fun v => ?_)
    dsimp only; unfold xSinF; rw [c2]; rfl
  by_cases c3 : T t = 42
  · have h1 := hst (by omega)
    have er : rSinF T d RG RT RS9 t = rThen (rEat T 2 (t + 1)) (rEat T 2) := by unfold rSinF; rw [if_neg (by omega), if_neg (by omega), if_pos c3]
    rw [er] at hr ⊢
    obtain ⟨a, b, ce⟩ := rThen_inv hr
    have z1 := rEat_t a
    rw [z1.2] at b ce
    have z2 := rEat_t b
    have h2 := tkc_s hT.1 h1 (by rw [z1.1]; omega)
    rw [eSin_3 (m3.mpr (e.trans c3)), z1.2, ce, z2.2]
    refine smr_eq (sem_bear hT (by omega) h1 hq h0 hs z1.1 z2.1 h2) (fun v => ?_)
    dsimp only; unfold xSinF; rw [if_neg c1, if_neg c2, if_pos c3]
  by_cases c4 : T t = 43
  · have h1 := hst (by omega)
    have er : rSinF T d RG RT RS9 t = rEat T 2 (t + 1) := by unfold rSinF; rw [if_neg (by omega), if_neg (by omega), if_neg (by omega), if_pos c4]
    rw [er] at hr ⊢
    rw [eSin_4 (m4.mpr (e.trans c4))]
    refine smr_eq (sem_of (g := fun v a => bI (fSq v.2.2.2.2.2.2 a)) hT (by omega) (fun v a s => sp_43) (by omega) h1 hq h0 hs hr) (fun v => ?_)
    dsimp only; unfold xSinF; rw [if_neg c1, if_neg c2, if_neg c3, if_pos c4]
  · have er : rSinF T d RG RT RS9 t = rThen (RS9 t) (fun t => rThen (rIn T 15 19 t) RS9) := by unfold rSinF; rw [if_neg c1, if_neg c2, if_neg c3, if_neg c4]
    rw [er] at hr ⊢
    obtain ⟨a, b, ce⟩ := rThen_inv hr
    obtain ⟨a2, b2, ce2⟩ := rThen_inv b
    have z2 := rIn_t a2
    rw [z2.2] at b2
    have b2 : (RS9 ((RS9 t).2 + 1)).1 = true := b2
    have hend : (rThen (RS9 t) (fun t => rThen (rIn T 15 19 t) RS9)).2 = (RS9 ((RS9 t).2 + 1)).2 := by
      rw [rThen_t a]
      show (rThen (rIn T 15 19 (RS9 t).2) RS9).2 = _
      rw [z2.2, rThen_t rfl]
    obtain ⟨x1, x2, x3, x4⟩ := hcs t q ht hq
    have hw1 : (RS9 t).2 + 1 ≤ K := tkc_s hT.1 x4 (by omega)
    have hq3 : (eStep (ls q).2).1 = nI ((RS9 t).2 + 1) := by show (ls q).2.1 + 1 = _; rw [x2, nI_1]
    have es : tSg sq (ls q).2.1 = T (RS9 t).2 := by rw [x2]; exact hT.1.2.1 _ x4
    obtain ⟨y1, y2, y3, y4⟩ := hcs _ _ hw1 hq3
    rw [eSin_5 (fun h => c1 (by rw [← e]; exact m1.mp h)) (fun h => c2 (by rw [← e]; exact m2.mp h)) (fun h => c3 (by rw [← e]; exact m3.mp h)) (fun h => c4 (by rw [← e]; exact m4.mp h)), eThen_t (x1.trans a), eCmp_t (decide_eq_true (by rw [es]; exact z2.1)), es, hend]
    refine smr_eq (smr_bin (r := fun v => bI (xcmp (T (RS9 t).2) (xs v t) (xs v ((RS9 t).2 + 1)))) (t1 := t) (q2 := eStep (ls q).2) (u := (RS9 t).2 + 1) (hs9 t q ht hq h0 hs a) rfl rfl rfl (fun g0 gu => hs9 _ _ hw1 hq3 g0 gu b2) (fun g => hks _ g)
      (cln_nil (Nat.le_refl _)) (cln_one (nb_of (by omega))) (cln_nil (Nat.le_refl _)) (Nat.le_refl _) x3 (Nat.le_refl _) y3 (Nat.le_refl _) (by omega) hs (by omega) (by omega) (pj_of (by omega) (by omega) (fun v => sj_cmp z2.1.1 z2.1.2))) (fun v => ?_)
    dsimp only; unfold xSinF; rw [if_neg c1, if_neg c2, if_neg c3, if_neg c4]
set_option maxHeartbeats 8000000 in
theorem sem_L (hT : TVC T V K sq sv) : ∀ n, Sem (badN T V tn tc) (bdM T V tn tc M) K (eL sq sv tn tc n).1 (rL T n).1 (fun v => (xL T M v n).1) ∧ Sem (badN T V tn tc) (bdM T V tn tc M) K (eL sq sv tn tc n).2.1 (rL T n).2.1 (fun v => (xL T M v n).2.1) ∧
    Sem (badN T V tn tc) (bdM T V tn tc M) K (eL sq sv tn tc n).2.2.1 (rL T n).2.2.1 (fun v t => bI ((xL T M v n).2.2.1 t)) ∧ Sem (badN T V tn tc) (bdM T V tn tc M) K (eL sq sv tn tc n).2.2.2 (rL T n).2.2.2 (fun v t => bI ((xL T M v n).2.2.2 t)) := by
  intro n
  induction n with
  | zero => exact ⟨fun t q _ _ _ _ h => absurd h Bool.false_ne_true, fun t q _ _ _ _ h => absurd h Bool.false_ne_true, fun t q _ _ _ _ h => absurd h Bool.false_ne_true, fun t q _ _ _ _ h => absurd h Bool.false_ne_true⟩
  | succ n ih =>
    obtain ⟨k1, k2, k3, k4⟩ := kp_L (sq := sq) (sv := sv) (tn := tn) (tc := tc) n
    obtain ⟨g1, g2, g3, g4⟩ := ctl_L (sv := sv) (tn := tn) (tc := tc) hT.1 n
    obtain ⟨i1, i2, i3, i4⟩ := ih
    have hrs : deepb n = true → rSum T (n - 1) = (rL T n).2.1 := by
      intro h
      cases n with
      | zero => cases h
      | succ m => rfl
    have cv := ctl_valF (sv := sv) (tn := tn) (tc := tc) (d := deepb n) hT.1 g1 g2
    have kv := kp_valF (sq := sq) (sv := sv) (tn := tn) (tc := tc) (d := deepb n) k1 k2
    have sv9 := sem_valF hT (d := deepb n) g1 g2 k2 i1 i2 hrs
    have cp := ctl_do hT.1 (kd := fun s => s) (by omega) cTD cv
    have kp := kp_do (sq := sq) (cond := isTD) (kd := fun s => s) kv
    have sp := sem_do hT (fun x : Int32 => x) (op := opP) (kd := fun s => s) (by omega) (by omega) cTD (fun s h1 h2 => ⟨by omega, by omega, fun l r => sj_P h1 h2⟩) sv9 cv kv
    have cs := ctl_do hT.1 (kd := fun s => s) (by omega) cPM cp
    have ks := kp_do (sq := sq) (cond := isPM) (kd := fun s => s) kp
    have ss := sem_do hT (fun x : Int32 => x) (op := opS) (kd := fun s => s) (by omega) (by omega) cPM (fun s h1 h2 => ⟨by omega, by omega, fun l r => sj_S h1 h2⟩) sp cp kp
    have cg := ctl_sinF (sv := sv) (tn := tn) (tc := tc) (d := deepb n) hT.1 g3 g4 cs
    have kg := kp_sinF (sq := sq) (sv := sv) (tn := tn) (tc := tc) (d := deepb n) k3 k4 ks
    have sg9 := sem_sinF hT (d := deepb n) g3 g4 cs ks i3 i4 ss
    have cb := ctl_do hT.1 (kd := fun _ => 45) (by omega) cAn cg
    have kb := kp_do (sq := sq) (cond := isAn) (kd := fun _ => 45) kg
    have sb := sem_do hT bI (op := opA) (kd := fun _ => 45) (by omega) (by omega) cAn (fun s h1 h2 => ⟨by omega, by omega, fun l r => sj_A⟩) sg9 cg kg
    have st := sem_do hT bI (op := opO) (kd := fun _ => 46) (by omega) (by omega) cOr (fun s h1 h2 => ⟨by omega, by omega, fun l r => sj_O⟩) sb cb kb
    exact ⟨sv9, ss, sg9, st⟩
theorem sem_T (hT : TVC T V K sq sv) : Sem (badN T V tn tc) (bdM T V tn tc M) K (eT sq sv tn tc n) (rTes T n) (fun v t => bI (xTes T M v n t)) := (sem_L hT (n + 1)).2.2.2
/-- steps that push x answer x -/
theorem hxT_cod {S S1 : ST} {w : Nat} {x : VS → Bool} (hc : Cod S S1 t w (fun v => bI (x v))) (hn : kS S < kS S1) {KQ : Nat → Nat} {FF FS : Nat → Int32} (hA : Agr KQ FF FS S1 (kS S) (kS S1)) (v : VS) (f0 : Nat → Int32) : hxT KQ FF FS v (kS S) (kS S1) f0 = x v := by
  have h := hc.2.2 KQ FF FS hA v (f0, 0) (by have := kS_le S1; show 0 + _ ≤ 400; omega)
  unfold hxT
  rw [decide_eq_false (show ¬ kS S1 ≤ kS S by omega), Bool.false_or, (psh_pop h).1]
  show decide (bI (x v) ≠ 0) = x v
  cases x v <;> rfl
end
