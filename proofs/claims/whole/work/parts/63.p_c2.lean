/-! lines, lists: the class's reader goes as the reference's recogniser -/
def CtL (K : Nat) (t : Nat) (r : Bool × LSt) (p : Bool × Nat) : Prop := r.1 = p.1 ∧ r.2.1.1 = nI p.2 ∧ t ≤ p.2 ∧ p.2 ≤ K
def CtlL (K : Nat) (E : LFn) (R : RF) : Prop := ∀ t y, t ≤ K → y.1.1 = nI t → CtL K t (E y) (R t)
section
variable {T : Nat → Nat} {K n t : Nat} {sq : Nat → Nat} {sv : Nat → Int64} {E F : LFn} {R G : RF} {y : LSt}
theorem cll_le {r : Bool × LSt} {p : Bool × Nat} {a : Nat} (h : CtL K t r p) (ha : a ≤ t) : CtL K a r p := ⟨h.1, h.2.1, Nat.le_trans ha h.2.2.1, h.2.2.2⟩
theorem cll_skip (hT : TKC T K sq) {s : Nat} (hs : 2 ≤ s) : CtlL K (lSkp sq s) (rEat T s) := fun t y ht hy => ctl_skip hT hs t y.1 ht hy
theorem cll_knw (hT : TKC T K sq) {j : Nat} : CtlL K (lKnw sq sv j) (rEat T 2) := fun t y ht hy => ctl_known hT t y.1 ht hy
theorem cll_tst (hT : TKC T K sq) : CtlL K (lTst sq sv) (rTes T 8) := fun t y ht hy => ctl_T hT t y.1 ht hy
theorem cll_and {r : Bool × LSt} {p : Bool × Nat} (h1 : CtL K t r p) (h2 : CtlL K F G) : CtL K t (lAnd r F) (rThen p G) := by
  obtain ⟨a, b, c, d⟩ := h1
  cases hr : p.1 with
  | true =>
    rw [lAnd_t (a.trans hr), rThen_t hr]
    exact cll_le (h2 _ _ d b) c
  | false =>
    rw [lAnd_f (a.trans hr), rThen_f hr]
    exact ⟨rfl, b, c, d⟩
theorem cll_andF (h1 : CtlL K E R) (h2 : CtlL K F G) : CtlL K (fun y => lAnd (E y) F) (fun t => rThen (R t) G) := fun t y ht hy => cll_and (h1 t y ht hy) h2
theorem cll_th {r : Bool × LSt} {p : Bool × Nat} {g : LSt → LSt} (hg : ∀ z, (g z).1.1 = z.1.1) (h : CtL K t r p) : CtL K t (lThen r g) p := ⟨h.1, (hg _).trans h.2.1, h.2.2.1, h.2.2.2⟩
theorem cll_opt {s : Nat} (hs : 2 ≤ s) (hT : TKC T K sq) (h : CtlL K F G) (ht : t ≤ K) (hy : y.1.1 = nI t) : CtL K t (lOpt (lSkp sq s y) F) (rOpt T s G t) := by
  have e : tSg sq y.1.1 = T t := by rw [hy]; exact hT.2.1 t ht
  by_cases c : T t = s
  · have h9 : lSkp sq s y = (true, yE y (eStep y.1)) := by unfold lSkp; rw [eSkip_a (e.trans c)]
    rw [h9, lOpt_t rfl, rOpt_t c]
    exact cll_le (h (t + 1) _ (tkc_s hT ht (by omega)) (by show y.1.1 + 1 = _; rw [hy, nI_1])) (by omega)
  · have h9 : lSkp sq s y = (false, yE y y.1) := by unfold lSkp; rw [eSkip_b (by rw [e]; exact c)]
    rw [h9, lOpt_f rfl, rOpt_f c]
    exact ⟨rfl, hy, Nat.le_refl _, ht⟩
theorem cll_nam (hT : TKC T K sq) {j nn : Nat} (h1 : t + 1 ≤ K) (hy : y.1.1 = nI t) : CtL K t (lNam sq sv j nn y) (rEat T 2 (t + 1)) := by
  have hy1 : (eStep y.1).1 = nI (t + 1) := by show y.1.1 + 1 = _; rw [hy, nI_1]
  have e : tSg sq (eStep y.1).1 = T (t + 1) := by rw [hy1]; exact hT.2.1 _ h1
  have hs : ∀ q : ES, (eStep q).1 = q.1 + 1 := fun _ => rfl
  by_cases c : T (t + 1) = 2
  · have c' : tSg sq (eStep y.1).1 = 2 := e.trans c
    rw [rEat_a c]
    refine ⟨?_, ?_, by show t ≤ t + 1 + 1; omega, tkc_s hT h1 (by omega)⟩
    · show (nNew sq sv (y.2.1 j) nn (y.2.2.1 j) y.1).1 = true
      unfold nNew; rw [if_pos c']
      split
      · split <;> rfl
      · rfl
    · show (nNew sq sv (y.2.1 j) nn (y.2.2.1 j) y.1).2.1.1 = _
      unfold nNew; rw [if_pos c']
      split
      · split
        · show (eStep y.1).1 + 1 = _; rw [hy1, nI_1]
        · show (eNote 4 (eStep y.1)).1 + 1 = _; rw [eNote_f, hy1, nI_1]
      · show (eNote 2 (eStep y.1)).1 + 1 = _; rw [eNote_f, hy1, nI_1]
  · have e1 : nNew sq sv (y.2.1 j) nn (y.2.2.1 j) y.1 = (false, eStep y.1, y.2.1 j, y.2.2.1 j) := nNew_a (by rw [e]; exact c)
    rw [rEat_b c]
    refine ⟨?_, ?_, by show t ≤ t + 1; omega, h1⟩
    · show (nNew sq sv (y.2.1 j) nn (y.2.2.1 j) y.1).1 = false; rw [e1]
    · show (nNew sq sv (y.2.1 j) nn (y.2.2.1 j) y.1).2.1.1 = _; rw [e1]; exact hy1
theorem eRng_f {lo hi : Int32} {v : Int64} {q : ES} : (eRng lo hi v q).1 = q.1 := by
  unfold eRng; split
  · exact eNote_f
  · rfl
theorem cll_num (hT : TKC T K sq) {key : Nat} (hk : 2 ≤ key) {lo hi : Int32} {j rn k : Nat} : CtlL K (lNum sq sv key lo hi j rn k) (rE2 T key 3) := by
  intro t y ht hy
  have e : tSg sq y.1.1 = T t := by rw [hy]; exact hT.2.1 t ht
  have hy1 : (eStep y.1).1 = nI (t + 1) := by show y.1.1 + 1 = _; rw [hy, nI_1]
  show CtL K t (lNum sq sv key lo hi j rn k y) (rThen (rEat T key t) (rEat T 3))
  by_cases c : T t = key
  · have h1 := tkc_s hT ht (show 2 ≤ T t by omega)
    have e1 : tSg sq (eStep y.1).1 = T (t + 1) := by rw [hy1]; exact hT.2.1 _ h1
    rw [rEat_a c, rThen_t rfl]
    show CtL K t (lNum sq sv key lo hi j rn k y) (rEat T 3 (t + 1))
    by_cases c2 : T (t + 1) = 3
    · have e2 : nNum sq sv key lo hi (y.2.1 k) rn (y.2.2.2.1 j) y.1 = (true, eStep (eRng lo hi (tVl sv (eStep y.1).1) (eStep y.1)), rput rn (y.2.2.2.1 j) (nI (y.2.1 k) - 1) (tVl sv (eStep y.1).1).toInt32) := (if_pos (e.trans c)).trans (if_pos (e1.trans c2))
      rw [rEat_a c2]
      refine ⟨?_, ?_, by show t ≤ t + 1 + 1; omega, tkc_s hT h1 (by omega)⟩
      · show (nNum sq sv key lo hi (y.2.1 k) rn (y.2.2.2.1 j) y.1).1 = true; rw [e2]
      · show (nNum sq sv key lo hi (y.2.1 k) rn (y.2.2.2.1 j) y.1).2.1.1 = _; rw [e2]; show (eRng lo hi _ (eStep y.1)).1 + 1 = _; rw [eRng_f, hy1, nI_1]
    · have e2 : nNum sq sv key lo hi (y.2.1 k) rn (y.2.2.2.1 j) y.1 = (false, eStep y.1, y.2.2.2.1 j) := (if_pos (e.trans c)).trans (if_neg (by rw [e1]; exact c2))
      rw [rEat_b c2]
      refine ⟨?_, ?_, by show t ≤ t + 1; omega, h1⟩
      · show (nNum sq sv key lo hi (y.2.1 k) rn (y.2.2.2.1 j) y.1).1 = false; rw [e2]
      · show (nNum sq sv key lo hi (y.2.1 k) rn (y.2.2.2.1 j) y.1).2.1.1 = _; rw [e2]; exact hy1
  · have e2 : nNum sq sv key lo hi (y.2.1 k) rn (y.2.2.2.1 j) y.1 = (false, y.1, y.2.2.2.1 j) := if_neg (by rw [e]; exact c)
    rw [rEat_b c, rThen_f rfl]
    refine ⟨?_, ?_, Nat.le_refl _, ht⟩
    · show (nNum sq sv key lo hi (y.2.1 k) rn (y.2.2.2.1 j) y.1).1 = false; rw [e2]
    · show (nNum sq sv key lo hi (y.2.1 k) rn (y.2.2.2.1 j) y.1).2.1.1 = _; rw [e2]; exact hy
theorem lNo_f : (lNo y).1.1 = y.1.1 + 1 := by
  unfold lNo; split
  · rfl
  · show (eNote 4 y.1).1 + 1 = _; rw [eNote_f]
theorem cll_lik (hT : TKC T K sq) : CtlL K (lLik sq sv) (rOpt T 26 (rEat T 2)) := by
  intro t y ht hy
  exact cll_th (fun _ => rfl) (cll_opt (y := yE y (eFd (-1) y.1)) (by omega) hT (cll_knw hT) ht hy)
theorem cll_cond (hT : TKC T K sq) : CtlL K (lCond sq sv) (rOpt T 35 (rTes T 8)) := by
  intro t y ht hy
  exact cll_th (fun _ => rfl) (cll_opt (y := yTf y (nI (y.2.1 4) - 1) (kc y.1)) (by omega) hT (cll_tst hT) ht hy)
theorem cll_e2 (hT : TKC T K sq) {a j : Nat} (ha : 2 ≤ a) : CtlL K (fun z => lAnd (lSkp sq a z) (lKnw sq sv j)) (rE2 T a 2) := cll_andF (cll_skip hT ha) (cll_knw hT)
theorem rThen_as {p : Bool × Nat} {f g : RF} : rThen (rThen p f) g = rThen p (fun t => rThen (f t) g) := by
  unfold rThen; split
  · rfl
  · rename_i h; rw [if_neg (fun q => by cases q)]
theorem cll_carv (hT : TKC T K sq) (h1 : t + 1 ≤ K) (hy : y.1.1 = nI t) : CtL K t (lCarv sq sv y) (rThen (rThen (rEat T 2 (t + 1)) (rE2 T 32 2)) (rE2 T 33 2)) := by
  have a1 : CtL K t (lKnw sq sv 0 (lNo y)) (rEat T 2 (t + 1)) := cll_le (cll_knw hT (t + 1) (lNo y) h1 (by rw [lNo_f, hy, nI_1])) (by omega)
  exact cll_th (fun _ => rfl) (cll_and (cll_th (fun _ => rfl) (cll_and (cll_th (fun _ => rfl) a1) (cll_e2 hT (by omega)))) (cll_e2 hT (by omega)))
theorem cll_oil (hT : TKC T K sq) (h1 : t + 1 ≤ K) (hy : y.1.1 = nI t) : CtL K t (lOil sq sv y) (rEat T 2 (t + 1)) := by
  have a1 : CtL K t (lKnw sq sv 2 (lNo y)) (rEat T 2 (t + 1)) := cll_le (cll_knw hT (t + 1) (lNo y) h1 (by rw [lNo_f, hy, nI_1])) (by omega)
  exact cll_th (fun _ => rfl) a1
theorem rE2_a {a b : Nat} (h : T t = a) : rE2 T a b t = rEat T b (t + 1) := by unfold rE2; rw [rEat_a h, rThen_t rfl]
theorem cll_line (hT : TKC T K sq) : CtlL K (lLine sq sv) (rLine T) := by
  intro t y ht hy
  have e : tSg sq y.1.1 = T t := by rw [hy]; exact hT.2.1 t ht
  obtain ⟨m1, m2, m3, m4, m5, m6⟩ := mS_l (T t) (hT.2.2.1 t)
  rw [← e] at m1 m2 m3 m4 m5 m6
  by_cases c1 : T t = 20
  · rw [lLine_1 (m1.mpr (e.trans c1)), rLine_1 c1, rE2_a c1]
    exact cll_and (cll_nam hT (tkc_s hT ht (by omega)) hy) (cll_andF (cll_num hT (by omega)) (cll_num hT (by omega)))
  by_cases c2 : T t = 23
  · rw [lLine_2 (m2.mpr (e.trans c2)), rLine_2 c2, rE2_a c2]
    exact cll_and (cll_nam hT (tkc_s hT ht (by omega)) hy) (cll_andF (cll_num hT (by omega)) (cll_andF (cll_num hT (by omega)) (cll_lik hT)))
  by_cases c3 : T t = 27
  · rw [lLine_3 (m3.mpr (e.trans c3)), rLine_3 c3, rE2_a c3]
    exact cll_and (cll_nam hT (tkc_s hT ht (by omega)) hy) (cll_num hT (by omega))
  by_cases c4 : T t = 29
  · rw [lLine_4 (m4.mpr (e.trans c4)), rLine_4 c4, rE2_a c4]
    exact cll_and (cll_nam hT (tkc_s hT ht (by omega)) hy) (cll_andF (cll_num hT (by omega)) (cll_num hT (by omega)))
  by_cases c5 : T t = 31
  · rw [lLine_5 (m5.mpr (e.trans c5)), rLine_5 c5, rE2_a c5]
    have h9 := cll_and (cll_carv (sv := sv) hT (tkc_s hT ht (by omega)) hy) (cll_cond (sv := sv) hT)
    rw [rThen_as, rThen_as] at h9
    exact h9
  by_cases c6 : T t = 34
  · rw [lLine_6 (m6.mpr (e.trans c6)), rLine_6 ⟨c1, c2, c3, c4, c5⟩, rE2_a c6]
    exact cll_and (cll_oil hT (tkc_s hT ht (by omega)) hy) (cll_cond hT)
  · rw [lLine_7 (fun h => c1 (by rw [← e]; exact m1.mp h)) (fun h => c2 (by rw [← e]; exact m2.mp h)) (fun h => c3 (by rw [← e]; exact m3.mp h)) (fun h => c4 (by rw [← e]; exact m4.mp h)) (fun h => c5 (by rw [← e]; exact m5.mp h)) (fun h => c6 (by rw [← e]; exact m6.mp h)),
      rLine_6 ⟨c1, c2, c3, c4, c5⟩, show rE2 T 34 2 t = (false, t) by unfold rE2; rw [rEat_b c6, rThen_f rfl], rThen_f rfl]
    exact ⟨rfl, hy, Nat.le_refl _, ht⟩
theorem rThen_ge {r : Bool × Nat} {f : RF} (hr : (rThen r f).1 = true) (h : ∀ u, r.2 ≤ u → (f u).1 = true → u ≤ (f u).2) : r.1 = true ∧ (f r.2).1 = true ∧ r.2 ≤ (rThen r f).2 := by
  obtain ⟨a, b, c⟩ := rThen_inv hr
  exact ⟨a, b, by rw [c]; exact h _ (Nat.le_refl _) b⟩
/-- a whole line takes a token at least -/
theorem rLine_gt (hT : TKC T K sq) (ht : t ≤ K) (h : (rLine T t).1 = true) : t < (rLine T t).2 := by
  have hk : TKO T K (fun j => km (T j)) := ⟨hT.1, fun _ _ => rfl, hT.2.2.1, hT.2.2.2.1, hT.2.2.2.2⟩
  have e2 : ∀ {a b : Nat} {f : RF}, 2 ≤ a → 2 ≤ b → rOk K f → (rThen (rE2 T a b t) f).1 = true → t < (rThen (rE2 T a b t) f).2 := by
    intro a b f ha hb hf hr
    obtain ⟨x1, x2, x3⟩ := rThen_inv hr
    obtain ⟨y1, y2, y3⟩ := rThen_inv (r := rEat T a t) (f := rEat T b) x1
    have z1 := rEat_t y1
    rw [z1.2] at y2
    have z2 := rEat_t y2
    have w1 : (rE2 T a b t).2 = t + 1 + 1 := by show (rThen (rEat T a t) (rEat T b)).2 = _; rw [y3, z1.2]; show (rEat T b (t + 1)).2 = _; rw [z2.2]
    rw [x3, w1]
    have w2 := (hf (t + 1 + 1) (by have := (rE2_ok hk ha hb t ht).2; rw [w1] at this; exact this)).1
    omega
  have o2 : ∀ {a b : Nat}, 2 ≤ a → 2 ≤ b → rOk K (rE2 T a b) := fun ha hb => rE2_ok hk ha hb
  have o3 : rOk K (rOpt T 35 (rTes T 8)) := rOk_opt hk (by omega) (rTes_ok hk)
  unfold rLine at h ⊢
  split
  · rename_i c; rw [if_pos c] at h; exact e2 (by omega) (by omega) (rOk_thenF (o2 (by omega) (by omega)) (o2 (by omega) (by omega))) h
  rename_i c1; rw [if_neg c1] at h
  split
  · rename_i c; rw [if_pos c] at h; exact e2 (by omega) (by omega) (rOk_thenF (o2 (by omega) (by omega)) (rOk_thenF (o2 (by omega) (by omega)) (rOk_opt hk (by omega) (rOk_eat hk (by omega))))) h
  rename_i c2; rw [if_neg c2] at h
  split
  · rename_i c; rw [if_pos c] at h; exact e2 (by omega) (by omega) (o2 (by omega) (by omega)) h
  rename_i c3; rw [if_neg c3] at h
  split
  · rename_i c; rw [if_pos c] at h; exact e2 (by omega) (by omega) (rOk_thenF (o2 (by omega) (by omega)) (o2 (by omega) (by omega))) h
  rename_i c4; rw [if_neg c4] at h
  split
  · rename_i c; rw [if_pos c] at h; exact e2 (by omega) (by omega) (rOk_thenF (o2 (by omega) (by omega)) (rOk_thenF (o2 (by omega) (by omega)) o3)) h
  · rename_i c; rw [if_neg c] at h; exact e2 (by omega) (by omega) o3 h
theorem cll_run (hT : TKC T K sq) : ∀ (m t : Nat) (y : LSt), t ≤ K → 800 ≤ t + 2 * m → y.1.1 = nI t → CtL K t (lRun sq sv m true y) (rLst T (m + 1) t) := by
  intro m
  induction m with
  | zero => intro t y ht hm; have := hT.1; omega
  | succ m ih =>
    intro t y ht hm hy
    have e : tSg sq y.1.1 = T t := by rw [hy]; exact hT.2.1 t ht
    by_cases c : T t = 0
    · rw [lRun_c (e.trans c), show rLst T (m + 1 + 1) t = (true, t) from if_pos c]
      exact ⟨rfl, hy, Nat.le_refl _, ht⟩
    · rw [show lRun sq sv (m + 1) true y = lRun sq sv m (lAnd (lLine sq sv y) (lSkp sq 9)).1 (lAnd (lLine sq sv y) (lSkp sq 9)).2 from if_pos ⟨rfl, by rw [e]; exact c⟩,
        show rLst T (m + 1 + 1) t = rThen (rThen (rLine T t) (rEat T 9)) (rLst T (m + 1)) from if_neg c]
      obtain ⟨a, b, c9, d⟩ := cll_and (cll_line (sv := sv) hT t y ht hy) (cll_skip hT (s := 9) (by omega))
      cases hr : (rThen (rLine T t) (rEat T 9)).1 with
      | true =>
        rw [a.trans hr, rThen_t hr]
        obtain ⟨x1, x2, x3⟩ := rThen_inv hr
        have h2 := rLine_gt hT ht x1
        have h3 : (rThen (rLine T t) (rEat T 9)).2 = (rLine T t).2 + 1 := by rw [x3]; exact congrArg Prod.snd (rEat_t x2).2
        exact cll_le (ih _ _ d (by omega) b) c9
      | false =>
        rw [a.trans hr, lRun_b rfl, rThen_f hr]
        exact ⟨rfl, b, c9, d⟩
end
