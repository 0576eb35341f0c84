/-! tests in lines, lines, whole lists -/
def Rg (T : Nat → Nat) (R : RF) : Prop := ∀ t, (R t).1 = true → ∀ k, t ≤ k → k < (R t).2 → T k < 20 ∨ 35 < T k
section
variable {T : Nat → Nat} {R G : RF} {t : Nat}
theorem rg_eat {s : Nat} (hs : s < 20 ∨ 35 < s) : Rg T (rEat T s) := by
  intro t h k a b
  obtain ⟨c, d⟩ := rEat_t h
  rw [d] at b
  have b : k < t + 1 := b
  rw [show k = t by omega, c]; exact hs
theorem rg_in {a b : Nat} (hs : b < 20 ∨ 35 < a) : Rg T (rIn T a b) := by
  intro t h k x y
  obtain ⟨c, d⟩ := rIn_t h
  rw [d] at y
  have y : k < t + 1 := y
  rw [show k = t by omega]; omega
theorem rg_then (h1 : Rg T R) (h2 : Rg T G) : Rg T (fun t => rThen (R t) G) := by
  intro t h k a b
  obtain ⟨x, y, z⟩ := rThen_inv h
  have b : k < (rThen (R t) G).2 := b
  rw [z] at b
  rcases Nat.lt_or_ge k (R t).2 with c | c
  · exact h1 t x k a c
  · exact h2 _ y k c b
theorem rg_step (h : Rg T R) (ht : T t < 20 ∨ 35 < T t) (hr : (R (t + 1)).1 = true) {k : Nat} (a : t ≤ k) (b : k < (R (t + 1)).2) : T k < 20 ∨ 35 < T k := by
  rcases Nat.lt_or_ge k (t + 1) with c | c
  · rw [show k = t by omega]; exact ht
  · exact h _ hr k c b
theorem rg_deep {d : Bool} (h : Rg T R) (ht : T t < 20 ∨ 35 < T t) (hr : (rDeep d R t).1 = true) {k : Nat} (a : t ≤ k) (b : k < (rDeep d R t).2) : T k < 20 ∨ 35 < T k := by
  cases d with
  | true => exact rg_step h ht hr a b
  | false => cases hr
theorem rg_do {a b : Nat} (hs : b < 20 ∨ 35 < a) (h : Rg T R) : ∀ m, Rg T (rDo T a b R m) := by
  intro m
  induction m with
  | zero => intro t hr; cases hr
  | succ m ih =>
    intro t hr k x y
    obtain ⟨r1, r2⟩ := rDo_i hr
    rw [r2] at hr y
    rcases Nat.lt_or_ge k (R t).2 with c | c
    · exact h t r1 k x c
    · unfold rRe at hr y
      by_cases g : a ≤ T (R t).2 ∧ T (R t).2 ≤ b
      · rw [if_pos g] at hr y
        exact rg_step ih (by omega) hr c y
      · rw [if_neg g] at y
        have y : k < (R t).2 := y
        omega
theorem rg_ch2 (h : Rg T R) : Rg T (rCh2 T R) := rg_then h (rg_then (rg_eat (by omega)) (rg_then h (rg_eat (by omega))))
theorem rg_valF {d : Bool} (h1 : Rg T R) (h2 : Rg T G) : Rg T (rValF T d R G) := by
  intro t hr k x y
  by_cases c1 : T t = 12
  · rw [show rValF T d R G t = rDeep d R t from if_pos c1] at hr y
    exact rg_deep h1 (by omega) hr x y
  by_cases c2 : T t = 3 ∨ T t = 36 ∨ T t = 37 ∨ T t = 41
  · rw [rValF_2 c2] at y
    have y : k < t + 1 := y
    rw [show k = t by omega]; omega
  by_cases c3 : 38 ≤ T t ∧ T t ≤ 40
  · rw [rValF_3 c3] at hr y
    exact rg_step (rg_eat (by omega)) (by omega) hr x y
  by_cases c4 : 47 ≤ T t ∧ T t ≤ 48
  · rw [rValF_4 c4] at hr y
    by_cases c5 : T (t + 1) = 5
    · rw [if_pos c5] at hr y
      rcases Nat.lt_or_ge k (t + 1) with c | c
      · rw [show k = t by omega]; omega
      · exact rg_deep (rg_ch2 h2) (by omega) hr c y
    · rw [if_neg c5] at hr; cases hr
  by_cases c6 : T t = 5
  · rw [rValF_5 c6] at hr y
    exact rg_deep (rg_then h2 (rg_eat (by omega))) (by omega) hr x y
  · rw [rValF_6 c1 (by omega) (by omega) (by omega) c3 c4 c6] at hr; cases hr
theorem rg_sinF {d : Bool} {RS9 : RF} (h1 : Rg T R) (h2 : Rg T G) (h3 : Rg T RS9) : Rg T (rSinF T d R G RS9) := by
  intro t hr k x y
  by_cases c1 : T t = 44
  · rw [show rSinF T d R G RS9 t = rDeep d R t from if_pos c1] at hr y
    exact rg_deep h1 (by omega) hr x y
  by_cases c2 : T t = 7
  · rw [show rSinF T d R G RS9 t = rDeep d (fun t => rThen (G t) (rEat T 8)) t by unfold rSinF; rw [if_neg (by omega), if_pos c2]] at hr y
    exact rg_deep (rg_then h2 (rg_eat (by omega))) (by omega) hr x y
  by_cases c3 : T t = 42
  · rw [show rSinF T d R G RS9 t = rThen (rEat T 2 (t + 1)) (rEat T 2) by unfold rSinF; rw [if_neg (by omega), if_neg (by omega), if_pos c3]] at hr y
    exact rg_step (R := fun t => rThen (rEat T 2 t) (rEat T 2)) (rg_then (rg_eat (by omega)) (rg_eat (by omega))) (by omega) hr x y
  by_cases c4 : T t = 43
  · rw [show rSinF T d R G RS9 t = rEat T 2 (t + 1) by unfold rSinF; rw [if_neg (by omega), if_neg (by omega), if_neg (by omega), if_pos c4]] at hr y
    exact rg_step (rg_eat (by omega)) (by omega) hr x y
  · rw [show rSinF T d R G RS9 t = rThen (RS9 t) (fun t => rThen (rIn T 15 19 t) RS9) by unfold rSinF; rw [if_neg c1, if_neg c2, if_neg c3, if_neg c4]] at hr y
    exact rg_then h3 (rg_then (rg_in (by omega)) h3) t hr k x y
theorem rg_no : Rg T rNo := fun t h => by cases h
theorem rg_L : ∀ n, Rg T (rL T n).1 ∧ Rg T (rL T n).2.1 ∧ Rg T (rL T n).2.2.1 ∧ Rg T (rL T n).2.2.2 := by
  intro n
  induction n with
  | zero => exact ⟨rg_no, rg_no, rg_no, rg_no⟩
  | succ n ih =>
    obtain ⟨i1, i2, i3, i4⟩ := ih
    have a1 := rg_valF (d := deepb n) i1 i2
    have a2 := rg_do (a := 11) (b := 12) (by omega) (rg_do (a := 13) (b := 14) (by omega) a1 401) 401
    have a3 := rg_sinF (d := deepb n) i3 i4 a2
    exact ⟨a1, a2, a3, rg_do (a := 46) (b := 46) (by omega) (rg_do (a := 45) (b := 45) (by omega) a3 401) 401⟩
theorem rg_T {n : Nat} : Rg T (rTes T n) := (rg_L (n + 1)).2.2.2
end
section
variable {T : Nat → Nat} {V : Nat → Int64} {sm : Nat → Nat → Bool} {num : Nat → Int32} {K t u w : Nat} {sq : Nat → Nat} {sv : Nat → Int64} {e : Nat → Int32} {A : Nat → RS} {M : Nat → Int32} {X X2 : Nat → Bool} {y z z2 : LSt} {q q2 : RS} {P Q : LSt → RS → Prop} {E F : LFn} {J J2 : RS → Prop}
theorem ts_pfx {S S1 : ST} {a b : Nat} {x : Int32} (h : TsR T M K S a b x) (hp : Pfx S S1) : TsR T M K S1 a b x := by
  obtain ⟨h1, h2, h3⟩ := h
  refine ⟨h1, h2, ?_⟩
  rcases h3 with h3 | ⟨t0, x1, x2, x3, x4, x5, x6⟩
  · exact Or.inl h3
  · refine Or.inr ⟨t0, x1, x2, x3, x4, Nat.le_trans x5 hp.1, fun KQ FF FS hA v f0 => x6 KQ FF FS (fun i hi hi2 => ?_) v f0⟩
    obtain ⟨a1, a2, a3⟩ := hA i hi hi2
    obtain ⟨p1, p2, p3⟩ := hp.2 i (by omega)
    exact ⟨a1.trans p1, a2.trans p2, a3.trans p3⟩
theorem rl_tst {a b : Nat} {d : ES} (h : Rl T V M K xW t y q) (h1 : d.1 = nI u) (h2 : d.2.2.1 = 0) (hp : Pfx y.1.2.2.2.2 d.2.2.2.2) (hk : kS d.2.2.2.2 ≤ u) (htu : t ≤ u) (e1 : q2.1 = q.1) (e2 : q2.2.1 = q.2.1) (e3 : ∀ i, i ≠ 3 → i ≠ 20 → q2.2.2.1 i = q.2.2.1 i)
    (e4 : ∀ k, k + 1 < q.1 4 → q2.2.2.1 20 k = q.2.2.1 20 k) (hT : TsR T M K d.2.2.2.2 a b (q2.2.2.1 20 (q.1 4 - 1))) : Rl T V M K xN u (d, y.2.1, y.2.2.1, y.2.2.2.1, updN y.2.2.2.2.1 (q.1 4 - 1) a, updN y.2.2.2.2.2 (q.1 4 - 1) b) q2 := by
  obtain ⟨⟨a1, a2, a3⟩, ⟨b1, b2⟩, c1, d1, f1, g1⟩ := h
  have hX : ∀ i, i ≠ 12 → ¬ xW i = true := fun i hi => fun z => hi (of_decide_eq_true z)
  refine ⟨⟨h1, h2, hk⟩, ⟨fun j hj => (b1 j hj).trans (congrFun e1 j).symm, by rw [e1]; exact b2⟩, fun s hs i hi => ?_, fun r hr k hk hx => ?_, fun k hk hx => ?_, fun k hk hx => ?_⟩
  · rw [e1] at hi; rw [e2]
    obtain ⟨x1, x2, x3⟩ := c1 s hs i hi
    exact ⟨by omega, x2, x3⟩
  · rw [e1] at hk ⊢
    rw [e3 _ (mr_ok r hr).1 (mr_ok r hr).2.2.1]
    exact d1 r hr k hk (fun z => absurd z (hX r (by omega)))
  · rw [e1] at hk
    rw [e3 16 (by decide) (by decide), e3 17 (by decide) (by decide)]
    exact f1 k hk (fun z => absurd z (hX 11 (by decide)))
  · rw [e1] at hk
    show TsR T M K d.2.2.2.2 (if k = q.1 4 - 1 then a else y.2.2.2.2.1 k) (if k = q.1 4 - 1 then b else y.2.2.2.2.2 k) (q2.2.2.1 20 k)
    by_cases c : k = q.1 4 - 1
    · rw [if_pos c, if_pos c, c]; exact hT
    · rw [if_neg c, if_neg c, e4 k (by omega)]
      exact ts_pfx (g1 k hk (fun _ => by omega)) hp
def SmQ (q q2 : RS) : Prop := q2.1 = q.1 ∧ q2.2.1 = q.2.1 ∧ ∀ i, i ≠ 3 → q2.2.2.1 i = q.2.2.1 i
theorem smq_m {k : Nat} {x : Int32} : SmQ q (qMean q k x) := ⟨rfl, rfl, fun i h => qMean_r h⟩
theorem SmQ.tr {q3 : RS} (h : SmQ q q2) (h2 : SmQ q2 q3) : SmQ q q3 := ⟨h2.1.trans h.1, h2.2.1.trans h.2.1, fun i hi => (h2.2.2 i hi).trans (h.2.2 i hi)⟩
theorem qMean_3 {k : Nat} {x : Int32} : (qMean q k x).2.2.1 3 k = x := by
  show updR q.2.2.1 3 (upd (q.2.2.1 3) k x) 3 k = x
  rw [upR_e]; exact if_pos rfl
/-- a token in a test -/
theorem tst_1 (hC : Cx T V sm num K sq sv e A M) {k : Nat} (hk : T k < 20 ∨ 35 < T k) (hp : T (k - 1) < 20 ∨ 35 ≤ T (k - 1)) :
    (T k = 2 → (ffind (fun i => sm ((A k).2.1 (srtN T k) i) k) ((A k).1 (srtN T k)) = none ∧ e k = 3 ∧ A (k + 1) = A k) ∨ ∃ x, ffind (fun i => sm ((A k).2.1 (srtN T k) i) k) ((A k).1 (srtN T k)) = some x ∧ e k = 0 ∧ A (k + 1) = qMean (A k) k (nI x)) ∧
    (T k = 3 → e k = 0 ∧ A (k + 1) = qMean (A k) k (num k)) ∧ (¬ T k = 2 → ¬ T k = 3 → e k = 0 ∧ A (k + 1) = A k) := by
  refine ⟨fun h => ?_, fun h => ?_, fun h2 h3 => q_pl hC (by unfold Plain; omega)⟩
  · have hs : srS (sbS (T (k - 1))) = srtN T k := by
      unfold srtN sbS
      by_cases c : T (k - 1) = 2
      · rw [if_pos (by omega), if_pos c]; rfl
      · rw [if_neg (by omega), if_neg (by omega), if_neg c]; rfl
    have hn : qNon (T (k - 1)) := by unfold qNon; omega
    have ho : qOld T sm k (A k) = ffind (fun i => sm ((A k).2.1 (srtN T k) i) k) ((A k).1 (srtN T k)) := by unfold qOld; rw [hs]
    cases hf : ffind (fun i => sm ((A k).2.1 (srtN T k) i) k) ((A k).1 (srtN T k)) with
    | none =>
      obtain ⟨a, b⟩ := qs_of hC ((qErr_1 h).trans (qNam_n hn (ho.trans hf)))
      exact Or.inl ⟨rfl, a, b⟩
    | some x =>
      obtain ⟨a, b⟩ := qs_of hC ((qErr_1 h).trans (qNam_s5 hn (ho.trans hf) (by omega) (by omega) (by omega) (by omega) (by omega)))
      exact Or.inr ⟨x, rfl, a, b⟩
  · exact qs_of hC ((qErr_2 h).trans (qNum_8 (by omega)))
theorem tst_sm (hC : Cx T V sm num K sq sv e A M) {k : Nat} (hk : T k < 20 ∨ 35 < T k) (hp : T (k - 1) < 20 ∨ 35 ≤ T (k - 1)) : SmQ (A k) (A (k + 1)) := by
  obtain ⟨a, b, c⟩ := tst_1 hC hk hp
  by_cases h2 : T k = 2
  · rcases a h2 with ⟨_, _, x⟩ | ⟨x, _, _, z⟩
    · rw [x]; exact ⟨rfl, rfl, fun _ _ => rfl⟩
    · rw [z]; exact smq_m
  by_cases h3 : T k = 3
  · rw [(b h3).2]; exact smq_m
  · rw [(c h2 h3).2]; exact ⟨rfl, rfl, fun _ _ => rfl⟩
theorem rputN_at {f : Nat → Nat} {a m : Nat} (h1 : 1 ≤ a) (h2 : a ≤ 20) : rputN 20 f (nI a - 1) m = updN f (a - 1) m := by
  rw [nI_m1 h1]
  unfold rputN
  rw [if_pos (by rw [nI_toInt (by omega)]; omega), nI_clamp (by omega)]
set_option maxHeartbeats 4000000 in
/-- a test, or none -/
theorem out_cond (hC : Cx T V sm num K sq sv e A M) (h : Rl T V M K xW t y (A t)) (hJ : JC (A t)) (ht : t ≤ K) (hr : (rOpt T 35 (rTes T 8) t).1 = true) :
    Out T e A t (rOpt T 35 (rTes T 8) t).2 (lCond sq sv y).2 (fun z q => Rl T V M K xN (rOpt T 35 (rTes T 8) t).2 z q) := by
  have hK := hC.1.1.1
  have hy4 : y.2.1 4 = (A t).1 4 := h.2.1.1 4 (by omega)
  have h20 : (A t).1 4 ≤ 20 := h.2.1.2.2.2.2.2
  have hkc : kc y.1 = kS y.1.2.2.2.2 := rfl
  by_cases c : T t = 35
  · rw [rOpt_t c] at hr ⊢
    have ht1 := tkc_s hC.1.1 ht (show 2 ≤ T t by omega)
    obtain ⟨e1, e2⟩ := qs_of hC (qErr_5 (sm := sm) (num := num) (q := A t) c)
    have hf := step_1 h.1.1
    have ctl := ctl_T (sv := sv) (tn := y.2.1) (tc := y.2.2.1) (n := 8) hC.1.1 (t + 1) (eStep y.1) ht1 hf
    have sem := sem_T (M := M) (tn := y.2.1) (tc := y.2.2.1) (n := 8) hC.1 (t + 1) (eStep y.1) ht1 hf h.1.2.1 (by have := h.1.2.2; show kS y.1.2.2.2.2 + 1 ≤ t + 1; omega) hr
    obtain ⟨w, hw⟩ : ∃ w, w = (rTes T 8 (t + 1)).2 := ⟨_, rfl⟩
    obtain ⟨q1, hq1⟩ : ∃ q1, q1 = (eT sq sv y.2.1 y.2.2.1 8 (eStep y.1)).2 := ⟨_, rfl⟩
    have el : (lCond sq sv y).2 = (q1, y.2.1, y.2.2.1, y.2.2.2.1, updN y.2.2.2.2.1 ((A t).1 4 - 1) (kc y.1), updN y.2.2.2.2.2 ((A t).1 4 - 1) (kc q1)) := by
      unfold lCond
      rw [lskp_t (y := yTf y (nI (y.2.1 4) - 1) (kc y.1)) hC h.1.1 ht c, lOpt_t rfl, hq1]
      show (((eT sq sv y.2.1 y.2.2.1 8 (eStep y.1)).2, y.2.1, y.2.2.1, y.2.2.2.1, rputN 20 y.2.2.2.2.1 (nI (y.2.1 4) - 1) (kc y.1), rputN 20 y.2.2.2.2.2 (nI (y.2.1 4) - 1) (kc (eT sq sv y.2.1 y.2.2.1 8 (eStep y.1)).2)) : LSt) = _
      rw [hy4, rputN_at hJ.1 h20, rputN_at hJ.1 h20]
    rw [el]
    unfold CtR at ctl
    rw [← hw, ← hq1] at sem ctl
    rw [← hw]
    have hrg : ∀ k, t + 1 ≤ k → k < w → T k < 20 ∨ 35 < T k := fun k a b => rg_T (n := 8) (t + 1) hr k a (by rw [← hw]; exact b)
    have hpr : ∀ k, t + 1 ≤ k → k < w → T (k - 1) < 20 ∨ 35 ≤ T (k - 1) := by
      intro k a b
      rcases Nat.lt_or_ge t (k - 1) with x | x
      · have := hrg (k - 1) (by omega) (by omega); omega
      · have : k - 1 = t := by omega
        rw [this, c]; omega
    have hsm : ∀ d, t + 1 + d ≤ w → SmQ (A (t + 1)) (A (t + 1 + d)) := by
      intro d
      induction d with
      | zero => intro _; exact ⟨rfl, rfl, fun _ _ => rfl⟩
      | succ d ih => intro hd; exact (ih (by omega)).tr (tst_sm hC (hrg _ (by omega) (by omega)) (hpr _ (by omega) (by omega)))
    have hsk : ∀ k, t + 1 ≤ k → k ≤ w → SmQ (A (t + 1)) (A k) := fun k a b => by have := hsm (k - (t + 1)) (by omega); rwa [show t + 1 + (k - (t + 1)) = k by omega] at this
    have hwK := ctl.2.2.2
    have n1 : (A (t + 1)).1 = (A t).1 := by rw [e2]; rfl
    have n2 : (A (t + 1)).2.1 = (A t).2.1 := by rw [e2]; rfl
    -- the names, as the class looks for them
    have hnm : ∀ k, t + 1 ≤ k → k < w → T k = 2 → nmN T V y.2.1 y.2.2.1 k = oI (ffind (fun i => sm ((A k).2.1 (srtN T k) i) k) ((A k).1 (srtN T k))) := by
      intro k a b h2
      obtain ⟨m1, m2, _⟩ := hsk k a (by omega)
      have hs4 : srtN T k < 4 := by unfold srtN; split <;> omega
      rw [m1, m2, n1, n2]
      unfold nmN
      rw [h.2.1.1 _ (by omega)]
      exact congrArg oI (nf_ff hC (by omega) h2 _ (fun i hi => by obtain ⟨x1, x2, x3⟩ := h.2.2.1 _ hs4 i hi; exact ⟨by omega, x2, x3⟩))
    have hcl : ∀ k, t + 1 ≤ k → k < w → e k = 0 → bdM T V y.2.1 y.2.2.1 M k = false := by
      intro k a b he
      obtain ⟨s1, s2, _⟩ := tst_1 hC (hrg k a b) (hpr k a b)
      have hM := hC.2.2.2.2 k (by omega)
      refine decide_eq_false (fun z => ?_)
      by_cases h2 : T k = 2
      · have hn := hnm k a b h2
        rcases s1 h2 with ⟨_, x, _⟩ | ⟨x, f1, _, f3⟩
        · rw [x] at he; exact absurd he (by decide)
        · rw [f1] at hn
          rw [f3, qMean_3] at hM
          have hx := (ffind_lt f1).1
          have hs4 : srtN T k < 4 := by unfold srtN; split <;> omega
          have hle : (A k).1 (srtN T k) ≤ 10 := by rw [(hsk k a (by omega)).1, n1]; exact lok_4 h.2.1.2 hs4
          rcases z with ⟨_, z⟩ | ⟨_, z⟩ | ⟨z, _⟩
          · rw [hn] at z; exact nI_nm1 (by omega) z
          · exact z (hM.trans hn.symm)
          · omega
      · rcases z with ⟨z, _⟩ | ⟨z, _⟩ | ⟨z, z2⟩
        · exact h2 z
        · exact h2 z
        · obtain ⟨m, hm, hv, hn⟩ := hC.2.2.1 k (by omega) z
          rw [(s2 z).2, qMean_3, hn] at hM
          exact z2 (by rw [hM, hv, of64_32])
    refine out_pre ⟨fun a => by omega, fun a => by omega, fun a => by omega, fun a => by omega, fun a => by omega, fun a => by omega, fun a => by omega, fun a => by omega, fun a => by omega, fun _ => hJ.1⟩ e1 ⟨fun k a b _ => ?_, fun cl => ?_, fun k a b cl hne => ?_⟩
    · have r1 := hrg k a b
      have r2 := hpr k a b
      exact ⟨fun _ => by omega, fun _ z => by omega, fun _ z z2 => by omega, fun _ z => by omega, fun _ z => by omega, fun _ z => by omega, fun _ z => by omega, fun _ z => by omega, fun _ z => by omega, fun z => by omega⟩
    · obtain ⟨s1, s2, s3⟩ := sem.1 (fun k a b => hcl k a b (cl k a b))
      obtain ⟨m1, m2, m3⟩ := hsk w ctl.2.2.1 (Nat.le_refl _)
      refine ⟨s1, rl_tst h ctl.2.1 s1 s3.1 ?_ (by have := ctl.2.2.1; omega) (m1.trans n1) (m2.trans n2) (fun i x1 x2 => ?_) (fun k hk => ?_) ?_⟩
      · have x1 := s3.2.1
        have x2 := h.1.2.2
        have x3 : kS q1.2.2.2.2 + (t + 1) ≤ kS y.1.2.2.2.2 + w := x1
        omega
      · rw [m3 i x1, e2]; exact qRow_r x2
      · rw [m3 20 (by decide), e2]
        show updR (A t).2.2.1 20 (upd ((A t).2.2.1 20) ((A t).1 4 - 1) (nI (t + 1))) 20 k = _
        rw [upR_e]; exact if_neg (by omega)
      · rw [m3 20 (by decide), e2]
        show TsR T M K q1.2.2.2.2 (kc y.1) (kc q1) (updR (A t).2.2.1 20 (upd ((A t).2.2.1 20) ((A t).1 4 - 1) (nI (t + 1))) 20 ((A t).1 4 - 1))
        rw [upR_e, show upd ((A t).2.2.1 20) ((A t).1 4 - 1) (nI (t + 1)) ((A t).1 4 - 1) = nI (t + 1) from if_pos rfl]
        have s2' : kS y.1.2.2.2.2 < kS q1.2.2.2.2 := s2
        exact ⟨kc_le _, kc_le _, Or.inr ⟨t + 1, rfl, ht1, hr, Nat.le_of_lt s2', Nat.le_refl _, fun KQ FF FS hA v f0 => hxT_cod (x := fun v => xTes T M v 8 (t + 1)) s3 s2 hA v f0⟩⟩
    · obtain ⟨t1, t2, t3⟩ := tst_1 hC (hrg k a b) (hpr k a b)
      by_cases h2 : T k = 2
      · rcases t1 h2 with ⟨f1, f2, _⟩ | ⟨x, _, f2, _⟩
        · have hn := hnm k a b h2
          rw [f1] at hn
          obtain ⟨x1, x2⟩ := sem.2 k ⟨a, b, decide_eq_true ⟨h2, hn⟩, fun j j1 j2 => hcl j j1 (by omega) (cl j j1 j2)⟩
          rw [f2]; exact ⟨x1, x2⟩
        · exact absurd f2 hne
      · by_cases h3 : T k = 3
        · exact absurd (t2 h3).1 hne
        · exact absurd (t3 h2 h3).1 hne
  · rw [rOpt_f c]
    have el : (lCond sq sv y).2 = (y.1, y.2.1, y.2.2.1, y.2.2.2.1, updN y.2.2.2.2.1 ((A t).1 4 - 1) (kc y.1), updN y.2.2.2.2.2 ((A t).1 4 - 1) (kc y.1)) := by
      unfold lCond
      rw [lskp_f (y := yTf y (nI (y.2.1 4) - 1) (kc y.1)) hC h.1.1 ht c, lOpt_f rfl]
      show ((y.1, y.2.1, y.2.2.1, y.2.2.2.1, rputN 20 y.2.2.2.2.1 (nI (y.2.1 4) - 1) (kc y.1), rputN 20 y.2.2.2.2.2 (nI (y.2.1 4) - 1) (kc y.1)) : LSt) = _
      rw [hy4, rputN_at hJ.1 h20, rputN_at hJ.1 h20]
    rw [el]
    exact out_nil ⟨h.1.2.1, rl_tst h h.1.1 h.1.2.1 Pfx.rf h.1.2.2 (Nat.le_refl _) rfl rfl (fun _ _ _ => rfl) (fun _ _ => rfl) ⟨kc_le _, kc_le _, Or.inl ⟨hJ.2, Nat.le_refl _⟩⟩⟩
end
