/-! lines: names told anew, numbers, names known -/
section
variable {T : Nat → Nat} {V : Nat → Int64} {sm : Nat → Nat → Bool} {num : Nat → Int32} {K t u w : Nat} {sq : Nat → Nat} {sv : Nat → Int64} {e : Nat → Int32} {A : Nat → RS} {M : Nat → Int32} {X X2 : Nat → Bool} {y z z2 : LSt} {q q2 : RS} {P Q : LSt → RS → Prop} {E F : LFn} {J J2 : RS → Prop}
def Plain (s : Nat) : Prop := ¬ s = 2 ∧ ¬ s = 3 ∧ ¬ s = 31 ∧ ¬ s = 34 ∧ ¬ s = 20 ∧ ¬ s = 29 ∧ ¬ s = 35
theorem q_pl (hC : Cx T V sm num K sq sv e A M) (h : Plain (T t)) : e t = 0 ∧ A (t + 1) = A t := qs_of hC (qErr_6 h)
theorem lskp_t (hC : Cx T V sm num K sq sv e A M) (hy : y.1.1 = nI t) (ht : t ≤ K) {s : Nat} (h : T t = s) : lSkp sq s y = (true, yE y (eStep y.1)) := by
  unfold lSkp; rw [eSkip_a ((tsg_of hC hy ht).trans h)]
theorem lskp_f (hC : Cx T V sm num K sq sv e A M) (hy : y.1.1 = nI t) (ht : t ≤ K) {s : Nat} (h : ¬ T t = s) : lSkp sq s y = (false, y) := by
  unfold lSkp; rw [eSkip_b (by rw [tsg_of hC hy ht]; exact h)]; rfl
theorem step_1 (hy : y.1.1 = nI t) : (eStep y.1).1 = nI (t + 1) := by show y.1.1 + 1 = _; rw [hy, nI_1]
theorem rl_step (h : Rl T V M K X t y q) : Rl T V M K X (t + 1) (yE y (eStep y.1)) q := rl_fin h (step_1 h.1.1) h.1.2.1 rfl (Nat.le_succ _)
theorem out_pre (h1 : WFQ T t (A t)) (h0 : e t = 0) (h : Out T e A (t + 1) w z P) : Out T e A t w z P := by
  refine ⟨fun k a b c => ?_, fun c => h.2.1 (clq_sub c (Nat.le_succ _) (Nat.le_refl _)), fun k a b c d => ?_⟩
  · rcases Nat.lt_or_ge k (t + 1) with x | x
    · rw [show k = t by omega]; exact h1
    · exact h.1 k x b (clq_sub c (Nat.le_succ _) (Nat.le_refl _))
  · rcases Nat.lt_or_ge k (t + 1) with x | x
    · have : k = t := by omega
      subst this; exact absurd h0 d
    · exact h.2.2 k x b (clq_sub c (Nat.le_succ _) (Nat.le_refl _)) d
/-- a word that only stands there -/
theorem out_skp (hC : Cx T V sm num K sq sv e A M) (h : Rl T V M K X t y (A t)) (hJ : J (A t)) (ht : t ≤ K) {s : Nat} (hs : T t = s) (hp : Plain s) : Out T e A t (t + 1) (lSkp sq s y).2 (fun z q => Rl T V M K X (t + 1) z q ∧ J q) := by
  subst hs
  obtain ⟨e1, e2⟩ := q_pl hC hp
  refine out_one (wf_pl hp.1 hp.2.1 hp.2.2.2.2.2.2) (fun _ => ?_) (fun c => absurd e1 c)
  rw [lskp_t hC h.1.1 ht rfl, e2]
  exact ⟨h.1.2.1, rl_step h, hJ⟩
theorem erng_eq {m : Nat} (hm : m < 1000000) {lo hi : Int32} {d : ES} : eRng lo hi (Int64.ofNat m) d = if eRg (nI m) lo hi = 0 then d else eNote 5 d := by
  have h := num_rg (lo := lo) (hi := hi) hm
  unfold eRng
  by_cases c : (Int64.ofNat m : Int64) < lo.toInt64 ∨ hi.toInt64 < Int64.ofNat m
  · rw [if_pos c] at h ⊢; rw [← h, if_neg (by decide)]
  · rw [if_neg c] at h ⊢; rw [← h, if_pos rfl]
theorem erg_0 {x lo hi : Int32} (h : eRg x lo hi = 0) : lo ≤ x ∧ x ≤ hi := by
  unfold eRg at h
  by_cases c : lo ≤ x ∧ x ≤ hi
  · exact c
  · rw [if_neg c] at h; exact absurd h (by decide)
theorem erg_5 {x lo hi : Int32} (h : ¬ eRg x lo hi = 0) : eRg x lo hi = 5 := by
  unfold eRg at h ⊢
  by_cases c : lo ≤ x ∧ x ≤ hi
  · rw [if_pos c] at h; exact absurd rfl h
  · exact if_neg c
/-- a number behind its word -/
theorem out_num (hC : Cx T V sm num K sq sv e A M) (h : Rl T V M K X t y (A t)) (hJ : J (A t)) (ht : t + 2 ≤ K) {r key : Nat} {lo hi : Int32} (hr : r < 11) (hk : T t = key) (hk3 : T (t + 1) = 3) (hp : Plain key) (hX : X r = true) (h9 : ¬ r = 9)
    (hrg : ∀ (x : Int32) c, lo ≤ x → x ≤ hi → RgR r x c) (hq : ∀ q k v, T (k - 1) = key → J q → qNum T v k q = (eRg v lo hi, qRow (qMean q k v) (mrR r) (q.1 (srR r) - 1) v)) (hJ1 : ∀ q, J q → 1 ≤ q.1 (srR r))
    (hJ2 : ∀ q k v, J q → J2 (qRow (qMean q k v) (mrR r) (q.1 (srR r) - 1) v)) (hW : ∀ k q, T k = 3 → T (k - 1) = key → J q → 1 ≤ k → WFQ T k q) :
    Out T e A t (t + 2) (lNum sq sv key lo hi r (cpR r) (srR r) y).2 (fun z q => Rl T V M K (xr X r) (t + 2) z q ∧ J2 q) := by
  have hK := hC.1.1.1
  obtain ⟨e1, e2⟩ := q_pl hC (show Plain (T t) by rw [hk]; exact hp)
  have hf := step_1 h.1.1
  have s1 : tSg sq (eStep y.1).1 = 3 := by rw [hf]; exact (hC.1.1.2.1 _ (by omega)).trans hk3
  have v1 : tVl sv (eStep y.1).1 = V (t + 1) := by rw [hf]; exact hC.1.2 _ (by omega)
  obtain ⟨m, hm, hv, hn⟩ := hC.2.2.1 (t + 1) (by omega) hk3
  have en : nNum sq sv key lo hi (y.2.1 (srR r)) (cpR r) (y.2.2.2.1 r) y.1 = (true, eStep (eRng lo hi (V (t + 1)) (eStep y.1)), rput (cpR r) (y.2.2.2.1 r) (nI (y.2.1 (srR r)) - 1) (V (t + 1)).toInt32) := by
    unfold nNum; rw [if_pos ((tsg_of hC h.1.1 (by omega)).trans hk), if_pos s1, v1]
  have el : (lNum sq sv key lo hi r (cpR r) (srR r) y).2 = yRow (yE y (eStep (if eRg (nI m) lo hi = 0 then eStep y.1 else eNote 5 (eStep y.1)))) r (cpR r) (nI (y.2.1 (srR r)) - 1) (nI m) := by
    unfold lNum; rw [en, hv, of64_32, erng_eq hm]; rfl
  have hk' : T (t + 1 - 1) = key := by rw [Nat.add_sub_cancel]; exact hk
  have hq2 : qErr T sm num (t + 1) (A (t + 1)) = (eRg (nI m) lo hi, qRow (qMean (A t) (t + 1) (nI m)) (mrR r) ((A t).1 (srR r) - 1) (nI m)) := by rw [e2, qErr_2 hk3, hn]; exact hq _ _ _ hk' hJ
  obtain ⟨f1, f2⟩ := qs_of hC hq2
  rw [el]
  refine out_pre (wf_pl (by rw [hk]; exact hp.1) (by rw [hk]; exact hp.2.1) (by rw [hk]; exact hp.2.2.2.2.2.2)) e1 (out_one (hW (t + 1) _ hk3 hk' (by rw [e2]; exact hJ) (by omega)) (fun c => ?_) (fun c => ?_))
  · rw [f1] at c
    rw [if_pos c, f2]
    refine ⟨h.1.2.1, ?_, hJ2 _ _ _ hJ⟩
    have h1 : Rl T V M K X (t + 2) (yE y (eStep (eStep y.1))) (A t) := rl_fin h (by show (eStep y.1).1 + 1 = _; rw [hf, nI_1]) h.1.2.1 rfl (by omega)
    exact rl_setM h1 hr (hJ1 _ hJ) hX (fun z => absurd z h9) (hrg _ _ (erg_0 c).1 (erg_0 c).2)
  · rw [f1] at c ⊢
    rw [if_neg c, erg_5 c]
    show (eStep (eNote 5 (eStep y.1))).2.2.1 = 5 ∧ (eStep (eNote 5 (eStep y.1))).2.2.2.1 = nI (t + 1)
    rw [eNote_a (q := eStep y.1) h.1.2.1]
    exact ⟨rfl, hf⟩
theorem lok_4 {m : Nat → Nat} (h : LOK m) {s : Nat} (hs : s < 4) : m s ≤ 10 := by
  obtain ⟨h0, h1, h2, h3, h4⟩ := h
  rcases s with _ | _ | _ | _ | s
  · exact Nat.le_trans h0 (by omega)
  · exact Nat.le_trans h1 (by omega)
  · exact h2
  · exact Nat.le_trans h3 (by omega)
  · omega
/-- a name that is known -/
theorem out_knw (hC : Cx T V sm num K sq sv e A M) (h : Rl T V M K X u y (A u)) (hJ : J (A u)) (hu : u < K) (h2 : T u = 2) {r s p : Nat} {c : Int32} (hr : r < 11) (hp : T (u - 1) = p) (hs : srS (sbS p) = s) (hs4 : s < 4) (hnon : qNon p) (hX : X r = true) (h11 : r = 9 → X 11 = true)
    (hrg : ∀ x, x < (A u).1 s → RgR r (nI x) (A u).1) (hq : ∀ q x, qOld T sm u q = some x → qNam T sm u q = (0, qRow (qMean q u (nI x)) (mrR r) (q.1 (srR r) - 1) (nI x))) (hc : 1 ≤ (A u).1 (srR r))
    (hJ2 : ∀ q x, x < 100 → J q → J2 (qRow (qMean q u (nI x)) (mrR r) (q.1 (srR r) - 1) (nI x))) (hW : WFQ T u (A u)) (hcc : c = nI (y.2.1 (srR r)) - 1) :
    Out T e A u (u + 1) (yRow (lKnw sq sv s y).2 r (cpR r) c (lKnw sq sv s y).2.1.2.1) (fun z q => Rl T V M K (xr X r) (u + 1) z q ∧ J2 q) := by
  have hK := hC.1.1.1
  have s1 : tSg sq y.1.1 = 2 := (tsg_of hC h.1.1 (by omega)).trans h2
  have v1 : tVl sv y.1.1 = V u := tvl_of hC h.1.1 (by omega)
  have eo : nfind (y.2.2.1 s) (V u) (y.2.1 s) = qOld T sm u (A u) := by unfold qOld; rw [hp, hs]; exact rl_ff hC h hu h2 hs4
  have el : lKnw sq sv s y = (true, yE y (eStep (if oI (qOld T sm u (A u)) = (-1) then eNote 3 (eFd (oI (qOld T sm u (A u))) y.1) else eFd (oI (qOld T sm u (A u))) y.1))) := by
    unfold lKnw eKnown; rw [if_pos s1, v1, eo]
  rw [el, hcc]
  cases ho : qOld T sm u (A u) with
  | none =>
    obtain ⟨f1, f2⟩ := qs_of hC ((qErr_1 h2).trans (qNam_n (by rw [hp]; exact hnon) ho))
    refine out_one hW (fun c => absurd (f1.symm.trans c) (by decide)) (fun _ => ?_)
    rw [f1]
    show (eStep (if (-1 : Int32) = (-1) then eNote 3 (eFd (-1) y.1) else eFd (-1) y.1)).2.2.1 = 3 ∧ (eStep (if (-1 : Int32) = (-1) then eNote 3 (eFd (-1) y.1) else eFd (-1) y.1)).2.2.2.1 = nI u
    rw [if_pos rfl, eNote_a (q := eFd (-1) y.1) h.1.2.1]
    exact ⟨rfl, h.1.1⟩
  | some x =>
    have hx : x < (A u).1 s := by
      have h9 := ho
      unfold qOld at h9; rw [hp, hs] at h9; exact (ffind_lt h9).1
    have h10 := lok_4 h.2.1.2 hs4
    obtain ⟨f1, f2⟩ := qs_of hC ((qErr_1 h2).trans (hq _ _ ho))
    refine out_one hW (fun _ => ?_) (fun c => absurd f1 c)
    rw [f2]
    have en : ¬ oI (some x) = (-1) := nI_nm1 (by omega)
    rw [if_neg en]
    have h1 : Rl T V M K X (u + 1) (yE y (eStep (eFd (nI x) y.1))) (A u) := rl_fin h (step_1 h.1.1) h.1.2.1 rfl (by omega)
    exact ⟨h.1.2.1, rl_setM h1 hr hc hX h11 (hrg x hx), hJ2 _ _ (by omega) hJ⟩
theorem rg_up {r : Nat} {x : Int32} {c c2 : Nat → Nat} (h : RgR r x c) (h2 : ∀ i, c i ≤ c2 i) : RgR r x c2 := ⟨h.1, fun a => inC_le (h.2.1 a) (h2 2), fun a => (h.2.2.1 a).imp id (fun b => inC_le b (h2 0)), h.2.2.2⟩
theorem updN_le {c : Nat → Nat} {j : Nat} (i : Nat) : c i ≤ updN c j (c j + 1) i := by
  show c i ≤ if i = j then c j + 1 else c i
  split
  · rename_i a; rw [a]; omega
  · exact Nat.le_refl _
theorem mr_10 : ∀ r, r < 11 → mrR r = 10 → srR r = 1 := by decide +kernel
theorem q_key (hC : Cx T V sm num K sq sv e A M) {key : Nat} (hk : T t = key) (h : key = 20 ∨ key = 23 ∨ key = 27 ∨ key = 29) : ∃ l, e t = 0 ∧ A (t + 1) = ((A t).1, (A t).2.1, (A t).2.2.1, l) ∧ (key = 20 ∨ key = 29 → l = km key) := by
  by_cases c : key = 20 ∨ key = 29
  · obtain ⟨a, b⟩ := qs_of hC (qErr_4 (sm := sm) (num := num) (q := A t) (by rw [hk]; exact c))
    exact ⟨km (T t), a, b, fun _ => by rw [hk]⟩
  · obtain ⟨a, b⟩ := q_pl hC (show Plain (T t) by rw [hk]; unfold Plain; omega)
    exact ⟨(A t).2.2.2, a, b, fun z => absurd z c⟩
set_option maxHeartbeats 2000000 in
theorem rl_new {j k : Nat} {l : Int32} {c : Int64} {d : ES} (h : Rl T V M K xN t y q) (hj : j < 4) (hL : LOK (updN q.1 j (q.1 j + 1))) (h1 : d.1 = nI (t + 2)) (h2 : d.2.2.1 = 0) (h3 : d.2.2.2.2 = y.1.2.2.2.2) (hk : k = t + 1) (hT2 : T k = 2) (hc : c = V k) :
    Rl T V M K (fun r => decide (srR r = j)) (t + 2) (d, updN y.2.1 j (y.2.1 j + 1), updR y.2.2.1 j (vp_updL (y.2.2.1 j) (y.2.1 j) c), y.2.2.2) (updN q.1 j (q.1 j + 1), updR q.2.1 j (updN (q.2.1 j) (q.1 j) k), (if j = 1 then updR q.2.2.1 10 (upd (q.2.2.1 10) (q.1 1) (-1)) else q.2.2.1), l) := by
  obtain ⟨⟨a1, a2, a3⟩, ⟨b1, b2⟩, c1, d1, e1, f1⟩ := h
  have hrow : ∀ i m, (i = 10 → j = 1 → ¬ m = q.1 1) → (if j = 1 then updR q.2.2.1 10 (upd (q.2.2.1 10) (q.1 1) (-1)) else q.2.2.1) i m = q.2.2.1 i m := by
    intro i m hi
    by_cases cj : j = 1
    · rw [if_pos cj]
      by_cases ci : i = 10
      · subst ci; exact if_neg (hi rfl cj)
      · rw [updR_ne ci]
    · rw [if_neg cj]
  have e4 : updN q.1 j (q.1 j + 1) 4 = q.1 4 := if_neg (by omega)
  refine ⟨⟨h1, h2, ?_⟩, ⟨fun i hi => ?_, hL⟩, fun s hs i hi => ?_, fun r hr m hm hx => ?_, fun m hm hx => ?_, fun m hm hx => ?_⟩
  · show kS d.2.2.2.2 ≤ t + 2; rw [h3]; omega
  · show (if i = j then y.2.1 j + 1 else y.2.1 i) = if i = j then q.1 j + 1 else q.1 i
    rw [b1 i hi, b1 j (by omega)]
  · by_cases cs : s = j
    · subst cs
      have hi : i < if s = s then q.1 s + 1 else q.1 s := hi
      rw [if_pos rfl] at hi
      show (if s = s then updN (q.2.1 s) (q.1 s) k else q.2.1 s) i < t + 2 ∧ T ((if s = s then updN (q.2.1 s) (q.1 s) k else q.2.1 s) i) = 2 ∧ (if s = s then vp_updL (y.2.2.1 s) (y.2.1 s) c else y.2.2.1 s) i = V ((if s = s then updN (q.2.1 s) (q.1 s) k else q.2.1 s) i)
      rw [if_pos rfl, if_pos rfl, b1 s (by omega)]
      show (if i = q.1 s then k else q.2.1 s i) < t + 2 ∧ T (if i = q.1 s then k else q.2.1 s i) = 2 ∧ (if i = q.1 s then c else y.2.2.1 s i) = V (if i = q.1 s then k else q.2.1 s i)
      by_cases ci : i = q.1 s
      · rw [if_pos ci, if_pos ci]; exact ⟨by omega, hT2, hc⟩
      · rw [if_neg ci, if_neg ci]
        obtain ⟨x1, x2, x3⟩ := c1 s hs i (by omega)
        exact ⟨by omega, x2, x3⟩
    · have hi : i < if s = j then q.1 j + 1 else q.1 s := hi
      rw [if_neg cs] at hi
      show (if s = j then updN (q.2.1 j) (q.1 j) k else q.2.1 s) i < t + 2 ∧ T ((if s = j then updN (q.2.1 j) (q.1 j) k else q.2.1 s) i) = 2 ∧ (if s = j then vp_updL (y.2.2.1 j) (y.2.1 j) c else y.2.2.1 s) i = V ((if s = j then updN (q.2.1 j) (q.1 j) k else q.2.1 s) i)
      rw [if_neg cs, if_neg cs]
      obtain ⟨x1, x2, x3⟩ := c1 s hs i hi
      exact ⟨by omega, x2, x3⟩
  · have hm2 : m < q.1 (srR r) := by
      have hm : m < if srR r = j then q.1 j + 1 else q.1 (srR r) := hm
      by_cases cs : srR r = j
      · have hx : m + 1 < if srR r = j then q.1 j + 1 else q.1 (srR r) := hx (decide_eq_true cs)
        rw [if_pos cs] at hx; rw [cs]; omega
      · rw [if_neg cs] at hm; exact hm
    obtain ⟨x1, x2⟩ := d1 r hr m hm2 (fun z => by cases z)
    show y.2.2.2.1 r m = (if j = 1 then updR q.2.2.1 10 (upd (q.2.2.1 10) (q.1 1) (-1)) else q.2.2.1) (mrR r) m ∧ RgR r ((if j = 1 then updR q.2.2.1 10 (upd (q.2.2.1 10) (q.1 1) (-1)) else q.2.2.1) (mrR r) m) _
    rw [hrow _ _ (fun z _ => by have h9 := mr_10 r hr z; rw [h9] at hm2; omega)]
    exact ⟨x1, rg_up x2 updN_le⟩
  · have hm : m < updN q.1 j (q.1 j + 1) 4 := hm
    rw [e4] at hm
    show (if j = 1 then updR q.2.2.1 10 (upd (q.2.2.1 10) (q.1 1) (-1)) else q.2.2.1) 16 m = bI (decide ((if j = 1 then updR q.2.2.1 10 (upd (q.2.2.1 10) (q.1 1) (-1)) else q.2.2.1) 17 m = (-1)))
    rw [hrow _ _ (fun z => absurd z (by decide)), hrow _ _ (fun z => absurd z (by decide))]
    exact e1 m hm (fun z => by cases z)
  · have hm : m < updN q.1 j (q.1 j + 1) 4 := hm
    rw [e4] at hm
    show TsR T M K d.2.2.2.2 (y.2.2.2.2.1 m) (y.2.2.2.2.2 m) ((if j = 1 then updR q.2.2.1 10 (upd (q.2.2.1 10) (q.1 1) (-1)) else q.2.2.1) 20 m)
    rw [hrow _ _ (fun z => absurd z (by decide)), h3]
    exact f1 m hm (fun z => by cases z)
set_option maxHeartbeats 2000000 in
/-- a name told anew -/
theorem out_nam (hC : Cx T V sm num K sq sv e A M) (h : Rl T V M K xN t y (A t)) {j key cap : Nat} (hkj : (key = 20 ∧ j = 0 ∧ cap = 8) ∨ (key = 23 ∧ j = 1 ∧ cap = 5) ∨ (key = 27 ∧ j = 2 ∧ cap = 10) ∨ (key = 29 ∧ j = 3 ∧ cap = 6)) (hk : T t = key) (h2 : T (t + 1) = 2) (ht : t + 2 ≤ K) :
    Out T e A t (t + 2) (lNam sq sv j cap y).2 (fun z q => Rl T V M K (fun r => decide (srR r = j)) (t + 2) z q ∧ (1 ≤ q.1 j ∧ (key = 20 ∨ key = 29 → q.2.2.2 = km key) ∧ (j = 1 → q.2.2.1 10 (q.1 1 - 1) = (-1)))) := by
  have hK := hC.1.1.1
  obtain ⟨l, e1, e2, e3⟩ := q_key hC hk (by omega)
  have hj : j < 4 := by omega
  have hk' : T (t + 1 - 1) = key := by rw [Nat.add_sub_cancel]; exact hk
  have hf := step_1 h.1.1
  have s1 : tSg sq (eStep y.1).1 = 2 := by rw [hf]; exact (hC.1.1.2.1 _ (by omega)).trans h2
  have v1 : tVl sv (eStep y.1).1 = V (t + 1) := by rw [hf]; exact hC.1.2 _ (by omega)
  have hq1 : qErr T sm num (t + 1) (A (t + 1)) = qNew sm j cap (t + 1) (A (t + 1)) := by
    rw [qErr_1 h2]
    rcases hkj with ⟨a, b, c⟩ | ⟨a, b, c⟩ | ⟨a, b, c⟩ | ⟨a, b, c⟩ <;> subst a <;> subst b <;> subst c
    · exact qNam_0 hk'
    · exact qNam_1 hk'
    · exact qNam_2 hk'
    · exact qNam_3 hk'
  have hcnt : (A (t + 1)).1 = (A t).1 := by rw [e2]
  have hnm : (A (t + 1)).2.1 = (A t).2.1 := by rw [e2]
  have hrw : (A (t + 1)).2.2.1 = (A t).2.2.1 := by rw [e2]
  have hln : key = 20 ∨ key = 29 → (A (t + 1)).2.2.2 = km key := fun z => by rw [e2]; exact e3 z
  have eo : nfind (y.2.2.1 j) (V (t + 1)) (y.2.1 j) = ffind (fun i => sm ((A (t + 1)).2.1 j i) (t + 1)) ((A (t + 1)).1 j) := by
    rw [hcnt, hnm]; exact rl_ff hC (rl_step h) (by omega) h2 hj
  have hyj : y.2.1 j = (A t).1 j := h.2.1.1 j (by omega)
  have hcap : (A t).1 j ≤ cap := by
    obtain ⟨l0, l1, l2, l3, l4⟩ := h.2.1.2
    rcases hkj with ⟨a, b, c⟩ | ⟨a, b, c⟩ | ⟨a, b, c⟩ | ⟨a, b, c⟩ <;> subst b <;> subst c <;> assumption
  have wf1 : WFQ T (t + 1) (A (t + 1)) := ⟨fun _ => by omega, fun _ z => by omega, fun _ z z2 => by omega, fun z => by omega, fun z => by omega, fun z => by omega, fun z => by omega, fun z => by omega, fun z => by omega, fun z => by omega⟩
  refine out_pre (wf_pl (by omega) (by omega) (by omega)) e1 ?_
  have hL : ¬ (A t).1 j = cap → LOK (updN (A t).1 j ((A t).1 j + 1)) := fun hne => h.2.1.2.up j _ (by
    rcases hkj with ⟨a, b, c⟩ | ⟨a, b, c⟩ | ⟨a, b, c⟩ | ⟨a, b, c⟩ <;> subst b <;> subst c <;> exact ⟨fun z => by omega, fun z => by omega, fun z => by omega, fun z => by omega, fun z => by omega⟩)
  cases ho : ffind (fun i => sm ((A (t + 1)).2.1 j i) (t + 1)) ((A (t + 1)).1 j) with
  | some x =>
    have hx : x < (A t).1 j := by have := (ffind_lt ho).1; rw [hcnt] at this; exact this
    have h10 := lok_4 h.2.1.2 hj
    obtain ⟨f1, f2⟩ := qs_of hC (hq1.trans (qNew_a (by rw [ho]; exact fun z => by cases z)))
    have en : nNew sq sv (y.2.1 j) cap (y.2.2.1 j) y.1 = (true, eStep (eNote 2 (eStep y.1)), y.2.1 j, y.2.2.1 j) := nNew_b s1 (by rw [v1, eo, ho]; exact nI_nm1 (by omega))
    refine out_one wf1 (fun c => absurd (f1.symm.trans c) (by decide)) (fun _ => ?_)
    rw [f1]
    show (nNew sq sv (y.2.1 j) cap (y.2.2.1 j) y.1).2.1.2.2.1 = 2 ∧ (nNew sq sv (y.2.1 j) cap (y.2.2.1 j) y.1).2.1.2.2.2.1 = nI (t + 1)
    rw [en]
    show (eNote 2 (eStep y.1)).2.2.1 = 2 ∧ (eNote 2 (eStep y.1)).2.2.2.1 = nI (t + 1)
    rw [eNote_a (q := eStep y.1) h.1.2.1]
    exact ⟨rfl, hf⟩
  | none =>
    have on : oI (nfind (y.2.2.1 j) (tVl sv (eStep y.1).1) (y.2.1 j)) = (-1) := by rw [v1, eo, ho]; rfl
    by_cases hc : (A t).1 j = cap
    · obtain ⟨f1, f2⟩ := qs_of hC (hq1.trans (qNew_b ho (by rw [hcnt]; exact hc)))
      have en : nNew sq sv (y.2.1 j) cap (y.2.2.1 j) y.1 = (true, eStep (eNote 4 (eStep y.1)), y.2.1 j, y.2.2.1 j) := (if_pos s1).trans ((if_pos on).trans (if_neg (by omega)))
      refine out_one wf1 (fun c => absurd (f1.symm.trans c) (by decide)) (fun _ => ?_)
      rw [f1]
      show (nNew sq sv (y.2.1 j) cap (y.2.2.1 j) y.1).2.1.2.2.1 = 4 ∧ (nNew sq sv (y.2.1 j) cap (y.2.2.1 j) y.1).2.1.2.2.2.1 = nI (t + 1)
      rw [en]
      show (eNote 4 (eStep y.1)).2.2.1 = 4 ∧ (eNote 4 (eStep y.1)).2.2.2.1 = nI (t + 1)
      rw [eNote_a (q := eStep y.1) h.1.2.1]
      exact ⟨rfl, hf⟩
    · obtain ⟨f1, f2⟩ := qs_of hC (hq1.trans (qNew_c ho (by rw [hcnt]; exact hc)))
      have en : nNew sq sv (y.2.1 j) cap (y.2.2.1 j) y.1 = (true, eStep (eStep y.1), y.2.1 j + 1, vp_updL (y.2.2.1 j) (y.2.1 j) (V (t + 1))) := by
        rw [← v1]; exact (if_pos s1).trans ((if_pos on).trans (if_pos (by omega)))
      refine out_one wf1 (fun _ => ?_) (fun c => absurd f1 c)
      have el : (lNam sq sv j cap y).2 = (eStep (eStep y.1), updN y.2.1 j (y.2.1 j + 1), updR y.2.2.1 j (vp_updL (y.2.2.1 j) (y.2.1 j) (V (t + 1))), y.2.2.2) := by unfold lNam; rw [en]
      rw [el, f2, hcnt, hnm, hrw]
      refine ⟨h.1.2.1, rl_new h hj (hL hc) (by show (eStep y.1).1 + 1 = _; rw [hf, nI_1]) h.1.2.1 rfl rfl h2 rfl, ?_, hln, fun z => ?_⟩
      · show 1 ≤ if j = j then (A t).1 j + 1 else (A t).1 j; rw [if_pos rfl]; omega
      · subst z
        show (if 1 = 1 then updR (A t).2.2.1 10 (upd ((A t).2.2.1 10) ((A t).1 1) (-1)) else (A t).2.2.1) 10 ((if 1 = 1 then (A t).1 1 + 1 else (A t).1 1) - 1) = (-1)
        rw [if_pos rfl, if_pos rfl, Nat.add_sub_cancel]
        exact if_pos rfl
end
