/-! lines: what is liked, orders, whole lines, whole lists -/
section
variable {T : Nat → Nat} {V : Nat → Int64} {sm : Nat → Nat → Bool} {num : Nat → Int32} {K t u w : Nat} {sq : Nat → Nat} {sv : Nat → Int64} {e : Nat → Int32} {A : Nat → RS} {M : Nat → Int32} {X X2 : Nat → Bool} {y z z2 : LSt} {q q2 : RS} {P Q : LSt → RS → Prop} {E F : LFn} {J J2 : RS → Prop}
theorem upR_e {α : Type} {f : Nat → α} {r : Nat} {x : α} : updR f r x r = x := if_pos rfl
theorem upR_at {f : Nat → Nat → Int32} {g : Nat → Int32} {r i k m : Nat} {x : Int32} (hg : g = f r) (h : ¬ k = m) : updR f r (upd g m x) i k = f i k := by
  by_cases a : i = r
  · subst a; rw [upR_e, hg]; exact if_neg h
  · rw [updR_ne a]
theorem out_map (h : Out T e A t w z P) (h1 : z2.1 = z.1) (hp : P z (A w) → Q z2 (A w)) : Out T e A t w z2 Q := by
  refine ⟨h.1, fun c => ?_, fun k a b c d => ?_⟩
  · rw [h1]; exact ⟨(h.2.1 c).1, hp (h.2.1 c).2⟩
  · rw [h1]; exact h.2.2 k a b c d
theorem wf_nm {k : Nat} (h2 : T k = 2) (hk : 1 ≤ k) (h26 : T (k - 1) = 26 → 1 ≤ q.1 1) (h31 : 31 ≤ T (k - 1) → T (k - 1) ≤ 34 → 1 ≤ q.1 4) : WFQ T k q :=
  ⟨fun _ => hk, fun _ => h26, fun _ => h31, fun z => by omega, fun z => by omega, fun z => by omega, fun z => by omega, fun z => by omega, fun z => by omega, fun z => by omega⟩
set_option maxHeartbeats 2000000 in
theorem out_lik (hC : Cx T V sm num K sq sv e A M) (h : Rl T V M K X t y (A t)) (hX : X 4 = true) (hc : 1 ≤ (A t).1 1) (h10 : (A t).2.2.1 10 ((A t).1 1 - 1) = (-1)) (ht : t ≤ K) (hr : (rOpt T 26 (rEat T 2) t).1 = true) :
    Out T e A t (rOpt T 26 (rEat T 2) t).2 (lLik sq sv y).2 (fun z q => Rl T V M K (xr X 4) (rOpt T 26 (rEat T 2) t).2 z q) := by
  have h1 : Rl T V M K X t (yE y (eFd (-1) y.1)) (A t) := rl_fin h h.1.1 h.1.2.1 rfl (Nat.le_refl _)
  by_cases c : T t = 26
  · rw [rOpt_t c] at hr ⊢
    obtain ⟨c2, c3⟩ := rEat_t hr
    rw [c3]
    have ht1 := tkc_s hC.1.1 ht (show 2 ≤ T t by omega)
    have ht2 := tkc_s hC.1.1 ht1 (show 2 ≤ T (t + 1) by omega)
    have el := lskp_t hC h1.1.1 ht c
    rw [lLik_b (by rw [el]), el]
    obtain ⟨e1, e2⟩ := q_pl hC (show Plain (T t) by rw [c]; unfold Plain; omega)
    have h2 := rl_step h1
    rw [← e2] at h2 hc h10
    have c' : T (t + 1 - 1) = 26 := by rw [Nat.add_sub_cancel]; exact c
    refine out_pre (wf_pl (by omega) (by omega) (by omega)) e1 ?_
    exact out_imp (out_knw (J := fun _ => True) (J2 := fun _ => True) (r := 4) (s := 0) (p := 26) hC h2 trivial (by omega) c2 (by omega) c' rfl (by omega) (by unfold qNon; omega) hX (fun z => by omega) (fun x hx => ⟨fun z => by omega, fun z => by omega, fun z => by omega, fun z => by omega, fun z => by omega⟩)
      (fun q x ho => qNam_s1 (by rw [c']; unfold qNon; omega) ho c') hc (fun _ _ _ _ => trivial) (wf_nm c2 (by omega) (fun _ => hc) (fun _ z => by omega)) rfl) (fun _ p => p.1)
  · rw [rOpt_f c]
    have el := lskp_f hC h1.1.1 ht c
    rw [lLik_a (by rw [el]), el]
    refine out_nil ⟨h.1.2.1, ?_⟩
    exact rl_set (r := 4) (x := -1) h1 (by omega) hc hX (fun z => by omega) ⟨fun z => by omega, fun z => by omega, fun z => by omega, fun z => by omega, fun z => by omega⟩ rfl rfl (fun _ _ _ => rfl) (fun k => by
      by_cases c1 : k = (A t).1 (srR 4) - 1
      · rw [if_pos c1, c1]; exact h10
      · rw [if_neg c1])
/-! orders -/
def xO : Nat → Bool := fun r => decide (srR r = 4)
def xW : Nat → Bool := fun r => decide (r = 12)
theorem qos_1 {o : Int32} {i k : Nat} (h : ¬ k = q.1 4) : (qOrS q o).2.2.1 i k = q.2.2.1 i k := by
  show updR (updR (updR (updR q.2.2.1 16 (upd (q.2.2.1 16) (q.1 4) o)) 17 (upd (q.2.2.1 17) (q.1 4) (-1))) 19 (upd (q.2.2.1 19) (q.1 4) (-1))) 20 (upd (q.2.2.1 20) (q.1 4) (-1)) i k = _
  by_cases c1 : i = 20
  · subst c1; rw [upR_e]; exact if_neg h
  rw [updR_ne c1]
  by_cases c2 : i = 19
  · subst c2; rw [upR_e]; exact if_neg h
  rw [updR_ne c2]
  by_cases c3 : i = 17
  · subst c3; rw [upR_e]; exact if_neg h
  rw [updR_ne c3]
  by_cases c4 : i = 16
  · subst c4; rw [upR_e]; exact if_neg h
  rw [updR_ne c4]
theorem qos_2 {o : Int32} {i : Nat} (h : ¬ i = 16 ∧ ¬ i = 17 ∧ ¬ i = 19 ∧ ¬ i = 20) : (qOrS q o).2.2.1 i = q.2.2.1 i := by
  show (updR (updR (updR (updR q.2.2.1 16 _) 17 _) 19 _) 20 _) i = _
  rw [updR_ne h.2.2.2, updR_ne h.2.2.1, updR_ne h.2.1, updR_ne h.1]
theorem qos_3 {o : Int32} : (qOrS q o).2.2.1 16 (q.1 4) = o ∧ (qOrS q o).2.2.1 17 (q.1 4) = (-1) ∧ (qOrS q o).2.2.1 19 (q.1 4) = (-1) ∧ (qOrS q o).2.2.1 20 (q.1 4) = (-1) := by
  show updR (updR (updR (updR q.2.2.1 16 (upd (q.2.2.1 16) (q.1 4) o)) 17 (upd (q.2.2.1 17) (q.1 4) (-1))) 19 (upd (q.2.2.1 19) (q.1 4) (-1))) 20 (upd (q.2.2.1 20) (q.1 4) (-1)) 16 (q.1 4) = o ∧ updR (updR (updR (updR q.2.2.1 16 (upd (q.2.2.1 16) (q.1 4) o)) 17 (upd (q.2.2.1 17) (q.1 4) (-1))) 19 (upd (q.2.2.1 19) (q.1 4) (-1))) 20 (upd (q.2.2.1 20) (q.1 4) (-1)) 17 (q.1 4) = (-1) ∧ updR (updR (updR (updR q.2.2.1 16 (upd (q.2.2.1 16) (q.1 4) o)) 17 (upd (q.2.2.1 17) (q.1 4) (-1))) 19 (upd (q.2.2.1 19) (q.1 4) (-1))) 20 (upd (q.2.2.1 20) (q.1 4) (-1)) 19 (q.1 4) = (-1) ∧ updR (updR (updR (updR q.2.2.1 16 (upd (q.2.2.1 16) (q.1 4) o)) 17 (upd (q.2.2.1 17) (q.1 4) (-1))) 19 (upd (q.2.2.1 19) (q.1 4) (-1))) 20 (upd (q.2.2.1 20) (q.1 4) (-1)) 20 (q.1 4) = (-1)
  refine ⟨?_, ?_, ?_, ?_⟩
  · rw [updR_ne (by decide), updR_ne (by decide), updR_ne (by decide), upR_e]; exact if_pos rfl
  · rw [updR_ne (by decide), updR_ne (by decide), upR_e]; exact if_pos rfl
  · rw [updR_ne (by decide), upR_e]; exact if_pos rfl
  · rw [upR_e]; exact if_pos rfl
theorem mr_o : ∀ r, r < 11 → ¬ srR r = 4 → ¬ mrR r = 16 ∧ ¬ mrR r = 17 ∧ ¬ mrR r = 19 ∧ ¬ mrR r = 20 := by decide +kernel
def JO (s : Nat) (q : RS) : Prop := 1 ≤ q.1 4 ∧ q.2.2.1 16 (q.1 4 - 1) = (if s = 34 then 1 else 0) ∧ q.2.2.1 17 (q.1 4 - 1) = (-1) ∧ q.2.2.1 19 (q.1 4 - 1) = (-1) ∧ q.2.2.1 20 (q.1 4 - 1) = (-1)
set_option maxHeartbeats 2000000 in
theorem out_no (hC : Cx T V sm num K sq sv e A M) (h : Rl T V M K xN t y (A t)) {s : Nat} (hs : T t = s) (hs2 : s = 31 ∨ s = 34) : Out T e A t (t + 1) (lNo y) (fun z q => Rl T V M K xO (t + 1) z q ∧ JO s q) := by
  have hq : qErr T sm num t (A t) = qOrd s (A t) := by rw [qErr_3 (by rw [hs]; exact hs2), hs]
  have hy4 : y.2.1 4 = (A t).1 4 := h.2.1.1 4 (by omega)
  have wf : WFQ T t (A t) := wf_pl (by omega) (by omega) (by omega)
  have h20 : (A t).1 4 ≤ 20 := h.2.1.2.2.2.2.2
  by_cases hc : (A t).1 4 = 20
  · obtain ⟨f1, f2⟩ := qs_of hC (hq.trans (qOrd_a hc))
    refine out_one wf (fun c => absurd (f1.symm.trans c) (by decide)) (fun _ => ?_)
    rw [f1, lNo_b (by omega)]
    show (eStep (eNote 4 y.1)).2.2.1 = 4 ∧ (eStep (eNote 4 y.1)).2.2.2.1 = nI t
    rw [eNote_a h.1.2.1]
    exact ⟨rfl, h.1.1⟩
  · obtain ⟨f1, f2⟩ := qs_of hC (hq.trans (show qOrd s (A t) = (0, qOrS (A t) (if s = 34 then 1 else 0)) from if_neg hc))
    refine out_one wf (fun _ => ?_) (fun c => absurd f1 c)
    rw [f2, lNo_a (by omega)]
    refine ⟨h.1.2.1, ?_, ?_⟩
    · obtain ⟨⟨a1, a2, a3⟩, ⟨b1, b2⟩, c1, d1, e1, g1⟩ := h
      generalize A t = q at *
      have ej : ∀ j, j ≠ 4 → (qOrS q (if s = 34 then 1 else 0)).1 j = q.1 j := fun j hj => if_neg hj
      have e4 : (qOrS q (if s = 34 then 1 else 0)).1 4 = q.1 4 + 1 := show updN q.1 4 (q.1 4 + 1) 4 = q.1 4 + 1 from if_pos rfl
      have hle : ∀ i, q.1 i ≤ (qOrS q (if s = 34 then 1 else 0)).1 i := updN_le
      refine ⟨⟨step_1 a1, a2, ?_⟩, ⟨fun j hj => ?_, ?_⟩, fun s2 hs2 i hi => ?_, fun r hr m hm hx => ?_, fun m hm hx => ?_, fun m hm hx => ?_⟩
      · show kS y.1.2.2.2.2 ≤ t + 1; omega
      · show (if j = 4 then y.2.1 4 + 1 else y.2.1 j) = if j = 4 then q.1 4 + 1 else q.1 j
        rw [b1 j hj, b1 4 (by omega)]
      · exact b2.up 4 _ ⟨by omega, by omega, by omega, by omega, fun _ => by omega⟩
      · rw [ej s2 (by omega)] at hi
        obtain ⟨x1, x2, x3⟩ := c1 s2 hs2 i hi
        exact ⟨Nat.lt_succ_of_lt x1, x2, x3⟩
      · by_cases cs : srR r = 4
        · have hx := hx (decide_eq_true cs)
          rw [cs, e4] at hx
          obtain ⟨x1, x2⟩ := d1 r hr m (by rw [cs]; omega) (fun z => by cases z)
          rw [qos_1 (by omega)]
          exact ⟨x1, rg_up x2 hle⟩
        · rw [ej _ cs] at hm
          obtain ⟨x1, x2⟩ := d1 r hr m hm (fun z => by cases z)
          rw [qos_2 (mr_o r hr cs)]
          exact ⟨x1, rg_up x2 hle⟩
      · have hx := hx rfl
        rw [e4] at hx
        rw [qos_1 (by omega), qos_1 (by omega)]
        exact e1 m (by omega) (fun z => by cases z)
      · have hx := hx rfl
        rw [e4] at hx
        rw [qos_1 (by omega)]
        exact g1 m (by omega) (fun z => by cases z)
    · unfold JO
      have e4 : (qOrS (A t) (if s = 34 then 1 else 0)).1 4 = (A t).1 4 + 1 := show updN (A t).1 4 ((A t).1 4 + 1) 4 = (A t).1 4 + 1 from if_pos rfl
      rw [e4, Nat.add_sub_cancel]
      exact ⟨by omega, qos_3.1, qos_3.2.1, qos_3.2.2.1, qos_3.2.2.2⟩
theorem qrm_l {r k i m j : Nat} {x : Int32} (h1 : ¬ j = r) (h2 : ¬ j = 3) : (qRow (qMean q k x) r i x).2.2.1 j m = q.2.2.1 j m := by rw [qRow_rm.1 j h1 h2]
theorem qrm_e {r k i : Nat} {x : Int32} (h : r ≠ 3) : (qRow (qMean q k x) r i x).2.2.1 r i = x := (qRow_rm.2 h i).trans (if_pos rfl)
def JC1 (q : RS) : Prop := 1 ≤ q.1 4 ∧ q.2.2.1 16 (q.1 4 - 1) = 0 ∧ ¬ q.2.2.1 17 (q.1 4 - 1) = (-1) ∧ q.2.2.1 20 (q.1 4 - 1) = (-1)
def JC (q : RS) : Prop := 1 ≤ q.1 4 ∧ q.2.2.1 20 (q.1 4 - 1) = (-1)
theorem jc_1 {x : Nat} (hx : x < 100) (h : JO 31 q) : JC1 (qRow (qMean q u (nI x)) 17 (q.1 4 - 1) (nI x)) := by
  obtain ⟨a, b, c, d, f⟩ := h
  refine ⟨a, (qrm_l (by decide) (by decide)).trans b, ?_, (qrm_l (by decide) (by decide)).trans f⟩
  show ¬ (qRow (qMean q u (nI x)) 17 (q.1 4 - 1) (nI x)).2.2.1 17 (q.1 4 - 1) = (-1)
  rw [qrm_e (by decide)]; exact nI_nm1 (by omega)
theorem jc_2 {x : Int32} {r : Nat} (hr : ¬ 20 = r) (h : JC q) : JC (qRow (qMean q u x) r (q.1 4 - 1) x) := ⟨h.1, (qrm_l hr (by decide)).trans h.2⟩
theorem jc_3 {x : Int32} (h : JO 34 q) : JO 34 (qRow (qMean q u x) 18 (q.1 4 - 1) x) := by
  obtain ⟨a, b, c, d, f⟩ := h
  exact ⟨a, (qrm_l (by decide) (by decide)).trans b, (qrm_l (by decide) (by decide)).trans c, (qrm_l (by decide) (by decide)).trans d, (qrm_l (by decide) (by decide)).trans f⟩
theorem rEat_e {s : Nat} (h : T t = s) : rEat T s t = (true, t + 1) := if_pos h
set_option maxHeartbeats 4000000 in
theorem out_carv (hC : Cx T V sm num K sq sv e A M) (h : Rl T V M K xN t y (A t)) (t0 : T t = 31) (t1 : T (t + 1) = 2) (t2 : T (t + 2) = 32) (t3 : T (t + 3) = 2) (t4 : T (t + 4) = 33) (t5 : T (t + 5) = 2) (ht : t + 6 ≤ K) :
    Out T e A t (t + 6) (lCarv sq sv y).2 (fun z q => Rl T V M K xW (t + 6) z q ∧ JC q) := by
  have hT := hC.1.1
  have fin1 : (lNo y).1.1 = nI (t + 1) := by rw [lNo_f, h.1.1, nI_1]
  have k1 := cll_knw (sv := sv) (j := 0) hT (t + 1) (lNo y) (by omega) fin1
  rw [rEat_e t1] at k1
  obtain ⟨y3, hy3⟩ : ∃ z, z = yRow (lKnw sq sv 0 (lNo y)).2 9 20 (nI ((lNo y).2.1 4) - 1) (lKnw sq sv 0 (lNo y)).2.1.2.1 := ⟨_, rfl⟩
  have f3 : y3.1.1 = nI (t + 2) := by rw [hy3]; exact k1.2.1
  have k3 := cll_skip hT (s := 32) (by omega) (t + 2) y3 (by omega) f3
  rw [rEat_e t2] at k3
  have k4 := cll_knw (sv := sv) (j := 2) hT (t + 3) (lSkp sq 32 y3).2 (by omega) k3.2.1
  rw [rEat_e t3] at k4
  obtain ⟨y6, hy6⟩ : ∃ z, z = yRow (lKnw sq sv 2 (lSkp sq 32 y3).2).2 8 20 (nI ((lNo y).2.1 4) - 1) (lKnw sq sv 2 (lSkp sq 32 y3).2).2.1.2.1 := ⟨_, rfl⟩
  have f6 : y6.1.1 = nI (t + 4) := by rw [hy6]; exact k4.2.1
  have k6 := cll_skip hT (s := 33) (by omega) (t + 4) y6 (by omega) f6
  rw [rEat_e t4] at k6
  obtain ⟨y9, hy9⟩ : ∃ z, z = yRow (lKnw sq sv 1 (lSkp sq 33 y6).2).2 10 20 (nI ((lNo y).2.1 4) - 1) (lKnw sq sv 1 (lSkp sq 33 y6).2).2.1.2.1 := ⟨_, rfl⟩
  have el : (lCarv sq sv y).2 = y9 := by
    unfold lCarv
    rw [lAT (r := lKnw sq sv 0 (lNo y)) k1.1]
    show (lThen (lAnd (lThen (lAnd (lSkp sq 32 (yRow (lKnw sq sv 0 (lNo y)).2 9 20 (nI ((lNo y).2.1 4) - 1) (lKnw sq sv 0 (lNo y)).2.1.2.1)) (lKnw sq sv 2)) _) _) _).2 = y9
    rw [← hy3, lAnd_t k3.1, lAT (r := lKnw sq sv 2 (lSkp sq 32 y3).2) k4.1]
    show (lThen (lAnd (lSkp sq 33 (yRow (lKnw sq sv 2 (lSkp sq 32 y3).2).2 8 20 (nI ((lNo y).2.1 4) - 1) (lKnw sq sv 2 (lSkp sq 32 y3).2).2.1.2.1)) (lKnw sq sv 1)) _).2 = y9
    rw [← hy6, lAnd_t k6.1, hy9]; rfl
  rw [el]
  have hc6 : y6.2.1 4 = (lNo y).2.1 4 := by rw [hy6]; show y3.2.1 4 = _; rw [hy3]; rfl
  have hc3 : y3.2.1 4 = (lNo y).2.1 4 := by rw [hy3]; rfl
  have q3 : ¬ (lNo y).1.2.2.1 = 0 → Kp (lNo y).1 y3.1 := fun x => by rw [hy3]; exact kpl_knw (lNo y) x
  have q4 : ¬ y3.1.2.2.1 = 0 → Kp y3.1 (lSkp sq 32 y3).2.1 := fun x => kpl_skp y3 x
  have q6 : ¬ (lSkp sq 32 y3).2.1.2.2.1 = 0 → Kp (lSkp sq 32 y3).2.1 y6.1 := fun x => by rw [hy6]; exact kpl_knw (lSkp sq 32 y3).2 x
  have q7 : ¬ y6.1.2.2.1 = 0 → Kp y6.1 (lSkp sq 33 y6).2.1 := fun x => kpl_skp y6 x
  have q9 : ¬ (lSkp sq 33 y6).2.1.2.2.1 = 0 → Kp (lSkp sq 33 y6).2.1 y9.1 := fun x => by rw [hy9]; exact kpl_knw (lSkp sq 33 y6).2 x
  have r7 : ¬ y6.1.2.2.1 = 0 → Kp y6.1 y9.1 := fun x => (q7 x).tr (q9 ((q7 x).ne x))
  have r6 : ¬ (lSkp sq 32 y3).2.1.2.2.1 = 0 → Kp (lSkp sq 32 y3).2.1 y9.1 := fun x => (q6 x).tr (r7 ((q6 x).ne x))
  have r4 : ¬ y3.1.2.2.1 = 0 → Kp y3.1 y9.1 := fun x => (q4 x).tr (r6 ((q4 x).ne x))
  have r3 : ¬ (lNo y).1.2.2.1 = 0 → Kp (lNo y).1 y9.1 := fun x => (q3 x).tr (r4 ((q3 x).ne x))
  refine out_seq (out_no hC h t0 (Or.inl rfl)) (fun _ p1 => ?_) r3 (by omega) (by omega)
  have s1 : Out T e A (t + 1) (t + 2) y3 (fun z q => Rl T V M K (xr (xr xO 9) 11) (t + 2) z q ∧ JC q) := by
    rw [hy3]
    refine out_imp (out_knw (J := JO 31) (J2 := JC1) (r := 9) (s := 0) (p := 31) hC p1.1 p1.2 (by omega) t1 (by omega) (by rw [Nat.add_sub_cancel]; exact t0) rfl (by omega) (by unfold qNon; omega) rfl (fun _ => rfl) (fun x hx => ⟨fun z => by omega, fun z => by omega, fun _ => Or.inr ⟨x, hx, rfl⟩, fun z => by omega, fun z => by omega⟩)
      (fun q x ho => qNam_s2 (by rw [Nat.add_sub_cancel, t0]; unfold qNon; omega) ho (by rw [Nat.add_sub_cancel]; exact t0)) p1.2.1 (fun q x hx hj => jc_1 hx hj) (wf_nm t1 (by omega) (fun z => by rw [Nat.add_sub_cancel] at z; omega) (fun _ _ => p1.2.1)) rfl) (fun _ p => ⟨rl_kind p.1 ?_, p.2.1, p.2.2.2.2⟩)
    rw [p.2.2.1, df p.2.2.2.1]; rfl
  refine out_seq s1 (fun _ p2 => ?_) r4 (by omega) (by omega)
  refine out_seq (out_skp hC p2.1 p2.2 (by omega) t2 (by unfold Plain; omega)) (fun _ p3 => ?_) r6 (by omega) (by omega)
  have s4 : Out T e A (t + 3) (t + 4) y6 (fun z q => Rl T V M K (xr (xr (xr xO 9) 11) 8) (t + 4) z q ∧ JC q) := by
    rw [hy6]
    exact out_knw (J := JC) (J2 := JC) (r := 8) (s := 2) (p := 32) hC p3.1 p3.2 (by omega) t3 (by omega) t2 rfl (by omega) (by unfold qNon; omega) rfl (fun z => by omega) (fun x hx => ⟨fun z => by omega, fun _ => ⟨x, hx, rfl⟩, fun z => by omega, fun z => by omega, fun z => by omega⟩)
      (fun q x ho => qNam_s3 (by rw [show t + 3 - 1 = t + 2 from rfl, t2]; unfold qNon; omega) ho (Or.inl t2)) p3.2.1 (fun q x hx hj => jc_2 (by decide) hj) (wf_nm t3 (by omega) (fun z => by rw [show t + 3 - 1 = t + 2 from rfl] at z; omega) (fun _ _ => p3.2.1)) (by rw [show (lSkp sq 32 y3).2.2.1 (srR 8) = y3.2.1 4 from rfl, hc3])
  refine out_seq s4 (fun _ p4 => ?_) r7 (by omega) (by omega)
  refine out_seq (out_skp hC p4.1 p4.2 (by omega) t4 (by unfold Plain; omega)) (fun _ p5 => ?_) q9 (by omega) (by omega)
  rw [hy9]
  refine out_imp (out_knw (J := JC) (J2 := JC) (r := 10) (s := 1) (p := 33) hC p5.1 p5.2 (by omega) t5 (by omega) t4 rfl (by omega) (by unfold qNon; omega) rfl (fun z => by omega) (fun x hx => ⟨fun z => by omega, fun z => by omega, fun z => by omega, fun z => by omega, fun z => by omega⟩)
      (fun q x ho => qNam_s4 (by rw [show t + 5 - 1 = t + 4 from rfl, t4]; unfold qNon; omega) ho t4) p5.2.1 (fun q x hx hj => jc_2 (by decide) hj) (wf_nm t5 (by omega) (fun z => by rw [show t + 5 - 1 = t + 4 from rfl] at z; omega) (fun _ _ => p5.2.1)) (by rw [show (lSkp sq 33 y6).2.2.1 (srR 10) = y6.2.1 4 from rfl, hc6])) (fun _ p => ⟨rl_x p.1 (by decide), p.2⟩)
set_option maxHeartbeats 4000000 in
theorem out_oil (hC : Cx T V sm num K sq sv e A M) (h : Rl T V M K xN t y (A t)) (t0 : T t = 34) (t1 : T (t + 1) = 2) (ht : t + 2 ≤ K) :
    Out T e A t (t + 2) (lOil sq sv y).2 (fun z q => Rl T V M K xW (t + 2) z q ∧ JC q) := by
  refine out_seq (out_no hC h t0 (Or.inr rfl)) (fun _ p1 => ?_) (fun x => kpl_knw (sq := sq) (sv := sv) (s := 2) (lNo y) x) (by omega) (by omega)
  have s1 : Out T e A (t + 1) (t + 2) (yRow (lKnw sq sv 2 (lNo y)).2 8 20 (nI ((lNo y).2.1 4) - 1) (lKnw sq sv 2 (lNo y)).2.1.2.1) (fun z q => Rl T V M K (xr xO 8) (t + 2) z q ∧ JO 34 q) :=
    out_knw (J := JO 34) (J2 := JO 34) (r := 8) (s := 2) (p := 34) hC p1.1 p1.2 (by omega) t1 (by omega) (by rw [Nat.add_sub_cancel]; exact t0) rfl (by omega) (by unfold qNon; omega) rfl (fun z => by omega) (fun x hx => ⟨fun z => by omega, fun _ => ⟨x, hx, rfl⟩, fun z => by omega, fun z => by omega, fun z => by omega⟩)
      (fun q x ho => qNam_s3 (by rw [Nat.add_sub_cancel, t0]; unfold qNon; omega) ho (Or.inr (by rw [Nat.add_sub_cancel]; exact t0))) p1.2.1 (fun q x hx hj => jc_3 hj) (wf_nm t1 (by omega) (fun z => by rw [Nat.add_sub_cancel] at z; omega) (fun _ _ => p1.2.1)) rfl
  refine out_map s1 (z2 := (lOil sq sv y).2) rfl (fun p => ?_)
  obtain ⟨p, j0, j1, j2, j3, j4⟩ := p
  generalize A (t + 2) = q at *
  have p2 := rl_set (r := 9) (x := -1) (q2 := q) p (by omega) j0 rfl (fun _ => rfl) ⟨fun z => by omega, fun z => by omega, fun _ => Or.inl rfl, fun z => by omega, fun z => by omega⟩ rfl rfl (fun _ _ _ => rfl) (fun k => by
      by_cases c1 : k = q.1 (srR 9) - 1
      · rw [if_pos c1, c1]; exact j2
      · rw [if_neg c1])
  have p3 := rl_set (r := 10) (x := -1) (q2 := q) p2 (by omega) j0 rfl (fun z => by omega) ⟨fun z => by omega, fun z => by omega, fun z => by omega, fun z => by omega, fun z => by omega⟩ rfl rfl (fun _ _ _ => rfl) (fun k => by
      by_cases c1 : k = q.1 (srR 10) - 1
      · rw [if_pos c1, c1]; exact j3
      · rw [if_neg c1])
  have p4 := rl_kind p3 (by rw [j1, dt j2]; rfl)
  exact ⟨rl_x p4 (by decide), j0, j4⟩
end
