/-! whole lines, whole lists -/
def JB (q : RS) : Prop := 1 ≤ q.1 0 ∧ q.2.2.2 = 0
def JP (q : RS) : Prop := 1 ≤ q.1 3 ∧ ¬ q.2.2.2 = 0
def JV (q : RS) : Prop := 1 ≤ q.1 1 ∧ q.2.2.1 10 (q.1 1 - 1) = (-1)
def JS (q : RS) : Prop := 1 ≤ q.1 2
section
variable {T : Nat → Nat} {V : Nat → Int64} {sm : Nat → Nat → Bool} {num : Nat → Int32} {K t u w : Nat} {sq : Nat → Nat} {sv : Nat → Int64} {e : Nat → Int32} {A : Nat → RS} {M : Nat → Int32} {X X2 : Nat → Bool} {y z z2 : LSt} {q q2 : RS} {P Q : LSt → RS → Prop} {E F : LFn} {J J2 : RS → Prop}
theorem on_21b (hC : Cx T V sm num K sq sv e A M) (h : Rl T V M K X t y (A t)) (hJ : JB (A t)) (ht : t + 2 ≤ K) (hk : T t = 21) (hk3 : T (t + 1) = 3) (hX : X 0 = true) : Out T e A t (t + 2) (lNum sq sv 21 0 9 0 8 0 y).2 (fun z q => Rl T V M K (xr X 0) (t + 2) z q ∧ JB q) :=
  out_num (r := 0) (key := 21) (lo := 0) (hi := 9) (J := JB) (J2 := JB) hC h hJ ht (by omega) hk hk3 (by unfold Plain; omega) hX (by omega) (fun x c a b => ⟨fun z => by omega, fun z => by omega, fun z => by omega, fun z => by omega, fun _ => ⟨a, b⟩⟩) (fun q k v a j => qNum_1 a j.2) (fun q j => j.1) (fun q k v j => ⟨j.1, j.2⟩) (fun k q h3 hp hj hk1 => ⟨fun _ => hk1, fun z => by omega, fun z => by omega, fun _ _ _ => hj.1, fun _ _ z => absurd hj.2 z, fun _ z => by omega, fun _ z => by omega, fun _ z => by omega, fun _ z => by omega, fun z => by omega⟩)
theorem on_22 (hC : Cx T V sm num K sq sv e A M) (h : Rl T V M K X t y (A t)) (hJ : JB (A t)) (ht : t + 2 ≤ K) (hk : T t = 22) (hk3 : T (t + 1) = 3) (hX : X 1 = true) : Out T e A t (t + 2) (lNum sq sv 22 1 9 1 8 0 y).2 (fun z q => Rl T V M K (xr X 1) (t + 2) z q ∧ JB q) :=
  out_num (r := 1) (key := 22) (lo := 1) (hi := 9) (J := JB) (J2 := JB) hC h hJ ht (by omega) hk hk3 (by unfold Plain; omega) hX (by omega) (fun x c a b => ⟨fun z => by omega, fun z => by omega, fun z => by omega, fun z => by omega, fun z => by omega⟩) (fun q k v a j => qNum_3 a) (fun q j => j.1) (fun q k v j => ⟨j.1, j.2⟩) (fun k q h3 hp hj hk1 => ⟨fun _ => hk1, fun z => by omega, fun z => by omega, fun _ z _ => by omega, fun _ z _ => by omega, fun _ _ => hj.1, fun _ z => by omega, fun _ z => by omega, fun _ z => by omega, fun z => by omega⟩)
theorem on_24 (hC : Cx T V sm num K sq sv e A M) (h : Rl T V M K X t y (A t)) (hJ : JV (A t)) (ht : t + 2 ≤ K) (hk : T t = 24) (hk3 : T (t + 1) = 3) (hX : X 2 = true) : Out T e A t (t + 2) (lNum sq sv 24 1 9 2 5 1 y).2 (fun z q => Rl T V M K (xr X 2) (t + 2) z q ∧ JV q) :=
  out_num (r := 2) (key := 24) (lo := 1) (hi := 9) (J := JV) (J2 := JV) hC h hJ ht (by omega) hk hk3 (by unfold Plain; omega) hX (by omega) (fun x c a b => ⟨fun z => by omega, fun z => by omega, fun z => by omega, fun _ => ⟨a, b⟩, fun z => by omega⟩) (fun q k v a j => qNum_4 a) (fun q j => j.1) (fun q k v j => ⟨j.1, (qrm_l (by decide) (by decide)).trans j.2⟩) (fun k q h3 hp hj hk1 => ⟨fun _ => hk1, fun z => by omega, fun z => by omega, fun _ z _ => by omega, fun _ z _ => by omega, fun _ z => by omega, fun _ _ => hj.1, fun _ z => by omega, fun _ z => by omega, fun z => by omega⟩)
theorem on_25 (hC : Cx T V sm num K sq sv e A M) (h : Rl T V M K X t y (A t)) (hJ : JV (A t)) (ht : t + 2 ≤ K) (hk : T t = 25) (hk3 : T (t + 1) = 3) (hX : X 3 = true) : Out T e A t (t + 2) (lNum sq sv 25 1 4 3 5 1 y).2 (fun z q => Rl T V M K (xr X 3) (t + 2) z q ∧ JV q) :=
  out_num (r := 3) (key := 25) (lo := 1) (hi := 4) (J := JV) (J2 := JV) hC h hJ ht (by omega) hk hk3 (by unfold Plain; omega) hX (by omega) (fun x c a b => ⟨fun _ => a, fun z => by omega, fun z => by omega, fun z => by omega, fun z => by omega⟩) (fun q k v a j => qNum_5 a) (fun q j => j.1) (fun q k v j => ⟨j.1, (qrm_l (by decide) (by decide)).trans j.2⟩) (fun k q h3 hp hj hk1 => ⟨fun _ => hk1, fun z => by omega, fun z => by omega, fun _ z _ => by omega, fun _ z _ => by omega, fun _ z => by omega, fun _ _ => hj.1, fun _ z => by omega, fun _ z => by omega, fun z => by omega⟩)
theorem on_28 (hC : Cx T V sm num K sq sv e A M) (h : Rl T V M K X t y (A t)) (hJ : JS (A t)) (ht : t + 2 ≤ K) (hk : T t = 28) (hk3 : T (t + 1) = 3) (hX : X 5 = true) : Out T e A t (t + 2) (lNum sq sv 28 1 9 5 10 2 y).2 (fun z q => Rl T V M K (xr X 5) (t + 2) z q ∧ JS q) :=
  out_num (r := 5) (key := 28) (lo := 1) (hi := 9) (J := JS) (J2 := JS) hC h hJ ht (by omega) hk hk3 (by unfold Plain; omega) hX (by omega) (fun x c a b => ⟨fun z => by omega, fun z => by omega, fun z => by omega, fun _ => ⟨a, b⟩, fun z => by omega⟩) (fun q k v a j => qNum_6 a) (fun q j => j) (fun q k v j => j) (fun k q h3 hp hj hk1 => ⟨fun _ => hk1, fun z => by omega, fun z => by omega, fun _ z _ => by omega, fun _ z _ => by omega, fun _ z => by omega, fun _ z => by omega, fun _ _ => hj, fun _ z => by omega, fun z => by omega⟩)
theorem on_21p (hC : Cx T V sm num K sq sv e A M) (h : Rl T V M K X t y (A t)) (hJ : JP (A t)) (ht : t + 2 ≤ K) (hk : T t = 21) (hk3 : T (t + 1) = 3) (hX : X 6 = true) : Out T e A t (t + 2) (lNum sq sv 21 0 9 6 6 3 y).2 (fun z q => Rl T V M K (xr X 6) (t + 2) z q ∧ JP q) :=
  out_num (r := 6) (key := 21) (lo := 0) (hi := 9) (J := JP) (J2 := JP) hC h hJ ht (by omega) hk hk3 (by unfold Plain; omega) hX (by omega) (fun x c a b => ⟨fun z => by omega, fun z => by omega, fun z => by omega, fun z => by omega, fun _ => ⟨a, b⟩⟩) (fun q k v a j => qNum_2 a j.2) (fun q j => j.1) (fun q k v j => ⟨j.1, j.2⟩) (fun k q h3 hp hj hk1 => ⟨fun _ => hk1, fun z => by omega, fun z => by omega, fun _ _ z => absurd z hj.2, fun _ _ _ => hj.1, fun _ z => by omega, fun _ z => by omega, fun _ z => by omega, fun _ z => by omega, fun z => by omega⟩)
theorem on_30 (hC : Cx T V sm num K sq sv e A M) (h : Rl T V M K X t y (A t)) (hJ : JP (A t)) (ht : t + 2 ≤ K) (hk : T t = 30) (hk3 : T (t + 1) = 3) (hX : X 7 = true) : Out T e A t (t + 2) (lNum sq sv 30 0 999 7 6 3 y).2 (fun z q => Rl T V M K (xr X 7) (t + 2) z q ∧ JP q) :=
  out_num (r := 7) (key := 30) (lo := 0) (hi := 999) (J := JP) (J2 := JP) hC h hJ ht (by omega) hk hk3 (by unfold Plain; omega) hX (by omega) (fun x c a b => ⟨fun z => by omega, fun z => by omega, fun z => by omega, fun z => by omega, fun z => by omega⟩) (fun q k v a j => qNum_7 a) (fun q j => j.1) (fun q k v j => ⟨j.1, j.2⟩) (fun k q h3 hp hj hk1 => ⟨fun _ => hk1, fun z => by omega, fun z => by omega, fun _ z _ => by omega, fun _ z _ => by omega, fun _ z => by omega, fun _ z => by omega, fun _ z => by omega, fun _ _ => hj.1, fun z => by omega⟩)
theorem e2_inv {a b : Nat} (h : (rE2 T a b t).1 = true) : T t = a ∧ T (t + 1) = b ∧ rE2 T a b t = (true, t + 2) := by
  obtain ⟨x, y, z⟩ := rThen_inv (r := rEat T a t) (f := rEat T b) h
  obtain ⟨c, d⟩ := rEat_t x
  rw [d] at y
  obtain ⟨c2, d2⟩ := rEat_t y
  exact ⟨c, c2, z.trans (by rw [d]; exact d2)⟩
theorem t2_inv {a b : Nat} {f : RF} (h : (rThen (rE2 T a b t) f).1 = true) : T t = a ∧ T (t + 1) = b ∧ (f (t + 2)).1 = true ∧ rThen (rE2 T a b t) f = f (t + 2) := by
  obtain ⟨x, y, z⟩ := rThen_inv h
  obtain ⟨a1, a2, a3⟩ := e2_inv x
  rw [a3] at y
  exact ⟨a1, a2, y, z.trans (by rw [a3])⟩
theorem out_and {r : Bool × LSt} {p : Nat} (hE : CtL K t r (true, p)) (h1 : Out T e A t p r.2 P) (hk : KpL F) (hw : p ≤ w) (h2 : r.2.1.1 = nI p → P r.2 (A p) → Out T e A p w (F r.2).2 Q) : Out T e A t w (lAnd r F).2 Q := by
  rw [lAnd_t hE.1]; exact out_seq h1 (fun _ b => h2 hE.2.1 b) (fun x => hk _ x) hE.2.2.1 hw
theorem cl_nam (hC : Cx T V sm num K sq sv e A M) {j nn : Nat} (hy : y.1.1 = nI t) (h1 : t + 2 ≤ K) (h2 : T (t + 1) = 2) : CtL K t (lNam sq sv j nn y) (true, t + 2) := by
  have h := cll_nam (sv := sv) (j := j) (nn := nn) hC.1.1 (by omega) hy
  rw [rEat_e h2] at h; exact h
theorem cl_num (hC : Cx T V sm num K sq sv e A M) {key j rn k : Nat} {lo hi : Int32} (hy : y.1.1 = nI t) (ht : t ≤ K) (hk : 2 ≤ key) (h1 : T t = key) (h2 : T (t + 1) = 3) : CtL K t (lNum sq sv key lo hi j rn k y) (true, t + 2) := by
  have h := cll_num (sv := sv) hC.1.1 (key := key) hk (lo := lo) (hi := hi) (j := j) (rn := rn) (k := k) t y ht hy
  rw [show rE2 T key 3 t = (true, t + 2) by unfold rE2; rw [rEat_e h1, rThen_t rfl]; exact rEat_e h2] at h; exact h
theorem xr_le {X X2 : Nat → Bool} (h : ∀ i, i < 13 → X i = true → X2 i = true) : ∀ i, i < 13 → X i = true → X2 i = true := h
set_option maxHeartbeats 4000000 in
theorem out_line (hC : Cx T V sm num K sq sv e A M) (h : Rl T V M K xN t y (A t)) (ht : t ≤ K) (hr : (rLine T t).1 = true) : Out T e A t (rLine T t).2 (lLine sq sv y).2 (fun z q => Rl T V M K xN (rLine T t).2 z q) := by
  have hT := hC.1.1
  have he : tSg sq y.1.1 = T t := tsg_of hC h.1.1 ht
  have ctl := cll_line (sv := sv) hT t y ht h.1.1
  obtain ⟨m1, m2, m3, m4, m5, m6⟩ := mS_l (T t) (hT.2.2.1 t)
  rw [← he] at m1 m2 m3 m4 m5 m6
  have hle := ctl.2.2.2
  by_cases c1 : T t = 20
  · rw [lLine_1 (m1.mpr (he.trans c1))]; rw [rLine_1 c1] at hr hle ⊢
    obtain ⟨p1, p2, p3, p4⟩ := t2_inv hr
    rw [p4] at hle ⊢
    obtain ⟨p5, p6, p7, p8⟩ := t2_inv p3
    rw [p8] at hle ⊢
    obtain ⟨p9, pa, pb⟩ := e2_inv p7
    rw [pb] at hle ⊢
    have hle : t + 2 + 2 + 2 ≤ K := hle
    refine out_and (cl_nam hC h.1.1 (by omega) p2) (out_nam hC h (Or.inl ⟨rfl, rfl, rfl⟩) p1 p2 (by omega)) (kpl_andF kpl_num kpl_num) (by show t + 2 ≤ t + 2 + 2 + 2; omega) (fun f1 g1 => ?_)
    refine out_and (cl_num hC f1 (by omega) (by omega) p5 p6) (on_21b hC g1.1 ⟨g1.2.1, (g1.2.2.1 (Or.inl rfl)).trans (by decide)⟩ (by omega) p5 p6 rfl) kpl_num (by show t + 2 + 2 ≤ t + 2 + 2 + 2; omega) (fun f2 g2 => ?_)
    exact out_imp (on_22 hC g2.1 g2.2 (by omega) p9 pa rfl) (fun _ g => rl_x g.1 (by decide))
  by_cases c2 : T t = 23
  · rw [lLine_2 (m2.mpr (he.trans c2))]; rw [rLine_2 c2] at hr hle ⊢
    obtain ⟨p1, p2, p3, p4⟩ := t2_inv hr
    rw [p4] at hle ⊢
    obtain ⟨p5, p6, p7, p8⟩ := t2_inv p3
    rw [p8] at hle ⊢
    obtain ⟨p9, pa, pb, pc⟩ := t2_inv p7
    rw [pc] at hle ⊢
    have q1 : t + 1 ≤ K := tkc_s hT ht (by omega)
    have q2 : t + 2 ≤ K := tkc_s hT (t := t + 1) q1 (by omega)
    have q3 : t + 3 ≤ K := tkc_s hT (t := t + 2) q2 (by omega)
    have q4 : t + 4 ≤ K := tkc_s hT (t := t + 2 + 1) q3 (by omega)
    have q5 : t + 5 ≤ K := tkc_s hT (t := t + 2 + 2) q4 (by omega)
    have q6 : t + 6 ≤ K := tkc_s hT (t := t + 2 + 2 + 1) q5 (by omega)
    have hge : t + 6 ≤ (rOpt T 26 (rEat T 2) (t + 2 + 2 + 2)).2 := (cll_lik (sv := sv) hT (t + 6) (yE y ((nI (t + 6)), y.1.2)) q6 rfl).2.2.1
    refine out_and (cl_nam hC h.1.1 (by omega) p2) (out_nam hC h (Or.inr (Or.inl ⟨rfl, rfl, rfl⟩)) p1 p2 (by omega)) (kpl_andF kpl_num (kpl_andF kpl_num kpl_lik)) (by omega) (fun f1 g1 => ?_)
    refine out_and (cl_num hC f1 (by omega) (by omega) p5 p6) (on_24 hC g1.1 ⟨g1.2.1, g1.2.2.2 rfl⟩ (by omega) p5 p6 rfl) (kpl_andF kpl_num kpl_lik) (by omega) (fun f2 g2 => ?_)
    refine out_and (cl_num hC f2 (by omega) (by omega) p9 pa) (on_25 hC g2.1 g2.2 (by omega) p9 pa rfl) kpl_lik (by omega) (fun f3 g3 => ?_)
    exact out_imp (out_lik hC g3.1 rfl g3.2.1 g3.2.2 (by omega) pb) (fun _ g => rl_x g (by decide))
  by_cases c3 : T t = 27
  · rw [lLine_3 (m3.mpr (he.trans c3))]; rw [rLine_3 c3] at hr hle ⊢
    obtain ⟨p1, p2, p3, p4⟩ := t2_inv hr
    rw [p4] at hle ⊢
    obtain ⟨p5, p6, p7⟩ := e2_inv p3
    rw [p7] at hle ⊢
    have hle : t + 2 + 2 ≤ K := hle
    refine out_and (cl_nam hC h.1.1 (by omega) p2) (out_nam hC h (Or.inr (Or.inr (Or.inl ⟨rfl, rfl, rfl⟩))) p1 p2 (by omega)) kpl_num (by show t + 2 ≤ t + 2 + 2; omega) (fun f1 g1 => ?_)
    exact out_imp (on_28 hC g1.1 g1.2.1 (by omega) p5 p6 rfl) (fun _ g => rl_x g.1 (by decide))
  by_cases c4 : T t = 29
  · rw [lLine_4 (m4.mpr (he.trans c4))]; rw [rLine_4 c4] at hr hle ⊢
    obtain ⟨p1, p2, p3, p4⟩ := t2_inv hr
    rw [p4] at hle ⊢
    obtain ⟨p5, p6, p7, p8⟩ := t2_inv p3
    rw [p8] at hle ⊢
    obtain ⟨p9, pa, pb⟩ := e2_inv p7
    rw [pb] at hle ⊢
    have hle : t + 2 + 2 + 2 ≤ K := hle
    refine out_and (cl_nam hC h.1.1 (by omega) p2) (out_nam hC h (Or.inr (Or.inr (Or.inr ⟨rfl, rfl, rfl⟩))) p1 p2 (by omega)) (kpl_andF kpl_num kpl_num) (by show t + 2 ≤ t + 2 + 2 + 2; omega) (fun f1 g1 => ?_)
    refine out_and (cl_num hC f1 (by omega) (by omega) p5 p6) (on_21p hC g1.1 ⟨g1.2.1, by rw [g1.2.2.1 (Or.inr rfl)]; decide⟩ (by omega) p5 p6 rfl) kpl_num (by show t + 2 + 2 ≤ t + 2 + 2 + 2; omega) (fun f2 g2 => ?_)
    exact out_imp (on_30 hC g2.1 g2.2 (by omega) p9 pa rfl) (fun _ g => rl_x g.1 (by decide))
  by_cases c5 : T t = 31
  · rw [lLine_5 (m5.mpr (he.trans c5))]; rw [rLine_5 c5] at hr hle ⊢
    obtain ⟨p1, p2, p3, p4⟩ := t2_inv hr
    rw [p4] at hle ⊢
    obtain ⟨p5, p6, p7, p8⟩ := t2_inv p3
    rw [p8] at hle ⊢
    obtain ⟨p9, pa, pb, pc⟩ := t2_inv p7
    rw [pc] at hle ⊢
    have q1 : t + 1 ≤ K := tkc_s hT ht (by omega)
    have q2 : t + 2 ≤ K := tkc_s hT (t := t + 1) q1 (by omega)
    have q3 : t + 3 ≤ K := tkc_s hT (t := t + 2) q2 (by omega)
    have q4 : t + 4 ≤ K := tkc_s hT (t := t + 2 + 1) q3 (by omega)
    have q5 : t + 5 ≤ K := tkc_s hT (t := t + 2 + 2) q4 (by omega)
    have q6 : t + 6 ≤ K := tkc_s hT (t := t + 2 + 2 + 1) q5 (by omega)
    have k6 := q6
    have hge : t + 6 ≤ (rOpt T 35 (rTes T 8) (t + 2 + 2 + 2)).2 := (cll_cond (sv := sv) hT (t + 6) (yE y ((nI (t + 6)), y.1.2)) k6 rfl).2.2.1
    have hct := cll_carv (sv := sv) hT (show t + 1 ≤ K by omega) h.1.1
    have hcr : rThen (rThen (rEat T 2 (t + 1)) (rE2 T 32 2)) (rE2 T 33 2) = (true, t + 6) := by
      have x1 : rE2 T 32 2 (t + 2) = (true, t + 4) := by unfold rE2; rw [rEat_e p5, rThen_t rfl]; exact rEat_e p6
      have x2 : rE2 T 33 2 (t + 4) = (true, t + 6) := by unfold rE2; rw [rEat_e p9, rThen_t rfl]; exact rEat_e pa
      rw [rEat_e p2, show rThen (true, t + 1 + 1) (rE2 T 32 2) = (true, t + 4) from (rThen_t rfl).trans x1]
      exact (rThen_t rfl).trans x2
    rw [hcr] at hct
    exact out_and hct (out_carv hC h p1 p2 p5 p6 p9 pa k6) kpl_cond hge (fun _ g1 => out_cond hC g1.1 g1.2 k6 pb)
  by_cases c6 : T t = 34
  · rw [lLine_6 (m6.mpr (he.trans c6))]; rw [rLine_6 ⟨c1, c2, c3, c4, c5⟩] at hr hle ⊢
    obtain ⟨p1, p2, p3, p4⟩ := t2_inv hr
    rw [p4] at hle ⊢
    have q1 : t + 1 ≤ K := tkc_s hT ht (by omega)
    have k2 : t + 2 ≤ K := tkc_s hT (t := t + 1) q1 (by omega)
    have hge : t + 2 ≤ (rOpt T 35 (rTes T 8) (t + 2)).2 := (cll_cond (sv := sv) hT (t + 2) (yE y ((nI (t + 2)), y.1.2)) k2 rfl).2.2.1
    have hct := cll_oil (sv := sv) hT (show t + 1 ≤ K by omega) h.1.1
    rw [rEat_e p2] at hct
    exact out_and hct (out_oil hC h p1 p2 k2) kpl_cond hge (fun _ g1 => out_cond hC g1.1 g1.2 k2 p3)
  · rw [rLine_6 ⟨c1, c2, c3, c4, c5⟩] at hr
    exact absurd (t2_inv hr).1 c6
/-- a whole list -/
theorem out_run (hC : Cx T V sm num K sq sv e A M) : ∀ (m t : Nat) (y : LSt), t ≤ K → 800 ≤ t + 2 * m → Rl T V M K xN t y (A t) → (rLst T (m + 1) t).1 = true → Out T e A t (rLst T (m + 1) t).2 (lRun sq sv m true y).2 (fun z q => Rl T V M K xN (rLst T (m + 1) t).2 z q) := by
  intro m
  induction m with
  | zero => intro t y ht hm; have := hC.1.1.1; omega
  | succ m ih =>
    intro t y ht hm h hr
    have hT := hC.1.1
    have e9 := tsg_of hC h.1.1 ht
    by_cases c : T t = 0
    · rw [lRun_c (e9.trans c), show rLst T (m + 1 + 1) t = (true, t) from if_pos c]
      exact out_nil ⟨h.1.2.1, h⟩
    · rw [show rLst T (m + 1 + 1) t = rThen (rThen (rLine T t) (rEat T 9)) (rLst T (m + 1)) from if_neg c] at hr ⊢
      rw [show lRun sq sv (m + 1) true y = lRun sq sv m (lAnd (lLine sq sv y) (lSkp sq 9)).1 (lAnd (lLine sq sv y) (lSkp sq 9)).2 from if_pos ⟨rfl, by rw [e9]; exact c⟩]
      obtain ⟨x1, x2, x3⟩ := rThen_inv hr
      obtain ⟨y1, y2, y3⟩ := rThen_inv (r := rLine T t) (f := rEat T 9) x1
      obtain ⟨z1, z2⟩ := rEat_t y2
      rw [z2] at y3
      rw [y3] at x2
      rw [x3, y3]
      have cl := cll_line (sv := sv) hT t y ht h.1.1
      have hgt := rLine_gt hT ht y1
      have O1 := out_line hC h ht y1
      generalize rLine T t = L at *
      obtain ⟨Lb, u⟩ := L
      have y1 : Lb = true := y1
      subst y1
      have u1 : u + 1 ≤ K := tkc_s hT cl.2.2.2 (by show 2 ≤ T u; have : T u = 9 := z1; omega)
      have hgt : t < u := hgt
      have O2 : Out T e A t (u + 1) (lAnd (lLine sq sv y) (lSkp sq 9)).2 (fun z q => Rl T V M K xN (u + 1) z q) :=
        out_and cl O1 kpl_skp (Nat.le_succ _) (fun _ g => out_imp (out_skp (J := fun _ => True) hC g trivial cl.2.2.2 z1 (by unfold Plain; omega)) (fun _ g => g.1))
      have ca := cll_and cl (cll_skip hT (s := 9) (by omega))
      have cb : (lAnd (lLine sq sv y) (lSkp sq 9)).1 = true := ca.1.trans (by rw [rThen_t rfl]; exact congrArg Prod.fst z2)
      rw [cb]
      have hge : u + 1 ≤ (rLst T (m + 1) (u + 1)).2 := (cll_run (sv := sv) hT m (u + 1) (yE y ((nI (u + 1)), y.1.2)) u1 (by omega) rfl).2.2.1
      exact out_seq O2 (fun _ g => ih (u + 1) _ u1 (by omega) g x2) (fun x => kpl_run m true _ x) (by omega) hge
end
