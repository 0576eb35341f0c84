/-! lines: what a line of the class's reader leaves is what the reference's tokens tell. e: the tokens' errors, A: the reference's states -/
def Cx (T : Nat → Nat) (V : Nat → Int64) (sm : Nat → Nat → Bool) (num : Nat → Int32) (K : Nat) (sq : Nat → Nat) (sv : Nat → Int64) (e : Nat → Int32) (A : Nat → RS) (M : Nat → Int32) : Prop :=
  TVC T V K sq sv ∧ (∀ a b, a < 400 → b < 400 → T a = 2 → T b = 2 → sm a b = decide (V a = V b)) ∧ (∀ k, k < 400 → T k = 3 → ∃ m, m < 1000000 ∧ V k = Int64.ofNat m ∧ num k = nI m) ∧
  (∀ k, qErr T sm num k (A k) = (e k, A (k + 1))) ∧ (∀ j, j < K → M j = (A (j + 1)).2.2.1 3 j)
def mrR (r : Nat) : Nat := [5, 6, 8, 9, 10, 12, 14, 15, 18, 17, 19].getD r 0
def srR (r : Nat) : Nat := [0, 0, 1, 1, 1, 2, 3, 3, 4, 4, 4, 4, 4].getD r 0
def cpR (r : Nat) : Nat := [8, 8, 5, 5, 5, 10, 6, 6, 20, 20, 20].getD r 0
theorem mr_ok : ∀ r, r < 11 → mrR r ≠ 3 ∧ mrR r ≠ 16 ∧ mrR r ≠ 20 ∧ (mrR r = 17 ↔ r = 9) ∧ (∀ r2, r2 < 11 → mrR r2 = mrR r → r2 = r) ∧ srR r < 5 := by decide +kernel
theorem lok_cp {m : Nat → Nat} (h : LOK m) : ∀ r, r < 11 → m (srR r) ≤ cpR r := by
  obtain ⟨h0, h1, h2, h3, h4⟩ := h
  intro r hr
  rcases r with _ | _ | _ | _ | _ | _ | _ | _ | _ | _ | _ | r
  · exact h0
  · exact h0
  · exact h1
  · exact h1
  · exact h1
  · exact h2
  · exact h3
  · exact h3
  · exact h4
  · exact h4
  · exact h4
  · omega
/-- what a cell of a row may hold -/
def RgR (r : Nat) (x : Int32) (c : Nat → Nat) : Prop := (r = 3 → 1 ≤ x) ∧ (r = 8 → inC x (c 2)) ∧ (r = 9 → x = (-1) ∨ inC x (c 0)) ∧ (r = 2 ∨ r = 5 → 1 ≤ x ∧ x ≤ 9) ∧ (r = 0 ∨ r = 6 → 0 ≤ x ∧ x ≤ 9)
def TsR (T : Nat → Nat) (M : Nat → Int32) (K : Nat) (S : ST) (a b : Nat) (w : Int32) : Prop :=
  a ≤ 400 ∧ b ≤ 400 ∧ ((w = (-1) ∧ b ≤ a) ∨ ∃ t0, w = nI t0 ∧ t0 ≤ K ∧ (rTes T 8 t0).1 = true ∧ a ≤ b ∧ b ≤ kS S ∧ ∀ KQ FF FS, Agr KQ FF FS S a b → ∀ v f0, hxT KQ FF FS v a b f0 = xTes T M v 8 t0)
def Rl (T : Nat → Nat) (V : Nat → Int64) (M : Nat → Int32) (K : Nat) (X : Nat → Bool) (t : Nat) (y : LSt) (q : RS) : Prop :=
  (y.1.1 = nI t ∧ y.1.2.2.1 = 0 ∧ kS y.1.2.2.2.2 ≤ t) ∧ ((∀ j, j < 5 → y.2.1 j = q.1 j) ∧ LOK q.1) ∧
  (∀ s, s < 4 → ∀ i, i < q.1 s → q.2.1 s i < t ∧ T (q.2.1 s i) = 2 ∧ y.2.2.1 s i = V (q.2.1 s i)) ∧
  (∀ r, r < 11 → ∀ k, k < q.1 (srR r) → (X r = true → k + 1 < q.1 (srR r)) → y.2.2.2.1 r k = q.2.2.1 (mrR r) k ∧ RgR r (q.2.2.1 (mrR r) k) q.1) ∧
  (∀ k, k < q.1 4 → (X 11 = true → k + 1 < q.1 4) → q.2.2.1 16 k = bI (decide (q.2.2.1 17 k = (-1)))) ∧
  (∀ k, k < q.1 4 → (X 12 = true → k + 1 < q.1 4) → TsR T M K y.1.2.2.2.2 (y.2.2.2.2.1 k) (y.2.2.2.2.2 k) (q.2.2.1 20 k))
def xr (X : Nat → Bool) (r : Nat) : Nat → Bool := fun i => if i = r then false else X i
def xN : Nat → Bool := fun _ => false
def Clq (e : Nat → Int32) (t w : Nat) : Prop := ∀ j, t ≤ j → j < w → e j = 0
/-- what lies behind the tokens t .. w: no error and P, or the first error -/
def Out (T : Nat → Nat) (e : Nat → Int32) (A : Nat → RS) (t w : Nat) (z : LSt) (P : LSt → RS → Prop) : Prop :=
  (∀ k, t ≤ k → k < w → Clq e t k → WFQ T k (A k)) ∧ (Clq e t w → z.1.2.2.1 = 0 ∧ P z (A w)) ∧ (∀ k, t ≤ k → k < w → Clq e t k → ¬ e k = 0 → z.1.2.2.1 = e k ∧ z.1.2.2.2.1 = nI k)
def KpL (E : LFn) : Prop := ∀ y, ¬ y.1.2.2.1 = 0 → Kp y.1 (E y).2.1
section
variable {T : Nat → Nat} {V : Nat → Int64} {sm : Nat → Nat → Bool} {num : Nat → Int32} {K t u w : Nat} {sq : Nat → Nat} {sv : Nat → Int64} {e : Nat → Int32} {A : Nat → RS} {M : Nat → Int32} {X X2 : Nat → Bool} {y z z2 : LSt} {q q2 : RS} {P Q : LSt → RS → Prop} {E F : LFn}
theorem clq_sub {a b : Nat} (h : Clq e t w) (h1 : t ≤ a) (h2 : b ≤ w) : Clq e a b := fun j x1 x2 => h j (by omega) (by omega)
theorem out_seq (h1 : Out T e A t u z P) (h2 : z.1.2.2.1 = 0 → P z (A u) → Out T e A u w z2 Q) (hk : ¬ z.1.2.2.1 = 0 → Kp z.1 z2.1) (o1 : t ≤ u) (o2 : u ≤ w) : Out T e A t w z2 Q := by
  refine ⟨fun k a b c => ?_, fun c => ?_, fun k a b c d => ?_⟩
  · rcases Nat.lt_or_ge k u with x | x
    · exact h1.1 k a x c
    · obtain ⟨x1, x2⟩ := h1.2.1 (clq_sub c (Nat.le_refl _) x)
      exact (h2 x1 x2).1 k x b (clq_sub c o1 (Nat.le_refl _))
  · obtain ⟨x1, x2⟩ := h1.2.1 (clq_sub c (Nat.le_refl _) o2)
    exact (h2 x1 x2).2.1 (clq_sub c o1 (Nat.le_refl _))
  · rcases Nat.lt_or_ge k u with x | x
    · obtain ⟨x1, x2⟩ := h1.2.2 k a x c d
      obtain ⟨y1, y2⟩ := hk (by rw [x1]; exact d)
      exact ⟨y1.trans x1, y2.trans x2⟩
    · obtain ⟨x1, x2⟩ := h1.2.1 (clq_sub c (Nat.le_refl _) x)
      exact (h2 x1 x2).2.2 k x b (clq_sub c o1 (Nat.le_refl _)) d
theorem out_one (h1 : WFQ T t (A t)) (h2 : e t = 0 → z.1.2.2.1 = 0 ∧ P z (A (t + 1))) (h3 : ¬ e t = 0 → z.1.2.2.1 = e t ∧ z.1.2.2.2.1 = nI t) : Out T e A t (t + 1) z P := by
  refine ⟨fun k a b _ => ?_, fun c => h2 (c t (Nat.le_refl _) (by omega)), fun k a b _ d => ?_⟩
  · rw [show k = t by omega]; exact h1
  · have : k = t := by omega
    subst this; exact h3 d
theorem out_nil (h2 : z.1.2.2.1 = 0 ∧ P z (A t)) : Out T e A t t z P := ⟨fun k a b => by omega, fun _ => h2, fun k a b => by omega⟩
theorem out_imp (h : Out T e A t w z P) (hp : z.1.2.2.1 = 0 → P z (A w) → Q z (A w)) : Out T e A t w z Q := ⟨h.1, fun c => ⟨(h.2.1 c).1, hp (h.2.1 c).1 (h.2.1 c).2⟩, h.2.2⟩
theorem qs_of (hC : Cx T V sm num K sq sv e A M) {x : Int32} {r : RS} (h : qErr T sm num t (A t) = (x, r)) : e t = x ∧ A (t + 1) = r := by
  have h2 := (hC.2.2.2.1 t).symm.trans h
  exact ⟨congrArg Prod.fst h2, congrArg Prod.snd h2⟩
theorem wf_pl {k : Nat} (h2 : ¬ T k = 2) (h3 : ¬ T k = 3) (h5 : ¬ T k = 35) : WFQ T k q :=
  ⟨fun a => by omega, fun a => absurd a h2, fun a => absurd a h2, fun a => absurd a h3, fun a => absurd a h3, fun a => absurd a h3, fun a => absurd a h3, fun a => absurd a h3, fun a => absurd a h3, fun a => absurd a h5⟩
theorem rl_x (h : Rl T V M K X t y q) (hX : ∀ i, i < 13 → X i = true → X2 i = true) : Rl T V M K X2 t y q := by
  obtain ⟨a, b, c, d, e, f⟩ := h
  exact ⟨a, b, c, fun r hr k hk hx => d r hr k hk (fun z => hx (hX r (by omega) z)), fun k hk hx => e k hk (fun z => hx (hX 11 (by omega) z)), fun k hk hx => f k hk (fun z => hx (hX 12 (by omega) z))⟩
theorem rl_fin {d : ES} {t2 : Nat} (h : Rl T V M K X t y q) (h1 : d.1 = nI t2) (h2 : d.2.2.1 = 0) (h3 : d.2.2.2.2 = y.1.2.2.2.2) (ht : t ≤ t2) : Rl T V M K X t2 (yE y d) q := by
  obtain ⟨⟨a1, a2, a3⟩, b, c, d1, e1, f1⟩ := h
  refine ⟨⟨h1, h2, ?_⟩, b, fun s hs i hi => ⟨by have := (c s hs i hi).1; omega, (c s hs i hi).2⟩, d1, e1, fun k hk hx => ?_⟩
  · show kS d.2.2.2.2 ≤ t2; rw [h3]; omega
  · show TsR T M K d.2.2.2.2 _ _ _
    rw [h3]; exact f1 k hk hx
/-- one row's last cell -/
theorem rl_set {r : Nat} {x : Int32} (h : Rl T V M K X t y q) (hr : r < 11) (hc : 1 ≤ q.1 (srR r)) (hX : X r = true) (h11 : r = 9 → X 11 = true) (hg : RgR r x q.1)
    (e1 : q2.1 = q.1) (e2 : q2.2.1 = q.2.1) (e3 : ∀ i, i ≠ mrR r → i ≠ 3 → q2.2.2.1 i = q.2.2.1 i) (e4 : ∀ k, q2.2.2.1 (mrR r) k = if k = q.1 (srR r) - 1 then x else q.2.2.1 (mrR r) k) : Rl T V M K (xr X r) t (yRow y r (cpR r) (nI (y.2.1 (srR r)) - 1) x) q2 := by
  obtain ⟨a, ⟨b1, b2⟩, c, d, e, f⟩ := h
  obtain ⟨m1, m2, m3, m4, m5, m6⟩ := mr_ok r hr
  have hcp := lok_cp b2 r hr
  have hrow : rput (cpR r) (y.2.2.2.1 r) (nI (y.2.1 (srR r)) - 1) x = upd (y.2.2.2.1 r) (q.1 (srR r) - 1) x := by
    rw [b1 _ m6, nI_m1 hc]
    exact rput_nI (by omega) (by have := hcp; have : cpR r ≤ 20 := (show ∀ r, r < 11 → cpR r ≤ 20 by decide) r hr; omega)
  refine ⟨a, ⟨fun j hj => (b1 j hj).trans (congrFun e1 j).symm, by rw [e1]; exact b2⟩, fun s hs i hi => ?_, fun r2 hr2 k hk hx => ?_, fun k hk hx => ?_, fun k hk hx => ?_⟩
  · rw [e1] at hi; rw [e2]; exact c s hs i hi
  · rw [e1] at hk hx ⊢
    show updR y.2.2.2.1 r (rput (cpR r) (y.2.2.2.1 r) (nI (y.2.1 (srR r)) - 1) x) r2 k = _ ∧ _
    rw [hrow]
    by_cases c1 : r2 = r
    · subst c1
      rw [show updR y.2.2.2.1 r2 (upd (y.2.2.2.1 r2) (q.1 (srR r2) - 1) x) r2 = upd (y.2.2.2.1 r2) (q.1 (srR r2) - 1) x from if_pos rfl, e4]
      by_cases c2 : k = q.1 (srR r2) - 1
      · rw [if_pos c2]; exact ⟨if_pos c2, hg⟩
      · rw [if_neg c2, show upd (y.2.2.2.1 r2) (q.1 (srR r2) - 1) x k = y.2.2.2.1 r2 k from if_neg c2]
        exact d r2 hr2 k hk (fun _ => by omega)
    · rw [show updR y.2.2.2.1 r (upd (y.2.2.2.1 r) (q.1 (srR r) - 1) x) r2 = y.2.2.2.1 r2 from if_neg c1, e3 _ (fun z => c1 (m5 r2 hr2 z)) (mr_ok r2 hr2).1]
      exact d r2 hr2 k hk (fun z => hx ((if_neg c1).trans z))
  · rw [e1] at hk hx
    have n11 : ¬ (11 = r) := by omega
    rw [e3 16 (Ne.symm m2) (by decide)]
    by_cases c1 : r = 9
    · have hx2 := hx ((if_neg n11).trans (h11 c1))
      have h17 : mrR r = 17 := m4.mpr c1
      have h9 := e4 k
      have hs4 : srR r = 4 := by rw [c1]; rfl
      rw [h17, hs4, if_neg (by omega)] at h9
      rw [h9]; exact e k hk (fun _ => hx2)
    · rw [e3 17 (fun z => c1 (m4.mp z.symm)) (by decide)]
      exact e k hk (fun z => hx ((if_neg n11).trans z))
  · rw [e1] at hk hx
    have n12 : ¬ (12 = r) := by omega
    rw [e3 20 (Ne.symm m3) (by decide)]
    exact f k hk (fun z => hx ((if_neg n12).trans z))
theorem qRow_rm {r k i : Nat} {x : Int32} : (∀ j, j ≠ r → j ≠ 3 → (qRow (qMean q k x) r i x).2.2.1 j = q.2.2.1 j) ∧ (r ≠ 3 → ∀ m, (qRow (qMean q k x) r i x).2.2.1 r m = if m = i then x else q.2.2.1 r m) := by
  refine ⟨fun j h1 h2 => (qRow_r h1).trans (qMean_r h2), fun h3 m => ?_⟩
  show updR (qMean q k x).2.2.1 r (upd ((qMean q k x).2.2.1 r) i x) r m = _
  rw [show updR (qMean q k x).2.2.1 r (upd ((qMean q k x).2.2.1 r) i x) r = upd ((qMean q k x).2.2.1 r) i x from if_pos rfl, qMean_r h3]
  rfl
/-- the same, with what the line says of it -/
theorem rl_setM {r k : Nat} {x : Int32} (h : Rl T V M K X t y q) (hr : r < 11) (hc : 1 ≤ q.1 (srR r)) (hX : X r = true) (h11 : r = 9 → X 11 = true) (hg : RgR r x q.1) : Rl T V M K (xr X r) t (yRow y r (cpR r) (nI (y.2.1 (srR r)) - 1) x) (qRow (qMean q k x) (mrR r) (q.1 (srR r) - 1) x) :=
  rl_set h hr hc hX h11 hg rfl rfl (fun i a b => qRow_rm.1 i a b) (qRow_rm.2 (mr_ok r hr).1)
theorem rl_kind (h : Rl T V M K X t y q) (hk : q.2.2.1 16 (q.1 4 - 1) = bI (decide (q.2.2.1 17 (q.1 4 - 1) = (-1)))) : Rl T V M K (xr X 11) t y q := by
  obtain ⟨a, b, c, d, e, f⟩ := h
  refine ⟨a, b, c, fun r hr k hk hx => d r hr k hk (fun z => hx ((if_neg (by omega)).trans z)), fun k hk2 hx => ?_, fun k hk hx => f k hk (fun z => hx ((if_neg (by omega)).trans z))⟩
  by_cases c1 : k = q.1 4 - 1
  · rw [c1]; exact hk
  · exact e k hk2 (fun _ => by omega)
theorem nf_ff (hC : Cx T V sm num K sq sv e A M) {k : Nat} {nf : Nat → Int64} {nm : Nat → Nat} (hk : k < 400) (h2 : T k = 2) : ∀ m, (∀ i, i < m → nm i < 400 ∧ T (nm i) = 2 ∧ nf i = V (nm i)) → nfind nf (V k) m = ffind (fun i => sm (nm i) k) m := by
  intro m
  induction m with
  | zero => intro _; rfl
  | succ m ih =>
    intro h
    have h1 := ih (fun i hi => h i (by omega))
    obtain ⟨a, b, c⟩ := h m (by omega)
    have e1 := hC.2.1 _ _ a hk b h2
    simp only [nfind, ffind]
    rw [h1]
    cases ffind (fun i => sm (nm i) k) m with
    | some x => rfl
    | none =>
      show (if nf m = V k then some m else none) = (if sm (nm m) k = true then some m else none)
      by_cases c2 : nf m = V k
      · rw [if_pos c2, if_pos (by rw [e1]; exact decide_eq_true (c.symm.trans c2))]
      · rw [if_neg c2, if_neg (by rw [e1]; exact fun z => c2 (c.trans (of_decide_eq_true z)))]
theorem tsg_of (hC : Cx T V sm num K sq sv e A M) (h : y.1.1 = nI t) (ht : t ≤ K) : tSg sq y.1.1 = T t := by rw [h]; exact hC.1.1.2.1 t ht
theorem tvl_of (hC : Cx T V sm num K sq sv e A M) (h : y.1.1 = nI t) (ht : t ≤ K) : tVl sv y.1.1 = V t := by rw [h]; exact hC.1.2 t ht
theorem rl_ff (hC : Cx T V sm num K sq sv e A M) (h : Rl T V M K X t y q) (ht : t < K) (h2 : T t = 2) {s : Nat} (hs : s < 4) : nfind (y.2.2.1 s) (V t) (y.2.1 s) = ffind (fun i => sm (q.2.1 s i) t) (q.1 s) := by
  have hK := hC.1.1.1
  rw [h.2.1.1 s (by omega)]
  exact nf_ff hC (by omega) h2 _ (fun i hi => by obtain ⟨a, b, c⟩ := h.2.2.1 s hs i hi; exact ⟨by omega, b, c⟩)
/-! errors that are noted stay -/
theorem kpl_skp {s : Nat} : KpL (lSkp sq s) := fun y h => kp_skip y.1 h
theorem kpl_knw {s : Nat} : KpL (lKnw sq sv s) := fun y h => kp_known y.1 h
theorem kpl_and {r : Bool × LSt} {y : LSt} (h1 : Kp y.1 r.2.1) (hF : KpL F) (hy : ¬ y.1.2.2.1 = 0) : Kp y.1 (lAnd r F).2.1 := by
  unfold lAnd; split
  · exact h1.tr (hF _ (h1.ne hy))
  · exact h1
theorem kpl_andF (hE : KpL E) (hF : KpL F) : KpL (fun y => lAnd (E y) F) := fun y h => kpl_and (hE y h) hF h
theorem kpl_nam {j nn : Nat} : KpL (lNam sq sv j nn) := by
  intro y h
  show Kp y.1 (nNew sq sv (y.2.1 j) nn (y.2.2.1 j) y.1).2.1
  unfold nNew
  split
  · split
    · split
      · exact ⟨rfl, rfl⟩
      · rw [kp_note (q := eStep y.1) h]; exact ⟨rfl, rfl⟩
    · rw [kp_note (q := eStep y.1) h]; exact ⟨rfl, rfl⟩
  · exact ⟨rfl, rfl⟩
theorem kpl_num {key j rn k : Nat} {lo hi : Int32} : KpL (lNum sq sv key lo hi j rn k) := by
  intro y h
  show Kp y.1 (nNum sq sv key lo hi (y.2.1 k) rn (y.2.2.2.1 j) y.1).2.1
  unfold nNum
  split
  · split
    · show Kp y.1 (eStep (eRng lo hi _ (eStep y.1)))
      unfold eRng; split
      · rw [kp_note (q := eStep y.1) h]; exact ⟨rfl, rfl⟩
      · exact ⟨rfl, rfl⟩
    · exact ⟨rfl, rfl⟩
  · exact ⟨rfl, rfl⟩
theorem kpl_no (h : ¬ y.1.2.2.1 = 0) : Kp y.1 (lNo y).1 := by
  unfold lNo; split
  · exact ⟨rfl, rfl⟩
  · rw [kp_note h]; exact ⟨rfl, rfl⟩
theorem kpl_opt {s : Nat} {y0 : LSt} (h0 : Kp y.1 y0.1) (hF : KpL F) (h : ¬ y.1.2.2.1 = 0) : Kp y.1 (lOpt (lSkp sq s y0) F).2.1 := by
  have h1 := h0.tr (kpl_skp (sq := sq) (s := s) y0 (h0.ne h))
  unfold lOpt; split
  · exact h1.tr (hF _ (h1.ne h))
  · exact h1
theorem kpl_lik : KpL (lLik sq sv) := fun y h => kpl_opt (y0 := yE y (eFd (-1) y.1)) ⟨rfl, rfl⟩ kpl_knw h
theorem kpl_tst : KpL (lTst sq sv) := fun y h => (kp_L (sq := sq) (sv := sv) (tn := y.2.1) (tc := y.2.2.1) 9).2.2.2 y.1 h
theorem kpl_cond : KpL (lCond sq sv) := fun y h => kpl_opt (y0 := yTf y (nI (y.2.1 4) - 1) (kc y.1)) ⟨rfl, rfl⟩ kpl_tst h
theorem kpl_th {r : Bool × LSt} {f : LSt → LSt} (h : Kp y.1 r.2.1) (hf : ∀ z, (f z).1 = z.1) : Kp y.1 (lThen r f).2.1 := by
  show Kp y.1 (f r.2).1; rw [hf]; exact h
theorem kpl_carv : KpL (lCarv sq sv) := by
  intro y h
  have a := kpl_no h
  have b := a.tr (kpl_knw (sq := sq) (sv := sv) (s := 0) _ (a.ne h))
  unfold lCarv
  exact kpl_th (kpl_and (kpl_th (kpl_and (kpl_th b (fun _ => rfl)) (kpl_andF kpl_skp kpl_knw) h) (fun _ => rfl)) (kpl_andF kpl_skp kpl_knw) h) (fun _ => rfl)
theorem kpl_oil : KpL (lOil sq sv) := by
  intro y h
  have a := kpl_no h
  exact a.tr (kpl_knw (sq := sq) (sv := sv) (s := 2) _ (a.ne h))
theorem kpl_line : KpL (lLine sq sv) := by
  intro y h
  unfold lLine
  split
  · exact kpl_and (kpl_nam y h) (kpl_andF kpl_num kpl_num) h
  split
  · exact kpl_and (kpl_nam y h) (kpl_andF kpl_num (kpl_andF kpl_num kpl_lik)) h
  split
  · exact kpl_and (kpl_nam y h) kpl_num h
  split
  · exact kpl_and (kpl_nam y h) (kpl_andF kpl_num kpl_num) h
  split
  · exact kpl_and (kpl_carv y h) kpl_cond h
  split
  · exact kpl_and (kpl_oil y h) kpl_cond h
  · exact ⟨rfl, rfl⟩
theorem kpl_run : ∀ (m : Nat) (b : Bool) (y : LSt), ¬ y.1.2.2.1 = 0 → Kp y.1 (lRun sq sv m b y).2.1 := by
  intro m
  induction m with
  | zero => intro b y h; exact ⟨rfl, rfl⟩
  | succ m ih =>
    intro b y h
    show Kp y.1 (if b = true ∧ ¬ tSg sq y.1.1 = 0 then lRun sq sv m (lAnd (lLine sq sv y) (lSkp sq 9)).1 (lAnd (lLine sq sv y) (lSkp sq 9)).2 else (b, y)).2.1
    split
    · have a := kpl_and (kpl_line (sq := sq) (sv := sv) y h) (kpl_skp (sq := sq) (s := 9)) h
      exact a.tr (ih _ _ (a.ne h))
    · exact ⟨rfl, rfl⟩
end
