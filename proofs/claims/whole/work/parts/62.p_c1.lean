/-! the class's reader goes as the reference's recogniser: T the signs of the tokens, K the place of the end -/
def TKC (T : Nat → Nat) (K : Nat) (sq : Nat → Nat) : Prop := K ≤ 400 ∧ (∀ t, t ≤ K → tSg sq (nI t) = T t) ∧ (∀ j, T j < 49) ∧ (∀ j, j < K → T j ≠ 0 ∧ T j ≠ 1) ∧ (T K = 0 ∨ T K = 1)
theorem tkc_s {T : Nat → Nat} {K t : Nat} {sq : Nat → Nat} (hT : TKC T K sq) (ht : t ≤ K) (h : 2 ≤ T t) : t + 1 ≤ K := by
  rcases Nat.lt_or_ge t K with q | q
  · exact q
  · have e : t = K := by omega
    subst e
    have := hT.2.2.2.2; omega
/-- the class's r goes as the reference's p -/
def CtR (K : Nat) (t : Nat) (r : Bool × ES) (p : Bool × Nat) : Prop := r.1 = p.1 ∧ r.2.1 = nI p.2 ∧ t ≤ p.2 ∧ p.2 ≤ K
def Ctl (K : Nat) (E : EF) (R : RF) : Prop := ∀ t q, t ≤ K → q.1 = nI t → CtR K t (E q) (R t)
theorem mS_v : ∀ s, s < 49 → ((mS s = 11 ∨ mS s = 12 ∨ mS s = 13 ∨ mS s = 14) ↔ (s = 3 ∨ s = 36 ∨ s = 37 ∨ s = 41)) ∧ ((mS s = 15 ∨ mS s = 16 ∨ mS s = 17) ↔ (38 ≤ s ∧ s ≤ 40)) ∧ (mS s = 18 ↔ s = 12) ∧ (mS s = 19 ↔ s = 5) ∧ ((mS s = 20 ∨ mS s = 21) ↔ (47 ≤ s ∧ s ≤ 48)) := by decide +kernel
theorem mS_g : ∀ s, s < 49 → (mS s = 7 ↔ s = 44) ∧ (mS s = 8 ↔ s = 7) ∧ (mS s = 9 ↔ s = 42) ∧ (mS s = 10 ↔ s = 43) := by decide +kernel
theorem mS_l : ∀ s, s < 49 → (mS s = 1 ↔ s = 20) ∧ (mS s = 2 ↔ s = 23) ∧ (mS s = 3 ↔ s = 27) ∧ (mS s = 4 ↔ s = 29) ∧ (mS s = 5 ↔ s = 31) ∧ (mS s = 6 ↔ s = 34) := by decide +kernel
section
variable {T : Nat → Nat} {K n t : Nat} {sq : Nat → Nat} {sv : Nat → Int64} {tn : Nat → Nat} {tc : Nat → Nat → Int64} {E F lv ls lg lt : EF} {R G : RF} {q : ES}
theorem ctr_of {r : Bool × ES} {p : Bool × Nat} {b : Bool} {x : ES} {w : Nat} (hr : r = (b, x)) (hp : p = (b, w)) (hx : x.1 = nI w) (h1 : t ≤ w) (h2 : w ≤ K) : CtR K t r p := by
  subst hr; subst hp; exact ⟨rfl, hx, h1, h2⟩
theorem ctr_le {r : Bool × ES} {p : Bool × Nat} {a : Nat} (h : CtR K t r p) (ha : a ≤ t) : CtR K a r p := ⟨h.1, h.2.1, Nat.le_trans ha h.2.2.1, h.2.2.2⟩
theorem ctl_skip (hT : TKC T K sq) {s : Nat} (hs : 2 ≤ s) : Ctl K (eSkip sq s) (rEat T s) := by
  intro t q ht hq
  have e : tSg sq q.1 = T t := by rw [hq]; exact hT.2.1 t ht
  by_cases c : T t = s
  · exact ctr_of (eSkip_a (e.trans c)) (rEat_a c) (by show q.1 + 1 = _; rw [hq, nI_1]) (by omega) (tkc_s hT ht (by omega))
  · exact ctr_of (eSkip_b (by rw [e]; exact c)) (rEat_b c) hq (Nat.le_refl _) ht
theorem eKnown_g {nk : Nat} {nf : Nat → Int64} (h : tSg sq q.1 = 2) : (eKnown sq sv nk nf q).1 = true ∧ (eKnown sq sv nk nf q).2.1 = q.1 + 1 := by
  unfold eKnown; rw [if_pos h]
  refine ⟨rfl, ?_⟩
  show (if _ then _ else _ : ES).1 + 1 = _
  split
  · rw [eNote_f]; rfl
  · rfl
theorem ctl_known (hT : TKC T K sq) {nk : Nat} {nf : Nat → Int64} : Ctl K (eKnown sq sv nk nf) (rEat T 2) := by
  intro t q ht hq
  have e : tSg sq q.1 = T t := by rw [hq]; exact hT.2.1 t ht
  by_cases c : T t = 2
  · have h := eKnown_g (sv := sv) (nk := nk) (nf := nf) (e.trans c)
    rw [rEat_a c]
    exact ⟨h.1, by rw [h.2, hq, nI_1], by show t ≤ t + 1; omega, tkc_s hT ht (by omega)⟩
  · exact ctr_of (eKnown_a (by rw [e]; exact c)) (rEat_b c) hq (Nat.le_refl _) ht
theorem ctl_then (h1 : Ctl K E R) (h2 : Ctl K F G) : Ctl K (fun q => eThen (E q) F) (fun t => rThen (R t) G) := by
  intro t q ht hq
  obtain ⟨a, b, c, d⟩ := h1 t q ht hq
  show CtR K t (eThen (E q) F) (rThen (R t) G)
  cases hr : (R t).1 with
  | true =>
    rw [eThen_t (a.trans hr), rThen_t hr]
    exact ctr_le (h2 _ _ d b) c
  | false =>
    rw [eThen_f (a.trans hr), rThen_f hr]
    exact ⟨rfl, b, c, d⟩
theorem ctl_add {g : ES → ES} (hg : ∀ z, (g z).1 = z.1) (h : Ctl K E R) : Ctl K (fun q => ((E q).1, g (E q).2)) R := by
  intro t q ht hq
  obtain ⟨a, b, c, d⟩ := h t q ht hq
  exact ⟨a, (hg _).trans b, c, d⟩
theorem ctl_step (h : Ctl K E R) (ht : t + 1 ≤ K) (hq : q.1 = nI t) : CtR K t (E (eStep q)) (R (t + 1)) :=
  ctr_le (h (t + 1) (eStep q) ht (by show q.1 + 1 = _; rw [hq, nI_1])) (by omega)
/-- behind one body of a loop -/
theorem ctl_lpz (hT : TKC T K sq) {a b : Nat} (ha : 2 ≤ a) {cond : Nat → Bool} {kd : Nat → Nat} (hc : ∀ s, s < 49 → (cond s = true ↔ a ≤ s ∧ s ≤ b)) (hb : Ctl K E R) : ∀ (m w : Nat) (z : ES), w ≤ K → K ≤ w + m → z.1 = nI w → CtR K w (eLp sq cond kd E m true z) (rRe T a b R m w) := by
  intro m
  induction m with
  | zero =>
    intro w z hw hm hz
    have e : w = K := by omega
    have h0 : ¬ (a ≤ T w ∧ T w ≤ b) := by rw [e]; have := hT.2.2.2.2; omega
    exact ctr_of rfl (rRe_x h0) hz (Nat.le_refl _) hw
  | succ m ih =>
    intro w z hw hm hz
    have e : tSg sq z.1 = T w := by rw [hz]; exact hT.2.1 w hw
    by_cases c : a ≤ T w ∧ T w ≤ b
    · have hw1 := tkc_s hT hw (by omega)
      have h1 := ctl_step hb hw1 hz
      have hce : cond (tSg sq z.1) = true := by rw [e]; exact (hc _ (hT.2.2.1 w)).mpr c
      have e1 : eLp sq cond kd E (m + 1) true z = eLp sq cond kd E m (E (eStep z)).1 (eAdd (kd (tSg sq z.1)) 0 0 (E (eStep z)).2) := if_pos ⟨rfl, hce⟩
      have e2 : rRe T a b R (m + 1) w = rDo T a b R (m + 1) (w + 1) := if_pos c
      rw [e1, e2]
      obtain ⟨x1, x2, x3, x4⟩ := h1
      cases hr : (R (w + 1)).1 with
      | true =>
        rw [x1.trans hr, show rDo T a b R (m + 1) (w + 1) = rRe T a b R m (R (w + 1)).2 from if_pos hr]
        exact ctr_le (ih _ _ x4 (by have h9 := (hb (w + 1) (eStep z) hw1 (by show z.1 + 1 = _; rw [hz, nI_1])).2.2.1; omega) x2) x3
      | false =>
        rw [x1.trans hr, eLp_b rfl, show rDo T a b R (m + 1) (w + 1) = (false, (R (w + 1)).2) from if_neg (by rw [hr]; decide)]
        exact ⟨rfl, x2, x3, x4⟩
    · have hce : cond (tSg sq z.1) = false := by
        cases h9 : cond (tSg sq z.1) with
        | false => rfl
        | true => rw [e] at h9; exact absurd ((hc _ (hT.2.2.1 w)).mp h9) c
      exact ctr_of (eLp_c hce) (rRe_x c) hz (Nat.le_refl _) hw
theorem ctl_do (hT : TKC T K sq) {a b : Nat} (ha : 2 ≤ a) {cond : Nat → Bool} {kd : Nat → Nat} (hc : ∀ s, s < 49 → (cond s = true ↔ a ≤ s ∧ s ≤ b)) (hb : Ctl K E R) : Ctl K (fun q => eLp sq cond kd E 400 (E q).1 (E q).2) (rDo T a b R 401) := by
  intro t q ht hq
  obtain ⟨x1, x2, x3, x4⟩ := hb t q ht hq
  show CtR K t (eLp sq cond kd E 400 (E q).1 (E q).2) (rDo T a b R 401 t)
  cases hr : (R t).1 with
  | true =>
    rw [x1.trans hr, show rDo T a b R 401 t = rRe T a b R 400 (R t).2 from if_pos hr]
    exact ctr_le (ctl_lpz hT ha hc hb 400 _ _ x4 (by have := hT.1; omega) x2) x3
  | false =>
    rw [x1.trans hr, eLp_b rfl, show rDo T a b R 401 t = (false, (R t).2) from if_neg (by rw [hr]; decide)]
    exact ⟨rfl, x2, x3, x4⟩
theorem ctl_deep {d : Bool} (h : Ctl K F G) (ht : t ≤ K) (hq : q.1 = nI t) (h1 : t + 1 ≤ K) : CtR K t (eThen (eDeep d q) F) (rDeep d G t) := by
  cases d with
  | true => rw [eDp_t]; exact ctl_step h h1 hq
  | false => exact ⟨rfl, hq, Nat.le_refl _, ht⟩
theorem ctl_ch2 (hT : TKC T K sq) (h : Ctl K ls R) : Ctl K (fun q => eCh2 sq ls (ls q)) (rCh2 T R) := by
  have e : (fun q => eCh2 sq ls (ls q)) = fun q => eThen (ls q) (fun q => eThen (eSkip sq 10 q) (fun q => eThen (ls q) (eSkip sq 6))) := rfl
  rw [e]
  exact ctl_then h (ctl_then (ctl_skip hT (by omega)) (ctl_then h (ctl_skip hT (by omega))))
theorem ctl_valF (hT : TKC T K sq) {d : Bool} (hv : Ctl K lv R) (hs : Ctl K ls G) : Ctl K (eValF sq sv tn tc d lv ls) (rValF T d R G) := by
  intro t q ht hq
  have e : tSg sq q.1 = T t := by rw [hq]; exact hT.2.1 t ht
  obtain ⟨m1, m2, m3, m4, m5⟩ := mS_v (T t) (hT.2.2.1 t)
  rw [← e] at m1 m2 m3 m4 m5
  have hst : 2 ≤ T t → t + 1 ≤ K := tkc_s hT ht
  by_cases c1 : T t = 12
  · rw [eVal_3 (m3.mpr (e.trans c1)), show rValF T d R G t = rDeep d R t from if_pos c1]
    exact ctl_deep (ctl_add (g := eAdd 4 0 0) (fun _ => rfl) hv |> fun h => by
      intro t q ht hq
      have h2 := h t q ht hq
      obtain ⟨a, b, c9, d9⟩ := hv t q ht hq
      show CtR K t (eThen (lv q) (fun q => (true, eAdd 4 0 0 q))) (R t)
      cases hr : (R t).1 with
      | true => rw [eThen_t (a.trans hr)]; exact ⟨hr.symm, b, c9, d9⟩
      | false => rw [eThen_f (a.trans hr)]; exact ⟨hr.symm, b, c9, d9⟩) ht hq (hst (by omega))
  by_cases c2 : T t = 3 ∨ T t = 36 ∨ T t = 37 ∨ T t = 41
  · rw [eVal_1 (m1.mpr (by rw [e]; exact c2)), rValF_2 c2]
    exact ⟨rfl, by show q.1 + 1 = _; rw [hq, nI_1], by show t ≤ t + 1; omega, hst (by omega)⟩
  by_cases c3 : 38 ≤ T t ∧ T t ≤ 40
  · rw [eVal_2 (m2.mpr (by rw [e]; exact c3)), rValF_3 c3]
    exact ctl_step (ctl_add (g := fun z => eAdd (tSg sq q.1) z.2.1 0 z) (fun _ => rfl) (ctl_known hT)) (hst (by omega)) hq
  by_cases c4 : 47 ≤ T t ∧ T t ≤ 48
  · have h1 := hst (by omega)
    have hq1 : (eStep q).1 = nI (t + 1) := by show q.1 + 1 = _; rw [hq, nI_1]
    have e1 : tSg sq (eStep q).1 = T (t + 1) := by rw [hq1]; exact hT.2.1 _ h1
    rw [eVal_5 (m5.mpr (by rw [e]; exact c4)), rValF_4 c4]
    by_cases c5 : T (t + 1) = 5
    · rw [if_pos c5]
      cases d with
      | true =>
        rw [eChoF_c (e1.trans c5)]
        exact ctr_le (ctl_step (ctl_add (g := eAdd (tSg sq q.1) 0 0) (fun _ => rfl) (ctl_ch2 hT hs)) (tkc_s hT h1 (by omega)) hq1) (by omega)
      | false => exact ctr_of eChoF_b rfl hq1 (by omega) h1
    · rw [if_neg c5]; exact ctr_of (eChoF_a (by rw [e1]; exact c5)) rfl hq1 (by omega) h1
  by_cases c6 : T t = 5
  · rw [eVal_4 (m4.mpr (e.trans c6)), rValF_5 c6]
    exact ctl_deep (ctl_then hs (ctl_skip hT (by omega))) ht hq (hst (by omega))
  · rw [rValF_6 c1 (by omega) (by omega) (by omega) c3 c4 c6]
    have n1 := fun h => c2 (by rw [← e]; exact m1.mp h)
    have n2 := fun h => c3 (by rw [← e]; exact m2.mp h)
    have n5 := fun h => c4 (by rw [← e]; exact m5.mp h)
    refine ctr_of (show eValF sq sv tn tc d lv ls q = (false, q) from ?_) rfl hq (Nat.le_refl _) ht
    unfold eValF
    rw [if_neg n1, if_neg n2, if_neg (fun h => c1 (by rw [← e]; exact m3.mp h)), if_neg (fun h => c6 (by rw [← e]; exact m4.mp h)), if_neg n5]
theorem ctl_bear (hT : TKC T K sq) (ht : t ≤ K) (hq : q.1 = nI t) (h1 : t + 1 ≤ K) : CtR K t (eBear sq sv tn tc q) (rThen (rEat T 2 (t + 1)) (rEat T 2)) := by
  obtain ⟨a, b, c, d⟩ := ctl_step (ctl_known (sv := sv) (nk := tn 2) (nf := tc 2) hT) h1 hq
  cases hr : (rEat T 2 (t + 1)).1 with
  | true =>
    rw [eBear_b (a.trans hr), rThen_t hr]
    exact ctr_le (ctl_add (g := eAdd 42 _ _) (fun _ => rfl) (ctl_known (sv := sv) (nk := tn 0) (nf := tc 0) hT) _ _ d b) c
  | false =>
    rw [eBear_a (a.trans hr), rThen_f hr]
    exact ⟨rfl, b, c, d⟩
theorem ctl_cmp (hT : TKC T K sq) (h : Ctl K ls R) : Ctl K (eCmpF sq ls) (fun t => rThen (rIn T 15 19 t) R) := by
  intro t q ht hq
  have e : tSg sq q.1 = T t := by rw [hq]; exact hT.2.1 t ht
  show CtR K t (eCmpF sq ls q) (rThen (rIn T 15 19 t) R)
  by_cases c : 15 ≤ T t ∧ T t ≤ 19
  · rw [eCmp_t (decide_eq_true (by rw [e]; exact c)), rIn_a c, rThen_t rfl]
    exact ctl_step (ctl_add (g := eAdd (tSg sq q.1) 0 0) (fun _ => rfl) h) (tkc_s hT ht (by omega)) hq
  · rw [eCmp_f (decide_eq_false (by rw [e]; exact c)), rIn_b c, rThen_f rfl]
    exact ⟨rfl, hq, Nat.le_refl _, ht⟩
theorem ctl_sinF (hT : TKC T K sq) {d : Bool} {RG RT RS9 : RF} (hg : Ctl K lg RG) (ht9 : Ctl K lt RT) (hs : Ctl K ls RS9) : Ctl K (eSinF sq sv tn tc d lg lt ls) (rSinF T d RG RT RS9) := by
  intro t q ht hq
  have e : tSg sq q.1 = T t := by rw [hq]; exact hT.2.1 t ht
  obtain ⟨m1, m2, m3, m4⟩ := mS_g (T t) (hT.2.2.1 t)
  rw [← e] at m1 m2 m3 m4
  have hst : 2 ≤ T t → t + 1 ≤ K := tkc_s hT ht
  by_cases c1 : T t = 44
  · rw [eSin_1 (m1.mpr (e.trans c1)), show rSinF T d RG RT RS9 t = rDeep d RG t from if_pos c1]
    exact ctl_deep (by
      intro t q ht hq
      obtain ⟨a, b, c9, d9⟩ := hg t q ht hq
      show CtR K t (eThen (lg q) (fun q => (true, eAdd 44 0 0 q))) (RG t)
      cases hr : (RG t).1 with
      | true => rw [eThen_t (a.trans hr)]; exact ⟨hr.symm, b, c9, d9⟩
      | false => rw [eThen_f (a.trans hr)]; exact ⟨hr.symm, b, c9, d9⟩) ht hq (hst (by omega))
  by_cases c2 : T t = 7
  · rw [eSin_2 (m2.mpr (e.trans c2)), show rSinF T d RG RT RS9 t = rDeep d (fun t => rThen (RT t) (rEat T 8)) t by unfold rSinF; rw [if_neg (by omega), if_pos c2]]
    exact ctl_deep (ctl_then ht9 (ctl_skip hT (by omega))) ht hq (hst (by omega))
  by_cases c3 : T t = 42
  · rw [eSin_3 (m3.mpr (e.trans c3)), show rSinF T d RG RT RS9 t = rThen (rEat T 2 (t + 1)) (rEat T 2) by unfold rSinF; rw [if_neg (by omega), if_neg (by omega), if_pos c3]]
    exact ctl_bear hT ht hq (hst (by omega))
  by_cases c4 : T t = 43
  · rw [eSin_4 (m4.mpr (e.trans c4)), show rSinF T d RG RT RS9 t = rEat T 2 (t + 1) by unfold rSinF; rw [if_neg (by omega), if_neg (by omega), if_neg (by omega), if_pos c4]]
    exact ctl_step (ctl_add (g := fun z => eAdd 43 z.2.1 0 z) (fun _ => rfl) (ctl_known hT)) (hst (by omega)) hq
  · rw [eSin_5 (fun h => c1 (by rw [← e]; exact m1.mp h)) (fun h => c2 (by rw [← e]; exact m2.mp h)) (fun h => c3 (by rw [← e]; exact m3.mp h)) (fun h => c4 (by rw [← e]; exact m4.mp h)),
      show rSinF T d RG RT RS9 t = rThen (RS9 t) (fun t => rThen (rIn T 15 19 t) RS9) by unfold rSinF; rw [if_neg c1, if_neg c2, if_neg c3, if_neg c4]]
    exact ctl_then hs (ctl_cmp hT hs) t q ht hq
theorem cTD : ∀ s, s < 49 → (isTD s = true ↔ 13 ≤ s ∧ s ≤ 14) := by decide +kernel
theorem cPM : ∀ s, s < 49 → (isPM s = true ↔ 11 ≤ s ∧ s ≤ 12) := by decide +kernel
theorem cAn : ∀ s, s < 49 → (isAn s = true ↔ 45 ≤ s ∧ s ≤ 45) := by decide +kernel
theorem cOr : ∀ s, s < 49 → (isOr s = true ↔ 46 ≤ s ∧ s ≤ 46) := by decide +kernel
theorem ctl_mk (hT : TKC T K sq) {d : Bool} {lo : EF × EF × EF × EF} {ro : RF × RF × RF × RF} (h1 : Ctl K lo.1 ro.1) (h2 : Ctl K lo.2.1 ro.2.1) (h3 : Ctl K lo.2.2.1 ro.2.2.1) (h4 : Ctl K lo.2.2.2 ro.2.2.2) :
    Ctl K (eMk sq sv tn tc d lo).1 (rMk T d ro).1 ∧ Ctl K (eMk sq sv tn tc d lo).2.1 (rMk T d ro).2.1 ∧ Ctl K (eMk sq sv tn tc d lo).2.2.1 (rMk T d ro).2.2.1 ∧ Ctl K (eMk sq sv tn tc d lo).2.2.2 (rMk T d ro).2.2.2 := by
  have a1 := ctl_valF (sv := sv) (tn := tn) (tc := tc) (d := d) hT h1 h2
  have a2 := ctl_do hT (kd := fun s => s) (by omega) cPM (ctl_do hT (kd := fun s => s) (by omega) cTD a1)
  have a3 := ctl_sinF (sv := sv) (tn := tn) (tc := tc) (d := d) hT h3 h4 a2
  exact ⟨a1, a2, a3, ctl_do hT (kd := fun _ => 46) (by omega) cOr (ctl_do hT (kd := fun _ => 45) (by omega) cAn a3)⟩
theorem ctl_no : Ctl K eNo rNo := fun t q ht hq => ⟨rfl, hq, Nat.le_refl _, ht⟩
theorem ctl_L (hT : TKC T K sq) : ∀ n, Ctl K (eL sq sv tn tc n).1 (rL T n).1 ∧ Ctl K (eL sq sv tn tc n).2.1 (rL T n).2.1 ∧ Ctl K (eL sq sv tn tc n).2.2.1 (rL T n).2.2.1 ∧ Ctl K (eL sq sv tn tc n).2.2.2 (rL T n).2.2.2 := by
  intro n
  induction n with
  | zero => exact ⟨ctl_no, ctl_no, ctl_no, ctl_no⟩
  | succ n ih => exact ctl_mk hT ih.1 ih.2.1 ih.2.2.1 ih.2.2.2
theorem ctl_T (hT : TKC T K sq) : Ctl K (eT sq sv tn tc n) (rTes T n) := (ctl_L hT (n + 1)).2.2.2
end
