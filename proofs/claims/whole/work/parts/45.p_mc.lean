/-! words by their codes: two words with one code are the same; the reference's kinds are the class's signs -/
def dgK (k : Nat) : Nat := if 57 < k then k - 86 else k - 47
def vldK (k : Nat) : Prop := (48 ≤ k ∧ k ≤ 57) ∨ (97 ≤ k ∧ k ≤ 122)
theorem dgK_b {k : Nat} (h : vldK k) : 1 ≤ dgK k ∧ dgK k ≤ 36 := by
  unfold dgK; rcases h with h | h
  · rw [if_neg (by omega)]; omega
  · rw [if_pos (by omega)]; omega
theorem dgK_inj {a b : Nat} (ha : vldK a) (hb : vldK b) (h : dgK a = dgK b) : a = b := by
  unfold dgK at h
  rcases ha with ha | ha <;> rcases hb with hb | hb
  · rw [if_neg (by omega), if_neg (by omega)] at h; omega
  · rw [if_neg (by omega), if_pos (by omega)] at h; omega
  · rw [if_pos (by omega), if_neg (by omega)] at h; omega
  · rw [if_pos (by omega), if_pos (by omega)] at h; omega
theorem vld_k : ∀ k, k < 256 → (isL (nI k) || isD (nI k)) = true → (48 ≤ k ∧ k ≤ 57) ∨ (97 ≤ k ∧ k ≤ 122) := by decide +kernel
theorem lgr_k : ∀ k, k < 256 → (isL (nI k) || isD (nI k)) = true → (if (57 : Int32) < nI k then nI k - 97 + 11 else nI k - 48 + 1).toInt64 = Int64.ofNat (dgK k) := by decide +kernel
/-- a word's code as a number: m bytes from p on -/
def acN (f : Nat → Nat) (p : Nat) : Nat → Nat
  | 0 => 0
  | m + 1 => acN f p m * 37 + dgK (f (p + m))
def acF (f : Nat → Nat) : Nat → Nat → Nat → Nat
  | 0, _, c => c
  | m + 1, p, c => acF f m (p + 1) (c * 37 + dgK (f p))
theorem acF_s (f : Nat → Nat) : ∀ (m p c : Nat), acF f (m + 1) p c = acF f m p c * 37 + dgK (f (p + m)) := by
  intro m
  induction m with
  | zero => intro p c; rfl
  | succ m ih =>
    intro p c
    show acF f (m + 1) (p + 1) (c * 37 + dgK (f p)) = acF f m (p + 1) (c * 37 + dgK (f p)) * 37 + dgK (f (p + (m + 1)))
    rw [ih (p + 1) (c * 37 + dgK (f p)), show p + 1 + m = p + (m + 1) by omega]
theorem acF_N (f : Nat → Nat) (p : Nat) : ∀ m, acF f m p 0 = acN f p m := by
  intro m
  induction m with
  | zero => rfl
  | succ m ih => rw [acF_s, ih]; rfl
/-- the bytes of a tape -/
def byO (F : Nat → Int32) (f : Nat → Nat) : Prop := ∀ j, F j = nI (f j) ∧ f j < 256
theorem wdF_c {F : Nat → Int32} {f : Nat → Nat} (hF : byO F f) : ∀ (k p c : Nat), (wdF F k p (Int64.ofNat c)).2 = Int64.ofNat (acF f ((wdF F k p (Int64.ofNat c)).1 - p) p c) ∧ (∀ j, j < (wdF F k p (Int64.ofNat c)).1 - p → vldK (f (p + j))) := by
  intro k
  induction k with
  | zero =>
    intro p c
    show Int64.ofNat c = Int64.ofNat (acF f (p - p) p c) ∧ ∀ j, j < p - p → vldK (f (p + j))
    rw [Nat.sub_self]; exact ⟨rfl, fun j h => absurd h (Nat.not_lt_zero j)⟩
  | succ k ih =>
    intro p c
    by_cases hb : (isL (F p) || isD (F p)) = true
    · have e : wdF F (k + 1) p (Int64.ofNat c) = wdF F k (p + 1) (Int64.ofNat (c * 37 + dgK (f p))) := by
        show (if (isL (F p) || isD (F p)) = true then _ else _) = _
        rw [if_pos hb]
        congr 1
        unfold lgr
        rw [(hF p).1] at hb ⊢
        rw [lgr_k _ (hF p).2 hb, Int64.ofNat_add, Int64.ofNat_mul]
        rfl
      have hv := vld_k _ (hF p).2 (by rw [← (hF p).1]; exact hb)
      have h1 := ih (p + 1) (c * 37 + dgK (f p))
      have hge := (wdF_le (f := F) k (p + 1) (Int64.ofNat (c * 37 + dgK (f p)))).1
      rw [e]
      generalize (wdF F k (p + 1) (Int64.ofNat (c * 37 + dgK (f p)))) = r at h1 hge ⊢
      obtain ⟨m, hm⟩ : ∃ m, r.1 = p + 1 + m := ⟨r.1 - (p + 1), by omega⟩
      rw [hm, show p + 1 + m - (p + 1) = m by omega] at h1
      rw [hm, show p + 1 + m - p = m + 1 by omega]
      refine ⟨h1.1, fun j hj => ?_⟩
      cases j with
      | zero => exact hv
      | succ j => rw [show p + (j + 1) = p + 1 + j by omega]; exact h1.2 j (by omega)
    · have e : wdF F (k + 1) p (Int64.ofNat c) = (p, Int64.ofNat c) := if_neg hb
      rw [e]
      show Int64.ofNat c = Int64.ofNat (acF f (p - p) p c) ∧ ∀ j, j < p - p → vldK (f (p + j))
      rw [Nat.sub_self]; exact ⟨rfl, fun j h => absurd h (Nat.not_lt_zero j)⟩
theorem acN_lt {f : Nat → Nat} {p : Nat} : ∀ m, (∀ j, j < m → vldK (f (p + j))) → acN f p m < 37 ^ m := by
  intro m
  induction m with
  | zero => intro _; show 0 < 1; omega
  | succ m ih =>
    intro h
    have h1 := ih (fun j hj => h j (by omega))
    have h2 := dgK_b (h m (by omega))
    show acN f p m * 37 + dgK (f (p + m)) < 37 ^ m * 37
    omega
theorem acN_inj {f g : Nat → Nat} {p q : Nat} : ∀ m n, (∀ j, j < m → vldK (f (p + j))) → (∀ j, j < n → vldK (g (q + j))) → acN f p m = acN g q n → m = n ∧ ∀ j, j < m → f (p + j) = g (q + j) := by
  intro m
  induction m with
  | zero =>
    intro n hf hg h
    cases n with
    | zero => exact ⟨rfl, fun j hj => absurd hj (Nat.not_lt_zero j)⟩
    | succ n =>
      have h2 := dgK_b (hg n (by omega))
      have h3 : (0 : Nat) = acN g q n * 37 + dgK (g (q + n)) := h
      omega
  | succ m ih =>
    intro n hf hg h
    cases n with
    | zero =>
      have h2 := dgK_b (hf m (by omega))
      have h3 : acN f p m * 37 + dgK (f (p + m)) = 0 := h
      omega
    | succ n =>
      have h2 := dgK_b (hf m (by omega))
      have h4 := dgK_b (hg n (by omega))
      have h3 : acN f p m * 37 + dgK (f (p + m)) = acN g q n * 37 + dgK (g (q + n)) := h
      have h5 := ih n (fun j hj => hf j (by omega)) (fun j hj => hg j (by omega)) (by omega)
      have h6 := dgK_inj (hf m (by omega)) (hg n (by omega)) (by omega)
      obtain ⟨e, h7⟩ := h5
      subst e
      exact ⟨rfl, ltS h7 h6⟩
theorem of64_inj {a b : Nat} (ha : a < 2 ^ 63) (hb : b < 2 ^ 63) (h : Int64.ofNat a = Int64.ofNat b) : a = b := by
  have h1 := congrArg Int64.toNatClampNeg h
  rwa [Int64.toNatClampNeg_ofNat_of_lt ha, Int64.toNatClampNeg_ofNat_of_lt hb] at h1
theorem p37 {m : Nat} (h : m ≤ 10) : 37 ^ m < 2 ^ 63 := Nat.lt_of_le_of_lt (Nat.pow_le_pow_right (by omega) h) (by decide)
/-- the word at p of L bytes, as its code -/
theorem wdp_c {F : Nat → Int32} {f : Nat → Nat} {n p : Nat} (hF : byO F f) : (wdp F n p 0).2 = Int64.ofNat (acN f p ((wdp F n p 0).1 - p)) ∧ ∀ j, j < (wdp F n p 0).1 - p → vldK (f (p + j)) := by
  have h := wdF_c hF (n - p) p 0
  rw [acF_N] at h
  exact h
def gW (w j : Nat) : Nat := (SB w j).toNatClampNeg
theorem gW_ok : ∀ w, w < 29 → SLn w ≤ 10 ∧ SGc.getD (20 + w) 0 = Int64.ofNat (acN (gW w) 0 (SLn w)) ∧ nI w = km (20 + w) ∧ sg (20 + w) = 20 + w ∧ ∀ j, j < SLn w → vldK (gW w (0 + j)) ∧ SB w j = nI (gW w j) := by
  unfold vldK; decide +kernel
theorem SGc_ok : ∀ i, i < 49 → 20 ≤ i → ∀ j, j < i → SGc.getD j 0 ≠ SGc.getD i 0 := by decide +kernel
theorem SGc_0 : ∀ i, i < 20 → SGc.getD i 0 = 0 := by decide +kernel
section
variable {F : Nat → Int32} {f : Nat → Nat} {n p L : Nat}
theorem nIk_inj {a b : Nat} (ha : a < 256) (hb : b < 2147483648) (h : nI a = nI b) : a = b := (nI_eq (by omega) (by omega)).mp h
theorem wRes_is (hF : byO F f) (hL : L = (wdp F n p 0).1 - p) (h1 : 1 ≤ L) (h10 : L ≤ 10) : wRes F p L = km (sword (wdp F n p 0).2) := by
  obtain ⟨hc, hv⟩ := wdp_c (n := n) (p := p) hF
  rw [← hL] at hc hv
  have hlt := Nat.lt_trans (acN_lt L hv) (p37 h10)
  rw [hc]
  -- which word has this code
  have key : ∀ w, w < 29 → (SGc.getD (20 + w) 0 = Int64.ofNat (acN f p L) ↔ wEq F p L w = true) := by
    intro w hw
    obtain ⟨g1, g2, g3, g4, g5⟩ := gW_ok w hw
    rw [g2]
    constructor
    · intro h
      have h2 := of64_inj (Nat.lt_trans (acN_lt _ (fun j hj => (g5 j hj).1)) (p37 g1)) hlt h
      obtain ⟨e1, e2⟩ := acN_inj _ _ (fun j hj => (g5 j hj).1) hv h2
      refine decide_eq_true ⟨e1.symm, fun j hj => ?_⟩
      rw [(hF (p + j)).1, (g5 j (by omega)).2, ← e2 j (by omega), Nat.zero_add]
    · intro h
      have h2 := of_decide_eq_true h
      congr 1
      have : ∀ m, m ≤ L → acN (gW w) 0 m = acN f p m := by
        intro m
        induction m with
        | zero => intro _; rfl
        | succ m ih =>
          intro hm
          have h3 := h2.2 m (by omega)
          rw [(hF (p + m)).1, (g5 m (by omega)).2] at h3
          have h5 : gW w (0 + m) < 2147483648 := by have := (g5 m (by omega)).1; rcases this with q | q <;> omega
          rw [Nat.zero_add] at h5
          have h4 := nIk_inj (hF (p + m)).2 h5 h3
          show acN (gW w) 0 m * 37 + dgK (gW w (0 + m)) = acN f p m * 37 + dgK (f (p + m))
          rw [ih (by omega), Nat.zero_add, h4]
      rw [← h2.1, this L (Nat.le_refl _)]
  have hz : ∀ j, j < 20 → SGc.getD j 0 ≠ Int64.ofNat (acN f p L) := by
    intro j hj h
    rw [SGc_0 j hj] at h
    have h2 := of64_inj (a := 0) (by decide) hlt h
    obtain ⟨m, rfl⟩ : ∃ m, L = m + 1 := ⟨L - 1, by omega⟩
    have h3 := dgK_b (hv m (by omega))
    have h4 : (0 : Nat) = acN f p m * 37 + dgK (f (p + m)) := h2
    omega
  unfold wRes sword
  cases hw : ffind (wEq F p L) 29 with
  | some w =>
    obtain ⟨a1, a2⟩ := ffind_lt hw
    have a3 := (key w a1).mpr a2
    obtain ⟨g1, g2, g3, g4, g5⟩ := gW_ok w a1
    rw [nfind_some (f := fun k => SGc.getD k 0) (i := 20 + w) (by omega) a3 (fun j hj => by rw [← a3]; exact SGc_ok (20 + w) (by omega) (by omega) j hj)]
    show nI w = km (sg (20 + w))
    rw [g4, g3]
  | none =>
    have hn : ∀ w, w < 29 → wEq F p L w = false := by
      intro w hw2
      cases h : wEq F p L w with
      | false => rfl
      | true =>
        exfalso
        have : ∀ (P : Nat → Bool) (k i : Nat), i < k → P i = true → ffind P k ≠ none := by
          intro P k
          induction k with
          | zero => intro i hi; exact absurd hi (Nat.not_lt_zero i)
          | succ k ih =>
            intro i hi hp h0
            simp only [ffind] at h0
            cases hk : ffind P k with
            | some x => rw [hk] at h0; cases h0
            | none =>
              rw [hk] at h0
              rcases Nat.lt_or_ge i k with q | q
              · exact ih i q hp hk
              · have e : i = k := by omega
                subst e
                rw [hp] at h0; cases h0
        exact this _ 29 w hw2 h hw
    rw [nfind_none.mpr (fun j hj h => by
      rcases Nat.lt_or_ge j 20 with q | q
      · exact hz j q h
      · have e : j = 20 + (j - 20) := by omega
        rw [e] at h
        have := (key (j - 20) (by omega)).mp h
        rw [hn _ (by omega)] at this; cases this)]
    rfl
end
/-! kinds -/
theorem sIx_k : ∀ k, k < 256 → canE (nI k) = true ∧ (isL (nI k) = false → isD (nI k) = false → (if sIx 29 (nI k) < 0 then (71 : Int32) else 40 + sIx 29 (nI k)) = km (symS (nI k) false)) := by decide +kernel
section
variable {F : Nat → Int32} {f : Nat → Nat} {n p : Nat}
theorem lxS_0 (h : n ≤ p) : lexS F n p 0 = 0 := if_pos h
theorem fB_by (hF : byO F f) : ¬ fB F n p = -1 → p < n := by
  intro h
  rcases Nat.lt_or_ge p n with q | q
  · exact q
  · exact absurd (fB_ge q) h
theorem fB_m1 (hF : byO F f) (h : fB F n p = -1) : n ≤ p := by
  rcases Nat.lt_or_ge p n with q | q
  · rw [fB_lt q, (hF p).1] at h
    have h2 : (nI (f p)).toInt = (f p : Int) := nI_toInt (by have := (hF p).2; omega)
    rw [h, show ((-1 : Int32)).toInt = -1 from by decide] at h2; omega
  · exact q
theorem nbp_l (h : p < n) (hl : isL (F p) = false) (hd : isD (F p) = true) : (nbp F n p 0).1 - p = rln F n p := by
  rw [rln_d h hl hd, rwe_n, rwe_go h (by rw [fB_lt h, hd]; simp)]
theorem wdp_l (h : p < n) (hl : isL (F p) = true) : (wdp F n p 0).1 - p = rln F n p := by
  rw [rln_w h hl, rwe_w, rwe_go h (by rw [fB_lt h, hl]; simp)]
theorem rln_le (h : p ≤ n) (hp : p < n) : p + rln F n p ≤ n := by
  unfold rln; rw [if_neg (by omega)]
  have h1 := lexE_le (f := F) (v := 0) h
  omega
theorem rln_pos (hp : p < n) : 1 ≤ rln F n p := by
  cases hl : isL (F p) with
  | true => rw [rln_w hp hl]; have := (rwe_w (f := F) (n := n) (p := p + 1) (c := 0)) ▸ (wdp_ge (f := F) (n := n) (p := p + 1) (c := 0)); omega
  | false =>
    cases hd : isD (F p) with
    | true => rw [rln_d hp hl hd]; have := (rwe_n (f := F) (n := n) (p := p + 1) (c := 0)) ▸ (nbp_ge (f := F) (n := n) (p := p + 1) (c := 0)); omega
    | false => rw [rln_s hp hl hd]; exact (symL_1 _ _).1
theorem kd_D1 (hp : p < n) (hl : isL (F p) = false) (hd : isD (F p) = true) (h : ¬ rln F n p ≤ 6) : 71 = km (lexS F n p 0) := by
  unfold lexS; rw [if_neg (by omega), if_neg (by rw [hl]; decide), if_pos hd, nbp_l hp hl hd, if_pos (by omega)]; rfl
theorem kd_D2 (hp : p < n) (hl : isL (F p) = false) (hd : isD (F p) = true) (h : rln F n p ≤ 6) : 31 = km (lexS F n p 0) := by
  unfold lexS; rw [if_neg (by omega), if_neg (by rw [hl]; decide), if_pos hd, nbp_l hp hl hd, if_neg (by omega)]; rfl
theorem kd_L1 (hp : p < n) (hl : isL (F p) = true) (h : ¬ rln F n p ≤ 10) : 71 = km (lexS F n p 0) := by
  unfold lexS; rw [if_neg (by omega), if_pos hl, wdp_l hp hl, if_pos (by omega)]; rfl
theorem kd_L2 (hF : byO F f) (hp : p < n) (hl : isL (F p) = true) (h : rln F n p ≤ 10) : wRes F p (rln F n p) = km (lexS F n p 0) := by
  unfold lexS; rw [if_neg (by omega), if_pos hl, wdp_l hp hl, if_neg (by omega)]
  exact wRes_is hF (wdp_l hp hl).symm (rln_pos hp) h
theorem kd_S (hp : p < n) (hl : isL (F p) = false) (hd : isD (F p) = false) : lexS F n p 0 = symS (F p) (isE F n (p + 1)) := by
  unfold lexS; rw [if_neg (by omega), if_neg (by rw [hl]; decide), if_neg (by rw [hd]; decide)]
theorem kd_2 (hp : p < n) (hl : isL (F p) = false) (hd : isD (F p) = false) (h : rln F n p = 2) : (F p = 60 ∨ F p = 62) ∧ isE F n (p + 1) = true := by
  rw [rln_s hp hl hd] at h
  unfold symL at h
  by_cases c : (F p = 60 ∨ F p = 62) ∧ isE F n (p + 1) = true
  · exact c
  · rw [if_neg c] at h; omega
theorem kd_2a (hp : p < n) (hl : isL (F p) = false) (hd : isD (F p) = false) (h : rln F n p = 2) (hb : F p = 60) : 53 = km (lexS F n p 0) := by
  have h2 := kd_2 hp hl hd h
  rw [kd_S hp hl hd, h2.2, hb]; rfl
theorem kd_2b (hp : p < n) (hl : isL (F p) = false) (hd : isD (F p) = false) (h : rln F n p = 2) (hb : ¬ F p = 60) : 54 = km (lexS F n p 0) := by
  have h2 := kd_2 hp hl hd h
  have h3 : F p = 62 := h2.1.resolve_left hb
  rw [kd_S hp hl hd, h2.2, h3]; rfl
theorem symS_f {b : Int32} {q : Bool} (h : ¬ ((b = 60 ∨ b = 62) ∧ q = true)) : symS b q = symS b false := by
  cases q with
  | false => rfl
  | true =>
    have h1 : ¬ b = 60 := fun x => h ⟨Or.inl x, rfl⟩
    have h2 : ¬ b = 62 := fun x => h ⟨Or.inr x, rfl⟩
    unfold symS; rw [if_neg h1, if_neg h2, if_neg h1, if_neg h2]
theorem kd_1 (hF : byO F f) (hp : p < n) (hl : isL (F p) = false) (hd : isD (F p) = false) (h : ¬ rln F n p = 2) : (if sIx 29 (F p) < 0 then (71 : Int32) else 40 + sIx 29 (F p)) = km (lexS F n p 0) := by
  have h1 : ¬ ((F p = 60 ∨ F p = 62) ∧ isE F n (p + 1) = true) := by
    intro c
    refine h ?_
    rw [rln_s hp hl hd]; unfold symL; exact if_pos c
  rw [kd_S hp hl hd, symS_f h1]
  rw [(hF p).1] at hl hd ⊢
  exact (sIx_k _ (hF p).2).2 hl hd
/-- the class's tokens as the reference cuts them -/
theorem tkM_e {j : Nat} (h : tkS F n j ≠ 0) (h1 : tkS F n j ≠ 1) : tkP F n j < n := by
  unfold tkS at h h1
  rcases Nat.lt_or_ge (tkP F n j) n with q | q
  · exact q
  · rw [if_pos (Or.inr q)] at h; exact absurd (if_pos q) h
theorem posn_s {j : Nat} (h : tkP F n j < n) : tkP F n j + rln F n (tkP F n j) = posn F n (j + 1) := by
  show _ = lexE F n (skp F n (posn F n j)) 0
  have hp : skp F n (posn F n j) = tkP F n j := rfl
  rw [hp]
  unfold rln; rw [if_neg (by omega)]
  have : tkP F n j ≤ lexE F n (tkP F n j) 0 := by
    unfold lexE; rw [if_neg (by omega)]
    split
    · exact wdp_ge
    · split
      · exact nbp_ge
      · omega
  omega
end
theorem km_70 : ∀ s, s < 49 → s ≠ 4 → (km s < 70 ↔ s ≠ 0 ∧ s ≠ 1) ∧ (km s = 70 ↔ s = 0) := by decide +kernel
theorem sg_20 : ∀ i, i < 49 → 20 ≤ i → sg i ≠ 4 := by decide +kernel
theorem sword_4 (c : Int64) : sword c ≠ 4 := by
  unfold sword
  by_cases hc : c = 0
  · subst hc; decide +kernel
  · cases h : nfind (fun k => SGc.getD k 0) c 49 with
    | none => show sg 2 ≠ 4; decide
    | some i =>
      have h1 := nfind_lt h
      show sg i ≠ 4
      rcases Nat.lt_or_ge i 20 with q | q
      · exact absurd (h1.2.symm.trans (SGc_0 i q)) hc
      · exact sg_20 i h1.1 q
theorem ite_nn {c : Prop} [Decidable c] {a b m : Nat} (ha : ¬ a = m) (hb : ¬ b = m) : ¬ (if c then a else b) = m := by
  by_cases h : c
  · rw [if_pos h]; exact ha
  · rw [if_neg h]; exact hb
theorem symS_4 (b : Int32) (q : Bool) : ¬ symS b q = 4 := by
  unfold symS; repeat' (first | apply ite_nn | decide)
theorem lexS_4 {F : Nat → Int32} {n p : Nat} : ¬ lexS F n p 0 = 4 := by
  unfold lexS
  exact ite_nn (by decide) (ite_nn (ite_nn (by decide) (sword_4 _)) (ite_nn (ite_nn (by decide) (by decide)) (symS_4 _ _)))
theorem tkS_4 {F : Nat → Int32} {n j : Nat} : ¬ tkS F n j = 4 := by
  unfold tkS; exact ite_nn lexS_4 (by decide)
theorem isD_nL {b : Int32} (h : isD b = true) : isL b = false := by
  have h2 := of_decide_eq_true h
  refine decide_eq_false (fun q => ?_)
  have h3 := Int32.le_iff_toInt_le.mp h2.2
  have h4 := Int32.le_iff_toInt_le.mp q.1
  have h5 := Int.le_trans h4 h3
  exact absurd h5 (by decide)
theorem wRes_70 {F : Nat → Int32} {p L : Nat} (h : wRes F p L = km 0) : False := by
  unfold wRes at h
  cases hw : ffind (wEq F p L) 29 with
  | some w =>
    rw [hw] at h
    have h1 := (ffind_lt hw).1
    have h2 : nI w = nI 70 := h.trans (by decide)
    have := (nI_eq (by omega) (by omega)).mp h2
    omega
  | none => rw [hw] at h; exact absurd h (by decide)
theorem symS_n0 (b : Int32) (q : Bool) : ¬ symS b q = 0 := by
  unfold symS; repeat' (first | apply ite_nn | decide)
theorem lexS_n0 {F : Nat → Int32} {f : Nat → Nat} {n p : Nat} (hF : byO F f) (h : p < n) : ¬ lexS F n p 0 = 0 := by
  intro h0
  cases hl : isL (F p) with
  | true =>
    by_cases c : rln F n p ≤ 10
    · have h1 := kd_L2 hF h hl c
      rw [h0] at h1; exact wRes_70 h1
    · have h1 := kd_L1 h hl c
      rw [h0] at h1; exact absurd h1 (by decide)
  | false =>
    cases hd : isD (F p) with
    | true =>
      by_cases c : rln F n p ≤ 6
      · have h1 := kd_D2 h hl hd c
        rw [h0] at h1; exact absurd h1 (by decide)
      · have h1 := kd_D1 h hl hd c
        rw [h0] at h1; exact absurd h1 (by decide)
    | false => rw [kd_S h hl hd] at h0; exact symS_n0 _ _ h0
theorem upd2_cut {h g : Nat → Int32} {i : Nat} {x y : Int32} (hy : y = h i) : upd (upd (cutN i h g) i x) i y = cutN (i + 1) h g := by
  rw [← cut_u, ← hy]
  funext j
  show (if j = i then y else (if j = i then x else cutN i h g j)) = (if j = i then y else cutN i h g j)
  split <;> rfl
