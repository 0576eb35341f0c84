/-! tokens: names are equal as their codes are, numbers are the same on both sides -/
def dN (f : Nat → Nat) (p : Nat) : Nat → Nat
  | 0 => 0
  | i + 1 => 10 * dN f p i + (f (p + i) - 48)
def dgF (f : Nat → Nat) : Nat → Nat → Nat → Nat
  | 0, _, c => c
  | m + 1, p, c => dgF f m (p + 1) (10 * c + (f p - 48))
theorem dgF_s (f : Nat → Nat) : ∀ (m p c : Nat), dgF f (m + 1) p c = 10 * dgF f m p c + (f (p + m) - 48) := by
  intro m
  induction m with
  | zero => intro p c; rfl
  | succ m ih =>
    intro p c
    show dgF f (m + 1) (p + 1) (10 * c + (f p - 48)) = 10 * dgF f m (p + 1) (10 * c + (f p - 48)) + (f (p + (m + 1)) - 48)
    rw [ih (p + 1) (10 * c + (f p - 48)), show p + 1 + m = p + (m + 1) by omega]
theorem dgF_N (f : Nat → Nat) (p : Nat) : ∀ m, dgF f m p 0 = dN f p m := by
  intro m
  induction m with
  | zero => rfl
  | succ m ih => rw [dgF_s, ih]; rfl
theorem dgt_k : ∀ k, k < 256 → isD (nI k) = true → 48 ≤ k ∧ k ≤ 57 := by decide +kernel
theorem nI_64k : ∀ k, k < 256 → (nI k).toInt64 = Int64.ofNat k := by decide +kernel
theorem dig_c {c k : Nat} (h : k < 256) (h2 : 48 ≤ k) : dig (Int64.ofNat c) (nI k) = Int64.ofNat (10 * c + (k - 48)) := by
  unfold dig
  rw [nI_64k k h, show (10 : Int64) = Int64.ofNat 10 from rfl, ← Int64.ofNat_mul, ← Int64.ofNat_add, show c * 10 + k = (10 * c + (k - 48)) + 48 by omega, Int64.ofNat_add]
  exact Int64.add_sub_cancel _ _
theorem nbF_c {F : Nat → Int32} {f : Nat → Nat} (hF : byO F f) : ∀ (k p c : Nat), (nbF F k p (Int64.ofNat c)).2 = Int64.ofNat (dgF f ((nbF F k p (Int64.ofNat c)).1 - p) p c) ∧ (∀ j, j < (nbF F k p (Int64.ofNat c)).1 - p → 48 ≤ f (p + j) ∧ f (p + j) ≤ 57) := by
  intro k
  induction k with
  | zero =>
    intro p c
    show Int64.ofNat c = Int64.ofNat (dgF f (p - p) p c) ∧ ∀ j, j < p - p → _
    rw [Nat.sub_self]; exact ⟨rfl, fun j h => absurd h (Nat.not_lt_zero j)⟩
  | succ k ih =>
    intro p c
    by_cases hb : isD (F p) = true
    · have hv := dgt_k _ (hF p).2 (by rw [← (hF p).1]; exact hb)
      have e : nbF F (k + 1) p (Int64.ofNat c) = nbF F k (p + 1) (Int64.ofNat (10 * c + (f p - 48))) := by
        show (if isD (F p) = true then _ else _) = _
        rw [if_pos hb, (hF p).1, dig_c (hF p).2 hv.1]
      have h1 := ih (p + 1) (10 * c + (f p - 48))
      have hge := (nbF_le (f := F) k (p + 1) (Int64.ofNat (10 * c + (f p - 48)))).1
      rw [e]
      generalize (nbF F k (p + 1) (Int64.ofNat (10 * c + (f p - 48)))) = r at h1 hge ⊢
      obtain ⟨m, hm⟩ : ∃ m, r.1 = p + 1 + m := ⟨r.1 - (p + 1), by omega⟩
      rw [hm, show p + 1 + m - (p + 1) = m by omega] at h1
      rw [hm, show p + 1 + m - p = m + 1 by omega]
      refine ⟨h1.1, fun j hj => ?_⟩
      cases j with
      | zero => exact hv
      | succ j => rw [show p + (j + 1) = p + 1 + j by omega]; exact h1.2 j (by omega)
    · have e : nbF F (k + 1) p (Int64.ofNat c) = (p, Int64.ofNat c) := if_neg hb
      rw [e]
      show Int64.ofNat c = Int64.ofNat (dgF f (p - p) p c) ∧ ∀ j, j < p - p → _
      rw [Nat.sub_self]; exact ⟨rfl, fun j h => absurd h (Nat.not_lt_zero j)⟩
theorem nbp_c {F : Nat → Int32} {f : Nat → Nat} {n p : Nat} (hF : byO F f) : (nbp F n p 0).2 = Int64.ofNat (dN f p ((nbp F n p 0).1 - p)) ∧ ∀ j, j < (nbp F n p 0).1 - p → 48 ≤ f (p + j) ∧ f (p + j) ≤ 57 := by
  have h := nbF_c hF (n - p) p 0
  rw [dgF_N] at h
  exact h
theorem dN_lt {f : Nat → Nat} {p : Nat} : ∀ m, (∀ j, j < m → 48 ≤ f (p + j) ∧ f (p + j) ≤ 57) → dN f p m < 10 ^ m := by
  intro m
  induction m with
  | zero => intro _; show 0 < 1; omega
  | succ m ih =>
    intro h
    have h1 := ih (fun j hj => h j (by omega))
    have h2 := h m (by omega)
    show 10 * dN f p m + (f (p + m) - 48) < 10 ^ m * 10
    omega
theorem nI_mulC {a b : Nat} : nI a * nI b = nI (a * b) := (Int32.ofNat_mul a b).symm
theorem numI_c {F : Nat → Int32} {f : Nat → Nat} {p : Nat} (hF : byO F f) : ∀ m, (∀ j, j < m → 48 ≤ f (p + j) ∧ f (p + j) ≤ 57) → numI F p m = nI (dN f p m) := by
  intro m
  induction m with
  | zero => intro _; exact nI_0.symm
  | succ m ih =>
    intro h
    have h2 := h m (by omega)
    show 10 * numI F p m + F (p + m) - 48 = nI (10 * dN f p m + (f (p + m) - 48))
    rw [ih (fun j hj => h j (by omega)), (hF (p + m)).1, show (10 : Int32) = nI 10 from rfl, nI_mulC, nI_add, show 10 * dN f p m + f (p + m) = (10 * dN f p m + (f (p + m) - 48)) + 48 by omega, ← nI_add]
    exact Int32.add_sub_cancel _ _
section
variable {F : Nat → Int32} {f : Nat → Nat} {n a b : Nat}
theorem ite_ne {c : Prop} [Decidable c] {x y m : Nat} (hx : x ≠ m) (hy : y ≠ m) : (if c then x else y) ≠ m := by
  by_cases h : c
  · rw [if_pos h]; exact hx
  · rw [if_neg h]; exact hy
theorem symS_2 (b : Int32) (q : Bool) : symS b q ≠ 2 := by
  unfold symS; repeat' (first | apply ite_ne | decide)
theorem symS_3 (b : Int32) (q : Bool) : symS b q ≠ 3 := by
  unfold symS; repeat' (first | apply ite_ne | decide)
theorem sg_20' : ∀ i, i < 49 → 20 ≤ i → sg i ≠ 3 := by decide +kernel
theorem sword_3 (c : Int64) : sword c ≠ 3 := by
  unfold sword
  by_cases hc : c = 0
  · subst hc; decide +kernel
  · cases h : nfind (fun k => SGc.getD k 0) c 49 with
    | none => show sg 2 ≠ 3; decide
    | some i =>
      have h1 := nfind_lt h
      show sg i ≠ 3
      rcases Nat.lt_or_ge i 20 with q | q
      · exact absurd (h1.2.symm.trans (SGc_0 i q)) hc
      · exact sg_20' i h1.1 q
theorem tkS_l (ha : a < 400) : tkS F n a = lexS F n (tkP F n a) 0 := if_pos (Or.inl ha)
theorem tkV_l (ha : a < 400) : tkV F n a = lexV F n (tkP F n a) 0 := if_pos (Or.inl ha)
/-- a name token: its code -/
theorem tok_w (hF : byO F f) (ha : a < 400) (h : tkS F n a = 2) : tkM F n a ≤ 10 ∧ tkV F n a = Int64.ofNat (acN f (tkP F n a) (tkM F n a)) ∧ ∀ j, j < tkM F n a → vldK (f (tkP F n a + j)) := by
  rw [tkS_l ha] at h
  rw [tkV_l ha]
  unfold tkM
  generalize tkP F n a = p at h ⊢
  unfold lexS at h
  unfold lexV rln lexE
  by_cases c1 : n ≤ p
  · rw [if_pos c1] at h; cases h
  rw [if_neg c1] at h
  rw [if_neg c1, if_neg c1, if_neg c1]
  by_cases c2 : isL (F p) = true
  · rw [if_pos c2] at h
    rw [if_pos c2, if_pos c2]
    by_cases c3 : 10 < (wdp F n p 0).1 - p
    · rw [if_pos c3] at h; cases h
    · exact ⟨by omega, wdp_c hF⟩
  rw [if_neg c2] at h
  by_cases c3 : isD (F p) = true
  · rw [if_pos c3] at h
    split at h <;> cases h
  · rw [if_neg c3] at h; exact absurd h (symS_2 _ _)
/-- a number token: its value -/
theorem tok_n (hF : byO F f) (ha : a < 400) (h : tkS F n a = 3) : ∃ m, m < 1000000 ∧ tkV F n a = Int64.ofNat m ∧ numT F n a = nI m := by
  rw [tkS_l ha] at h
  rw [tkV_l ha]
  unfold numT tkM
  generalize tkP F n a = p at h ⊢
  unfold lexS at h
  unfold lexV rln lexE
  by_cases c1 : n ≤ p
  · rw [if_pos c1] at h; cases h
  rw [if_neg c1] at h
  rw [if_neg c1, if_neg c1, if_neg c1]
  by_cases c2 : isL (F p) = true
  · rw [if_pos c2] at h
    split at h
    · cases h
    · exact absurd h (sword_3 _)
  rw [if_neg c2] at h
  rw [if_neg c2, if_neg c2]
  by_cases c3 : isD (F p) = true
  · rw [if_pos c3] at h
    rw [if_pos c3, if_pos c3]
    by_cases c4 : 6 < (nbp F n p 0).1 - p
    · rw [if_pos c4] at h; cases h
    · have h1 := nbp_c (n := n) (p := p) hF
      refine ⟨dN f p ((nbp F n p 0).1 - p), ?_, h1.1, numI_c hF _ h1.2⟩
      exact Nat.lt_of_lt_of_le (dN_lt _ h1.2) (Nat.le_trans (Nat.pow_le_pow_right (by omega) (show (nbp F n p 0).1 - p ≤ 6 by omega)) (by decide))
  · rw [if_neg c3] at h; exact absurd h (symS_3 _ _)
theorem acN_eq {g : Nat → Nat} {p q : Nat} : ∀ m, (∀ j, j < m → g (p + j) = g (q + j)) → acN g p m = acN g q m := by
  intro m
  induction m with
  | zero => intro _; rfl
  | succ m ih =>
    intro h
    show acN g p m * 37 + dgK (g (p + m)) = acN g q m * 37 + dgK (g (q + m))
    rw [ih (fun j hj => h j (by omega)), h m (by omega)]
/-- two names are the same just when their codes are -/
theorem name_eq (hF : byO F f) (ha : a < 400) (hb : b < 400) (h1 : tkS F n a = 2) (h2 : tkS F n b = 2) : smT F n a b = decide (tkV F n a = tkV F n b) := by
  obtain ⟨a1, a2, a3⟩ := tok_w hF ha h1
  obtain ⟨b1, b2, b3⟩ := tok_w hF hb h2
  unfold smT sameB
  refine decide_eq_decide.mpr ⟨fun h => ?_, fun h => ?_⟩
  · obtain ⟨e1, e2⟩ := h
    rw [a2, b2, ← e1, acN_eq (q := tkP F n b) (tkM F n a) (fun j hj => ?_)]
    have h3 := e2 j hj
    rw [(hF _).1, (hF _).1] at h3
    exact (nI_eq (by have := (hF (tkP F n a + j)).2; omega) (by have := (hF (tkP F n b + j)).2; omega)).mp h3
  · rw [a2, b2] at h
    have h4 := of64_inj (Nat.lt_trans (acN_lt _ a3) (p37 a1)) (Nat.lt_trans (acN_lt _ b3) (p37 b1)) h
    obtain ⟨e1, e2⟩ := acN_inj (tkM F n a) (tkM F n b) a3 b3 h4
    exact ⟨e1, fun j hj => by rw [(hF _).1, (hF _).1, e2 j hj]⟩
theorem num_rg {m : Nat} (hm : m < 1000000) {lo hi : Int32} : (if (Int64.ofNat m : Int64) < lo.toInt64 ∨ hi.toInt64 < Int64.ofNat m then (5 : Int32) else 0) = eRg (nI m) lo hi := by
  have e1 : (Int64.ofNat m : Int64) < lo.toInt64 ↔ (m : Int) < lo.toInt := by rw [Int64.lt_iff_toInt_lt, Int64.toInt_ofNat_of_lt (by omega), Int32.toInt_toInt64]
  have e2 : hi.toInt64 < (Int64.ofNat m : Int64) ↔ hi.toInt < (m : Int) := by rw [Int64.lt_iff_toInt_lt, Int64.toInt_ofNat_of_lt (by omega), Int32.toInt_toInt64]
  have e3 : (lo ≤ nI m ∧ nI m ≤ hi) ↔ (lo.toInt ≤ (m : Int) ∧ (m : Int) ≤ hi.toInt) := by rw [Int32.le_iff_toInt_le, Int32.le_iff_toInt_le, nI_toInt (by omega)]
  unfold eRg
  by_cases c : lo ≤ nI m ∧ nI m ≤ hi
  · rw [if_pos c, if_neg (by rw [e1, e2]; have := e3.mp c; omega)]
  · have h9 : ¬ (lo.toInt ≤ (m : Int) ∧ (m : Int) ≤ hi.toInt) := fun q => c (e3.mpr q)
    rw [if_neg c, if_pos (by rw [e1, e2]; omega)]
theorem of64_32 {m : Nat} : (Int64.ofNat m).toInt32 = nI m := Int64.toInt32_ofNat'
end
