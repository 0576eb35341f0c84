/-! a builder's room, the digits of a number: arithmetic -/
theorem mx_add {a b c : Nat} (hb : b < 1000000) (hc : c < 1000000) : nI a + (if nI b < nI c then nI c else nI b) = nI (a + (b + (c - b))) := by
  by_cases h : b < c
  · rw [if_pos (nI_lt h (by omega)), nI_add, show b + (c - b) = c by omega]
  · rw [if_neg (nI_nlt (by omega) (by omega)), nI_add, show b + (c - b) = b by omega]
theorem mn_nI {a b : Nat} (ha : a < 1000000) (hb : b < 1000000) : (if nI b < nI a then nI b else nI a) = nI (min a b) := by
  by_cases h : b < a
  · rw [if_pos (nI_lt h (by omega)), show min a b = b by omega]
  · rw [if_neg (nI_nlt (by omega) (by omega)), show min a b = a by omega]
theorem len_app {L T : List Nat} : nI L.length + nI T.length = nI (L ++ T).length := by rw [nI_add, List.length_append]
def grow (q m q9 : Nat) (f f2 : Nat → Int32) : Prop := q ≤ q9 ∧ q9 ≤ 4002 ∧ m ≤ q9 ∧ (∀ j, j < m → f2 j = f j) ∧ sb_Fit f2
theorem grow_0 {q m : Nat} {f : Nat → Int32} (h : q ≤ m) (hm : m ≤ 4002) (hf : sb_Fit f) : grow q m m f f := ⟨h, hm, Nat.le_refl _, fun _ _ => rfl, hf⟩
theorem grow_1 {q m q9 : Nat} {f : Nat → Int32} (h1 : q ≤ q9) (h2 : q9 ≤ 4002) (h3 : m ≤ q9) (hf : sb_Fit f) : grow q m q9 f (va_cpy f (fun _ => 0) 0 0 m) :=
  ⟨h1, h2, h3, fun j hj => by rw [pk_cpy_in (Nat.zero_le _) (by omega), show 0 + (j - 0) = j by omega], sb_fitC hf sb_fit0⟩
theorem SbT.grow {L : List Nat} {q m q9 : Nat} {f f2 : Nat → Int32} (h : SbT L m f) (hg : grow q m q9 f f2) : SbT L q9 f2 := by
  obtain ⟨g1, g2, g3, g4, g5⟩ := hg
  refine ⟨Nat.le_trans h.1 g3, g2, fun j hj => ?_, g5⟩
  rw [g4 j (by have := h.1; omega)]
  exact h.2.2.1 j hj
theorem neg_lt {a b : Nat} (ha : a < 1000000) (hb : b < 1000000) : (-nI a) < (-nI b) ↔ b < a := sb_nlt (by omega) (by omega)
theorem neg_le {a b : Nat} (ha : a < 1000000) (hb : b < 1000000) : (-nI a) ≤ (-nI b) ↔ b ≤ a := sb_nle (by omega) (by omega)
theorem neg_neg {a : Nat} : -(-nI a) = nI a := Int32.neg_neg
theorem ndiv {w : Nat} (hw : w < 1000000) : (-nI w) / 100 = -nI (w / 100) := sb_ndiv (by omega)
theorem nrem {w : Nat} (hw : w < 1000000) : (-nI (w / 100)) * 100 - (-nI w) = nI (w % 100) := sb_nrem (by omega)
theorem bfit {c3 : ClassId} {m : Nat} {bf : Nat → Int32} (hf : sb_Fit bf) : ∀ (i : Nat) (v : Value), (vp_cell c3 (m, .inl bf)).slots[i]? = some v → fits .byte v = true := by
  intro i v h
  have hi := (Array.getElem?_eq_some_iff.mp h).1
  have h7 : (vp_cell c3 (m, .inl bf)).slots.size = m := arrV_size _ _ _
  have h3 : (arrV c3 m (fun j => .int (bf j))).slots[i]? = some v := h
  rw [arrV_read _ _ (by omega)] at h3
  cases h3
  exact hf i
theorem dg_1 {v p : Nat} {f : Nat → Int32} (h : v < 10) (hp : 1 ≤ p) : SbD p (dec v) f (upd f (p - 1) (nI (48 + v % 10))) := by
  rw [dec_1 h]
  refine ⟨fun j hj => pk_un (by simp only [List.length_cons, List.length_nil] at hj; omega), fun j hj => ?_, fun hf => fit_u hf (by omega)⟩
  simp only [List.length_cons, List.length_nil] at hj ⊢
  obtain rfl : j = 0 := by omega
  rw [show p - (0 + 1) + 0 = p - 1 by omega, pk_us, show v % 10 = v by omega]; rfl
theorem dg_2 {v p : Nat} {f : Nat → Int32} (h : ¬ v < 10) (h2 : v < 100) (hp : 2 ≤ p) : SbD p (dec v) f (upd (upd f (p - 1) (nI (48 + v % 10))) (p - 1 - 1) (nI (48 + v / 10))) := by
  rw [dec_2 h h2]
  refine ⟨fun j hj => ?_, fun j hj => ?_, fun hf => fit_u (fit_u hf (by omega)) (by omega)⟩
  · simp only [List.length_cons, List.length_nil] at hj
    rw [pk_un (by omega), pk_un (by omega)]
  · simp only [List.length_cons, List.length_nil] at hj ⊢
    match j, hj with
    | 0, _ => rw [show p - (0 + 1 + 1) + 0 = p - 1 - 1 by omega, pk_us]; rfl
    | 1, _ => rw [show p - (0 + 1 + 1) + 1 = p - 1 by omega, pk_un (by omega), pk_us]; rfl
theorem dg_3 {v p : Nat} {f : Nat → Int32} (h2 : ¬ v < 100) (h3 : v < 1000) (hp : 3 ≤ p) : SbD p (dec v) f (upd (upd (upd f (p - 1) (nI (48 + v % 100 % 10))) (p - 1 - 1) (nI (48 + v % 100 / 10))) (p - 1 - 1 - 1) (nI (48 + v / 100 % 10))) := by
  rw [dec_3 h2]
  refine ⟨fun j hj => ?_, fun j hj => ?_, fun hf => fit_u (fit_u (fit_u hf (by omega)) (by omega)) (by omega)⟩
  · simp only [List.length_cons, List.length_nil] at hj
    rw [pk_un (by omega), pk_un (by omega), pk_un (by omega)]
  · simp only [List.length_cons, List.length_nil] at hj ⊢
    match j, hj with
    | 0, _ => rw [show p - (0 + 1 + 1 + 1) + 0 = p - 1 - 1 - 1 by omega, pk_us, show v / 100 % 10 = v / 100 by omega]; rfl
    | 1, _ => rw [show p - (0 + 1 + 1 + 1) + 1 = p - 1 - 1 by omega, pk_un (by omega), pk_us, show v % 100 / 10 = v / 10 % 10 by omega]; rfl
    | 2, _ => rw [show p - (0 + 1 + 1 + 1) + 2 = p - 1 by omega, pk_un (by omega), pk_un (by omega), pk_us, show v % 100 % 10 = v % 10 by omega]; rfl
