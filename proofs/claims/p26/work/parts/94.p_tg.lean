/-! letters put together by four, and taken apart -/
theorem or_n {n c : Nat} (hn : n < 8388608) (hc : c < 256) : nI (n * 256) ||| nI c = nI (n * 256 + c) := by
  apply Int32.toBitVec_inj.mp
  apply BitVec.eq_of_toNat_eq
  rw [Int32.toBitVec_or, BitVec.toNat_or, pk_tn (by omega), pk_tn (by omega), pk_tn (by omega)]
  have h := Nat.two_pow_add_eq_or_of_lt (i := 8) (b := c) hc n
  rw [show 2 ^ 8 * n = n * 256 by omega] at h
  exact h.symm
theorem or8 {n c : Nat} (hn : n < 8388608) (hc : c < 256) : (nI n <<< ((8 : Int32) &&& 31)) ||| nI c = nI (n * 256 + c) := by
  rw [pk_shlN ((8 : Int32) &&& 31) 8 (by decide) (by omega)]
  exact or_n hn hc
theorem byt_24 {n : Nat} (hn : n < 2147483648) : byt (nI n) 24 = nI (n / 16777216 % 256) := by
  unfold byt
  rw [pk_shrN hn ((24 : Int32) &&& 31) 24 (by decide), pk_andN (by omega) 8 (by decide)]
theorem byt_16 {n : Nat} (hn : n < 2147483648) : byt (nI n) 16 = nI (n / 65536 % 256) := by
  unfold byt
  rw [pk_shrN hn ((16 : Int32) &&& 31) 16 (by decide), pk_andN (by omega) 8 (by decide)]
theorem byt_8 {n : Nat} (hn : n < 2147483648) : byt (nI n) 8 = nI (n / 256 % 256) := by
  unfold byt
  rw [pk_shrN hn ((8 : Int32) &&& 31) 8 (by decide), pk_andN (by omega) 8 (by decide)]
theorem byt_0 {n : Nat} (hn : n < 2147483648) : byt (nI n) 0 = nI (n % 256) := by
  unfold byt
  rw [pk_shrN hn ((0 : Int32) &&& 31) 0 (by decide), pk_andN (by omega) 8 (by decide), show n / 2 ^ 0 = n by omega]
/-- four letters in a number -/
def w4 (h : Nat → Nat) (p : Nat) : Nat := ((h p * 256 + h (p + 1)) * 256 + h (p + 2)) * 256 + h (p + 3)
theorem w4_b {h : Nat → Nat} {p : Nat} (hh : ∀ j, h j < 128) : w4 h p < 2147483648 ∧ byt (nI (w4 h p)) 24 = nI (h p) ∧ byt (nI (w4 h p)) 16 = nI (h (p + 1)) ∧ byt (nI (w4 h p)) 8 = nI (h (p + 2)) ∧ byt (nI (w4 h p)) 0 = nI (h (p + 3)) := by
  have h0 := hh p
  have h1 := hh (p + 1)
  have h2 := hh (p + 2)
  have h3 := hh (p + 3)
  have hl : w4 h p < 2147483648 := by unfold w4; omega
  refine ⟨hl, ?_, ?_, ?_, ?_⟩
  · rw [byt_24 hl]; congr 1; unfold w4; omega
  · rw [byt_16 hl]; congr 1; unfold w4; omega
  · rw [byt_8 hl]; congr 1; unfold w4; omega
  · rw [byt_0 hl]; congr 1; unfold w4; omega
/-- a row of bytes holds the letters h up to q -/
def BtH (h : Nat → Nat) (f : Nat → Int32) (q : Nat) : Prop := ∀ j, j < q → f j = nI (h j)
theorem BtH.u {h : Nat → Nat} {f : Nat → Int32} {q : Nat} {x : Int32} (hB : BtH h f q) (hx : x = nI (h q)) : BtH h (upd f q x) (q + 1) := by
  intro j hj
  by_cases e : j = q
  · subst e; rw [pk_us]; exact hx
  · rw [pk_un e]; exact hB j (by omega)
theorem BtH.ap {h : Nat → Nat} {f : Nat → Int32} {q : Nat} (hh : ∀ j, h j < 128) (hB : BtH h f q) : BtH h (apF f q (nI (w4 h q))) (q + 4) := by
  obtain ⟨_, e0, e1, e2, e3⟩ := w4_b (p := q) hh
  exact (((hB.u e0).u e1).u e2).u e3
theorem BtH.fd {h : Nat → Nat} {f : Nat → Int32} {q : Nat} (hh : ∀ j, h j < 128) (hB : BtH h f q) : BtH h (fd5 f q (nI (w4 h q)) (nI (w4 h (q + 4))) (nI (w4 h (q + 4 + 4))) (nI (w4 h (q + 4 + 4 + 4))) (nI (w4 h (q + 4 + 4 + 4 + 4)))) (q + 20) := by
  have := ((((hB.ap hh).ap hh).ap hh).ap hh).ap hh
  exact this
/-- the letters of a text, blanks behind it -/
def ltr (T : List Nat) (j : Nat) : Nat := if j < T.length then T.getD j 0 else 32
theorem ltr_b {T : List Nat} (hT : Asc T) (j : Nat) : ltr T j < 128 := by
  unfold ltr; split
  · exact hT j
  · decide
/-- the five numbers after i letters from p on -/
def fvW (h : Nat → Nat) (p i : Nat) : Nat → Nat
  | w => if i ≤ 4 * w then 0 else if i = 4 * w + 1 then h (p + 4 * w) else if i = 4 * w + 2 then h (p + 4 * w) * 256 + h (p + 4 * w + 1) else if i = 4 * w + 3 then (h (p + 4 * w) * 256 + h (p + 4 * w + 1)) * 256 + h (p + 4 * w + 2) else w4 h (p + 4 * w)
theorem fvW_s {h : Nat → Nat} {p i : Nat} (hh : ∀ j, h j < 128) : (nI (fvW h p i (i / 4)) <<< ((8 : Int32) &&& 31)) ||| nI (h (p + i)) = nI (fvW h p (i + 1) (i / 4)) := by
  have h0 := hh (p + 4 * (i / 4))
  have h1 := hh (p + 4 * (i / 4) + 1)
  have h2 := hh (p + 4 * (i / 4) + 2)
  have h3 := hh (p + i)
  have e4 : i % 4 = 0 ∨ i % 4 = 1 ∨ i % 4 = 2 ∨ i % 4 = 3 := by omega
  have hd := Nat.div_add_mod i 4
  unfold fvW
  generalize hw : i / 4 = w at *
  rcases e4 with e | e | e | e
  · have ei : i = 4 * w := by omega
    subst ei
    rw [if_pos (Nat.le_refl _), if_neg (by omega), if_pos rfl, or8 (by omega) (by omega), Nat.zero_mul, Nat.zero_add]
  · have ei : i = 4 * w + 1 := by omega
    subst ei
    rw [if_neg (by omega), if_pos rfl, if_neg (by omega), if_neg (by omega), if_pos rfl, or8 (by omega) (by omega)]
    rfl
  · have ei : i = 4 * w + 2 := by omega
    subst ei
    rw [if_neg (by omega), if_neg (by omega), if_pos rfl, if_neg (by omega), if_neg (by omega), if_neg (by omega), if_pos rfl, or8 (by omega) (by omega)]
    rfl
  · have ei : i = 4 * w + 3 := by omega
    subst ei
    rw [if_neg (by omega), if_neg (by omega), if_neg (by omega), if_pos rfl, if_neg (by omega), if_neg (by omega), if_neg (by omega), if_neg (by omega), or8 (by omega) (by omega)]
    rfl
theorem fvW_n {h : Nat → Nat} {p i w : Nat} (hw : w ≠ i / 4) : fvW h p (i + 1) w = fvW h p i w := by
  unfold fvW
  by_cases q : i < 4 * w
  · rw [if_pos (by omega), if_pos (by omega)]
  · rw [if_neg (by omega), if_neg (by omega), if_neg (by omega), if_neg (by omega)]
    rw [if_neg (by omega), if_neg (by omega), if_neg (by omega), if_neg (by omega)]
theorem fvW_e {h : Nat → Nat} {p w : Nat} (hw : w < 5) : fvW h p 20 w = w4 h (p + 4 * w) := by
  unfold fvW
  rw [if_neg (by omega), if_neg (by omega), if_neg (by omega), if_neg (by omega)]
