/-! begun with the kit's family of Int32 by its bits -/
def btq (x : Int32) (i : Nat) : Bool := x.toBitVec.getLsbD i
theorem b_ext {x y : Int32} (h : ∀ i, i < 32 → btq x i = btq y i) : x = y := Int32.toBitVec_inj.mp (BitVec.eq_of_getLsbD_eq (fun i hi => h i hi))
theorem b_or (x y : Int32) (i : Nat) : btq (x ||| y) i = (btq x i || btq y i) := by unfold btq; rw [Int32.toBitVec_or, BitVec.getLsbD_or]
theorem b_and (x y : Int32) (i : Nat) : btq (x &&& y) i = (btq x i && btq y i) := by unfold btq; rw [Int32.toBitVec_and, BitVec.getLsbD_and]
theorem b_xor (x y : Int32) (i : Nat) : btq (x ^^^ y) i = (btq x i ^^ btq y i) := by unfold btq; rw [Int32.toBitVec_xor, BitVec.getLsbD_xor]
theorem b_big {x : Int32} {i : Nat} (h : 32 ≤ i) : btq x i = false := BitVec.getLsbD_of_ge _ _ h
theorem b_255 (i : Nat) : btq 255 i = decide (i < 8) := by
  rcases Nat.lt_or_ge i 32 with h | h
  · exact (by decide +kernel : ∀ i, i < 32 → btq 255 i = decide (i < 8)) i h
  · rw [b_big h, decide_eq_false (by omega)]
theorem b_65535 (i : Nat) : btq 65535 i = decide (i < 16) := by
  rcases Nat.lt_or_ge i 32 with h | h
  · exact (by decide +kernel : ∀ i, i < 32 → btq 65535 i = decide (i < 16)) i h
  · rw [b_big h, decide_eq_false (by omega)]
theorem b_m1 : ∀ i, i < 32 → btq (-1) i = true := by decide +kernel
theorem b_0 (i : Nat) : btq 0 i = false := BitVec.getLsbD_zero
theorem s_l : ∀ n, n < 32 → ((nI n &&& 31).toBitVec.smod 32).toNat = n := by decide +kernel
theorem s_u : ∀ n, n < 32 → (((nI n).toUInt32 &&& Int32.toUInt32 31).toBitVec % 32).toNat = n := by decide +kernel
theorem b_shl (n : Nat) (hn : n < 32) (x : Int32) {i : Nat} (hi : i < 32) : btq (x <<< (nI n &&& 31)) i = (decide (n ≤ i) && btq x (i - n)) := by
  unfold btq
  rw [Int32.toBitVec_shiftLeft]
  show (x.toBitVec <<< ((nI n &&& 31).toBitVec.smod 32).toNat).getLsbD i = _
  rw [s_l n hn, BitVec.getLsbD_shiftLeft]
  rcases Nat.lt_or_ge i n with h | h
  · simp [h, Nat.not_le.mpr h]
  · simp [hi, h, Nat.not_lt.mpr h]
theorem b_ushr (n : Nat) (hn : n < 32) (x : Int32) (i : Nat) : btq ((x.toUInt32 >>> ((nI n).toUInt32 &&& Int32.toUInt32 31)).toInt32) i = btq x (n + i) := by
  show (x.toUInt32 >>> ((nI n).toUInt32 &&& Int32.toUInt32 31)).toBitVec.getLsbD i = x.toUInt32.toBitVec.getLsbD (n + i)
  rw [UInt32.toBitVec_shiftRight]
  show (x.toUInt32.toBitVec >>> (((nI n).toUInt32 &&& Int32.toUInt32 31).toBitVec % 32).toNat).getLsbD i = _
  rw [s_u n hn, BitVec.getLsbD_ushiftRight]
theorem b_sshr (n : Nat) (hn : n < 32) (x : Int32) {i : Nat} (hi : i < 32) : btq (x >>> (nI n &&& 31)) i = if n + i < 32 then btq x (n + i) else btq x 31 := by
  unfold btq
  rw [Int32.toBitVec_shiftRight]
  show (x.toBitVec.sshiftRight ((nI n &&& 31).toBitVec.smod 32).toNat).getLsbD i = _
  rw [s_l n hn, BitVec.getLsbD_sshiftRight, BitVec.msb_eq_getLsbD_last]
  simp [hi]
theorem b_shl8 (x : Int32) {i : Nat} (hi : i < 32) : btq (x <<< ((8 : Int32) &&& 31)) i = (decide (8 ≤ i) && btq x (i - 8)) := b_shl 8 (by omega) x hi
theorem b_shl16 (x : Int32) {i : Nat} (hi : i < 32) : btq (x <<< ((16 : Int32) &&& 31)) i = (decide (16 ≤ i) && btq x (i - 16)) := b_shl 16 (by omega) x hi
theorem b_shl24 (x : Int32) {i : Nat} (hi : i < 32) : btq (x <<< ((24 : Int32) &&& 31)) i = (decide (24 ≤ i) && btq x (i - 24)) := b_shl 24 (by omega) x hi
theorem b_sshr8 (x : Int32) {i : Nat} (hi : i < 32) : btq (x >>> ((8 : Int32) &&& 31)) i = if 8 + i < 32 then btq x (8 + i) else btq x 31 := b_sshr 8 (by omega) x hi

theorem byu_b (x : Int32) (n : Nat) (hn : n ≤ 24) : (x.toUInt32 >>> ((nI n).toUInt32 &&& Int32.toUInt32 31)).toInt32 &&& 255 = (x >>> (nI n &&& 31)) &&& 255 := by
  refine b_ext (fun i hi => ?_)
  rw [b_and, b_and, b_255, b_ushr n (by omega), b_sshr n (by omega) x hi]
  rcases Nat.lt_or_ge i 8 with h | h
  · rw [if_pos (by omega)]
  · rw [decide_eq_false (by omega), Bool.and_false, Bool.and_false]
theorem byu_0 (x : Int32) : byu x (nI 0) = byt x 24 := byu_b x 24 (by omega)
theorem byu_1 (x : Int32) : byu x (nI 1) = byt x 16 := byu_b x 16 (by omega)
theorem byu_2 (x : Int32) : byu x (nI 2) = byt x 8 := byu_b x 8 (by omega)
theorem byu_3 (x : Int32) : byu x (nI 3) = byt x 0 := byu_b x 0 (by omega)
theorem fdR_4 (f : Nat → Int32) (n : Nat) (F : Nat → Int32) (m : Nat) : fdR f n F (m * 4 + 1 + 1 + 1 + 1) = apF (fdR f n F (m * 4)) (n + m * 4) (F m) := by
  show upd (upd (upd (upd (fdR f n F (m * 4)) (n + m * 4) (byu (F (m * 4 / 4)) (nI (m * 4 % 4)))) (n + (m * 4 + 1)) (byu (F ((m * 4 + 1) / 4)) (nI ((m * 4 + 1) % 4)))) (n + (m * 4 + 1 + 1)) (byu (F ((m * 4 + 1 + 1) / 4)) (nI ((m * 4 + 1 + 1) % 4)))) (n + (m * 4 + 1 + 1 + 1)) (byu (F ((m * 4 + 1 + 1 + 1) / 4)) (nI ((m * 4 + 1 + 1 + 1) % 4))) = _
  rw [show m * 4 / 4 = m by omega, show (m * 4 + 1) / 4 = m by omega, show (m * 4 + 1 + 1) / 4 = m by omega, show (m * 4 + 1 + 1 + 1) / 4 = m by omega, show m * 4 % 4 = 0 by omega, show (m * 4 + 1) % 4 = 1 by omega, show (m * 4 + 1 + 1) % 4 = 2 by omega, show (m * 4 + 1 + 1 + 1) % 4 = 3 by omega, byu_0, byu_1, byu_2, byu_3, show n + (m * 4 + 1) = n + m * 4 + 1 by omega, show n + (m * 4 + 1 + 1) = n + m * 4 + 1 + 1 by omega, show n + (m * 4 + 1 + 1 + 1) = n + m * 4 + 1 + 1 + 1 by omega]
  rfl
/-- the two ways to write five numbers -/
theorem fd_eq (f : Nat → Int32) (n : Nat) (a b c d e : Int32) : fdR f n (upd (upd (upd (upd (upd (fun _ => 0) 0 a) 1 b) 2 c) 3 d) 4 e) 20 = fd5 f n a b c d e := by
  have h4 := fdR_4 f n (upd (upd (upd (upd (upd (fun _ => 0) 0 a) 1 b) 2 c) 3 d) 4 e) 4
  have h3 := fdR_4 f n (upd (upd (upd (upd (upd (fun _ => 0) 0 a) 1 b) 2 c) 3 d) 4 e) 3
  have h2 := fdR_4 f n (upd (upd (upd (upd (upd (fun _ => 0) 0 a) 1 b) 2 c) 3 d) 4 e) 2
  have h1 := fdR_4 f n (upd (upd (upd (upd (upd (fun _ => 0) 0 a) 1 b) 2 c) 3 d) 4 e) 1
  have h0 := fdR_4 f n (upd (upd (upd (upd (upd (fun _ => 0) 0 a) 1 b) 2 c) 3 d) 4 e) 0
  refine h4.trans ?_
  rw [show fdR f n (upd (upd (upd (upd (upd (fun _ => 0) 0 a) 1 b) 2 c) 3 d) 4 e) (4 * 4) = _ from h3]
  rw [show fdR f n (upd (upd (upd (upd (upd (fun _ => 0) 0 a) 1 b) 2 c) 3 d) 4 e) (3 * 4) = _ from h2]
  rw [show fdR f n (upd (upd (upd (upd (upd (fun _ => 0) 0 a) 1 b) 2 c) 3 d) 4 e) (2 * 4) = _ from h1]
  rw [show fdR f n (upd (upd (upd (upd (upd (fun _ => 0) 0 a) 1 b) 2 c) 3 d) 4 e) (1 * 4) = _ from h0]
  rfl
theorem byt_v (y : Int32) : ∃ j, j < 256 ∧ y &&& 255 = nI j := by
  have hle : y.toBitVec.toNat &&& 255 ≤ 255 := Nat.and_le_right
  refine ⟨y.toBitVec.toNat &&& 255, by omega, ?_⟩
  apply Int32.toBitVec_inj.mp
  rw [Int32.toBitVec_and]
  apply BitVec.eq_of_toNat_eq
  rw [BitVec.toNat_and]
  show y.toBitVec.toNat &&& (255 : Int32).toBitVec.toNat = (BitVec.ofNat 32 (y.toBitVec.toNat &&& 255)).toNat
  rw [BitVec.toNat_ofNat, show (255 : Int32).toBitVec.toNat = 255 from by decide, Nat.mod_eq_of_lt (by omega)]
theorem byO_u {f : Nat → Int32} {i : Nat} {x : Int32} (h : ∃ b, byO f b) (hx : ∃ j, j < 256 ∧ x = nI j) : ∃ b, byO (upd f i x) b := by
  obtain ⟨b, hb⟩ := h
  obtain ⟨j, hj, e⟩ := hx
  refine ⟨fun k => if k = i then j else b k, fun k => ?_⟩
  show (if k = i then x else f k) = nI (if k = i then j else b k) ∧ (if k = i then j else b k) < 256
  by_cases c : k = i
  · rw [if_pos c, if_pos c]; exact ⟨e, hj⟩
  · rw [if_neg c, if_neg c]; exact hb k
theorem byO_ap {f : Nat → Int32} {n : Nat} {x : Int32} (h : ∃ b, byO f b) : ∃ b, byO (apF f n x) b := byO_u (byO_u (byO_u (byO_u h (byt_v _)) (byt_v _)) (byt_v _)) (byt_v _)
theorem byO_fd {f : Nat → Int32} {n : Nat} {a b c d e : Int32} (h : ∃ g, byO f g) : ∃ g, byO (fd5 f n a b c d e) g := byO_ap (byO_ap (byO_ap (byO_ap (byO_ap h))))
/-! whole numbers in bounds -/
theorem i_add {a b : Int32} (h1 : -2147483648 ≤ a.toInt + b.toInt) (h2 : a.toInt + b.toInt < 2147483648) : (a + b).toInt = a.toInt + b.toInt := by
  rw [Int32.toInt_add]; exact Int.bmod_eq_of_le (by omega) (by omega)
theorem i_sub {a b : Int32} (h1 : -2147483648 ≤ a.toInt - b.toInt) (h2 : a.toInt - b.toInt < 2147483648) : (a - b).toInt = a.toInt - b.toInt := by
  rw [Int32.toInt_sub]; exact Int.bmod_eq_of_le (by omega) (by omega)
theorem i_mul3 {b : Int32} (h1 : -1000 ≤ b.toInt) (h2 : b.toInt ≤ 1000) : (3 * b).toInt = 3 * b.toInt := by
  rw [Int32.toInt_mul, show (3 : Int32).toInt = 3 from by decide]; exact Int.bmod_eq_of_le (by omega) (by omega)
theorem i_mul2 {b : Int32} (h1 : -1000 ≤ b.toInt) (h2 : b.toInt ≤ 1000) : (2 * b).toInt = 2 * b.toInt := by
  rw [Int32.toInt_mul, show (2 : Int32).toInt = 2 from by decide]; exact Int.bmod_eq_of_le (by omega) (by omega)
theorem i_0 : (0 : Int32).toInt = 0 := by decide
theorem i_1 : (1 : Int32).toInt = 1 := by decide
theorem rat_rp {n : Nat} {f : Nat → Int32} {i x j : Int32} : rat n (rput n f i x) j = x ∨ rat n (rput n f i x) j = rat n f j := by
  unfold rat rput
  by_cases hj : 0 ≤ j.toInt ∧ j.toInt < n
  · rw [if_pos hj, if_pos hj]
    by_cases hi : 0 ≤ i.toInt ∧ i.toInt < n
    · rw [if_pos hi]
      show (if j.toNatClampNeg = i.toNatClampNeg then x else f j.toNatClampNeg) = x ∨ (if j.toNatClampNeg = i.toNatClampNeg then x else f j.toNatClampNeg) = f j.toNatClampNeg
      by_cases e : j.toNatClampNeg = i.toNatClampNeg
      · exact Or.inl (if_pos e)
      · exact Or.inr (if_neg e)
    · rw [if_neg hi]; exact Or.inr rfl
  · rw [if_neg hj, if_neg hj]; exact Or.inr rfl
/-- qualities lie in 0 .. 31 -/
def QP (f : Nat → Int32) : Prop := ∀ i : Int32, 0 ≤ (rat 10 f i).toInt ∧ (rat 10 f i).toInt ≤ 31
theorem QP_put {f : Nat → Int32} {i x : Int32} (h : QP f) (h1 : 0 ≤ x.toInt) (h2 : x.toInt ≤ 31) : QP (rput 10 f i x) := by
  intro j
  rcases rat_rp (n := 10) (f := f) (i := i) (x := x) (j := j) with e | e
  · rw [e]; exact ⟨h1, h2⟩
  · rw [e]; exact h j
theorem QP_0 : QP (fun _ => 0) := by
  intro i
  have e : rat 10 (fun _ => 0) i = 0 := by unfold rat; split <;> rfl
  rw [e, i_0]; omega
def QOK (c : CS) : Prop := QP c.1.2.2.2.2.1
/-- the ranges of what is told -/
def RGO (tn : Nat → Nat) (tr : Nat → Nat → Int32) : Prop :=
  (∀ k, k < tn 0 → 0 ≤ (rat 8 (tr 0) (nI k)).toInt ∧ (rat 8 (tr 0) (nI k)).toInt ≤ 9) ∧ (∀ k, k < tn 1 → 1 ≤ (rat 5 (tr 2) (nI k)).toInt ∧ (rat 5 (tr 2) (nI k)).toInt ≤ 9) ∧
  (∀ k, k < tn 2 → 1 ≤ (rat 10 (tr 5) (nI k)).toInt ∧ (rat 10 (tr 5) (nI k)).toInt ≤ 9) ∧ (∀ k, k < tn 3 → 0 ≤ (rat 6 (tr 6) (nI k)).toInt ∧ (rat 6 (tr 6) (nI k)).toInt ≤ 9)
theorem rl_rgo {T : Nat → Nat} {V : Nat → Int64} {M : Nat → Int32} {K t : Nat} {y : LSt} {q : RS} {tn : Nat → Nat} (h : Rl T V M K xN t y q) (hn : ∀ j, j < 5 → tn j = q.1 j) : RGO tn y.2.2.2.1 := by
  obtain ⟨_, ⟨b1, b2⟩, _, d1, _⟩ := h
  have d : ∀ r, r < 11 → ∀ k, k < tn (srR r) → y.2.2.2.1 r k = q.2.2.1 (mrR r) k ∧ RgR r (q.2.2.1 (mrR r) k) q.1 := fun r hr k hk => d1 r hr k (by rw [← hn _ (mr_ok r hr).2.2.2.2.2]; exact hk) (fun z => by cases z)
  obtain ⟨l0, l1, l2, l3, l4⟩ := b2
  have n0 := hn 0 (by omega)
  have n1 := hn 1 (by omega)
  have n2 := hn 2 (by omega)
  have n3 := hn 3 (by omega)
  have i9 : (9 : Int32).toInt = 9 := by decide
  refine ⟨fun k hk => ?_, fun k hk => ?_, fun k hk => ?_, fun k hk => ?_⟩
  · obtain ⟨e, g⟩ := d 0 (by omega) k hk
    obtain ⟨g1, g2⟩ := g.2.2.2.2 (Or.inl rfl)
    rw [rat_nI (by omega) (by decide), e]
    have a1 := Int32.le_iff_toInt_le.mp g1
    have a2 := Int32.le_iff_toInt_le.mp g2
    rw [i_0] at a1; rw [i9] at a2
    exact ⟨a1, a2⟩
  · obtain ⟨e, g⟩ := d 2 (by omega) k hk
    obtain ⟨g1, g2⟩ := g.2.2.2.1 (Or.inl rfl)
    rw [rat_nI (by omega) (by decide), e]
    have a1 := Int32.le_iff_toInt_le.mp g1
    have a2 := Int32.le_iff_toInt_le.mp g2
    rw [i_1] at a1; rw [i9] at a2
    exact ⟨a1, a2⟩
  · obtain ⟨e, g⟩ := d 5 (by omega) k hk
    obtain ⟨g1, g2⟩ := g.2.2.2.1 (Or.inr rfl)
    rw [rat_nI (by omega) (by decide), e]
    have a1 := Int32.le_iff_toInt_le.mp g1
    have a2 := Int32.le_iff_toInt_le.mp g2
    rw [i_1] at a1; rw [i9] at a2
    exact ⟨a1, a2⟩
  · obtain ⟨e, g⟩ := d 6 (by omega) k hk
    obtain ⟨g1, g2⟩ := g.2.2.2.2 (Or.inr rfl)
    rw [rat_nI (by omega) (by decide), e]
    have a1 := Int32.le_iff_toInt_le.mp g1
    have a2 := Int32.le_iff_toInt_le.mp g2
    rw [i_0] at a1; rw [i9] at a2
    exact ⟨a1, a2⟩
section
variable {tn : Nat → Nat} {tr : Nat → Nat → Int32} {tst : Nat → VS → Bool} {sq : Nat → Nat} {K : Nat} {sr : Nat → Nat → Int32} {c c2 : CS} {i k m n nS nP : Nat} {o w ab : Int32}
theorem fQl_b (h1 : 1 ≤ (rat 5 (tr 2) w).toInt) (h2 : (rat 5 (tr 2) w).toInt ≤ 9) (h3 : 1 ≤ (rat 10 (tr 5) (rat 20 (tr 8) o)).toInt) (h4 : (rat 10 (tr 5) (rat 20 (tr 8) o)).toInt ≤ 9) : 0 ≤ (fQl tr o w).toInt ∧ (fQl tr o w).toInt ≤ 31 := by
  have a0 : (3 * rat 5 (tr 2) w).toInt = 3 * (rat 5 (tr 2) w).toInt := i_mul3 (by omega) (by omega)
  have a1 : (3 * rat 5 (tr 2) w - rat 10 (tr 5) (rat 20 (tr 8) o)).toInt = 3 * (rat 5 (tr 2) w).toInt - (rat 10 (tr 5) (rat 20 (tr 8) o)).toInt := by
    rw [i_sub (by rw [a0]; omega) (by rw [a0]; omega), a0]
  obtain ⟨z, ez, z1, z2⟩ : ∃ z : Int32, (if rat 5 (tr 4) w = rat 20 (tr 9) o then (5 : Int32) else 0) = z ∧ 0 ≤ z.toInt ∧ z.toInt ≤ 5 := by
    by_cases e : rat 5 (tr 4) w = rat 20 (tr 9) o
    · exact ⟨5, if_pos e, by decide, by decide⟩
    · exact ⟨0, if_neg e, by decide, by decide⟩
  have a2 : (fQl0 tr o w).toInt = 3 * (rat 5 (tr 2) w).toInt - (rat 10 (tr 5) (rat 20 (tr 8) o)).toInt + z.toInt := by
    unfold fQl0
    rw [ez, i_add (by rw [a1]; omega) (by rw [a1]; omega), a1]
  by_cases h : 1 < fQl0 tr o w
  · rw [show fQl tr o w = fQl0 tr o w from if_pos h]
    have h9 := Int32.lt_iff_toInt_lt.mp h
    rw [i_1] at h9
    rw [a2] at h9 ⊢
    omega
  · rw [show fQl tr o w = 1 from if_neg h, i_1]; omega
theorem fWork_q (hQ : QOK c) (h1 : 0 ≤ (fQl tr o w).toInt) (h2 : (fQl tr o w).toInt ≤ 31) : QOK (fWork tr c o w) ∧ (fWork tr c o w).1.2.2.1 = c.1.2.2.1 := by
  by_cases h : rat 20 (fWk c o (fGain tr o w)).2.2.1 o < fNeed tr o
  · rw [show fWork tr c o w = fWk c o (fGain tr o w) from if_pos h]
    exact ⟨hQ, rfl⟩
  · rw [show fWork tr c o w = fFin tr (fWk c o (fGain tr o w)) o w (fQl tr o w) from if_neg h]
    exact ⟨QP_put (f := c.1.2.2.2.2.1) hQ h1 h2, rfl⟩
theorem fCarv_q (hS : SOK tn tr tst sq K sr) (hR : RGO tn tr) (hQ : QOK c) : ∀ i, i ≤ tn 1 → QOK (fCarv tr (tn 4) tst ab c i) ∧ (fCarv tr (tn 4) tst ab c i).1.2.2.1 = c.1.2.2.1 := by
  intro i
  induction i with
  | zero => intro _; exact ⟨hQ, rfl⟩
  | succ i ih =>
    intro hi
    have ih := ih (by omega)
    rw [show fCarv tr (tn 4) tst ab c (i + 1) = fCar1 tr (tn 4) tst ab (fCarv tr (tn 4) tst ab c i) i from rfl]
    generalize fCarv tr (tn 4) tst ab c i = C at ih ⊢
    by_cases h1 : nI i = ab
    · rw [show fCar1 tr (tn 4) tst ab C i = C from if_pos h1]; exact ih
    by_cases h2 : oI (fToday tr (tn 4) tst C.1 i) = (-1)
    · rw [show fCar1 tr (tn 4) tst ab C i = C from (if_neg h1).trans (if_pos h2)]; exact ih
    rw [show fCar1 tr (tn 4) tst ab C i = fWork tr C (oI (fToday tr (tn 4) tst C.1 i)) (nI i) from (if_neg h1).trans (if_neg h2)]
    obtain ⟨s, hs, es⟩ := (ord_in hS h2).2.1
    have b1 := hR.2.1 i (by omega)
    have b2 := hR.2.2.1 s hs
    have b3 := fQl_b (tr := tr) (o := oI (fToday tr (tn 4) tst C.1 i)) (w := nI i) b1.1 b1.2 (by rw [es]; exact b2.1) (by rw [es]; exact b2.2)
    have b4 := fWork_q (tr := tr) (o := oI (fToday tr (tn 4) tst C.1 i)) (w := nI i) ih.1 b3.1 b3.2
    exact ⟨b4.1, b4.2.trans ih.2⟩
theorem fOilA_q : ∀ i, (fOilA tr tst c i).1.2.2.2.2.1 = c.1.2.2.2.2.1 := by
  intro i
  induction i with
  | zero => rfl
  | succ i ih =>
    show (fOil1 tr tst (fOilA tr tst c i) i).1.2.2.2.2.1 = _
    unfold fOil1; split
    · exact ih
    · exact ih
theorem fOilA_m : ∀ i, (fOilA tr tst c i).1.2.2.1 = c.1.2.2.1 := by
  intro i
  induction i with
  | zero => rfl
  | succ i ih =>
    show (fOil1 tr tst (fOilA tr tst c i) i).1.2.2.1 = _
    unfold fOil1; split
    · exact ih
    · exact ih
theorem fRust_q : (fRust c nS).1.2.2.2.2.1 = c.1.2.2.2.2.1 := by unfold fRust; split <;> rfl
theorem fRust_m : (fRust c nS).1.2.2.1 = c.1.2.2.1 := by unfold fRust; split <;> rfl
theorem QP_eat {f : Nat → Int32} (h : QP f) : QP (fEat f k) := by
  have h1 := h (nI k)
  have e : (rat 10 f (nI k) - 1).toInt = (rat 10 f (nI k)).toInt - 1 := by rw [i_sub (by rw [i_1]; omega) (by rw [i_1]; omega), i_1]
  by_cases c : 0 < rat 10 f (nI k) - 1
  · rw [show fEat f k = rput 10 f (nI k) (rat 10 f (nI k) - 1) from congrArg (rput 10 f (nI k)) (if_pos c)]
    have h2 := Int32.lt_iff_toInt_lt.mp c
    rw [i_0] at h2
    exact QP_put h (by omega) (by omega)
  · rw [show fEat f k = rput 10 f (nI k) 0 from congrArg (rput 10 f (nI k)) (if_neg c)]
    exact QP_put h (by rw [i_0]; omega) (by rw [i_0]; omega)
theorem fGnF_q {damp : Int32} {fb fv : Nat → Int32} {x : (Nat → Int32) × (Nat → Int32)} (h : QP x.2) : ∀ i, QP (fGnF tr damp nS fb fv x i).2 := by
  intro i
  induction i with
  | zero => exact h
  | succ i ih =>
    show QP (if ¬ fAft tr damp nS fv i < 30 ∧ ¬ rat 10 fb (nI i) = (-1) then fEat (fGnF tr damp nS fb fv x i).2 i else (fGnF tr damp nS fb fv x i).2)
    split
    · exact QP_eat ih
    · exact ih
theorem fAbs_b {x : Int32} (h1 : -9 ≤ x.toInt) (h2 : x.toInt ≤ 9) : 0 ≤ (fAbs x).toInt ∧ (fAbs x).toInt ≤ 9 := by
  by_cases c : 0 ≤ x
  · rw [show fAbs x = x from if_pos c]
    have h3 := Int32.le_iff_toInt_le.mp c
    rw [i_0] at h3
    exact ⟨h3, h2⟩
  · rw [show fAbs x = 0 - x from if_neg c]
    have h3 := Int32.lt_iff_toInt_lt.mp (Int32.not_le.mp c)
    rw [i_0] at h3
    rw [i_sub (by rw [i_0]; omega) (by rw [i_0]; omega), i_0]
    omega
theorem fPl1_r {b : Int32} {fb fq fr : Nat → Int32} (hR : RGO tn tr) (hB : rat 10 fb (nI k) = (-1) ∨ inC (rat 10 fb (nI k)) (tn 0)) (hQ : QP fq) (hb : inC b (tn 3)) : -21 ≤ (fPl1 tr fb fq fr b k).toInt ∧ (fPl1 tr fb fq fr b k).toInt ≤ 31 := by
  obtain ⟨z, ez, z1, z2⟩ : ∃ z : Int32, fCost fr (nI k) = z ∧ 0 ≤ z.toInt ∧ z.toInt ≤ 3 := by
    by_cases e : fSq fr (nI k) = true
    · exact ⟨3, if_pos e, by decide, by decide⟩
    · exact ⟨0, if_neg e, by decide, by decide⟩
  have hd : -18 ≤ (fDel tr fb fq b (nI k)).toInt ∧ (fDel tr fb fq b (nI k)).toInt ≤ 31 := by
    by_cases e : rat 10 fb (nI k) = (-1)
    · rw [show fDel tr fb fq b (nI k) = 0 from if_pos e, i_0]; omega
    · rw [show fDel tr fb fq b (nI k) = rat 10 fq (nI k) - 2 * fAbs (rat 8 (tr 0) (rat 10 fb (nI k)) - rat 6 (tr 6) b) from if_neg e]
      obtain ⟨s, hs, es⟩ := hB.resolve_left e
      obtain ⟨p, hp, ep⟩ := hb
      have b1 := hR.1 s hs
      have b2 := hR.2.2.2 p hp
      rw [← es] at b1
      rw [← ep] at b2
      have b3 : (rat 8 (tr 0) (rat 10 fb (nI k)) - rat 6 (tr 6) b).toInt = (rat 8 (tr 0) (rat 10 fb (nI k))).toInt - (rat 6 (tr 6) b).toInt := i_sub (by omega) (by omega)
      have b4 := fAbs_b (x := rat 8 (tr 0) (rat 10 fb (nI k)) - rat 6 (tr 6) b) (by omega) (by omega)
      have b5 := i_mul2 (b := fAbs (rat 8 (tr 0) (rat 10 fb (nI k)) - rat 6 (tr 6) b)) (by omega) (by omega)
      have b6 := hQ (nI k)
      rw [i_sub (by rw [b5]; omega) (by rw [b5]; omega), b5]
      omega
  unfold fPl1
  rw [ez, i_sub (by omega) (by omega)]
  omega
theorem sumI_b {h : Nat → Int32} (hn : n ≤ 10) (H : ∀ k, k < n → -21 ≤ (h k).toInt ∧ (h k).toInt ≤ 31) : -21 * (n : Int) ≤ (sumI h n).toInt ∧ (sumI h n).toInt ≤ 31 * (n : Int) := by
  induction n with
  | zero => exact ⟨by show _ ≤ (0 : Int32).toInt; rw [i_0]; omega, by show (0 : Int32).toInt ≤ _; rw [i_0]; omega⟩
  | succ n ih =>
    have h1 := ih (by omega) (fun k hk => H k (by omega))
    have h2 := H n (by omega)
    have e : (sumI h (n + 1)).toInt = (sumI h n).toInt + (h n).toInt := i_add (by omega) (by omega)
    rw [e]; omega
theorem fPls0_b (hR : RGO tn tr) (hB : BOK (tn 0) (tn 2) c) (hQ : QOK c) (h10 : tn 2 ≤ 10) : -210 ≤ (fPls0 tr (tn 2) (tn 3) c).toInt ∧ (fPls0 tr (tn 2) (tn 3) c).toInt ≤ 310 := by
  by_cases e : fBsp tr c.1.1 (tn 3) = (-1)
  · rw [show fPls0 tr (tn 2) (tn 3) c = 0 from if_pos e, i_0]; omega
  · rw [show fPls0 tr (tn 2) (tn 3) c = fPleas tr c.1.2.2.2.1 c.1.2.2.2.2.1 c.1.2.2.2.2.2.2 (fBsp tr c.1.1 (tn 3)) (tn 2) from if_neg e]
    have hb := (fBsp_in (tr := tr) (o := c.1.1) (tn 3)).resolve_left e
    have h1 := sumI_b (h := fPl1 tr c.1.2.2.2.1 c.1.2.2.2.2.1 c.1.2.2.2.2.2.2 (fBsp tr c.1.1 (tn 3))) h10 (fun k hk => fPl1_r hR (hB k hk (by omega)) hQ hb)
    unfold fPleas
    omega
theorem fPay_q (hR : RGO tn tr) (hB : BOK (tn 0) (tn 2) c) (hQ : QOK c) (h10 : tn 2 ≤ 10) (hm : c.1.2.2.1 = nI m) : QOK (fPay tr (tn 2) (tn 3) c) ∧ ∃ m2, (fPay tr (tn 2) (tn 3) c).1.2.2.1 = nI m2 ∧ m ≤ m2 ∧ m2 ≤ m + 31 := by
  by_cases h : fPls0 tr (tn 2) (tn 3) c < 10
  · rw [show fPay tr (tn 2) (tn 3) c = c from if_pos h]
    exact ⟨hQ, m, hm, by omega, by omega⟩
  · rw [show fPay tr (tn 2) (tn 3) c = fCoi c (c.1.2.2.1 + fPls0 tr (tn 2) (tn 3) c / 10) from if_neg h]
    have h1 := fPls0_b hR hB hQ h10
    have h2 := Int32.le_iff_toInt_le.mp (Int32.not_lt.mp h)
    rw [show (10 : Int32).toInt = 10 from by decide] at h2
    obtain ⟨p, hp, ep⟩ := nI_of (x := fPls0 tr (tn 2) (tn 3) c) (by rw [Int32.lt_iff_toInt_lt, i_0]; omega)
    rw [ep, nI_toInt hp] at h1
    refine ⟨hQ, m + p / 10, ?_, by omega, by omega⟩
    show c.1.2.2.1 + fPls0 tr (tn 2) (tn 3) c / 10 = _
    rw [ep, hm, show (10 : Int32) = nI 10 from rfl, nI_div (by omega) (by decide), nI_add]
theorem fDay_q (hS : SOK tn tr tst sq K sr) (hR : RGO tn tr) (hB : BOK (tn 0) (tn 2) c) (hQ : QOK c) (hm : c.1.2.2.1 = nI m) : QOK (fDay tr tn tst ab c) ∧ ∃ m2, (fDay tr tn tst ab c).1.2.2.1 = nI m2 ∧ m ≤ m2 ∧ m2 ≤ m + 31 := by
  obtain ⟨q1, q2⟩ := fCarv_q (ab := ab) hS hR hQ (tn 1) (Nat.le_refl _)
  have hb1 := fCarv_ok (ab := ab) hS hB (tn 1)
  generalize hC : fCarv tr (tn 4) tst ab c (tn 1) = C at q1 q2 hb1
  generalize hE : fGnaw tr (tn 2) (fRust (fOilA tr tst C (tn 4)) (tn 2)) = E
  have hb2 : BOK (tn 0) (tn 2) E := by
    rw [← hE]
    refine BOK_eq hb1 ?_
    show (fRust (fOilA tr tst C (tn 4)) (tn 2)).1.2.2.2.1 = _
    rw [fRust_b', fOilA_b]
  have hq2 : QOK E := by
    rw [← hE]
    refine fGnF_q ?_ _
    show QP (fRust (fOilA tr tst C (tn 4)) (tn 2)).1.2.2.2.2.1
    rw [fRust_q, fOilA_q]; exact q1
  have hm2 : E.1.2.2.1 = nI m := by
    rw [← hE]
    show (fRust (fOilA tr tst C (tn 4)) (tn 2)).1.2.2.1 = _
    rw [fRust_m, fOilA_m, q2, hm]
  have e : fDay tr tn tst ab c = fNext (fPay tr (tn 2) (tn 3) E) := by rw [← hE, ← hC]; rfl
  rw [e]
  exact fPay_q hR hb2 hq2 hS.1.2.2.1 hm2
theorem fLive_q (hS : SOK tn tr tst sq K sr) (hR : RGO tn tr) (hB : BOK (tn 0) (tn 2) c) (hQ : QOK c) (hm : c.1.2.2.1 = nI m) : ∀ d, QOK (fLive tr tn tst ab c d) ∧ ∃ m2, (fLive tr tn tst ab c d).1.2.2.1 = nI m2 ∧ m ≤ m2 ∧ m2 ≤ m + 31 * d := by
  intro d
  induction d with
  | zero => exact ⟨hQ, m, hm, by omega, by omega⟩
  | succ d ih =>
    obtain ⟨h1, m2, h2, h3, h4⟩ := ih
    obtain ⟨g1, m3, g2, g3, g4⟩ := fDay_q (ab := ab) hS hR (fLive_ok (ab := ab) hS hB d) h1 h2
    exact ⟨g1, m3, g2, by omega, by omega⟩
end
section
variable {co : Nat → Int32}
theorem best_1 {ge : Bool} {n : Nat} (hn : n ≤ 100) (h : ∀ i, i < n → 0 ≤ co i) {a : Int32} : 1 ≤ n → fBest ge co (-1, 0) n = fBmx ge co (a, -1) n ∧ ¬ (fBest ge co (-1, 0) n).1 = (-1) := by
  induction n with
  | zero => intro h0; omega
  | succ n ih =>
    intro _
    by_cases h0 : n = 0
    · subst h0
      have e1 : fBest ge co (-1, 0) 1 = (nI 0, co 0) := if_pos (Or.inl rfl)
      have h9 : (-1 : Int32) < co 0 := Int32.lt_iff_toInt_lt.mpr (by
        have := Int32.le_iff_toInt_le.mp (h 0 (by omega))
        rw [i_0] at this
        rw [show (-1 : Int32).toInt = -1 from by decide]; omega)
      have e2 : fBmx ge co (a, -1) 1 = (nI 0, co 0) := if_pos (by
        cases ge with
        | true => exact Int32.le_of_lt h9
        | false => exact h9)
      rw [e1, e2]
      exact ⟨rfl, by show ¬ nI 0 = (-1); decide⟩
    · obtain ⟨e1, e2⟩ := ih (by omega) (fun i hi => h i (by omega)) (by omega)
      have e3 : fBest ge co (-1, 0) (n + 1) = if (if ge = true then (fBest ge co (-1, 0) n).2 ≤ co n else (fBest ge co (-1, 0) n).2 < co n) then (nI n, co n) else fBest ge co (-1, 0) n := by
        show (if _ ∨ _ then _ else _) = _
        by_cases c : (if ge = true then (fBest ge co (-1, 0) n).2 ≤ co n else (fBest ge co (-1, 0) n).2 < co n)
        · rw [if_pos (Or.inr c), if_pos c]
        · rw [if_neg (fun z => z.elim e2 c), if_neg c]
      have e4 : fBmx ge co (a, -1) (n + 1) = if (if ge = true then (fBmx ge co (a, -1) n).2 ≤ co n else (fBmx ge co (a, -1) n).2 < co n) then (nI n, co n) else fBmx ge co (a, -1) n := rfl
      rw [← e1] at e4
      refine ⟨e3.trans e4.symm, ?_⟩
      rw [e3]
      by_cases c : (if ge = true then (fBest ge co (-1, 0) n).2 ≤ co n else (fBest ge co (-1, 0) n).2 < co n)
      · rw [if_pos c]
        exact nI_nm1 (k := n) (by omega)
      · rw [if_neg c]; exact e2
theorem best_0 {n : Nat} (hn : n ≤ 100) (h : ∀ i, i < n → 0 ≤ co i) : (fBest false co (-1, 0) n).1 = (fBmx false co ((-1), (-1)) n).1 := by
  by_cases h0 : n = 0
  · subst h0; rfl
  · exact congrArg Prod.fst (best_1 hn h (by omega)).1
end
/-! the mean is a number -/
theorem fBear_n {fb : Nat → Int32} {x : Int32} : ∀ n, ∃ j, j ≤ n ∧ fBear fb x n = nI j := by
  intro n
  induction n with
  | zero => exact ⟨0, Nat.le_refl _, nI_0.symm⟩
  | succ n ih =>
    obtain ⟨j, hj, e⟩ := ih
    show ∃ i, i ≤ n + 1 ∧ fBear fb x n + (if rat 10 fb (nI n) = x then 1 else 0) = nI i
    by_cases c : rat 10 fb (nI n) = x
    · rw [if_pos c, e]; exact ⟨j + 1, by omega, nI_1 j⟩
    · rw [if_neg c, e]; exact ⟨j, by omega, Int32.add_zero _⟩
theorem fQua_n {fb fq : Nat → Int32} (h : QP fq) : ∀ n, ∃ j, j ≤ 31 * n ∧ fQua fb fq n = nI j := by
  intro n
  induction n with
  | zero => exact ⟨0, Nat.le_refl _, nI_0.symm⟩
  | succ n ih =>
    obtain ⟨j, hj, e⟩ := ih
    show ∃ i, i ≤ 31 * (n + 1) ∧ fQua fb fq n + (if rat 10 fb (nI n) = (-1) then 0 else rat 10 fq (nI n)) = nI i
    by_cases c : rat 10 fb (nI n) = (-1)
    · rw [if_pos c, e]; exact ⟨j, by omega, Int32.add_zero _⟩
    · rw [if_neg c, e]
      have h1 := h (nI n)
      obtain ⟨p, hp, ep⟩ := nI_of (x := rat 10 fq (nI n)) (by rw [Int32.lt_iff_toInt_lt, i_0]; omega)
      rw [ep, nI_toInt hp] at h1
      exact ⟨j + p, by omega, by rw [ep, nI_add]⟩
theorem mean_n : ∀ q, q < 311 → ∀ d, d < 11 → 0 < d → FP.ddiv (FP.i2d (nI q)) (FP.i2d (nI d)) &&& 0x7fffffffffffffff ≤ 0x7ff0000000000000 := by decide +kernel
theorem mean_ok {fb fq : Nat → Int32} {n : Nat} (hn : n ≤ 10) (h : QP fq) : ¬ (nI n - fBear fb (-1) n) = 0 → vf_n64 (FP.ddiv (FP.i2d (fQua fb fq n)) (FP.i2d (nI n - fBear fb (-1) n))) := by
  obtain ⟨j, hj, ej⟩ := fBear_n (fb := fb) (x := -1) n
  obtain ⟨q, hq, eq⟩ := fQua_n (fb := fb) h n
  rw [ej, eq, pk_sub hj]
  intro h0
  refine mean_n q (by omega) (n - j) (by omega) ?_
  rcases Nat.eq_zero_or_pos (n - j) with z | z
  · rw [z] at h0; exact absurd nI_0 h0
  · exact z
