/-! the law's list: the numbers that its cells choose -/
def c0s : CS := ((0, 3, 0, fun _ => (-1), fun _ => 0, fun _ => 0, fun _ => 0), 0, fun _ => 0, fun _ => 0)
def xB (n : Nat) (f : Nat → Int32) (k : Nat) : Int32 := cel n f 1 >>> ((4 * nI k) &&& (31 : Int32))
def xC (n : Nat) (f : Nat → Int32) (k : Nat) : Int32 := cel n f 3 >>> ((5 * nI k) &&& (31 : Int32))
def xS (n : Nat) (f : Nat → Int32) (k : Nat) : Int32 := cel n f 5 >>> ((3 * nI k) &&& (31 : Int32))
def xS2 (n : Nat) (f : Nat → Int32) (k : Nat) : Int32 := cel n f 6 >>> (nI k &&& (31 : Int32))
def xP (n : Nat) (f : Nat → Int32) (k : Nat) : Int32 := cel n f 8 >>> ((4 * nI k) &&& (31 : Int32))
def xO (n : Nat) (f : Nat → Int32) (k : Nat) : Int32 := cel n f (10 + k % 3) >>> ((nI k / 3 * 9) &&& (31 : Int32))
def yO (n : Nat) (f : Nat → Int32) (k : Nat) : Int32 := cel n f (13 + k % 3) >>> ((nI k / 3 * 9) &&& (31 : Int32))
def shr (x : Int32) (k : Int32) : Int32 := x >>> (k &&& (31 : Int32))
def tnF (n : Nat) (f : Nat → Int32) : Nat → Nat := fun j => if j = 0 then 1 + blw (cel n f 0) 5 else if j = 1 then 1 + blw (cel n f 2) 4 else if j = 2 then 1 + blw (cel n f 4) 6 else if j = 3 then blw (cel n f 7) 4 else if j = 4 then blw (cel n f 9) 10 else 0
def dtF (n : Nat) (f : Nat → Int32) : Nat → Nat → Nat := fun q k =>
  if q = 0 then blw (xB n f k) 10 else if q = 1 then 1 + blw (shr (xB n f k) 3) (if blw (shr (xB n f k) 5) 2 = 0 then 2 else 9)
  else if q = 2 then 1 + blw (xC n f k) 9 else if q = 3 then 1 + blw (shr (xC n f k) 4) 4 else if q = 4 then blw (shr (xC n f k) 2) (tnF n f 0 + 1)
  else if q = 5 then 1 + blw (xS n f k) (if blw (xS2 n f k) 2 = 0 then 9 else 4) else if q = 6 then blw (xP n f k) 10
  else if q = 7 then (if blw (shr (xP n f k) 3) 3 = 0 then 0 else blw (shr (xP n f k) 2) 60) else 0
def odF (n : Nat) (f : Nat → Int32) : Nat → Nat → Nat := fun k q =>
  if q = 0 then (if blw (xO n f k) 4 = 0 then 1 else 0) else if q = 1 then blw (shr (xO n f k) 2) (tnF n f 2) else if q = 2 then blw (shr (xO n f k) 4) (tnF n f 0) else if q = 3 then blw (shr (xO n f k) 6) (tnF n f 1)
  else if q = 5 then blw (yO n f k) 11 - 2 else if q = 6 then blw (shr (yO n f k) 3) 130 else if q = 7 then blw (shr (yO n f k) 5) 30 else if q = 8 then blw (shr (xO n f k) 7) 30 else if q = 9 then blw (shr (yO n f k) 7) 30 else 0
theorem mx_ok : ∀ b, b < 11 → (if (-1 : Int32) < nI b - 3 then nI b - 3 else (-1)) = nI (b - 2) + (-1) := by decide +kernel
theorem tnF_z {n : Nat} {f : Nat → Int32} : ∀ j, 4 < j → tnF n f j = 0 := fun j h => by
  unfold tnF
  rw [if_neg (by omega), if_neg (by omega), if_neg (by omega), if_neg (by omega), if_neg (by omega)]
theorem tnF_c {n : Nat} {f : Nat → Int32} : CntS (tnF n f) := by
  have h0 := blw_lt (v := cel n f 0) (n := 5) (by decide)
  have h1 := blw_lt (v := cel n f 2) (n := 4) (by decide)
  have h2 := blw_lt (v := cel n f 4) (n := 6) (by decide)
  have h3 := blw_lt (v := cel n f 7) (n := 4) (by decide)
  have h4 := blw_lt (v := cel n f 9) (n := 10) (by decide)
  have e0 : tnF n f 0 = 1 + blw (cel n f 0) 5 := rfl
  have e1 : tnF n f 1 = 1 + blw (cel n f 2) 4 := rfl
  have e2 : tnF n f 2 = 1 + blw (cel n f 4) 6 := rfl
  have e3 : tnF n f 3 = blw (cel n f 7) 4 := rfl
  have e4 : tnF n f 4 = blw (cel n f 9) 10 := rfl
  unfold CntS
  omega
theorem dts_ok {n : Nat} {f : Nat → Int32} : DtS (tnF n f) (dtF n f) (odF n f) := by
  have hN := tnF_c (n := n) (f := f)
  refine ⟨hN, fun k hk => ?_, fun k hk => ?_, fun k hk => ?_, fun k hk => ?_, fun k hk => ?_⟩
  · have h0 := blw_lt (v := xB n f k) (n := 10) (by decide)
    have e0 : dtF n f 0 k = blw (xB n f k) 10 := rfl
    have e1 : dtF n f 1 k = 1 + blw (shr (xB n f k) 3) (if blw (shr (xB n f k) 5) 2 = 0 then 2 else 9) := rfl
    have h1 : blw (shr (xB n f k) 3) (if blw (shr (xB n f k) 5) 2 = 0 then 2 else 9) < 9 := by
      split
      · exact Nat.lt_trans (blw_lt (by decide)) (by decide)
      · exact blw_lt (by decide)
    omega
  · have h0 := blw_lt (v := xC n f k) (n := 9) (by decide)
    have h1 := blw_lt (v := shr (xC n f k) 4) (n := 4) (by decide)
    have h2 := blw_lt (v := shr (xC n f k) 2) (n := tnF n f 0 + 1) (by omega)
    have e0 : dtF n f 2 k = 1 + blw (xC n f k) 9 := rfl
    have e1 : dtF n f 3 k = 1 + blw (shr (xC n f k) 4) 4 := rfl
    have e2 : dtF n f 4 k = blw (shr (xC n f k) 2) (tnF n f 0 + 1) := rfl
    omega
  · have e1 : dtF n f 5 k = 1 + blw (xS n f k) (if blw (xS2 n f k) 2 = 0 then 9 else 4) := rfl
    have h1 : blw (xS n f k) (if blw (xS2 n f k) 2 = 0 then 9 else 4) < 9 := by
      split
      · exact blw_lt (by decide)
      · exact Nat.lt_trans (blw_lt (by decide)) (by decide)
    omega
  · have h0 := blw_lt (v := xP n f k) (n := 10) (by decide)
    have e0 : dtF n f 6 k = blw (xP n f k) 10 := rfl
    have e1 : dtF n f 7 k = (if blw (shr (xP n f k) 3) 3 = 0 then 0 else blw (shr (xP n f k) 2) 60) := rfl
    have h1 : (if blw (shr (xP n f k) 3) 3 = 0 then 0 else blw (shr (xP n f k) 2) 60) < 60 := by
      split
      · decide
      · exact blw_lt (by decide)
    omega
  · unfold CntS at hN
    have e0 : odF n f k 0 = (if blw (xO n f k) 4 = 0 then 1 else 0) := rfl
    have h0 : (if blw (xO n f k) 4 = 0 then 1 else 0) ≤ 1 := by split <;> decide
    have e1 : odF n f k 1 = blw (shr (xO n f k) 2) (tnF n f 2) := rfl
    have h1 := blw_lt (v := shr (xO n f k) 2) (n := tnF n f 2) (by omega)
    have e2 : odF n f k 2 = blw (shr (xO n f k) 4) (tnF n f 0) := rfl
    have h2 := blw_lt (v := shr (xO n f k) 4) (n := tnF n f 0) (by omega)
    have e3 : odF n f k 3 = blw (shr (xO n f k) 6) (tnF n f 1) := rfl
    have h3 := blw_lt (v := shr (xO n f k) 6) (n := tnF n f 1) (by omega)
    have e5 : odF n f k 5 = blw (yO n f k) 11 - 2 := rfl
    have h5 := blw_lt (v := yO n f k) (n := 11) (by decide)
    have e6 : odF n f k 6 = blw (shr (yO n f k) 3) 130 := rfl
    have h6 := blw_lt (v := shr (yO n f k) 3) (n := 130) (by decide)
    have e7 : odF n f k 7 = blw (shr (yO n f k) 5) 30 := rfl
    have h7 := blw_lt (v := shr (yO n f k) 5) (n := 30) (by decide)
    have e8 : odF n f k 8 = blw (shr (xO n f k) 7) 30 := rfl
    have h8 := blw_lt (v := shr (xO n f k) 7) (n := 30) (by decide)
    have e9 : odF n f k 9 = blw (shr (yO n f k) 7) 30 := rfl
    have h9 := blw_lt (v := shr (yO n f k) 7) (n := 30) (by decide)
    omega
/-! letters are letters -/
theorem cat_asc {F : Nat → List Nat} : ∀ m, (∀ k, k < m → Asc (F k)) → Asc (cat F m) := by
  intro m
  induction m with
  | zero => intro _; exact Asc_nil
  | succ m ih => intro h; exact (ih (fun k hk => h k (by omega))).app (h m (by omega))
section
variable {tn d : Nat → Nat} {dt od : Nat → Nat → Nat} {tr : Nat → Nat → Int32} {X w : List Nat} {k a b j i v : Nat}
theorem wTx_asc (h6 : d 6 < 130) (h7 : d 7 < 30) (h8 : d 8 < 30) (h9 : d 9 < 30) : Asc (wTx tn d) := by
  have a7 := Nat.mod_le (d 7) (tn 2)
  have a8 := Nat.mod_le (d 8) (tn 2)
  have a9 := Nat.mod_le (d 9) (tn 0)
  unfold wTx
  (repeat' split)
  · unfold ln_w1; (repeat' apply Asc.app) <;> first | exact Asc_nil | exact TX_asc _ (by decide) | exact dec_asc (by omega)
  · unfold ln_w2; (repeat' apply Asc.app) <;> first | exact Asc_nil | exact TX_asc _ (by decide) | exact dec_asc (by omega)
  · unfold ln_w3; (repeat' apply Asc.app) <;> first | exact Asc_nil | exact TX_asc _ (by decide) | exact dec_asc (by omega)
  · unfold ln_w4; (repeat' apply Asc.app) <;> first | exact Asc_nil | exact TX_asc _ (by decide) | exact dec_asc (by omega)
  · unfold ln_w5; (repeat' apply Asc.app) <;> first | exact Asc_nil | exact TX_asc _ (by decide) | exact dec_asc (by omega)
  · unfold ln_w6; (repeat' apply Asc.app) <;> first | exact Asc_nil | exact TX_asc _ (by decide) | exact dec_asc (by omega)
  · unfold ln_w7; (repeat' apply Asc.app) <;> first | exact Asc_nil | exact TX_asc _ (by decide) | exact dec_asc (by omega)
  · unfold ln_w8; (repeat' apply Asc.app) <;> first | exact Asc_nil | exact TX_asc _ (by decide) | exact dec_asc (by omega)
  · exact Asc_nil
theorem LL_asc (hD : DtS tn dt od) : Asc (LL tn dt od) := by
  have hN := hD.1
  unfold CntS at hN
  have a59 : Asc [59] := Asc.of rfl
  have a3 : Asc [32, 59, 10] := Asc.of rfl
  have a2 : Asc [59, 10] := Asc.of rfl
  unfold LL
  refine Asc.app (cat_asc _ fun k hk => ?_) (Asc.app (cat_asc _ fun k hk => ?_) (Asc.app (cat_asc _ fun k hk => ?_) (Asc.app (cat_asc _ fun k hk => ?_) (cat_asc _ fun k hk => ?_))))
  · have := hD.2.1 k hk
    unfold ln_beast; (repeat' apply Asc.app) <;> first | exact Asc_nil | exact TX_asc _ (by decide) | exact dec_asc (by omega)
  · have := hD.2.2.1 k hk
    unfold lnC
    refine Asc.app ?_ (by split; exact a59; exact a3)
    split
    · unfold ln_carv0; (repeat' apply Asc.app) <;> first | exact Asc_nil | exact TX_asc _ (by decide) | exact dec_asc (by omega)
    · unfold ln_carv1; (repeat' apply Asc.app) <;> first | exact Asc_nil | exact TX_asc _ (by decide) | exact dec_asc (by omega)
  · have := hD.2.2.2.1 k hk
    unfold ln_stall; (repeat' apply Asc.app) <;> first | exact Asc_nil | exact TX_asc _ (by decide) | exact dec_asc (by omega)
  · have := hD.2.2.2.2.1 k hk
    unfold ln_bish; (repeat' apply Asc.app) <;> first | exact Asc_nil | exact TX_asc _ (by decide) | exact dec_asc (by omega)
  · have := hD.2.2.2.2.2 k hk
    unfold lnO
    refine Asc.app ?_ (Asc.app (wTx_asc (by omega) (by omega) (by omega) (by omega)) a2)
    split
    · unfold ln_oil; (repeat' apply Asc.app) <;> first | exact Asc_nil | exact TX_asc _ (by decide) | exact dec_asc (by omega)
    · unfold ln_carve; (repeat' apply Asc.app) <;> first | exact Asc_nil | exact TX_asc _ (by decide) | exact dec_asc (by omega)
/-! a line more -/
theorem ca_B : (((((((X ++ TX 25) ++ dec k) ++ TX 26) ++ dec a) ++ TX 27) ++ dec b) ++ TX 28) = X ++ ln_beast k a b := by
  unfold ln_beast; simp only [List.append_assoc]
theorem e_28 : ([59] : List Nat) = TX 28 := rfl
theorem e_33 : ([32, 59, 10] : List Nat) = TX 33 := rfl
theorem e_42 : ([59, 10] : List Nat) = TX 42 := rfl
theorem ca_C00 (h4 : dt 4 k = 0) (h : k % 2 = 0) : ((((((((X ++ TX 29) ++ dec k) ++ TX 30) ++ dec (dt 2 k)) ++ TX 31) ++ dec (dt 3 k)) ++ TX 2) ++ TX 28) = X ++ lnC dt k := by
  unfold lnC ln_carv0; rw [if_pos h4, if_pos h, e_28]; simp only [List.append_assoc]
theorem ca_C01 (h4 : dt 4 k = 0) (h : ¬ k % 2 = 0) : ((((((((X ++ TX 29) ++ dec k) ++ TX 30) ++ dec (dt 2 k)) ++ TX 31) ++ dec (dt 3 k)) ++ TX 2) ++ TX 33) = X ++ lnC dt k := by
  unfold lnC ln_carv0; rw [if_pos h4, if_neg h, e_33]; simp only [List.append_assoc]
theorem ca_C10 (h4 : ¬ dt 4 k = 0) (h : k % 2 = 0) : ((((((((X ++ TX 29) ++ dec k) ++ TX 30) ++ dec (dt 2 k)) ++ TX 31) ++ dec (dt 3 k)) ++ (([] ++ TX 32) ++ dec (dt 4 k - 1))) ++ TX 28) = X ++ lnC dt k := by
  unfold lnC ln_carv1; rw [if_neg h4, if_pos h, e_28]; simp only [List.append_assoc, List.nil_append]
theorem ca_C11 (h4 : ¬ dt 4 k = 0) (h : ¬ k % 2 = 0) : ((((((((X ++ TX 29) ++ dec k) ++ TX 30) ++ dec (dt 2 k)) ++ TX 31) ++ dec (dt 3 k)) ++ (([] ++ TX 32) ++ dec (dt 4 k - 1))) ++ TX 33) = X ++ lnC dt k := by
  unfold lnC ln_carv1; rw [if_neg h4, if_neg h, e_33]; simp only [List.append_assoc, List.nil_append]
theorem ca_S : (((((X ++ TX 34) ++ dec k) ++ TX 35) ++ dec a) ++ TX 28) = X ++ ln_stall k a := by
  unfold ln_stall; simp only [List.append_assoc]
theorem ca_P : (((((((X ++ TX 36) ++ dec k) ++ TX 26) ++ dec a) ++ TX 37) ++ dec b) ++ TX 28) = X ++ ln_bish k a b := by
  unfold ln_bish; simp only [List.append_assoc]
theorem ca_O1 (h : d 0 = 1) (hw : w = wTx tn d) : (((X ++ (([] ++ TX 38) ++ dec (d 1))) ++ w) ++ TX 42) = X ++ lnO tn d := by
  subst hw
  unfold lnO ln_oil; rw [if_pos h, e_42]; simp only [List.append_assoc, List.nil_append]
theorem ca_O0 (h : ¬ d 0 = 1) (hw : w = wTx tn d) : (((X ++ (((((([] ++ TX 39) ++ dec (d 2)) ++ TX 40) ++ dec (d 1)) ++ TX 41) ++ dec (d 3))) ++ w) ++ TX 42) = X ++ lnO tn d := by
  subst hw
  unfold lnO ln_carve; rw [if_neg h, e_42]; simp only [List.append_assoc, List.nil_append]
/-! rows, filled one table after the other -/
def nnA (tn : Nat → Nat) (j i : Nat) : Nat → Nat := fun k => if k < j then tn k else if k = j then i else 0
theorem nnA_j : nnA tn j i j = i := by unfold nnA; rw [if_neg (Nat.lt_irrefl j), if_pos rfl]
theorem nnA_s : updN (nnA tn j i) j (i + 1) = nnA tn j (i + 1) := by
  funext q
  unfold updN nnA
  by_cases h : q = j
  · subst h; rw [if_pos rfl, if_neg (Nat.lt_irrefl q), if_pos rfl]
  · rw [if_neg h, if_neg h, if_neg h]
theorem nnA_e : nnA tn j (tn j) = nnA tn (j + 1) 0 := by
  funext q
  unfold nnA
  by_cases h : q < j
  · rw [if_pos h, if_pos (by omega)]
  · by_cases h2 : q = j
    · subst h2; rw [if_neg h, if_pos rfl, if_pos (by omega)]
    · rw [if_neg h, if_neg h2, if_neg (by omega)]; split <;> rfl
theorem nnA_0 {g0 : ClassId} {ad : Nat → Nat → Nat} {M : Nat → Nat → Nat → Int32} : simW g0 ad (nnA tn 0 0) M = [] := rfl
theorem nnA_5 {g0 : ClassId} {ad : Nat → Nat → Nat} {M : Nat → Nat → Nat → Int32} : simW g0 ad (nnA tn 4 (tn 4)) M = simW g0 ad tn M := by
  unfold simW
  rw [show nnA tn 4 (tn 4) 0 = tn 0 from rfl, show nnA tn 4 (tn 4) 1 = tn 1 from rfl, show nnA tn 4 (tn 4) 2 = tn 2 from rfl, show nnA tn 4 (tn 4) 3 = tn 3 from rfl, show nnA tn 4 (tn 4) 4 = tn 4 from nnA_j]
theorem upA_s {ad : Nat → Nat → Nat} : upA ad j i v j = va_up (ad j) i v := if_pos rfl
theorem upA_n {ad : Nat → Nat → Nat} (h : k ≠ j) : upA ad j i v k = ad k := if_neg h
theorem tr_q {q : Nat} (ht : tr = trC dt od tn) (hq : q ≤ 7) (hn : q ≠ 4) (hk : k < tn (own q)) : tr q k = nI (dt q k) := by
  rw [ht, trC_in (by omega) hk]; unfold vD; rw [if_neg hn, if_pos hq]
theorem tr_4 (ht : tr = trC dt od tn) (hk : k < tn 1) : tr 4 k = nI (dt 4 k) + (-1) := by
  rw [ht, trC_in (by decide) hk]; unfold vD; rw [if_pos rfl]
theorem sM13 {c : CS} : simM tr od c 1 k 3 = c.2.2.2 k := rfl
theorem sM21 {c : CS} : simM tr od c 2 k 1 = c.1.2.2.2.1 k := rfl
theorem sM22 {c : CS} : simM tr od c 2 k 2 = c.1.2.2.2.2.1 k := rfl
theorem sM23 {c : CS} : simM tr od c 2 k 3 = c.1.2.2.2.2.2.1 k := rfl
theorem sM24 {c : CS} : simM tr od c 2 k 4 = c.1.2.2.2.2.2.2 k := rfl
theorem c0s_13 : (0 : Int32) = c0s.2.2.2 k := rfl
theorem c0s_21 : (-1 : Int32) = c0s.1.2.2.2.1 k := rfl
theorem c0s_22 : (0 : Int32) = c0s.1.2.2.2.2.1 k := rfl
theorem c0s_23 : (0 : Int32) = c0s.1.2.2.2.2.2.1 k := rfl
theorem c0s_24 : (0 : Int32) = c0s.1.2.2.2.2.2.2 k := rfl
theorem row_0 (ht : tr = trC dt od tn) (hk : k < tn 0) : ∀ q, q < kw 0 → upd (upd (fun _ => 0) 0 (nI (dt 0 k))) 1 (nI (dt 1 k)) q = simM tr od c0s 0 k q := by
  intro q hq
  match q, hq with
  | 0, _ => exact (pk_un (by decide)).trans (pk_us.trans ((tr_q (q := 0) ht (by decide) (by decide) hk).symm))
  | 1, _ => exact pk_us.trans ((tr_q (q := 1) ht (by decide) (by decide) hk).symm)
  | q + 2, h => exact absurd (show q + 2 < 2 from h) (by omega)
theorem row_1 (ht : tr = trC dt od tn) (hk : k < tn 1) : ∀ q, q < kw 1 → upd (upd (upd (upd (fun _ => 0) 0 (nI (dt 2 k))) 1 (nI (dt 3 k))) 2 (nI (dt 4 k) + (-1))) 3 0 q = simM tr od c0s 1 k q := by
  intro q hq
  match q, hq with
  | 0, _ => exact (pk_un (by decide)).trans ((pk_un (by decide)).trans ((pk_un (by decide)).trans (pk_us.trans ((tr_q (q := 2) ht (by decide) (by decide) hk).symm))))
  | 1, _ => exact (pk_un (by decide)).trans ((pk_un (by decide)).trans (pk_us.trans ((tr_q (q := 3) ht (by decide) (by decide) hk).symm)))
  | 2, _ => exact (pk_un (by decide)).trans (pk_us.trans ((tr_4 ht hk).symm))
  | 3, _ => exact pk_us.trans (c0s_13.trans sM13.symm)
  | q + 4, h => exact absurd (show q + 4 < 4 from h) (by omega)
theorem row_2 (ht : tr = trC dt od tn) (hk : k < tn 2) : ∀ q, q < kw 2 → upd (upd (upd (upd (upd (fun _ => 0) 0 (nI (dt 5 k))) 1 (-1)) 2 0) 3 0) 4 0 q = simM tr od c0s 2 k q := by
  intro q hq
  match q, hq with
  | 0, _ => exact (pk_un (by decide)).trans ((pk_un (by decide)).trans ((pk_un (by decide)).trans ((pk_un (by decide)).trans (pk_us.trans ((tr_q (q := 5) ht (by decide) (by decide) hk).symm)))))
  | 1, _ => exact (pk_un (by decide)).trans ((pk_un (by decide)).trans ((pk_un (by decide)).trans (pk_us.trans (c0s_21.trans sM21.symm))))
  | 2, _ => exact (pk_un (by decide)).trans ((pk_un (by decide)).trans (pk_us.trans (c0s_22.trans sM22.symm)))
  | 3, _ => exact (pk_un (by decide)).trans (pk_us.trans (c0s_23.trans sM23.symm))
  | 4, _ => exact pk_us.trans (c0s_24.trans sM24.symm)
  | q + 5, h => exact absurd (show q + 5 < 5 from h) (by omega)
theorem row_3 (ht : tr = trC dt od tn) (hk : k < tn 3) : ∀ q, q < kw 3 → upd (upd (fun _ => 0) 0 (nI (dt 6 k))) 1 (nI (dt 7 k)) q = simM tr od c0s 3 k q := by
  intro q hq
  match q, hq with
  | 0, _ => exact (pk_un (by decide)).trans (pk_us.trans ((tr_q (q := 6) ht (by decide) (by decide) hk).symm))
  | 1, _ => exact pk_us.trans ((tr_q (q := 7) ht (by decide) (by decide) hk).symm)
  | q + 2, h => exact absurd (show q + 2 < 2 from h) (by omega)
theorem row_4 {f : Nat → Int32} (h0 : f 0 = nI (od k 0)) (h1 : f 1 = nI (od k 1)) (h2 : f 2 = nI (od k 2)) (h3 : f 3 = nI (od k 3)) (h4 : f 4 = 0) (h5 : f 5 = nI (od k 5) + (-1)) (h6 : f 6 = nI (od k 6)) (h7 : f 7 = nI (od k 7)) (h8 : f 8 = nI (od k 8)) (h9 : f 9 = nI (od k 9)) : ∀ q, q < kw 4 → f q = simM tr od c0s 4 k q := by
  intro q hq
  match q, hq with
  | 0, _ => exact h0
  | 1, _ => exact h1
  | 2, _ => exact h2
  | 3, _ => exact h3
  | 4, _ => exact h4
  | 5, _ => exact h5
  | 6, _ => exact h6
  | 7, _ => exact h7
  | 8, _ => exact h8
  | 9, _ => exact h9
  | q + 10, h => exact absurd (show q + 10 < 10 from h) (by omega)
end
