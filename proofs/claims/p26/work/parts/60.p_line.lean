/-! the reader of lines: LSt: the reader of tests, counts, codes, rows, tests' first and last steps -/
abbrev LSt : Type := ES × (Nat → Nat) × (Nat → Nat → Int64) × (Nat → Nat → Int32) × (Nat → Nat) × (Nat → Nat)
abbrev LFn : Type := LSt → Bool × LSt
def rputN (n : Nat) (f : Nat → Nat) (i : Int32) (m : Nat) : Nat → Nat := if 0 ≤ i.toInt ∧ i.toInt < n then updN f i.toNatClampNeg m else f
theorem rput_nIf {n : Nat} {f : Nat → Nat} {i : Int32} {m : Nat} : rput n (fun j => nI (f j)) i (nI m) = fun j => nI (rputN n f i m j) := by
  unfold rput rputN
  split
  · funext j
    show (if j = i.toNatClampNeg then nI m else nI (f j)) = nI (if j = i.toNatClampNeg then m else f j)
    split <;> rfl
  · rfl
def LOK (m : Nat → Nat) : Prop := m 0 ≤ 8 ∧ m 1 ≤ 5 ∧ m 2 ≤ 10 ∧ m 3 ≤ 6 ∧ m 4 ≤ 20
theorem LOK.a {m : Nat → Nat} (h : LOK m) : m 0 ≤ 8 ∧ m 2 ≤ 10 := ⟨h.1, h.2.2.1⟩
theorem LOK.up {m : Nat → Nat} (h : LOK m) (j x : Nat) (hx : (j = 0 → x ≤ 8) ∧ (j = 1 → x ≤ 5) ∧ (j = 2 → x ≤ 10) ∧ (j = 3 → x ≤ 6) ∧ (j = 4 → x ≤ 20)) : LOK (updN m j x) := by
  obtain ⟨h0, h1, h2, h3, h4⟩ := h
  obtain ⟨x0, x1, x2, x3, x4⟩ := hx
  refine ⟨?_, ?_, ?_, ?_, ?_⟩
  · show (if 0 = j then x else m 0) ≤ 8; split; exact x0 (by omega); exact h0
  · show (if 1 = j then x else m 1) ≤ 5; split; exact x1 (by omega); exact h1
  · show (if 2 = j then x else m 2) ≤ 10; split; exact x2 (by omega); exact h2
  · show (if 3 = j then x else m 3) ≤ 6; split; exact x3 (by omega); exact h3
  · show (if 4 = j then x else m 4) ≤ 20; split; exact x4 (by omega); exact h4
def nNew (sq : Nat → Nat) (sv : Nat → Int64) (nk nn : Nat) (nf : Nat → Int64) (q : ES) : Bool × ES × Nat × (Nat → Int64) :=
  if tSg sq (eStep q).1 = 2 then
    (if oI (nfind nf (tVl sv (eStep q).1) nk) = (-1) then
      (if nk < nn then (true, eStep (eStep q), nk + 1, vp_updL nf nk (tVl sv (eStep q).1)) else (true, eStep (eNote 4 (eStep q)), nk, nf))
    else (true, eStep (eNote 2 (eStep q)), nk, nf))
  else (false, eStep q, nk, nf)
section
variable {sq : Nat → Nat} {sv : Nat → Int64} {nk nn : Nat} {nf : Nat → Int64} {q : ES}
theorem nNew_a (h : ¬ tSg sq (eStep q).1 = 2) : nNew sq sv nk nn nf q = (false, eStep q, nk, nf) := if_neg h
theorem nNew_b (h : tSg sq (eStep q).1 = 2) (h2 : ¬ oI (nfind nf (tVl sv (eStep q).1) nk) = (-1)) : nNew sq sv nk nn nf q = (true, eStep (eNote 2 (eStep q)), nk, nf) := (if_pos h).trans (if_neg h2)
theorem nNew_c (h : tSg sq (eStep q).1 = 2) (h2 : oI (nfind nf (tVl sv (eStep q).1) nk) = (-1)) {d : Decidable (nk < nn)} (h3 : @decide (nk < nn) d = true) : nNew sq sv nk nn nf q = (true, eStep (eStep q), nk + 1, vp_updL nf nk (tVl sv (eStep q).1)) := (if_pos h).trans ((if_pos h2).trans (if_pos (dt' h3)))
theorem nNew_d (h : tSg sq (eStep q).1 = 2) (h2 : oI (nfind nf (tVl sv (eStep q).1) nk) = (-1)) {d : Decidable (nk < nn)} (h3 : @decide (nk < nn) d = false) : nNew sq sv nk nn nf q = (true, eStep (eNote 4 (eStep q)), nk, nf) := (if_pos h).trans ((if_pos h2).trans (if_neg (df' h3)))
theorem nNew_le (h : nk ≤ nn) : (nNew sq sv nk nn nf q).2.2.1 ≤ nn := by
  unfold nNew
  split
  · split
    · split
      · show nk + 1 ≤ nn; omega
      · exact h
    · exact h
  · exact h
end
def eRng (lo hi : Int32) (v : Int64) (q : ES) : ES := if v < lo.toInt64 ∨ hi.toInt64 < v then eNote 5 q else q
theorem eNote_f {e : Int32} {q : ES} : (eNote e q).1 = q.1 := by unfold eNote; split <;> rfl
def nNum (sq : Nat → Nat) (sv : Nat → Int64) (key : Nat) (lo hi : Int32) (nk rn : Nat) (rf : Nat → Int32) (q : ES) : Bool × ES × (Nat → Int32) :=
  if tSg sq q.1 = key then
    (if tSg sq (eStep q).1 = 3 then (true, eStep (eRng lo hi (tVl sv (eStep q).1) (eStep q)), rput rn rf (nI nk - 1) (tVl sv (eStep q).1).toInt32)
    else (false, eStep q, rf))
  else (false, q, rf)
section
variable {sq : Nat → Nat} {sv : Nat → Int64} {key nk rn : Nat} {lo hi : Int32} {rf : Nat → Int32} {q : ES}
theorem nNum_a (h : (eSkip sq key q).1 = false) : nNum sq sv key lo hi nk rn rf q = (false, (eSkip sq key q).2, rf) := by
  rw [eSkip_b (eSkip_f h)]; exact if_neg (eSkip_f h)
theorem nNum_b (h : (eSkip sq key q).1 = true) (h2 : ¬ tSg sq (eSkip sq key q).2.1 = 3) : nNum sq sv key lo hi nk rn rf q = (false, (eSkip sq key q).2, rf) := by
  rw [eSkip_a (eSkip_t h)] at h2 ⊢; exact (if_pos (eSkip_t h)).trans (if_neg h2)
theorem nNum_c (h : (eSkip sq key q).1 = true) (h2 : tSg sq (eSkip sq key q).2.1 = 3) (h3 : tVl sv (eSkip sq key q).2.1 < lo.toInt64 ∨ ¬ tVl sv (eSkip sq key q).2.1 ≤ hi.toInt64) : nNum sq sv key lo hi nk rn rf q = (true, eStep (eNote 5 (eSkip sq key q).2), rput rn rf (nI nk - 1) (tVl sv (eSkip sq key q).2.1).toInt32) := by
  rw [eSkip_a (eSkip_t h)] at h2 h3 ⊢
  refine (if_pos (eSkip_t h)).trans ((if_pos h2).trans ?_)
  have h4 : eRng lo hi (tVl sv (eStep q).1) (eStep q) = eNote 5 (eStep q) := if_pos (h3.imp id Int64.not_le.mp)
  rw [h4]
theorem nNum_d (h : (eSkip sq key q).1 = true) (h2 : tSg sq (eSkip sq key q).2.1 = 3) (h3 : ¬ tVl sv (eSkip sq key q).2.1 < lo.toInt64) (h5 : tVl sv (eSkip sq key q).2.1 ≤ hi.toInt64) : nNum sq sv key lo hi nk rn rf q = (true, eStep (eSkip sq key q).2, rput rn rf (nI nk - 1) (tVl sv (eSkip sq key q).2.1).toInt32) := by
  rw [eSkip_a (eSkip_t h)] at h2 h3 h5 ⊢
  refine (if_pos (eSkip_t h)).trans ((if_pos h2).trans ?_)
  have h4 : eRng lo hi (tVl sv (eStep q).1) (eStep q) = eStep q := if_neg (fun x => x.elim h3 (fun y => absurd h5 (Int64.not_le.mpr y)))
  rw [h4]
end
def yE (y : LSt) (d : ES) : LSt := (d, y.2)
def yRow (y : LSt) (j n : Nat) (i x : Int32) : LSt := (y.1, y.2.1, y.2.2.1, updR y.2.2.2.1 j (rput n (y.2.2.2.1 j) i x), y.2.2.2.2)
def yTf (y : LSt) (i : Int32) (m : Nat) : LSt := (y.1, y.2.1, y.2.2.1, y.2.2.2.1, rputN 20 y.2.2.2.2.1 i m, y.2.2.2.2.2)
def yTt (y : LSt) (i : Int32) (m : Nat) : LSt := (y.1, y.2.1, y.2.2.1, y.2.2.2.1, y.2.2.2.2.1, rputN 20 y.2.2.2.2.2 i m)
def yOrd (y : LSt) : LSt := (y.1, updN y.2.1 4 (y.2.1 4 + 1), y.2.2)
def lNam (sq : Nat → Nat) (sv : Nat → Int64) (j nn : Nat) (y : LSt) : Bool × LSt :=
  ((nNew sq sv (y.2.1 j) nn (y.2.2.1 j) y.1).1, ((nNew sq sv (y.2.1 j) nn (y.2.2.1 j) y.1).2.1, updN y.2.1 j (nNew sq sv (y.2.1 j) nn (y.2.2.1 j) y.1).2.2.1, updR y.2.2.1 j (nNew sq sv (y.2.1 j) nn (y.2.2.1 j) y.1).2.2.2, y.2.2.2))
def lNum (sq : Nat → Nat) (sv : Nat → Int64) (key : Nat) (lo hi : Int32) (j rn k : Nat) (y : LSt) : Bool × LSt :=
  ((nNum sq sv key lo hi (y.2.1 k) rn (y.2.2.2.1 j) y.1).1, ((nNum sq sv key lo hi (y.2.1 k) rn (y.2.2.2.1 j) y.1).2.1, y.2.1, y.2.2.1, updR y.2.2.2.1 j (nNum sq sv key lo hi (y.2.1 k) rn (y.2.2.2.1 j) y.1).2.2, y.2.2.2.2))
def lSkp (sq : Nat → Nat) (s : Nat) (y : LSt) : Bool × LSt := ((eSkip sq s y.1).1, yE y (eSkip sq s y.1).2)
def lKnw (sq : Nat → Nat) (sv : Nat → Int64) (j : Nat) (y : LSt) : Bool × LSt := ((eKnown sq sv (y.2.1 j) (y.2.2.1 j) y.1).1, yE y (eKnown sq sv (y.2.1 j) (y.2.2.1 j) y.1).2)
def lAnd (r : Bool × LSt) (f : LFn) : Bool × LSt := if r.1 = true then f r.2 else (false, r.2)
theorem lAnd_t {r : Bool × LSt} {f : LFn} (h : r.1 = true) : lAnd r f = f r.2 := if_pos h
theorem lAnd_f {r : Bool × LSt} {f : LFn} (h : r.1 = false) : lAnd r f = (false, r.2) := if_neg (by rw [h]; decide)
def lNo (y : LSt) : LSt := if y.2.1 4 < 20 then yE (yOrd y) (eStep y.1) else yE y (eStep (eNote 4 y.1))
def lOpt (r : Bool × LSt) (f : LFn) : Bool × LSt := if r.1 = true then f r.2 else (true, r.2)
theorem lOpt_t {r : Bool × LSt} {f : LFn} (h : r.1 = true) : lOpt r f = f r.2 := if_pos h
theorem lOpt_f {r : Bool × LSt} {f : LFn} (h : r.1 = false) : lOpt r f = (true, r.2) := if_neg (by rw [h]; decide)
def lThen (r : Bool × LSt) (f : LSt → LSt) : Bool × LSt := (r.1, f r.2)
def lLik (sq : Nat → Nat) (sv : Nat → Int64) (y : LSt) : Bool × LSt :=
  lThen (lOpt (lSkp sq 26 (yE y (eFd (-1) y.1))) (lKnw sq sv 0)) (fun y => yRow y 4 5 (nI (y.2.1 1) - 1) y.1.2.1)
def lCarv (sq : Nat → Nat) (sv : Nat → Int64) (y : LSt) : Bool × LSt :=
  lThen (lAnd (lThen (lAnd (lThen (lKnw sq sv 0 (lNo y)) (fun z => yRow z 9 20 (nI ((lNo y).2.1 4) - 1) z.1.2.1)) (fun z => lAnd (lSkp sq 32 z) (lKnw sq sv 2))) (fun z => yRow z 8 20 (nI ((lNo y).2.1 4) - 1) z.1.2.1)) (fun z => lAnd (lSkp sq 33 z) (lKnw sq sv 1))) (fun z => yRow z 10 20 (nI ((lNo y).2.1 4) - 1) z.1.2.1)
def lOil (sq : Nat → Nat) (sv : Nat → Int64) (y : LSt) : Bool × LSt :=
  lThen (lKnw sq sv 2 (lNo y)) (fun z => yRow (yRow (yRow z 8 20 (nI ((lNo y).2.1 4) - 1) z.1.2.1) 9 20 (nI ((lNo y).2.1 4) - 1) (-1)) 10 20 (nI ((lNo y).2.1 4) - 1) (-1))
def lTst (sq : Nat → Nat) (sv : Nat → Int64) (y : LSt) : Bool × LSt := ((eT sq sv y.2.1 y.2.2.1 8 y.1).1, yE y (eT sq sv y.2.1 y.2.2.1 8 y.1).2)
def lCond (sq : Nat → Nat) (sv : Nat → Int64) (y : LSt) : Bool × LSt :=
  lThen (lOpt (lSkp sq 35 (yTf y (nI (y.2.1 4) - 1) (kc y.1))) (lTst sq sv)) (fun z => yTt z (nI (y.2.1 4) - 1) (kc z.1))
def lLine (sq : Nat → Nat) (sv : Nat → Int64) (y : LSt) : Bool × LSt :=
  if mS (tSg sq y.1.1) = 1 then lAnd (lNam sq sv 0 8 y) (fun y => lAnd (lNum sq sv 21 0 9 0 8 0 y) (lNum sq sv 22 1 9 1 8 0))
  else if mS (tSg sq y.1.1) = 2 then lAnd (lNam sq sv 1 5 y) (fun y => lAnd (lNum sq sv 24 1 9 2 5 1 y) (fun y => lAnd (lNum sq sv 25 1 4 3 5 1 y) (lLik sq sv)))
  else if mS (tSg sq y.1.1) = 3 then lAnd (lNam sq sv 2 10 y) (lNum sq sv 28 1 9 5 10 2)
  else if mS (tSg sq y.1.1) = 4 then lAnd (lNam sq sv 3 6 y) (fun y => lAnd (lNum sq sv 21 0 9 6 6 3 y) (lNum sq sv 30 0 999 7 6 3))
  else if mS (tSg sq y.1.1) = 5 then lAnd (lCarv sq sv y) (lCond sq sv)
  else if mS (tSg sq y.1.1) = 6 then lAnd (lOil sq sv y) (lCond sq sv)
  else (false, y)
section
variable {sq : Nat → Nat} {sv : Nat → Int64} {y : LSt}
theorem lLine_1 (h : mS (tSg sq y.1.1) = 1) : lLine sq sv y = lAnd (lNam sq sv 0 8 y) (fun y => lAnd (lNum sq sv 21 0 9 0 8 0 y) (lNum sq sv 22 1 9 1 8 0)) := if_pos h
theorem lLine_2 (h : mS (tSg sq y.1.1) = 2) : lLine sq sv y = lAnd (lNam sq sv 1 5 y) (fun y => lAnd (lNum sq sv 24 1 9 2 5 1 y) (fun y => lAnd (lNum sq sv 25 1 4 3 5 1 y) (lLik sq sv))) := by unfold lLine; rw [h]; rfl
theorem lLine_3 (h : mS (tSg sq y.1.1) = 3) : lLine sq sv y = lAnd (lNam sq sv 2 10 y) (lNum sq sv 28 1 9 5 10 2) := by unfold lLine; rw [h]; rfl
theorem lLine_4 (h : mS (tSg sq y.1.1) = 4) : lLine sq sv y = lAnd (lNam sq sv 3 6 y) (fun y => lAnd (lNum sq sv 21 0 9 6 6 3 y) (lNum sq sv 30 0 999 7 6 3)) := by unfold lLine; rw [h]; rfl
theorem lLine_5 (h : mS (tSg sq y.1.1) = 5) : lLine sq sv y = lAnd (lCarv sq sv y) (lCond sq sv) := by unfold lLine; rw [h]; rfl
theorem lLine_6 (h : mS (tSg sq y.1.1) = 6) : lLine sq sv y = lAnd (lOil sq sv y) (lCond sq sv) := by unfold lLine; rw [h]; rfl
theorem lLine_7 (h1 : ¬ mS (tSg sq y.1.1) = 1) (h2 : ¬ mS (tSg sq y.1.1) = 2) (h3 : ¬ mS (tSg sq y.1.1) = 3) (h4 : ¬ mS (tSg sq y.1.1) = 4) (h5 : ¬ mS (tSg sq y.1.1) = 5) (h6 : ¬ mS (tSg sq y.1.1) = 6) : lLine sq sv y = (false, y) := by
  unfold lLine; rw [if_neg h1, if_neg h2, if_neg h3, if_neg h4, if_neg h5, if_neg h6]
theorem lNo_ok (h : LOK y.2.1) : LOK (lNo y).2.1 := by
  unfold lNo
  split
  · exact h.up 4 _ ⟨by omega, by omega, by omega, by omega, fun _ => by omega⟩
  · exact h
end
section
variable {sq : Nat → Nat} {sv : Nat → Int64} {y z : LSt} {r : Bool × LSt} {f : LSt → LSt} {g : LFn}
theorem lNo_a (h : y.2.1 4 < 20) : lNo y = yE (yOrd y) (eStep y.1) := if_pos h
theorem lNo_b (h : ¬ y.2.1 4 < 20) : lNo y = yE y (eStep (eNote 4 y.1)) := if_neg h
theorem lAT (h : r.1 = true) : lAnd (lThen r f) g = g (f r.2) := if_pos h
theorem lAF (h : r.1 = false) : lAnd (lThen r f) g = (false, f r.2) := lAnd_f (r := lThen r f) h
theorem lAF0 : lAnd (lThen (false, z) f) g = (false, f z) := rfl
theorem lT0 {b : Bool} : lThen (b, z) f = (b, f z) := rfl
theorem lT1 : (lThen r f).1 = r.1 := rfl
theorem isT {b : Bool} (h : b = true) : b = true := h
theorem isF {b : Bool} (h : b = false) : b = false := h
theorem lT2 : (lThen r f).2 = f r.2 := rfl
theorem lAnd_n (h : ∀ z, (g z).2.2.1 = z.2.1) : (lAnd r g).2.2.1 = r.2.2.1 := by
  unfold lAnd; split
  · exact h _
  · rfl
theorem lThen_n (h : ∀ z, (f z).2.1 = z.2.1) : (lThen r f).2.2.1 = r.2.2.1 := h r.2
theorem lCarv_n : (lCarv sq sv y).2.2.1 = (lNo y).2.1 := by
  unfold lCarv
  refine (lThen_n ?_).trans ((lAnd_n ?_).trans ((lThen_n ?_).trans ((lAnd_n ?_).trans ((lThen_n ?_).trans rfl))))
  · intro z; rfl
  · intro z; refine (lAnd_n ?_).trans rfl; intro z; rfl
  · intro z; rfl
  · intro z; refine (lAnd_n ?_).trans rfl; intro z; rfl
  · intro z; rfl
theorem lCarv_ok (h : LOK y.2.1) : LOK (lCarv sq sv y).2.2.1 := by rw [lCarv_n]; exact lNo_ok h
theorem lOil_ok (h : LOK y.2.1) : LOK (lOil sq sv y).2.2.1 := lNo_ok h
theorem lNam_ok (j nn : Nat) (h : LOK y.2.1) (hn : y.2.1 j ≤ nn) (hx : (j = 0 → nn ≤ 8) ∧ (j = 1 → nn ≤ 5) ∧ (j = 2 → nn ≤ 10) ∧ (j = 3 → nn ≤ 6) ∧ (j = 4 → nn ≤ 20)) : LOK (lNam sq sv j nn y).2.2.1 := by
  have h2 := nNew_le (sq := sq) (sv := sv) (nf := y.2.2.1 j) (q := y.1) hn
  exact h.up j _ ⟨fun e => Nat.le_trans h2 (hx.1 e), fun e => Nat.le_trans h2 (hx.2.1 e), fun e => Nat.le_trans h2 (hx.2.2.1 e), fun e => Nat.le_trans h2 (hx.2.2.2.1 e), fun e => Nat.le_trans h2 (hx.2.2.2.2 e)⟩
theorem lLik_a (h : (lSkp sq 26 (yE y (eFd (-1) y.1))).1 = false) : lLik sq sv y = (true, yRow (lSkp sq 26 (yE y (eFd (-1) y.1))).2 4 5 (nI ((lSkp sq 26 (yE y (eFd (-1) y.1))).2.2.1 1) - 1) (lSkp sq 26 (yE y (eFd (-1) y.1))).2.1.2.1) := by
  unfold lLik; rw [lOpt_f h]; rfl
theorem lLik_b (h : (lSkp sq 26 (yE y (eFd (-1) y.1))).1 = true) : lLik sq sv y = ((lKnw sq sv 0 (lSkp sq 26 (yE y (eFd (-1) y.1))).2).1, yRow (lKnw sq sv 0 (lSkp sq 26 (yE y (eFd (-1) y.1))).2).2 4 5 (nI ((lKnw sq sv 0 (lSkp sq 26 (yE y (eFd (-1) y.1))).2).2.2.1 1) - 1) (lKnw sq sv 0 (lSkp sq 26 (yE y (eFd (-1) y.1))).2).2.1.2.1) := by
  unfold lLik; rw [lOpt_t h]; rfl
end
/-- the lines of a list: at most m more -/
def lRun (sq : Nat → Nat) (sv : Nat → Int64) : Nat → Bool → LSt → Bool × LSt
  | 0, b, y => (b, y)
  | m + 1, b, y => if b = true ∧ ¬ tSg sq y.1.1 = 0 then lRun sq sv m (lAnd (lLine sq sv y) (lSkp sq 9)).1 (lAnd (lLine sq sv y) (lSkp sq 9)).2 else (b, y)
