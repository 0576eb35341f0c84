/-! a whole list read -/
def yClr (y : LSt) (fd et : Int32) : LSt := (((0 : Int32), fd, 0, et, 0, y.1.2.2.2.2.2), (fun _ => 0), y.2.2)
def rdE (R : Bool × LSt) : Int32 := if R.1 = true then R.2.1.2.2.1 else 1
def rdT (R : Bool × LSt) : Int32 := if R.1 = true then R.2.1.2.2.2.1 else R.2.1.1
def rdP (spl : Nat → Int32) (R : Bool × LSt) : Int32 := if rdE R = 0 then (-1) else rat 401 spl (rdT R)
section
variable {sq : Nat → Nat} {sv : Nat → Int64} {y : LSt} {r : Bool × LSt} {g : LFn} {b : Bool} {i m : Nat} {spl : Nat → Int32}
theorem lAnd_k (hr : LOK r.2.2.1) (h : ∀ z, LOK z.2.1 → LOK (g z).2.2.1) : LOK (lAnd r g).2.2.1 := by
  unfold lAnd; split
  · exact h _ hr
  · exact hr
theorem lOpt_k (hr : LOK r.2.2.1) (h : ∀ z, LOK z.2.1 → LOK (g z).2.2.1) : LOK (lOpt r g).2.2.1 := by
  unfold lOpt; split
  · exact h _ hr
  · exact hr
theorem lLik_ok (h : LOK y.2.1) : LOK (lLik sq sv y).2.2.1 := lOpt_k (r := lSkp sq 26 (yE y (eFd (-1) y.1))) (g := lKnw sq sv 0) h (fun _ hz => hz)
theorem lCond_ok (h : LOK y.2.1) : LOK (lCond sq sv y).2.2.1 := lOpt_k (r := lSkp sq 35 (yTf y (nI (y.2.1 4) - 1) (kc y.1))) (g := lTst sq sv) h (fun _ hz => hz)
theorem lLine_ok (h : LOK y.2.1) : LOK (lLine sq sv y).2.2.1 := by
  unfold lLine
  split
  · exact lAnd_k (lNam_ok 0 8 h h.1 (by omega)) (fun _ h => lAnd_k h (fun _ h => h))
  split
  · exact lAnd_k (lNam_ok 1 5 h h.2.1 (by omega)) (fun _ h => lAnd_k h (fun _ h => lAnd_k h (fun _ h => lLik_ok h)))
  split
  · exact lAnd_k (lNam_ok 2 10 h h.2.2.1 (by omega)) (fun _ h => h)
  split
  · exact lAnd_k (lNam_ok 3 6 h h.2.2.2.1 (by omega)) (fun _ h => lAnd_k h (fun _ h => h))
  split
  · exact lAnd_k (lCarv_ok h) (fun _ h => lCond_ok h)
  split
  · exact lAnd_k (lOil_ok h) (fun _ h => lCond_ok h)
  · exact h
theorem lRun_go (h : i < 400) (hb : b = true) (hc : ¬ tSg sq y.1.1 = 0) : lRun sq sv (400 - i) b y = lRun sq sv (400 - (i + 1)) (lAnd (lLine sq sv y) (lSkp sq 9)).1 (lAnd (lLine sq sv y) (lSkp sq 9)).2 := by
  rw [show 400 - i = (400 - (i + 1)) + 1 by omega]
  exact if_pos ⟨hb, hc⟩
theorem lRun_x (h : 400 ≤ i) : lRun sq sv (400 - i) b y = (b, y) := by rw [show 400 - i = 0 by omega]; rfl
theorem lRun_b (hb : b = false) : lRun sq sv m b y = (b, y) := by
  cases m with
  | zero => rfl
  | succ m => exact if_neg (fun h => by rw [hb] at h; exact absurd h.1 (by decide))
theorem lRun_c (hc : tSg sq y.1.1 = 0) : lRun sq sv m b y = (b, y) := by
  cases m with
  | zero => rfl
  | succ m => exact if_neg (fun h => h.2 hc)
theorem rdE_f (h : r = (b, y)) (hb : b = false) : rdE r = 1 := by subst h; exact if_neg (by rw [show ((b, y) : Bool × LSt).1 = b from rfl, hb]; decide)
theorem rdE_t (h : r = (b, y)) (hb : b = true) : rdE r = y.1.2.2.1 := by subst h; exact if_pos hb
theorem rdT_f (h : r = (b, y)) (hb : b = false) : rdT r = y.1.1 := by subst h; exact if_neg (by rw [show ((b, y) : Bool × LSt).1 = b from rfl, hb]; decide)
theorem rdT_t (h : r = (b, y)) (hb : b = true) : rdT r = y.1.2.2.2.1 := by subst h; exact if_pos hb
end
