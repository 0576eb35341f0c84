/-! letters in a row of bytes; the tokens that they are -/
def Hold (f : Nat → Int32) : Nat → List Nat → Prop
  | _, [] => True
  | p, x :: L => f p = nI x ∧ Hold f (p + 1) L
theorem Hold.app {f : Nat → Int32} : ∀ {L M : List Nat} {p : Nat}, Hold f p (L ++ M) → Hold f p L ∧ Hold f (p + L.length) M := by
  intro L
  induction L with
  | nil => intro M p h; exact ⟨trivial, h⟩
  | cons x L ih =>
    intro M p h
    obtain ⟨h1, h2⟩ := ih h.2
    exact ⟨⟨h.1, h1⟩, by rw [List.length_cons, show p + (L.length + 1) = p + 1 + L.length by omega]; exact h2⟩
theorem Hold.of {f : Nat → Int32} : ∀ {L : List Nat} {p : Nat}, (∀ j, j < L.length → f (p + j) = nI (L.getD j 0)) → Hold f p L := by
  intro L
  induction L with
  | nil => intro p h; exact trivial
  | cons x L ih =>
    intro p h
    refine ⟨h 0 (Nat.zero_lt_succ _), ih (fun j hj => ?_)⟩
    have := h (j + 1) (Nat.succ_lt_succ hj)
    rw [show p + 1 + j = p + (j + 1) by omega, this]
    rfl
def lc (x : Nat) : Bool := decide (97 ≤ x ∧ x ≤ 122)
def dg (x : Nat) : Bool := decide (48 ≤ x ∧ x ≤ 57)
def bl (x : Nat) : Bool := decide (x = 32 ∨ x = 10)
theorem cls : ∀ x, x < 128 → isL (nI x) = lc x ∧ isD (nI x) = dg x ∧ isB (nI x) = bl x := by decide +kernel
theorem lc_lt {x : Nat} (h : lc x = true) : x < 128 := by have := of_decide_eq_true h; omega
theorem dg_lt {x : Nat} (h : dg x = true) : x < 128 := by have := of_decide_eq_true h; omega
theorem bl_lt {x : Nat} (h : bl x = true) : x < 128 := by have := of_decide_eq_true h; omega
def wcode (c : Int64) : List Nat → Int64
  | [] => c
  | x :: W => wcode (lgr c (nI x)) W
def ncode (c : Int64) : List Nat → Int64
  | [] => c
  | x :: W => ncode (dig c (nI x)) W
/-- what follows begins with no letter, digit; no digit; no blank -/
def nal : List Nat → Prop
  | [] => True
  | y :: _ => y < 128 ∧ lc y = false ∧ dg y = false
def ndg : List Nat → Prop
  | [] => True
  | y :: _ => y < 128 ∧ dg y = false
def nbl : List Nat → Prop
  | [] => True
  | y :: _ => y < 128 ∧ bl y = false
section
variable {f : Nat → Int32} {n p q k : Nat} {R W B : List Nat} {c v : Int64}
theorem sk_run : ∀ {B : List Nat} {p : Nat}, Hold f p (B ++ R) → B.all bl = true → nbl R → skb f (B ++ R).length p = p + B.length := by
  intro B
  induction B with
  | nil =>
    intro p h _ hR
    match R, h, hR with
    | [], _, _ => rfl
    | y :: R, h, hR =>
      have h1 : isB (f p) = false := by rw [h.1, (cls y hR.1).2.2]; exact hR.2
      show (if isB (f p) = true then _ else p) = p + 0
      rw [h1]; rfl
  | cons x B ih =>
    intro p h hB hR
    rw [List.all_cons, Bool.and_eq_true] at hB
    have h1 : isB (f p) = true := by rw [h.1, (cls x (bl_lt hB.1)).2.2]; exact hB.1
    show (if isB (f p) = true then skb f (B ++ R).length (p + 1) else p) = p + (B.length + 1)
    rw [if_pos h1, ih h.2 hB.2 hR]; omega
theorem wd_run : ∀ {W : List Nat} {p : Nat} {c : Int64}, Hold f p (W ++ R) → W.all (fun x => lc x || dg x) = true → nal R → wdF f (W ++ R).length p c = (p + W.length, wcode c W) := by
  intro W
  induction W with
  | nil =>
    intro p c h _ hR
    match R, h, hR with
    | [], _, _ => rfl
    | y :: R, h, hR =>
      have h1 : (isL (f p) || isD (f p)) = false := by rw [h.1, (cls y hR.1).1, (cls y hR.1).2.1, hR.2.1, hR.2.2]; rfl
      show (if (isL (f p) || isD (f p)) = true then _ else (p, c)) = (p + 0, c)
      rw [h1]; rfl
  | cons x W ih =>
    intro p c h hW hR
    rw [List.all_cons, Bool.and_eq_true, Bool.or_eq_true] at hW
    have hx : x < 128 := hW.1.elim lc_lt dg_lt
    have h1 : (isL (f p) || isD (f p)) = true := by rw [h.1, (cls x hx).1, (cls x hx).2.1, Bool.or_eq_true]; exact hW.1
    show (if (isL (f p) || isD (f p)) = true then wdF f (W ++ R).length (p + 1) (lgr c (f p)) else (p, c)) = (p + (W.length + 1), wcode (lgr c (nI x)) W)
    rw [if_pos h1, h.1, ih h.2 hW.2 hR, show p + 1 + W.length = p + (W.length + 1) by omega]
theorem nb_run : ∀ {W : List Nat} {p : Nat} {c : Int64}, Hold f p (W ++ R) → W.all dg = true → ndg R → nbF f (W ++ R).length p c = (p + W.length, ncode c W) := by
  intro W
  induction W with
  | nil =>
    intro p c h _ hR
    match R, h, hR with
    | [], _, _ => rfl
    | y :: R, h, hR =>
      have h1 : isD (f p) = false := by rw [h.1, (cls y hR.1).2.1]; exact hR.2
      show (if isD (f p) = true then _ else (p, c)) = (p + 0, c)
      rw [h1]; rfl
  | cons x W ih =>
    intro p c h hW hR
    rw [List.all_cons, Bool.and_eq_true] at hW
    have h1 : isD (f p) = true := by rw [h.1, (cls x (dg_lt hW.1)).2.1]; exact hW.1
    show (if isD (f p) = true then nbF f (W ++ R).length (p + 1) (dig c (f p)) else (p, c)) = (p + (W.length + 1), ncode (dig c (nI x)) W)
    rw [if_pos h1, h.1, ih h.2 hW.2 hR, show p + 1 + W.length = p + (W.length + 1) by omega]
def TokAt (f : Nat → Int32) (n p q s : Nat) (v : Int64) : Prop := skp f n p < n ∧ lexE f n (skp f n p) 0 = q ∧ lexS f n (skp f n p) 0 = s ∧ lexV f n (skp f n p) 0 = v
theorem sk_at (h : Hold f p (B ++ R)) (hn : p + (B ++ R).length = n) (hB : B.all bl = true) (hR : nbl R) : skp f n p = p + B.length := by
  unfold skp; rw [show n - p = (B ++ R).length by omega]; exact sk_run h hB hR
theorem tok_w {x s : Nat} (h : Hold f p (B ++ ((x :: W) ++ R))) (hn : p + (B ++ ((x :: W) ++ R)).length = n) (hB : B.all bl = true) (hx : lc x = true) (hW : W.all (fun x => lc x || dg x) = true) (hl : (x :: W).length ≤ 10) (hR : nal R) (hs : sword (wcode 0 (x :: W)) = s) : TokAt f n p (p + B.length + (x :: W).length) s (wcode 0 (x :: W)) := by
  have hx2 := of_decide_eq_true hx
  have h0 := sk_at h hn hB (show nbl ((x :: W) ++ R) from ⟨by omega, decide_eq_false (by omega)⟩)
  have h1 := h.app.2
  have hWa : (x :: W).all (fun x => lc x || dg x) = true := by rw [List.all_cons, hx, hW]; rfl
  have hL : isL (f (p + B.length)) = true := by rw [h1.1, (cls x (by omega)).1]; exact hx
  have hlt : ¬ n ≤ p + B.length := by rw [List.length_append, List.length_append, List.length_cons] at hn; omega
  have h2 : wdp f n (p + B.length) 0 = (p + B.length + (x :: W).length, wcode 0 (x :: W)) := by
    unfold wdp; rw [show n - (p + B.length) = ((x :: W) ++ R).length by rw [List.length_append] at hn; omega]; exact wd_run h1 hWa hR
  refine ⟨by rw [h0]; omega, ?_, ?_, ?_⟩
  · rw [h0]; unfold lexE; rw [if_neg hlt, if_pos hL, h2]
  · rw [h0]; unfold lexS; rw [if_neg hlt, if_pos hL, h2, if_neg (by show ¬ 10 < p + B.length + (x :: W).length - (p + B.length); omega)]; exact hs
  · rw [h0]; unfold lexV; rw [if_neg hlt, if_pos hL, h2]
theorem tok_n {x : Nat} (h : Hold f p (B ++ ((x :: W) ++ R))) (hn : p + (B ++ ((x :: W) ++ R)).length = n) (hB : B.all bl = true) (hW : (x :: W).all dg = true) (hl : (x :: W).length ≤ 6) (hR : ndg R) : TokAt f n p (p + B.length + (x :: W).length) 3 (ncode 0 (x :: W)) := by
  have hx : dg x = true := by rw [List.all_cons, Bool.and_eq_true] at hW; exact hW.1
  have hx2 := of_decide_eq_true hx
  have h0 := sk_at h hn hB (show nbl ((x :: W) ++ R) from ⟨by omega, decide_eq_false (by omega)⟩)
  have h1 := h.app.2
  have hL : ¬ isL (f (p + B.length)) = true := by rw [h1.1, (cls x (by omega)).1]; unfold lc; rw [decide_eq_true_eq]; omega
  have hD : isD (f (p + B.length)) = true := by rw [h1.1, (cls x (by omega)).2.1]; exact hx
  have hlt : ¬ n ≤ p + B.length := by rw [List.length_append, List.length_append, List.length_cons] at hn; omega
  have h2 : nbp f n (p + B.length) 0 = (p + B.length + (x :: W).length, ncode 0 (x :: W)) := by
    unfold nbp; rw [show n - (p + B.length) = ((x :: W) ++ R).length by rw [List.length_append] at hn; omega]; exact nb_run h1 hW hR
  refine ⟨by rw [h0]; omega, ?_, ?_, ?_⟩
  · rw [h0]; unfold lexE; rw [if_neg hlt, if_neg hL, if_pos hD, h2]
  · rw [h0]; unfold lexS; rw [if_neg hlt, if_neg hL, if_pos hD, h2, if_neg (by show ¬ 6 < p + B.length + (x :: W).length - (p + B.length); omega)]
  · rw [h0]; unfold lexV; rw [if_neg hlt, if_neg hL, if_pos hD, h2]
/-- a symbol of one letter, or of two: e tells whether = follows -/
theorem tok_s {x s : Nat} {e : Bool} {w : Nat} (h : Hold f p (B ++ (x :: R))) (hn : p + (B ++ (x :: R)).length = n) (hB : B.all bl = true) (hx : x < 128) (hc : lc x = false ∧ dg x = false ∧ bl x = false) (he : isE f n (p + B.length + 1) = e) (hw : symL (nI x) e = w) (hs : symS (nI x) e = s) : TokAt f n p (p + B.length + w) s 0 := by
  have h0 := sk_at h hn hB (show nbl (x :: R) from ⟨hx, hc.2.2⟩)
  have h1 := h.app.2
  have hL : ¬ isL (f (p + B.length)) = true := by rw [h1.1, (cls x hx).1, hc.1]; decide
  have hD : ¬ isD (f (p + B.length)) = true := by rw [h1.1, (cls x hx).2.1, hc.2.1]; decide
  have hlt : ¬ n ≤ p + B.length := by rw [List.length_append, List.length_cons] at hn; omega
  refine ⟨by rw [h0]; omega, ?_, ?_, ?_⟩
  · rw [h0]; unfold lexE; rw [if_neg hlt, if_neg hL, if_neg hD, h1.1, he, hw]
  · rw [h0]; unfold lexS; rw [if_neg hlt, if_neg hL, if_neg hD, h1.1, he, hs]
  · rw [h0]; unfold lexV; rw [if_neg hlt, if_neg hL, if_neg hD]
theorem isE_t {R : List Nat} (h : Hold f p (61 :: R)) (hn : p < n) : isE f n p = true := decide_eq_true ⟨hn, h.1⟩
theorem isE_f {y : Nat} {R : List Nat} (h : Hold f p (y :: R)) (hy : y < 128) (h2 : y ≠ 61) : isE f n p = false := decide_eq_false (fun q => by
  have h3 := h.1.symm.trans q.2
  exact h2 ((nI_eq (by omega) (by decide)).mp (show nI y = nI 61 from h3)))
/-- tokens one behind another -/
def Chain (f : Nat → Int32) (n : Nat) : Nat → List (Nat × Int64) → Nat → Prop
  | p, [], e => p = e
  | p, t :: T, e => ∃ q, TokAt f n p q t.1 t.2 ∧ Chain f n q T e
variable {T : List (Nat × Int64)} {e : Nat}
theorem ch_w {x s : Nat} (h : Hold f p (B ++ ((x :: W) ++ R))) (hn : p + (B ++ ((x :: W) ++ R)).length = n) (hB : B.all bl = true) (hx : lc x = true) (hW : W.all (fun x => lc x || dg x) = true) (hl : (x :: W).length ≤ 10) (hR : nal R) (hs : sword (wcode 0 (x :: W)) = s) (k : ∀ p', Hold f p' R → p' + R.length = n → Chain f n p' T e) : Chain f n p ((s, wcode 0 (x :: W)) :: T) e :=
  ⟨_, tok_w h hn hB hx hW hl hR hs, k _ (h.app.2.app.2) (by rw [List.length_append, List.length_append] at hn; omega)⟩
theorem ch_n {x : Nat} {v : Int64} (h : Hold f p (B ++ ((x :: W) ++ R))) (hn : p + (B ++ ((x :: W) ++ R)).length = n) (hB : B.all bl = true) (hW : (x :: W).all dg = true) (hl : (x :: W).length ≤ 6) (hR : ndg R) (hv : ncode 0 (x :: W) = v) (k : ∀ p', Hold f p' R → p' + R.length = n → Chain f n p' T e) : Chain f n p ((3, v) :: T) e :=
  ⟨_, hv ▸ tok_n h hn hB hW hl hR, k _ (h.app.2.app.2) (by rw [List.length_append, List.length_append] at hn; omega)⟩
/-- a symbol that = doesn't change -/
theorem ch_s {x s : Nat} (h : Hold f p (B ++ (x :: R))) (hn : p + (B ++ (x :: R)).length = n) (hB : B.all bl = true) (hx : x < 128) (hc : lc x = false ∧ dg x = false ∧ bl x = false) (hw : ∀ e, symL (nI x) e = 1) (hs : ∀ e, symS (nI x) e = s) (k : ∀ p', Hold f p' R → p' + R.length = n → Chain f n p' T e) : Chain f n p ((s, 0) :: T) e :=
  ⟨_, tok_s h hn hB hx hc rfl (hw _) (hs _), k _ (h.app.2.2) (by rw [List.length_append, List.length_cons] at hn; omega)⟩
/-- < or >, with = behind it; without -/
theorem ch_2 {x s : Nat} (h : Hold f p (B ++ (x :: 61 :: R))) (hn : p + (B ++ (x :: 61 :: R)).length = n) (hB : B.all bl = true) (hx : x < 128) (hc : lc x = false ∧ dg x = false ∧ bl x = false) (hw : symL (nI x) true = 2) (hs : symS (nI x) true = s) (k : ∀ p', Hold f p' R → p' + R.length = n → Chain f n p' T e) : Chain f n p ((s, 0) :: T) e :=
  ⟨_, tok_s h hn hB hx hc (isE_t h.app.2.2 (by rw [List.length_append, List.length_cons, List.length_cons] at hn; omega)) hw hs, k _ (by have := h.app.2.2.2; rw [show p + B.length + 1 + 1 = p + B.length + 2 from rfl] at this; exact this) (by rw [List.length_append, List.length_cons, List.length_cons] at hn; omega)⟩
theorem ch_1 {x y s : Nat} (h : Hold f p (B ++ (x :: y :: R))) (hn : p + (B ++ (x :: y :: R)).length = n) (hB : B.all bl = true) (hx : x < 128) (hc : lc x = false ∧ dg x = false ∧ bl x = false) (hy : y < 128) (hy2 : y ≠ 61) (hw : symL (nI x) false = 1) (hs : symS (nI x) false = s) (k : ∀ p', Hold f p' (y :: R) → p' + (y :: R).length = n → Chain f n p' T e) : Chain f n p ((s, 0) :: T) e :=
  ⟨_, tok_s h hn hB hx hc (isE_f h.app.2.2 hy hy2) hw hs, k _ (h.app.2.2) (by rw [List.length_append, List.length_cons] at hn; omega)⟩
theorem posn_ch : ∀ {T : List (Nat × Int64)} {i : Nat}, Chain f n (posn f n i) T e → i + T.length ≤ 400 → posn f n (i + T.length) = e ∧ ∀ j, j < T.length → tkS f n (i + j) = (T.getD j (0, 0)).1 ∧ tkV f n (i + j) = (T.getD j (0, 0)).2 := by
  intro T
  induction T with
  | nil => intro i h _; exact ⟨h, fun j hj => absurd hj (Nat.not_lt_zero j)⟩
  | cons t T ih =>
    intro i h hl
    obtain ⟨q, ⟨h0, h1, h2, h3⟩, h4⟩ := h
    rw [List.length_cons] at hl
    have hp : posn f n (i + 1) = q := h1
    obtain ⟨g1, g2⟩ := ih (i := i + 1) (by rw [hp]; exact h4) (by omega)
    refine ⟨by rw [List.length_cons, show i + (T.length + 1) = i + 1 + T.length by omega]; exact g1, fun j hj => ?_⟩
    match j, hj with
    | 0, _ =>
      refine ⟨?_, ?_⟩
      · rw [← tkS_a (Or.inl (by omega))]; exact h2
      · rw [← tkV_a (Or.inl (by omega))]; exact h3
    | j + 1, hj =>
      have := g2 j (by rw [List.length_cons] at hj; omega)
      rw [show i + (j + 1) = i + 1 + j by omega]
      exact this
theorem posn_end (h : posn f n k = n) (hk : k ≤ 400) : tkS f n k = 0 := by
  have h1 : skp f n (posn f n k) = n := by rw [h]; exact skp_end (Nat.le_refl _)
  unfold tkS tkP
  rw [h1, if_pos (Or.inr (Nat.le_refl _))]
  unfold lexS; rw [if_pos (Nat.le_refl _)]
end
/-! names, numbers -/
def nm (x k : Nat) : Int64 := wcode 0 (x :: dec k)
theorem nm_ok : ∀ x, x < 4 → ∀ k, k < 10 → sword (nm ([98, 99, 115, 112].getD x 0) k) = 2 ∧ ∀ j, j < 10 → nm ([98, 99, 115, 112].getD x 0) j = nm ([98, 99, 115, 112].getD x 0) k → j = k := by decide +kernel
theorem dec_ok : ∀ k, k < 1000 → (dec k).all dg = true ∧ (dec k).length ≤ 3 ∧ ncode 0 (dec k) = lN k := by decide +kernel
theorem dec_al {k : Nat} (h : k < 1000) : (dec k).all (fun x => lc x || dg x) = true := by
  have h1 := (dec_ok k h).1
  rw [List.all_eq_true] at h1 ⊢
  intro x hx; rw [h1 x hx, Bool.or_true]
theorem dec_c {k : Nat} : ∃ x W, dec k = x :: W := by
  unfold dec
  split
  · exact ⟨_, _, rfl⟩
  · split
    · exact ⟨_, _, rfl⟩
    · exact ⟨_, _, rfl⟩
section
variable {f : Nat → Int32} {n p k e : Nat} {R B : List Nat} {T : List (Nat × Int64)}
/-- a name -/
theorem ch_m {x j : Nat} (h : Hold f p (B ++ ((x :: dec k) ++ R))) (hn : p + (B ++ ((x :: dec k) ++ R)).length = n) (hB : B.all bl = true) (hj : j < 4) (hx : x = [98, 99, 115, 112].getD j 0) (hx2 : lc x = true) (hk : k < 10) (hR : nal R) (kk : ∀ p', Hold f p' R → p' + R.length = n → Chain f n p' T e) : Chain f n p ((2, nm x k) :: T) e :=
  ch_w h hn hB hx2 (dec_al (by omega)) (by have := (dec_ok k (by omega)).2.1; rw [List.length_cons]; omega) hR (by rw [hx]; exact (nm_ok j hj k hk).1) kk
/-- a number -/
theorem ch_d (h : Hold f p (B ++ (dec k ++ R))) (hn : p + (B ++ (dec k ++ R)).length = n) (hB : B.all bl = true) (hk : k < 1000) (hR : ndg R) (kk : ∀ p', Hold f p' R → p' + R.length = n → Chain f n p' T e) : Chain f n p ((3, lN k) :: T) e := by
  obtain ⟨x, W, hd⟩ := dec_c (k := k)
  have h3 := dec_ok k hk
  rw [hd] at h hn h3
  exact ch_n h hn hB h3.1 (by omega) hR h3.2.2 kk
end
/-- a line that tells a beast -/
def ln_beast (k a b : Nat) : List Nat := TX 25 ++ (dec k ++ (TX 26 ++ (dec a ++ (TX 27 ++ (dec b ++ (TX 28))))))
def tk_beast (k a b : Nat) : List (Nat × Int64) := [(20, wcode 0 [98, 101, 97, 115, 116]), (2, nm 98 k), (21, wcode 0 [103, 114, 105, 109]), (3, lN a), (22, wcode 0 [102, 105, 110, 101]), (3, lN b), (9, 0)]
theorem ch_beast {f : Nat → Int32} {n p e : Nat} {R : List Nat} {T : List (Nat × Int64)} {k : Nat} {a : Nat} {b : Nat} (hk : k < 10) (ha : a < 1000) (hb : b < 1000) (h : Hold f p (ln_beast k a b ++ R)) (hn : p + (ln_beast k a b ++ R).length = n) (kk : ∀ p', Hold f p' R → p' + R.length = n → Chain f n p' T e) : Chain f n p (tk_beast k a b ++ T) e := by
  have e0 : ln_beast k a b ++ R = [] ++ ([98, 101, 97, 115, 116] ++ ([32] ++ ((98 :: dec k) ++ ([32] ++ ([103, 114, 105, 109] ++ ([32] ++ (dec a ++ ([32] ++ ([102, 105, 110, 101] ++ ([32] ++ (dec b ++ ([] ++ (59 :: R))))))))))))) := by unfold ln_beast; simp only [List.append_assoc]; rfl
  rw [e0] at h hn
  refine ch_w (B := []) (x := 98) (W := [101, 97, 115, 116]) h hn (by decide) rfl (by decide) (by decide) ⟨by decide, rfl, rfl⟩ (by decide +kernel) (fun p h hn => ?_)
  refine ch_m (B := [32]) (x := 98) (k := k) (j := 0) h hn (by decide) (by decide) rfl rfl (by omega) ⟨by decide, rfl, rfl⟩ (fun p h hn => ?_)
  refine ch_w (B := [32]) (x := 103) (W := [114, 105, 109]) h hn (by decide) rfl (by decide) (by decide) ⟨by decide, rfl, rfl⟩ (by decide +kernel) (fun p h hn => ?_)
  refine ch_d (B := [32]) (k := a) h hn (by decide) (by omega) ⟨by decide, rfl⟩ (fun p h hn => ?_)
  refine ch_w (B := [32]) (x := 102) (W := [105, 110, 101]) h hn (by decide) rfl (by decide) (by decide) ⟨by decide, rfl, rfl⟩ (by decide +kernel) (fun p h hn => ?_)
  refine ch_d (B := [32]) (k := b) h hn (by decide) (by omega) ⟨by decide, rfl⟩ (fun p h hn => ?_)
  refine ch_s (B := []) (x := 59) h hn (by decide) (by decide) ⟨rfl, rfl, rfl⟩ (by decide +kernel) (by decide +kernel) (fun p h hn => ?_)
  exact kk p h hn
/-- a line that tells a carver, without its end -/
def ln_carv0 (k a b : Nat) : List Nat := TX 29 ++ (dec k ++ (TX 30 ++ (dec a ++ (TX 31 ++ (dec b ++ (TX 2))))))
def tk_carv0 (k a b : Nat) : List (Nat × Int64) := [(23, wcode 0 [99, 97, 114, 118, 101, 114]), (2, nm 99 k), (24, wcode 0 [115, 107, 105, 108, 108]), (3, lN a), (25, wcode 0 [112, 97, 99, 101]), (3, lN b)]
theorem ch_carv0 {f : Nat → Int32} {n p e : Nat} {R : List Nat} {T : List (Nat × Int64)} {k : Nat} {a : Nat} {b : Nat} (hk : k < 10) (ha : a < 1000) (hb : b < 1000) (hR : ndg R) (h : Hold f p (ln_carv0 k a b ++ R)) (hn : p + (ln_carv0 k a b ++ R).length = n) (kk : ∀ p', Hold f p' R → p' + R.length = n → Chain f n p' T e) : Chain f n p (tk_carv0 k a b ++ T) e := by
  have e0 : ln_carv0 k a b ++ R = [] ++ ([99, 97, 114, 118, 101, 114] ++ ([32] ++ ((99 :: dec k) ++ ([32] ++ ([115, 107, 105, 108, 108] ++ ([32] ++ (dec a ++ ([32] ++ ([112, 97, 99, 101] ++ ([32] ++ (dec b ++ R))))))))))) := by unfold ln_carv0; simp only [List.append_assoc]; rfl
  rw [e0] at h hn
  refine ch_w (B := []) (x := 99) (W := [97, 114, 118, 101, 114]) h hn (by decide) rfl (by decide) (by decide) ⟨by decide, rfl, rfl⟩ (by decide +kernel) (fun p h hn => ?_)
  refine ch_m (B := [32]) (x := 99) (k := k) (j := 1) h hn (by decide) (by decide) rfl rfl (by omega) ⟨by decide, rfl, rfl⟩ (fun p h hn => ?_)
  refine ch_w (B := [32]) (x := 115) (W := [107, 105, 108, 108]) h hn (by decide) rfl (by decide) (by decide) ⟨by decide, rfl, rfl⟩ (by decide +kernel) (fun p h hn => ?_)
  refine ch_d (B := [32]) (k := a) h hn (by decide) (by omega) ⟨by decide, rfl⟩ (fun p h hn => ?_)
  refine ch_w (B := [32]) (x := 112) (W := [97, 99, 101]) h hn (by decide) rfl (by decide) (by decide) ⟨by decide, rfl, rfl⟩ (by decide +kernel) (fun p h hn => ?_)
  refine ch_d (B := [32]) (k := b) h hn (by decide) (by omega) hR (fun p h hn => ?_)
  exact kk p h hn
/-- .. with what this one likes -/
def ln_carv1 (k a b x : Nat) : List Nat := TX 29 ++ (dec k ++ (TX 30 ++ (dec a ++ (TX 31 ++ (dec b ++ (TX 32 ++ (dec x)))))))
def tk_carv1 (k a b x : Nat) : List (Nat × Int64) := [(23, wcode 0 [99, 97, 114, 118, 101, 114]), (2, nm 99 k), (24, wcode 0 [115, 107, 105, 108, 108]), (3, lN a), (25, wcode 0 [112, 97, 99, 101]), (3, lN b), (26, wcode 0 [108, 105, 107, 101, 115]), (2, nm 98 x)]
theorem ch_carv1 {f : Nat → Int32} {n p e : Nat} {R : List Nat} {T : List (Nat × Int64)} {k : Nat} {a : Nat} {b : Nat} {x : Nat} (hk : k < 10) (ha : a < 1000) (hb : b < 1000) (hx : x < 10) (hR : nal R) (h : Hold f p (ln_carv1 k a b x ++ R)) (hn : p + (ln_carv1 k a b x ++ R).length = n) (kk : ∀ p', Hold f p' R → p' + R.length = n → Chain f n p' T e) : Chain f n p (tk_carv1 k a b x ++ T) e := by
  have e0 : ln_carv1 k a b x ++ R = [] ++ ([99, 97, 114, 118, 101, 114] ++ ([32] ++ ((99 :: dec k) ++ ([32] ++ ([115, 107, 105, 108, 108] ++ ([32] ++ (dec a ++ ([32] ++ ([112, 97, 99, 101] ++ ([32] ++ (dec b ++ ([32] ++ ([108, 105, 107, 101, 115] ++ ([32] ++ ((98 :: dec x) ++ R))))))))))))))) := by unfold ln_carv1; simp only [List.append_assoc]; rfl
  rw [e0] at h hn
  refine ch_w (B := []) (x := 99) (W := [97, 114, 118, 101, 114]) h hn (by decide) rfl (by decide) (by decide) ⟨by decide, rfl, rfl⟩ (by decide +kernel) (fun p h hn => ?_)
  refine ch_m (B := [32]) (x := 99) (k := k) (j := 1) h hn (by decide) (by decide) rfl rfl (by omega) ⟨by decide, rfl, rfl⟩ (fun p h hn => ?_)
  refine ch_w (B := [32]) (x := 115) (W := [107, 105, 108, 108]) h hn (by decide) rfl (by decide) (by decide) ⟨by decide, rfl, rfl⟩ (by decide +kernel) (fun p h hn => ?_)
  refine ch_d (B := [32]) (k := a) h hn (by decide) (by omega) ⟨by decide, rfl⟩ (fun p h hn => ?_)
  refine ch_w (B := [32]) (x := 112) (W := [97, 99, 101]) h hn (by decide) rfl (by decide) (by decide) ⟨by decide, rfl, rfl⟩ (by decide +kernel) (fun p h hn => ?_)
  refine ch_d (B := [32]) (k := b) h hn (by decide) (by omega) ⟨by decide, rfl⟩ (fun p h hn => ?_)
  refine ch_w (B := [32]) (x := 108) (W := [105, 107, 101, 115]) h hn (by decide) rfl (by decide) (by decide) ⟨by decide, rfl, rfl⟩ (by decide +kernel) (fun p h hn => ?_)
  refine ch_m (B := [32]) (x := 98) (k := x) (j := 0) h hn (by decide) (by decide) rfl rfl (by omega) hR (fun p h hn => ?_)
  exact kk p h hn
/-- a line that tells a stall -/
def ln_stall (k a : Nat) : List Nat := TX 34 ++ (dec k ++ (TX 35 ++ (dec a ++ (TX 28))))
def tk_stall (k a : Nat) : List (Nat × Int64) := [(27, wcode 0 [115, 116, 97, 108, 108]), (2, nm 115 k), (28, wcode 0 [111, 97, 107]), (3, lN a), (9, 0)]
theorem ch_stall {f : Nat → Int32} {n p e : Nat} {R : List Nat} {T : List (Nat × Int64)} {k : Nat} {a : Nat} (hk : k < 10) (ha : a < 1000) (h : Hold f p (ln_stall k a ++ R)) (hn : p + (ln_stall k a ++ R).length = n) (kk : ∀ p', Hold f p' R → p' + R.length = n → Chain f n p' T e) : Chain f n p (tk_stall k a ++ T) e := by
  have e0 : ln_stall k a ++ R = [] ++ ([115, 116, 97, 108, 108] ++ ([32] ++ ((115 :: dec k) ++ ([32] ++ ([111, 97, 107] ++ ([32] ++ (dec a ++ ([] ++ (59 :: R))))))))) := by unfold ln_stall; simp only [List.append_assoc]; rfl
  rw [e0] at h hn
  refine ch_w (B := []) (x := 115) (W := [116, 97, 108, 108]) h hn (by decide) rfl (by decide) (by decide) ⟨by decide, rfl, rfl⟩ (by decide +kernel) (fun p h hn => ?_)
  refine ch_m (B := [32]) (x := 115) (k := k) (j := 2) h hn (by decide) (by decide) rfl rfl (by omega) ⟨by decide, rfl, rfl⟩ (fun p h hn => ?_)
  refine ch_w (B := [32]) (x := 111) (W := [97, 107]) h hn (by decide) rfl (by decide) (by decide) ⟨by decide, rfl, rfl⟩ (by decide +kernel) (fun p h hn => ?_)
  refine ch_d (B := [32]) (k := a) h hn (by decide) (by omega) ⟨by decide, rfl⟩ (fun p h hn => ?_)
  refine ch_s (B := []) (x := 59) h hn (by decide) (by decide) ⟨rfl, rfl, rfl⟩ (by decide +kernel) (by decide +kernel) (fun p h hn => ?_)
  exact kk p h hn
/-- a line that tells a bishop -/
def ln_bish (k a b : Nat) : List Nat := TX 36 ++ (dec k ++ (TX 26 ++ (dec a ++ (TX 37 ++ (dec b ++ (TX 28))))))
def tk_bish (k a b : Nat) : List (Nat × Int64) := [(29, wcode 0 [98, 105, 115, 104, 111, 112]), (2, nm 112 k), (21, wcode 0 [103, 114, 105, 109]), (3, lN a), (30, wcode 0 [102, 114, 111, 109]), (3, lN b), (9, 0)]
theorem ch_bish {f : Nat → Int32} {n p e : Nat} {R : List Nat} {T : List (Nat × Int64)} {k : Nat} {a : Nat} {b : Nat} (hk : k < 10) (ha : a < 1000) (hb : b < 1000) (h : Hold f p (ln_bish k a b ++ R)) (hn : p + (ln_bish k a b ++ R).length = n) (kk : ∀ p', Hold f p' R → p' + R.length = n → Chain f n p' T e) : Chain f n p (tk_bish k a b ++ T) e := by
  have e0 : ln_bish k a b ++ R = [] ++ ([98, 105, 115, 104, 111, 112] ++ ([32] ++ ((112 :: dec k) ++ ([32] ++ ([103, 114, 105, 109] ++ ([32] ++ (dec a ++ ([32] ++ ([102, 114, 111, 109] ++ ([32] ++ (dec b ++ ([] ++ (59 :: R))))))))))))) := by unfold ln_bish; simp only [List.append_assoc]; rfl
  rw [e0] at h hn
  refine ch_w (B := []) (x := 98) (W := [105, 115, 104, 111, 112]) h hn (by decide) rfl (by decide) (by decide) ⟨by decide, rfl, rfl⟩ (by decide +kernel) (fun p h hn => ?_)
  refine ch_m (B := [32]) (x := 112) (k := k) (j := 3) h hn (by decide) (by decide) rfl rfl (by omega) ⟨by decide, rfl, rfl⟩ (fun p h hn => ?_)
  refine ch_w (B := [32]) (x := 103) (W := [114, 105, 109]) h hn (by decide) rfl (by decide) (by decide) ⟨by decide, rfl, rfl⟩ (by decide +kernel) (fun p h hn => ?_)
  refine ch_d (B := [32]) (k := a) h hn (by decide) (by omega) ⟨by decide, rfl⟩ (fun p h hn => ?_)
  refine ch_w (B := [32]) (x := 102) (W := [114, 111, 109]) h hn (by decide) rfl (by decide) (by decide) ⟨by decide, rfl, rfl⟩ (by decide +kernel) (fun p h hn => ?_)
  refine ch_d (B := [32]) (k := b) h hn (by decide) (by omega) ⟨by decide, rfl⟩ (fun p h hn => ?_)
  refine ch_s (B := []) (x := 59) h hn (by decide) (by decide) ⟨rfl, rfl, rfl⟩ (by decide +kernel) (by decide +kernel) (fun p h hn => ?_)
  exact kk p h hn
/-- an order of oil, without its test -/
def ln_oil (s : Nat) : List Nat := TX 38 ++ (dec s)
def tk_oil (s : Nat) : List (Nat × Int64) := [(34, wcode 0 [111, 105, 108]), (2, nm 115 s)]
theorem ch_oil {f : Nat → Int32} {n p e : Nat} {R : List Nat} {T : List (Nat × Int64)} {s : Nat} (hs : s < 10) (hR : nal R) (h : Hold f p (ln_oil s ++ R)) (hn : p + (ln_oil s ++ R).length = n) (kk : ∀ p', Hold f p' R → p' + R.length = n → Chain f n p' T e) : Chain f n p (tk_oil s ++ T) e := by
  have e0 : ln_oil s ++ R = [] ++ ([111, 105, 108] ++ ([32] ++ ((115 :: dec s) ++ R))) := by unfold ln_oil; simp only [List.append_assoc]; rfl
  rw [e0] at h hn
  refine ch_w (B := []) (x := 111) (W := [105, 108]) h hn (by decide) rfl (by decide) (by decide) ⟨by decide, rfl, rfl⟩ (by decide +kernel) (fun p h hn => ?_)
  refine ch_m (B := [32]) (x := 115) (k := s) (j := 2) h hn (by decide) (by decide) rfl rfl (by omega) hR (fun p h hn => ?_)
  exact kk p h hn
/-- an order of carve, without its test -/
def ln_carve (b s c : Nat) : List Nat := TX 39 ++ (dec b ++ (TX 40 ++ (dec s ++ (TX 41 ++ (dec c)))))
def tk_carve (b s c : Nat) : List (Nat × Int64) := [(31, wcode 0 [99, 97, 114, 118, 101]), (2, nm 98 b), (32, wcode 0 [111, 110]), (2, nm 115 s), (33, wcode 0 [98, 121]), (2, nm 99 c)]
theorem ch_carve {f : Nat → Int32} {n p e : Nat} {R : List Nat} {T : List (Nat × Int64)} {b : Nat} {s : Nat} {c : Nat} (hb : b < 10) (hs : s < 10) (hc : c < 10) (hR : nal R) (h : Hold f p (ln_carve b s c ++ R)) (hn : p + (ln_carve b s c ++ R).length = n) (kk : ∀ p', Hold f p' R → p' + R.length = n → Chain f n p' T e) : Chain f n p (tk_carve b s c ++ T) e := by
  have e0 : ln_carve b s c ++ R = [] ++ ([99, 97, 114, 118, 101] ++ ([32] ++ ((98 :: dec b) ++ ([32] ++ ([111, 110] ++ ([32] ++ ((115 :: dec s) ++ ([32] ++ ([98, 121] ++ ([32] ++ ((99 :: dec c) ++ R))))))))))) := by unfold ln_carve; simp only [List.append_assoc]; rfl
  rw [e0] at h hn
  refine ch_w (B := []) (x := 99) (W := [97, 114, 118, 101]) h hn (by decide) rfl (by decide) (by decide) ⟨by decide, rfl, rfl⟩ (by decide +kernel) (fun p h hn => ?_)
  refine ch_m (B := [32]) (x := 98) (k := b) (j := 0) h hn (by decide) (by decide) rfl rfl (by omega) ⟨by decide, rfl, rfl⟩ (fun p h hn => ?_)
  refine ch_w (B := [32]) (x := 111) (W := [110]) h hn (by decide) rfl (by decide) (by decide) ⟨by decide, rfl, rfl⟩ (by decide +kernel) (fun p h hn => ?_)
  refine ch_m (B := [32]) (x := 115) (k := s) (j := 2) h hn (by decide) (by decide) rfl rfl (by omega) ⟨by decide, rfl, rfl⟩ (fun p h hn => ?_)
  refine ch_w (B := [32]) (x := 98) (W := [121]) h hn (by decide) rfl (by decide) (by decide) ⟨by decide, rfl, rfl⟩ (by decide +kernel) (fun p h hn => ?_)
  refine ch_m (B := [32]) (x := 99) (k := c) (j := 1) h hn (by decide) (by decide) rfl rfl (by omega) hR (fun p h hn => ?_)
  exact kk p h hn
/-- the tests -/
def ln_w1 (m : Nat) : List Nat := TX 3 ++ (dec m ++ (TX 4))
def tk_w1 (m : Nat) : List (Nat × Int64) := [(35, wcode 0 [119, 104, 101, 110]), (36, wcode 0 [100, 97, 121]), (16, 0), (3, lN m), (14, 0), (3, lN 4)]
theorem ch_w1 {f : Nat → Int32} {n p e : Nat} {R : List Nat} {T : List (Nat × Int64)} {m : Nat} (hm : m < 1000) (hR : ndg R) (h : Hold f p (ln_w1 m ++ R)) (hn : p + (ln_w1 m ++ R).length = n) (kk : ∀ p', Hold f p' R → p' + R.length = n → Chain f n p' T e) : Chain f n p (tk_w1 m ++ T) e := by
  have e0 : ln_w1 m ++ R = [32] ++ ([119, 104, 101, 110] ++ ([32] ++ ([100, 97, 121] ++ ([] ++ (62 :: ([] ++ (dec m ++ ([] ++ (47 :: ([] ++ ([52] ++ R))))))))))) := by unfold ln_w1; simp only [List.append_assoc]; rfl
  rw [e0] at h hn
  refine ch_w (B := [32]) (x := 119) (W := [104, 101, 110]) h hn (by decide) rfl (by decide) (by decide) ⟨by decide, rfl, rfl⟩ (by decide +kernel) (fun p h hn => ?_)
  refine ch_w (B := [32]) (x := 100) (W := [97, 121]) h hn (by decide) rfl (by decide) (by decide) ⟨by decide, rfl, rfl⟩ (by decide +kernel) (fun p h hn => ?_)
  obtain ⟨x9, W9, hd9⟩ := dec_c (k := m)
  have hx9 : dg x9 = true := by have h7 := (dec_ok m (by omega)).1; rw [hd9, List.all_cons, Bool.and_eq_true] at h7; exact h7.1
  have hy9 := of_decide_eq_true hx9
  refine ch_1 (B := []) (x := 62) (y := x9) (by rw [hd9] at h; exact h) (by rw [hd9] at hn; exact hn) (by decide) (by decide) ⟨rfl, rfl, rfl⟩ (by omega) (by omega) (by decide +kernel) (by decide +kernel) (fun p h hn => ?_)
  replace h : Hold f p ([] ++ (dec m ++ ([] ++ (47 :: ([] ++ ([52] ++ R)))))) := by rw [hd9]; exact h
  replace hn : p + ([] ++ (dec m ++ ([] ++ (47 :: ([] ++ ([52] ++ R)))))).length = n := by rw [hd9]; exact hn
  refine ch_d (B := []) (k := m) h hn (by decide) (by omega) ⟨by decide, rfl⟩ (fun p h hn => ?_)
  refine ch_s (B := []) (x := 47) h hn (by decide) (by decide) ⟨rfl, rfl, rfl⟩ (by decide +kernel) (by decide +kernel) (fun p h hn => ?_)
  refine ch_n (B := []) (x := 52) (W := []) h hn (by decide) (by decide) (by decide) hR (by decide +kernel) (fun p h hn => ?_)
  exact kk p h hn
/-- .. -/
def ln_w2 (a : Nat) : List Nat := TX 5 ++ (TX 0 ++ (dec a))
def tk_w2 (a : Nat) : List (Nat × Int64) := [(35, wcode 0 [119, 104, 101, 110]), (44, wcode 0 [110, 111, 116]), (43, wcode 0 [115, 113, 117, 101, 97, 107, 115]), (2, nm 115 a)]
theorem ch_w2 {f : Nat → Int32} {n p e : Nat} {R : List Nat} {T : List (Nat × Int64)} {a : Nat} (ha : a < 10) (hR : nal R) (h : Hold f p (ln_w2 a ++ R)) (hn : p + (ln_w2 a ++ R).length = n) (kk : ∀ p', Hold f p' R → p' + R.length = n → Chain f n p' T e) : Chain f n p (tk_w2 a ++ T) e := by
  have e0 : ln_w2 a ++ R = [32] ++ ([119, 104, 101, 110] ++ ([32] ++ ([110, 111, 116] ++ ([32] ++ ([115, 113, 117, 101, 97, 107, 115] ++ ([32] ++ ((115 :: dec a) ++ R))))))) := by unfold ln_w2; simp only [List.append_assoc]; rfl
  rw [e0] at h hn
  refine ch_w (B := [32]) (x := 119) (W := [104, 101, 110]) h hn (by decide) rfl (by decide) (by decide) ⟨by decide, rfl, rfl⟩ (by decide +kernel) (fun p h hn => ?_)
  refine ch_w (B := [32]) (x := 110) (W := [111, 116]) h hn (by decide) rfl (by decide) (by decide) ⟨by decide, rfl, rfl⟩ (by decide +kernel) (fun p h hn => ?_)
  refine ch_w (B := [32]) (x := 115) (W := [113, 117, 101, 97, 107, 115]) h hn (by decide) rfl (by decide) (by decide) ⟨by decide, rfl, rfl⟩ (by decide +kernel) (fun p h hn => ?_)
  refine ch_m (B := [32]) (x := 115) (k := a) (j := 2) h hn (by decide) (by decide) rfl rfl (by omega) hR (fun p h hn => ?_)
  exact kk p h hn
/-- .. -/
def ln_w3 (a m : Nat) : List Nat := TX 6 ++ (TX 0 ++ (dec a ++ (TX 7 ++ (dec m ++ (TX 8)))))
def tk_w3 (a m : Nat) : List (Nat × Int64) := [(35, wcode 0 [119, 104, 101, 110]), (40, wcode 0 [114, 117, 115, 116]), (2, nm 115 a), (19, 0), (3, lN m), (14, 0), (3, lN 9)]
theorem ch_w3 {f : Nat → Int32} {n p e : Nat} {R : List Nat} {T : List (Nat × Int64)} {a : Nat} {m : Nat} (ha : a < 10) (hm : m < 1000) (hR : ndg R) (h : Hold f p (ln_w3 a m ++ R)) (hn : p + (ln_w3 a m ++ R).length = n) (kk : ∀ p', Hold f p' R → p' + R.length = n → Chain f n p' T e) : Chain f n p (tk_w3 a m ++ T) e := by
  have e0 : ln_w3 a m ++ R = [32] ++ ([119, 104, 101, 110] ++ ([32] ++ ([114, 117, 115, 116] ++ ([32] ++ ((115 :: dec a) ++ ([] ++ (62 :: 61 :: ([] ++ (dec m ++ ([] ++ (47 :: ([] ++ ([57] ++ R))))))))))))) := by unfold ln_w3; simp only [List.append_assoc]; rfl
  rw [e0] at h hn
  refine ch_w (B := [32]) (x := 119) (W := [104, 101, 110]) h hn (by decide) rfl (by decide) (by decide) ⟨by decide, rfl, rfl⟩ (by decide +kernel) (fun p h hn => ?_)
  refine ch_w (B := [32]) (x := 114) (W := [117, 115, 116]) h hn (by decide) rfl (by decide) (by decide) ⟨by decide, rfl, rfl⟩ (by decide +kernel) (fun p h hn => ?_)
  refine ch_m (B := [32]) (x := 115) (k := a) (j := 2) h hn (by decide) (by decide) rfl rfl (by omega) ⟨by decide, rfl, rfl⟩ (fun p h hn => ?_)
  refine ch_2 (B := []) (x := 62) h hn (by decide) (by decide) ⟨rfl, rfl, rfl⟩ (by decide +kernel) (by decide +kernel) (fun p h hn => ?_)
  refine ch_d (B := []) (k := m) h hn (by decide) (by omega) ⟨by decide, rfl⟩ (fun p h hn => ?_)
  refine ch_s (B := []) (x := 47) h hn (by decide) (by decide) ⟨rfl, rfl, rfl⟩ (by decide +kernel) (by decide +kernel) (fun p h hn => ?_)
  refine ch_n (B := []) (x := 57) (W := []) h hn (by decide) (by decide) (by decide) hR (by decide +kernel) (fun p h hn => ?_)
  exact kk p h hn
/-- .. -/
def ln_w4 (a b c m : Nat) : List Nat := TX 9 ++ (TX 0 ++ (dec a ++ (TX 1 ++ (dec b ++ (TX 10 ++ (TX 0 ++ (dec c ++ (TX 11 ++ (dec m)))))))))
def tk_w4 (a b c m : Nat) : List (Nat × Int64) := [(35, wcode 0 [119, 104, 101, 110]), (42, wcode 0 [98, 101, 97, 114, 115]), (2, nm 115 a), (2, nm 98 b), (46, wcode 0 [111, 114]), (39, wcode 0 [119, 111, 114, 109, 115]), (2, nm 115 c), (15, 0), (3, lN m)]
theorem ch_w4 {f : Nat → Int32} {n p e : Nat} {R : List Nat} {T : List (Nat × Int64)} {a : Nat} {b : Nat} {c : Nat} {m : Nat} (ha : a < 10) (hb : b < 10) (hc : c < 10) (hm : m < 1000) (hR : ndg R) (h : Hold f p (ln_w4 a b c m ++ R)) (hn : p + (ln_w4 a b c m ++ R).length = n) (kk : ∀ p', Hold f p' R → p' + R.length = n → Chain f n p' T e) : Chain f n p (tk_w4 a b c m ++ T) e := by
  have e0 : ln_w4 a b c m ++ R = [32] ++ ([119, 104, 101, 110] ++ ([32] ++ ([98, 101, 97, 114, 115] ++ ([32] ++ ((115 :: dec a) ++ ([32] ++ ((98 :: dec b) ++ ([32] ++ ([111, 114] ++ ([32] ++ ([119, 111, 114, 109, 115] ++ ([32] ++ ((115 :: dec c) ++ ([] ++ (60 :: ([] ++ (dec m ++ R))))))))))))))))) := by unfold ln_w4; simp only [List.append_assoc]; rfl
  rw [e0] at h hn
  refine ch_w (B := [32]) (x := 119) (W := [104, 101, 110]) h hn (by decide) rfl (by decide) (by decide) ⟨by decide, rfl, rfl⟩ (by decide +kernel) (fun p h hn => ?_)
  refine ch_w (B := [32]) (x := 98) (W := [101, 97, 114, 115]) h hn (by decide) rfl (by decide) (by decide) ⟨by decide, rfl, rfl⟩ (by decide +kernel) (fun p h hn => ?_)
  refine ch_m (B := [32]) (x := 115) (k := a) (j := 2) h hn (by decide) (by decide) rfl rfl (by omega) ⟨by decide, rfl, rfl⟩ (fun p h hn => ?_)
  refine ch_m (B := [32]) (x := 98) (k := b) (j := 0) h hn (by decide) (by decide) rfl rfl (by omega) ⟨by decide, rfl, rfl⟩ (fun p h hn => ?_)
  refine ch_w (B := [32]) (x := 111) (W := [114]) h hn (by decide) rfl (by decide) (by decide) ⟨by decide, rfl, rfl⟩ (by decide +kernel) (fun p h hn => ?_)
  refine ch_w (B := [32]) (x := 119) (W := [111, 114, 109, 115]) h hn (by decide) rfl (by decide) (by decide) ⟨by decide, rfl, rfl⟩ (by decide +kernel) (fun p h hn => ?_)
  refine ch_m (B := [32]) (x := 115) (k := c) (j := 2) h hn (by decide) (by decide) rfl rfl (by omega) ⟨by decide, rfl, rfl⟩ (fun p h hn => ?_)
  obtain ⟨x9, W9, hd9⟩ := dec_c (k := m)
  have hx9 : dg x9 = true := by have h7 := (dec_ok m (by omega)).1; rw [hd9, List.all_cons, Bool.and_eq_true] at h7; exact h7.1
  have hy9 := of_decide_eq_true hx9
  refine ch_1 (B := []) (x := 60) (y := x9) (by rw [hd9] at h; exact h) (by rw [hd9] at hn; exact hn) (by decide) (by decide) ⟨rfl, rfl, rfl⟩ (by omega) (by omega) (by decide +kernel) (by decide +kernel) (fun p h hn => ?_)
  replace h : Hold f p ([] ++ (dec m ++ R)) := by rw [hd9]; exact h
  replace hn : p + ([] ++ (dec m ++ R)).length = n := by rw [hd9]; exact hn
  refine ch_d (B := []) (k := m) h hn (by decide) (by omega) hR (fun p h hn => ?_)
  exact kk p h hn
/-- .. -/
def ln_w5 (a m : Nat) : List Nat := TX 12 ++ (TX 0 ++ (dec a ++ (TX 13 ++ (dec m ++ (TX 14 ++ (dec m ++ (TX 15 ++ (dec m ++ (TX 16)))))))))
def tk_w5 (a m : Nat) : List (Nat × Int64) := [(35, wcode 0 [119, 104, 101, 110]), (7, 0), (38, wcode 0 [113, 117, 97, 108, 105, 116, 121]), (2, nm 115 a), (18, 0), (3, lN m), (14, 0), (3, lN 5), (45, wcode 0 [97, 110, 100]), (37, wcode 0 [100, 97, 109, 112]), (16, 0), (3, lN m), (14, 0), (3, lN 20), (8, 0), (46, wcode 0 [111, 114]), (44, wcode 0 [110, 111, 116]), (36, wcode 0 [100, 97, 121]), (17, 0), (3, lN m), (14, 0), (3, lN 3)]
theorem ch_w5 {f : Nat → Int32} {n p e : Nat} {R : List Nat} {T : List (Nat × Int64)} {a : Nat} {m : Nat} (ha : a < 10) (hm : m < 1000) (hR : ndg R) (h : Hold f p (ln_w5 a m ++ R)) (hn : p + (ln_w5 a m ++ R).length = n) (kk : ∀ p', Hold f p' R → p' + R.length = n → Chain f n p' T e) : Chain f n p (tk_w5 a m ++ T) e := by
  have e0 : ln_w5 a m ++ R = [32] ++ ([119, 104, 101, 110] ++ ([32] ++ (91 :: ([] ++ ([113, 117, 97, 108, 105, 116, 121] ++ ([32] ++ ((115 :: dec a) ++ ([] ++ (60 :: 61 :: ([] ++ (dec m ++ ([] ++ (47 :: ([] ++ ([53] ++ ([32] ++ ([97, 110, 100] ++ ([32] ++ ([100, 97, 109, 112] ++ ([] ++ (62 :: ([] ++ (dec m ++ ([] ++ (47 :: ([] ++ ([50, 48] ++ ([] ++ (93 :: ([] ++ ([111, 114] ++ ([32] ++ ([110, 111, 116] ++ ([32] ++ ([100, 97, 121] ++ ([] ++ (61 :: ([] ++ (dec m ++ ([] ++ (47 :: ([] ++ ([51] ++ R))))))))))))))))))))))))))))))))))))))))))) := by unfold ln_w5; simp only [List.append_assoc]; rfl
  rw [e0] at h hn
  refine ch_w (B := [32]) (x := 119) (W := [104, 101, 110]) h hn (by decide) rfl (by decide) (by decide) ⟨by decide, rfl, rfl⟩ (by decide +kernel) (fun p h hn => ?_)
  refine ch_s (B := [32]) (x := 91) h hn (by decide) (by decide) ⟨rfl, rfl, rfl⟩ (by decide +kernel) (by decide +kernel) (fun p h hn => ?_)
  refine ch_w (B := []) (x := 113) (W := [117, 97, 108, 105, 116, 121]) h hn (by decide) rfl (by decide) (by decide) ⟨by decide, rfl, rfl⟩ (by decide +kernel) (fun p h hn => ?_)
  refine ch_m (B := [32]) (x := 115) (k := a) (j := 2) h hn (by decide) (by decide) rfl rfl (by omega) ⟨by decide, rfl, rfl⟩ (fun p h hn => ?_)
  refine ch_2 (B := []) (x := 60) h hn (by decide) (by decide) ⟨rfl, rfl, rfl⟩ (by decide +kernel) (by decide +kernel) (fun p h hn => ?_)
  refine ch_d (B := []) (k := m) h hn (by decide) (by omega) ⟨by decide, rfl⟩ (fun p h hn => ?_)
  refine ch_s (B := []) (x := 47) h hn (by decide) (by decide) ⟨rfl, rfl, rfl⟩ (by decide +kernel) (by decide +kernel) (fun p h hn => ?_)
  refine ch_n (B := []) (x := 53) (W := []) h hn (by decide) (by decide) (by decide) ⟨by decide, rfl⟩ (by decide +kernel) (fun p h hn => ?_)
  refine ch_w (B := [32]) (x := 97) (W := [110, 100]) h hn (by decide) rfl (by decide) (by decide) ⟨by decide, rfl, rfl⟩ (by decide +kernel) (fun p h hn => ?_)
  refine ch_w (B := [32]) (x := 100) (W := [97, 109, 112]) h hn (by decide) rfl (by decide) (by decide) ⟨by decide, rfl, rfl⟩ (by decide +kernel) (fun p h hn => ?_)
  obtain ⟨x9, W9, hd9⟩ := dec_c (k := m)
  have hx9 : dg x9 = true := by have h7 := (dec_ok m (by omega)).1; rw [hd9, List.all_cons, Bool.and_eq_true] at h7; exact h7.1
  have hy9 := of_decide_eq_true hx9
  refine ch_1 (B := []) (x := 62) (y := x9) (by rw [hd9] at h; exact h) (by rw [hd9] at hn; exact hn) (by decide) (by decide) ⟨rfl, rfl, rfl⟩ (by omega) (by omega) (by decide +kernel) (by decide +kernel) (fun p h hn => ?_)
  replace h : Hold f p ([] ++ (dec m ++ ([] ++ (47 :: ([] ++ ([50, 48] ++ ([] ++ (93 :: ([] ++ ([111, 114] ++ ([32] ++ ([110, 111, 116] ++ ([32] ++ ([100, 97, 121] ++ ([] ++ (61 :: ([] ++ (dec m ++ ([] ++ (47 :: ([] ++ ([51] ++ R)))))))))))))))))))))) := by rw [hd9]; exact h
  replace hn : p + ([] ++ (dec m ++ ([] ++ (47 :: ([] ++ ([50, 48] ++ ([] ++ (93 :: ([] ++ ([111, 114] ++ ([32] ++ ([110, 111, 116] ++ ([32] ++ ([100, 97, 121] ++ ([] ++ (61 :: ([] ++ (dec m ++ ([] ++ (47 :: ([] ++ ([51] ++ R)))))))))))))))))))))).length = n := by rw [hd9]; exact hn
  refine ch_d (B := []) (k := m) h hn (by decide) (by omega) ⟨by decide, rfl⟩ (fun p h hn => ?_)
  refine ch_s (B := []) (x := 47) h hn (by decide) (by decide) ⟨rfl, rfl, rfl⟩ (by decide +kernel) (by decide +kernel) (fun p h hn => ?_)
  refine ch_n (B := []) (x := 50) (W := [48]) h hn (by decide) (by decide) (by decide) ⟨by decide, rfl⟩ (by decide +kernel) (fun p h hn => ?_)
  refine ch_s (B := []) (x := 93) h hn (by decide) (by decide) ⟨rfl, rfl, rfl⟩ (by decide +kernel) (by decide +kernel) (fun p h hn => ?_)
  refine ch_w (B := []) (x := 111) (W := [114]) h hn (by decide) rfl (by decide) (by decide) ⟨by decide, rfl, rfl⟩ (by decide +kernel) (fun p h hn => ?_)
  refine ch_w (B := [32]) (x := 110) (W := [111, 116]) h hn (by decide) rfl (by decide) (by decide) ⟨by decide, rfl, rfl⟩ (by decide +kernel) (fun p h hn => ?_)
  refine ch_w (B := [32]) (x := 100) (W := [97, 121]) h hn (by decide) rfl (by decide) (by decide) ⟨by decide, rfl, rfl⟩ (by decide +kernel) (fun p h hn => ?_)
  refine ch_s (B := []) (x := 61) h hn (by decide) (by decide) ⟨rfl, rfl, rfl⟩ (by decide +kernel) (by decide +kernel) (fun p h hn => ?_)
  refine ch_d (B := []) (k := m) h hn (by decide) (by omega) ⟨by decide, rfl⟩ (fun p h hn => ?_)
  refine ch_s (B := []) (x := 47) h hn (by decide) (by decide) ⟨rfl, rfl, rfl⟩ (by decide +kernel) (by decide +kernel) (fun p h hn => ?_)
  refine ch_n (B := []) (x := 51) (W := []) h hn (by decide) (by decide) (by decide) hR (by decide +kernel) (fun p h hn => ?_)
  exact kk p h hn
/-- .. -/
def ln_w6 (m : Nat) : List Nat := TX 17 ++ (dec m ++ (TX 18 ++ (dec m)))
def tk_w6 (m : Nat) : List (Nat × Int64) := [(35, wcode 0 [119, 104, 101, 110]), (47, wcode 0 [109, 105, 110]), (5, 0), (41, wcode 0 [99, 111, 105, 110, 115]), (10, 0), (3, lN m), (6, 0), (13, 0), (3, lN 2), (12, 0), (36, wcode 0 [100, 97, 121]), (15, 0), (3, lN m)]
theorem ch_w6 {f : Nat → Int32} {n p e : Nat} {R : List Nat} {T : List (Nat × Int64)} {m : Nat} (hm : m < 1000) (hR : ndg R) (h : Hold f p (ln_w6 m ++ R)) (hn : p + (ln_w6 m ++ R).length = n) (kk : ∀ p', Hold f p' R → p' + R.length = n → Chain f n p' T e) : Chain f n p (tk_w6 m ++ T) e := by
  have e0 : ln_w6 m ++ R = [32] ++ ([119, 104, 101, 110] ++ ([32] ++ ([109, 105, 110] ++ ([] ++ (40 :: ([] ++ ([99, 111, 105, 110, 115] ++ ([] ++ (44 :: ([] ++ (dec m ++ ([] ++ (41 :: ([] ++ (42 :: ([] ++ ([50] ++ ([] ++ (45 :: ([] ++ ([100, 97, 121] ++ ([32] ++ (60 :: ([32] ++ (dec m ++ R))))))))))))))))))))))))) := by unfold ln_w6; simp only [List.append_assoc]; rfl
  rw [e0] at h hn
  refine ch_w (B := [32]) (x := 119) (W := [104, 101, 110]) h hn (by decide) rfl (by decide) (by decide) ⟨by decide, rfl, rfl⟩ (by decide +kernel) (fun p h hn => ?_)
  refine ch_w (B := [32]) (x := 109) (W := [105, 110]) h hn (by decide) rfl (by decide) (by decide) ⟨by decide, rfl, rfl⟩ (by decide +kernel) (fun p h hn => ?_)
  refine ch_s (B := []) (x := 40) h hn (by decide) (by decide) ⟨rfl, rfl, rfl⟩ (by decide +kernel) (by decide +kernel) (fun p h hn => ?_)
  refine ch_w (B := []) (x := 99) (W := [111, 105, 110, 115]) h hn (by decide) rfl (by decide) (by decide) ⟨by decide, rfl, rfl⟩ (by decide +kernel) (fun p h hn => ?_)
  refine ch_s (B := []) (x := 44) h hn (by decide) (by decide) ⟨rfl, rfl, rfl⟩ (by decide +kernel) (by decide +kernel) (fun p h hn => ?_)
  refine ch_d (B := []) (k := m) h hn (by decide) (by omega) ⟨by decide, rfl⟩ (fun p h hn => ?_)
  refine ch_s (B := []) (x := 41) h hn (by decide) (by decide) ⟨rfl, rfl, rfl⟩ (by decide +kernel) (by decide +kernel) (fun p h hn => ?_)
  refine ch_s (B := []) (x := 42) h hn (by decide) (by decide) ⟨rfl, rfl, rfl⟩ (by decide +kernel) (by decide +kernel) (fun p h hn => ?_)
  refine ch_n (B := []) (x := 50) (W := []) h hn (by decide) (by decide) (by decide) ⟨by decide, rfl⟩ (by decide +kernel) (fun p h hn => ?_)
  refine ch_s (B := []) (x := 45) h hn (by decide) (by decide) ⟨rfl, rfl, rfl⟩ (by decide +kernel) (by decide +kernel) (fun p h hn => ?_)
  refine ch_w (B := []) (x := 100) (W := [97, 121]) h hn (by decide) rfl (by decide) (by decide) ⟨by decide, rfl, rfl⟩ (by decide +kernel) (fun p h hn => ?_)
  refine ch_1 (B := [32]) (x := 60) (y := 32) h hn (by decide) (by decide) ⟨rfl, rfl, rfl⟩ (by decide) (by decide) (by decide +kernel) (by decide +kernel) (fun p h hn => ?_)
  refine ch_d (B := [32]) (k := m) h hn (by decide) (by omega) hR (fun p h hn => ?_)
  exact kk p h hn
/-- .. -/
def ln_w7 (m : Nat) : List Nat := TX 19 ++ (dec m ++ (TX 20 ++ (dec m)))
def tk_w7 (m : Nat) : List (Nat × Int64) := [(35, wcode 0 [119, 104, 101, 110]), (3, lN m), (14, 0), (3, lN 2), (13, 0), (3, lN 2), (17, 0), (3, lN m)]
theorem ch_w7 {f : Nat → Int32} {n p e : Nat} {R : List Nat} {T : List (Nat × Int64)} {m : Nat} (hm : m < 1000) (hR : ndg R) (h : Hold f p (ln_w7 m ++ R)) (hn : p + (ln_w7 m ++ R).length = n) (kk : ∀ p', Hold f p' R → p' + R.length = n → Chain f n p' T e) : Chain f n p (tk_w7 m ++ T) e := by
  have e0 : ln_w7 m ++ R = [32] ++ ([119, 104, 101, 110] ++ ([32] ++ (dec m ++ ([] ++ (47 :: ([] ++ ([50] ++ ([] ++ (42 :: ([] ++ ([50] ++ ([] ++ (61 :: ([] ++ (dec m ++ R))))))))))))))) := by unfold ln_w7; simp only [List.append_assoc]; rfl
  rw [e0] at h hn
  refine ch_w (B := [32]) (x := 119) (W := [104, 101, 110]) h hn (by decide) rfl (by decide) (by decide) ⟨by decide, rfl, rfl⟩ (by decide +kernel) (fun p h hn => ?_)
  refine ch_d (B := [32]) (k := m) h hn (by decide) (by omega) ⟨by decide, rfl⟩ (fun p h hn => ?_)
  refine ch_s (B := []) (x := 47) h hn (by decide) (by decide) ⟨rfl, rfl, rfl⟩ (by decide +kernel) (by decide +kernel) (fun p h hn => ?_)
  refine ch_n (B := []) (x := 50) (W := []) h hn (by decide) (by decide) (by decide) ⟨by decide, rfl⟩ (by decide +kernel) (fun p h hn => ?_)
  refine ch_s (B := []) (x := 42) h hn (by decide) (by decide) ⟨rfl, rfl, rfl⟩ (by decide +kernel) (by decide +kernel) (fun p h hn => ?_)
  refine ch_n (B := []) (x := 50) (W := []) h hn (by decide) (by decide) (by decide) ⟨by decide, rfl⟩ (by decide +kernel) (fun p h hn => ?_)
  refine ch_s (B := []) (x := 61) h hn (by decide) (by decide) ⟨rfl, rfl, rfl⟩ (by decide +kernel) (by decide +kernel) (fun p h hn => ?_)
  refine ch_d (B := []) (k := m) h hn (by decide) (by omega) hR (fun p h hn => ?_)
  exact kk p h hn
/-- .. -/
def ln_w8 (a c m : Nat) : List Nat := TX 21 ++ (TX 0 ++ (dec a ++ (TX 22 ++ (TX 0 ++ (dec c ++ (TX 23 ++ (dec m ++ (TX 24))))))))
def tk_w8 (a c m : Nat) : List (Nat × Int64) := [(35, wcode 0 [119, 104, 101, 110]), (48, wcode 0 [109, 97, 120]), (5, 0), (39, wcode 0 [119, 111, 114, 109, 115]), (2, nm 115 a), (10, 0), (12, 0), (40, wcode 0 [114, 117, 115, 116]), (2, nm 115 c), (6, 0), (16, 0), (3, lN m), (14, 0), (3, lN 6)]
theorem ch_w8 {f : Nat → Int32} {n p e : Nat} {R : List Nat} {T : List (Nat × Int64)} {a : Nat} {c : Nat} {m : Nat} (ha : a < 10) (hc : c < 10) (hm : m < 1000) (hR : ndg R) (h : Hold f p (ln_w8 a c m ++ R)) (hn : p + (ln_w8 a c m ++ R).length = n) (kk : ∀ p', Hold f p' R → p' + R.length = n → Chain f n p' T e) : Chain f n p (tk_w8 a c m ++ T) e := by
  have e0 : ln_w8 a c m ++ R = [32] ++ ([119, 104, 101, 110] ++ ([32] ++ ([109, 97, 120] ++ ([] ++ (40 :: ([] ++ ([119, 111, 114, 109, 115] ++ ([32] ++ ((115 :: dec a) ++ ([] ++ (44 :: ([] ++ (45 :: ([] ++ ([114, 117, 115, 116] ++ ([32] ++ ((115 :: dec c) ++ ([] ++ (41 :: ([] ++ (62 :: ([] ++ (dec m ++ ([] ++ (47 :: ([] ++ ([54] ++ R))))))))))))))))))))))))))) := by unfold ln_w8; simp only [List.append_assoc]; rfl
  rw [e0] at h hn
  refine ch_w (B := [32]) (x := 119) (W := [104, 101, 110]) h hn (by decide) rfl (by decide) (by decide) ⟨by decide, rfl, rfl⟩ (by decide +kernel) (fun p h hn => ?_)
  refine ch_w (B := [32]) (x := 109) (W := [97, 120]) h hn (by decide) rfl (by decide) (by decide) ⟨by decide, rfl, rfl⟩ (by decide +kernel) (fun p h hn => ?_)
  refine ch_s (B := []) (x := 40) h hn (by decide) (by decide) ⟨rfl, rfl, rfl⟩ (by decide +kernel) (by decide +kernel) (fun p h hn => ?_)
  refine ch_w (B := []) (x := 119) (W := [111, 114, 109, 115]) h hn (by decide) rfl (by decide) (by decide) ⟨by decide, rfl, rfl⟩ (by decide +kernel) (fun p h hn => ?_)
  refine ch_m (B := [32]) (x := 115) (k := a) (j := 2) h hn (by decide) (by decide) rfl rfl (by omega) ⟨by decide, rfl, rfl⟩ (fun p h hn => ?_)
  refine ch_s (B := []) (x := 44) h hn (by decide) (by decide) ⟨rfl, rfl, rfl⟩ (by decide +kernel) (by decide +kernel) (fun p h hn => ?_)
  refine ch_s (B := []) (x := 45) h hn (by decide) (by decide) ⟨rfl, rfl, rfl⟩ (by decide +kernel) (by decide +kernel) (fun p h hn => ?_)
  refine ch_w (B := []) (x := 114) (W := [117, 115, 116]) h hn (by decide) rfl (by decide) (by decide) ⟨by decide, rfl, rfl⟩ (by decide +kernel) (fun p h hn => ?_)
  refine ch_m (B := [32]) (x := 115) (k := c) (j := 2) h hn (by decide) (by decide) rfl rfl (by omega) ⟨by decide, rfl, rfl⟩ (fun p h hn => ?_)
  refine ch_s (B := []) (x := 41) h hn (by decide) (by decide) ⟨rfl, rfl, rfl⟩ (by decide +kernel) (by decide +kernel) (fun p h hn => ?_)
  obtain ⟨x9, W9, hd9⟩ := dec_c (k := m)
  have hx9 : dg x9 = true := by have h7 := (dec_ok m (by omega)).1; rw [hd9, List.all_cons, Bool.and_eq_true] at h7; exact h7.1
  have hy9 := of_decide_eq_true hx9
  refine ch_1 (B := []) (x := 62) (y := x9) (by rw [hd9] at h; exact h) (by rw [hd9] at hn; exact hn) (by decide) (by decide) ⟨rfl, rfl, rfl⟩ (by omega) (by omega) (by decide +kernel) (by decide +kernel) (fun p h hn => ?_)
  replace h : Hold f p ([] ++ (dec m ++ ([] ++ (47 :: ([] ++ ([54] ++ R)))))) := by rw [hd9]; exact h
  replace hn : p + ([] ++ (dec m ++ ([] ++ (47 :: ([] ++ ([54] ++ R)))))).length = n := by rw [hd9]; exact hn
  refine ch_d (B := []) (k := m) h hn (by decide) (by omega) ⟨by decide, rfl⟩ (fun p h hn => ?_)
  refine ch_s (B := []) (x := 47) h hn (by decide) (by decide) ⟨rfl, rfl, rfl⟩ (by decide +kernel) (by decide +kernel) (fun p h hn => ?_)
  refine ch_n (B := []) (x := 54) (W := []) h hn (by decide) (by decide) (by decide) hR (by decide +kernel) (fun p h hn => ?_)
  exact kk p h hn
