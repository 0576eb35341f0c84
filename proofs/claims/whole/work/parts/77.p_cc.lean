/-! both readings of a list say the same -/
/-- an empty sheet -/
def q00 : RS := (fun _ => 0, fun _ _ => 0, fun _ _ => 0, 0)
section
variable {sm : Nat → Nat → Bool} {j cap k x i : Nat} {q : RS} {sq : Nat → Nat} {v : Int32} {num : Nat → Int32}
theorem qMean_k {y : Int32} (h : ¬ i = k) : (qMean q k y).2.2.1 3 i = q.2.2.1 3 i := by
  show updR q.2.2.1 3 (upd (q.2.2.1 3) k y) 3 i = _
  rw [upR_e]; exact if_neg h
theorem qNam_k (h : ¬ i = k) : (qNam sq sm k q).2.2.2.1 3 i = q.2.2.1 3 i := by
  unfold qNam
  split
  · rw [qNew_r (by decide)]
  split
  · rw [qNew_r (by decide)]
  split
  · rw [qNew_r (by decide)]
  split
  · rw [qNew_r (by decide)]
  split
  · rfl
  · show (if _ then _ else _ : RS).2.2.1 3 i = _
    split
    · rw [qRow_r (by decide)]; exact qMean_k h
    split
    · rw [qRow_r (by decide)]; exact qMean_k h
    split
    · rw [qRow_r (by decide)]; exact qMean_k h
    split
    · rw [qRow_r (by decide)]; exact qMean_k h
    · exact qMean_k h
theorem qNum_k (h : ¬ i = k) : (qNum sq v k q).2.2.2.1 3 i = q.2.2.1 3 i := by
  unfold qNum
  split
  · show (if _ then _ else _ : RS).2.2.1 3 i = _
    split
    · rw [qRow_r (by decide)]; exact qMean_k h
    · rw [qRow_r (by decide)]; exact qMean_k h
  split
  · show (qRow _ _ _ _).2.2.1 3 i = _; rw [qRow_r (by decide)]; exact qMean_k h
  split
  · show (qRow _ _ _ _).2.2.1 3 i = _; rw [qRow_r (by decide)]; exact qMean_k h
  split
  · show (qRow _ _ _ _).2.2.1 3 i = _; rw [qRow_r (by decide)]; exact qMean_k h
  split
  · show (qRow _ _ _ _).2.2.1 3 i = _; rw [qRow_r (by decide)]; exact qMean_k h
  split
  · show (qRow _ _ _ _).2.2.1 3 i = _; rw [qRow_r (by decide)]; exact qMean_k h
  · exact qMean_k h
theorem qErr_k (h : ¬ i = k) : (qErr sq sm num k q).2.2.2.1 3 i = q.2.2.1 3 i := by
  unfold qErr
  split
  · exact qNam_k h
  split
  · exact qNum_k h
  split
  · rw [qOrd_r (by decide)]
  split
  · rfl
  split
  · show (qRow _ _ _ _).2.2.1 3 i = _; rw [qRow_r (by decide)]
  · rfl
theorem q3_at : ∀ d, (qAt sq sm num q (j + 1 + d)).2.2.1 3 j = (qAt sq sm num q (j + 1)).2.2.1 3 j := by
  intro d
  induction d with
  | zero => rfl
  | succ d ih =>
    show (qErr sq sm num (j + 1 + d) (qAt sq sm num q (j + 1 + d))).2.2.2.1 3 j = _
    rw [qErr_k (by omega)]; exact ih
theorem cnq_new (h : LOK q.1) (hj : ((j = 0 ∧ cap = 8) ∨ (j = 1 ∧ cap = 5) ∨ (j = 2 ∧ cap = 10) ∨ (j = 3 ∧ cap = 6))) : LOK (qNew sm j cap k q).2.1 := by
  have hc : q.1 j ≤ cap := by
    obtain ⟨l0, l1, l2, l3, l4⟩ := h
    rcases hj with ⟨b, c⟩ | ⟨b, c⟩ | ⟨b, c⟩ | ⟨b, c⟩ <;> subst b <;> subst c <;> assumption
  unfold qNew
  split
  · split
    · exact h
    · rename_i h2
      exact h.up j _ (by rcases hj with ⟨b, c⟩ | ⟨b, c⟩ | ⟨b, c⟩ | ⟨b, c⟩ <;> subst b <;> subst c <;> exact ⟨fun z => by omega, fun z => by omega, fun z => by omega, fun z => by omega, fun z => by omega⟩)
  · exact h
theorem cnq_nam (h : LOK q.1) : LOK (qNam sq sm k q).2.1 := by
  unfold qNam
  split
  · exact cnq_new h (by omega)
  split
  · exact cnq_new h (by omega)
  split
  · exact cnq_new h (by omega)
  split
  · exact cnq_new h (by omega)
  split
  · exact h
  · show LOK (if _ then _ else _ : RS).1
    split
    · exact h
    split
    · exact h
    split
    · exact h
    split <;> exact h
theorem cnq_num (h : LOK q.1) : LOK (qNum sq v k q).2.1 := by
  unfold qNum
  split
  · show LOK (if _ then _ else _ : RS).1
    split <;> exact h
  split
  · exact h
  split
  · exact h
  split
  · exact h
  split
  · exact h
  split <;> exact h
theorem cnq_ord {s : Nat} (h : LOK q.1) : LOK (qOrd s q).2.1 := by
  unfold qOrd
  split
  · exact h
  · rename_i h2
    have h4 := h.2.2.2.2
    exact h.up 4 _ ⟨fun z => by omega, fun z => by omega, fun z => by omega, fun z => by omega, fun z => by omega⟩
theorem cnq_k (h : LOK q.1) : LOK (qErr sq sm num k q).2.1 := by
  unfold qErr
  split
  · exact cnq_nam h
  split
  · exact cnq_num h
  split
  · exact cnq_ord h
  split
  · exact h
  split <;> exact h
theorem nmq_up {a b : Nat} (h : NMQ a q) (hb : a ≤ b) : NMQ b q := fun s hs i hi => Nat.lt_of_lt_of_le (h s hs i hi) hb
theorem nmq_new (h : NMQ k q) (hj : j < 4) : NMQ (k + 1) (qNew sm j cap k q).2 := by
  have h' : NMQ (k + 1) q := nmq_up h (Nat.le_succ _)
  unfold qNew
  split
  · split
    · exact h'
    · intro s hs i hi
      show (if s = j then updN (q.2.1 j) (q.1 j) k else q.2.1 s) i < k + 1
      have hi : i < if s = j then q.1 j + 1 else q.1 s := hi
      by_cases c : s = j
      · rw [if_pos c] at hi ⊢
        show (if i = q.1 j then k else q.2.1 j i) < k + 1
        by_cases c2 : i = q.1 j
        · rw [if_pos c2]; omega
        · rw [if_neg c2]; exact h' j hj i (by omega)
      · rw [if_neg c] at hi ⊢; exact h' s hs i hi
  · exact h'
theorem nmq_nam (h : NMQ k q) : NMQ (k + 1) (qNam sq sm k q).2 := by
  have h' : NMQ (k + 1) q := nmq_up h (Nat.le_succ _)
  unfold qNam
  split
  · exact nmq_new h (by omega)
  split
  · exact nmq_new h (by omega)
  split
  · exact nmq_new h (by omega)
  split
  · exact nmq_new h (by omega)
  split
  · exact h'
  · show NMQ (k + 1) (if _ then _ else _ : RS)
    split
    · exact h'
    split
    · exact h'
    split
    · exact h'
    split <;> exact h'
theorem nmq_num (h : NMQ k q) : NMQ (k + 1) (qNum sq v k q).2 := by
  have h' : NMQ (k + 1) q := nmq_up h (Nat.le_succ _)
  unfold qNum
  split
  · show NMQ (k + 1) (if _ then _ else _ : RS)
    split <;> exact h'
  split
  · exact h'
  split
  · exact h'
  split
  · exact h'
  split
  · exact h'
  split <;> exact h'
theorem nmq_ord {s : Nat} (h : NMQ k q) : NMQ (k + 1) (qOrd s q).2 := by
  have h' : NMQ (k + 1) q := nmq_up h (Nat.le_succ _)
  unfold qOrd
  split
  · exact h'
  · intro s hs i hi
    have hi : i < if s = 4 then q.1 4 + 1 else q.1 s := hi
    rw [if_neg (by omega)] at hi
    exact h' s hs i hi
theorem nmq_k (h : NMQ k q) : NMQ (k + 1) (qErr sq sm num k q).2 := by
  have h' : NMQ (k + 1) q := nmq_up h (Nat.le_succ _)
  unfold qErr
  split
  · exact nmq_nam h
  split
  · exact nmq_num h
  split
  · exact nmq_ord h
  split
  · exact h'
  split <;> exact h'
theorem q3_in (h : LOK q.1) (hi : inC (q.2.2.1 3 k) 10) : inC ((qNam sq sm k q).2.2.2.1 3 k) 10 := by
  by_cases c0 : sq (k - 1) = 20
  · rw [qNam_0 c0, qNew_r (by decide)]; exact hi
  by_cases c1 : sq (k - 1) = 23
  · rw [qNam_1 c1, qNew_r (by decide)]; exact hi
  by_cases c2 : sq (k - 1) = 27
  · rw [qNam_2 c2, qNew_r (by decide)]; exact hi
  by_cases c3 : sq (k - 1) = 29
  · rw [qNam_3 c3, qNew_r (by decide)]; exact hi
  have hn : qNon (sq (k - 1)) := ⟨c0, c1, c2, c3⟩
  cases ho : qOld sq sm k q with
  | none => rw [qNam_n hn ho]; exact hi
  | some x =>
    have hx : x < 10 := by
      have h1 := (ffind_lt ho).1
      have h2 : srS (sbS (sq (k - 1))) < 4 := by unfold srS; split; omega; split; omega; split <;> omega
      have h3 := lok_4 h h2
      omega
    have hm : inC ((qMean q k (nI x)).2.2.1 3 k) 10 := ⟨x, hx, qMean_3⟩
    rw [qNam_s hn ho]
    show inC ((if _ then _ else _ : RS).2.2.1 3 k) 10
    split
    · rw [qRow_r (by decide)]; exact hm
    split
    · rw [qRow_r (by decide)]; exact hm
    split
    · rw [qRow_r (by decide)]; exact hm
    split
    · rw [qRow_r (by decide)]; exact hm
    · exact hm
theorem qA_ok (h : LOK q.1) (hn : NMQ 0 q) (h3 : ∀ j, q.2.2.1 3 j = 0) : ∀ k, LOK (qAt sq sm num q k).1 ∧ NMQ k (qAt sq sm num q k) ∧ ∀ j, sq j = 2 → inC ((qAt sq sm num q k).2.2.1 3 j) 10 := by
  intro k
  induction k with
  | zero => exact ⟨h, hn, fun j _ => ⟨0, by omega, by rw [show (qAt sq sm num q 0).2.2.1 3 j = 0 from h3 j, nI_0]⟩⟩
  | succ k ih =>
    obtain ⟨i1, i2, i3⟩ := ih
    refine ⟨cnq_k i1, nmq_k i2, fun j hj => ?_⟩
    show inC ((qErr sq sm num k (qAt sq sm num q k)).2.2.2.1 3 j) 10
    by_cases c : j = k
    · subst c; rw [qErr_1 hj]; exact q3_in i1 (i3 j hj)
    · rw [qErr_k c]; exact i3 j hj
end
section
variable {F : Nat → Int32} {f : Nat → Nat} {n K : Nat} {sq : Nat → Nat} {sv : Nat → Int64} {spl : Nat → Int32} {q0 : RS}
theorem cx_of (hF : byO F f) (h : KOK F n K) : Cx (tkS F n) (tkV F n) (smT F n) (numT F n) K (cutN (K + 1) (tkS F n) sq) (cutN (K + 1) (tkV F n) sv) (fun k => (qErT F n k (qAtT F n q0 k)).1) (fun k => qAtT F n q0 k) (fun j => (qAtT F n q0 K).2.2.1 3 j) := by
  have hK := h.1
  refine ⟨⟨⟨h.1, fun t ht => ?_, tkS_lt F n, h.2.1, h.2.2⟩, fun t ht => ?_⟩, fun a b ha hb h1 h2 => name_eq hF ha hb h1 h2, fun k hk h3 => tok_n hF hk h3, fun k => rfl, fun j hj => ?_⟩
  · unfold tSg
    rw [if_pos (by rw [nI_toInt (by omega)]; omega), nI_clamp (by omega), show cutN (K + 1) (tkS F n) sq t = tkS F n t from if_pos (by omega)]
    exact sg_of (tkS_lt F n t)
  · unfold tVl
    rw [if_pos (by rw [nI_toInt (by omega)]; omega), nI_clamp (by omega)]
    exact if_pos (by omega)
  · have h9 := q3_at (sq := tkS F n) (sm := smT F n) (num := numT F n) (q := q0) (j := j) (K - (j + 1))
    rw [show j + 1 + (K - (j + 1)) = K by omega] at h9
    exact h9
theorem rl_0 {T : Nat → Nat} {V : Nat → Int64} {M : Nat → Int32} {y : LSt} {fd et : Int32} : Rl T V M K xN 0 (yClr y fd et) q00 :=
  ⟨⟨nI_0.symm, rfl, by show min 0 400 ≤ 0; omega⟩, ⟨fun _ _ => rfl, by unfold LOK q00; dsimp only; omega⟩, fun s hs i hi => absurd hi (Nat.not_lt_zero i), fun r hr k hk => absurd hk (Nat.not_lt_zero k), fun k hk => absurd hk (Nat.not_lt_zero k), fun k hk => absurd hk (Nat.not_lt_zero k)⟩
theorem q00_ok {sq : Nat → Nat} {sm : Nat → Nat → Bool} {num : Nat → Int32} (k : Nat) : LOK (qAt sq sm num q00 k).1 ∧ NMQ k (qAt sq sm num q00 k) ∧ ∀ j, sq j = 2 → inC ((qAt sq sm num q00 k).2.2.1 3 j) 10 :=
  qA_ok (by unfold LOK q00; dsimp only; omega) (fun s hs i hi => absurd hi (Nat.not_lt_zero i)) (fun j => rfl) k
/-- the list read by both -/
def RdS (F : Nat → Int32) (n K : Nat) (sq : Nat → Nat) (sv : Nat → Int64) (y : LSt) (fd et : Int32) : Bool × LSt := lRun (cutN (K + 1) (tkS F n) sq) (cutN (K + 1) (tkV F n) sv) 400 true (yClr y fd et)
theorem fin_out (hF : byO F f) (h : KOK F n K) {y : LSt} {fd et : Int32} (hr : (rLst (tkS F n) 401 0).1 = true) :
    Out (tkS F n) (fun k => (qErT F n k (qAtT F n q00 k)).1) (fun k => qAtT F n q00 k) 0 K (RdS F n K sq sv y fd et).2 (fun z q => Rl (tkS F n) (tkV F n) (fun j => (qAtT F n q00 K).2.2.1 3 j) K xN K z q) := by
  have h1 := out_run (cx_of (q0 := q00) (sq := sq) (sv := sv) hF h) 400 0 (yClr y fd et) (Nat.zero_le _) (by omega) rl_0 hr
  rw [rLst_K h hr] at h1
  exact h1
/-- what the tokens need holds -/
theorem fin_wf (hF : byO F f) (h : KOK F n K) (hr : (rLst (tkS F n) 401 0).1 = true) {k : Nat} (hk : k < K) (hc : ∀ j, j < k → (qErT F n j (qAtT F n q00 j)).1 = 0) : CNQ (qAtT F n q00 k) ∧ NMQ K (qAtT F n q00 k) ∧ WFQ (tkS F n) k (qAtT F n q00 k) := by
  have h1 := fin_out (sq := fun _ => 0) (sv := fun _ => 0) (y := ((0, 0, 0, 0, 0, fun _ => 0, fun _ => 0, fun _ => 0), fun _ => 0, fun _ _ => 0, fun _ _ => 0, fun _ => 0, fun _ => 0)) (fd := 0) (et := 0) hF h hr
  obtain ⟨a, b, _⟩ := q00_ok (sq := tkS F n) (sm := smT F n) (num := numT F n) k
  exact ⟨a, nmq_up b (Nat.le_of_lt hk), h1.1 k (Nat.zero_le _) hk (fun j _ hj => hc j hj)⟩
theorem fin_rd (hF : byO F f) (h : KOK F n K) {y : LSt} {fd et : Int32} :
    rdE (RdS F n K sq sv y fd et) = rdR F n q00 ∧ rdP (cutN (K + 1) (fun j => nI (tkP F n j)) spl) (RdS F n K sq sv y fd et) = rdA F n q00 (-1) ∧
    (rdR F n q00 = 0 → (rLst (tkS F n) 401 0).1 = true ∧ Rl (tkS F n) (tkV F n) (fun j => (qAtT F n q00 K).2.2.1 3 j) K xN K (RdS F n K sq sv y fd et).2 (qAtT F n q00 K)) := by
  have hK := h.1
  have hC := cx_of (q0 := q00) (sq := sq) (sv := sv) hF h
  have hct : CtL K 0 (RdS F n K sq sv y fd et) (rLst (tkS F n) 401 0) := cll_run hC.1.1 400 0 (yClr y fd et) (Nat.zero_le _) (by omega) nI_0.symm
  have hat : ∀ k, k ≤ K → rat 401 (cutN (K + 1) (fun j => nI (tkP F n j)) spl) (nI k) = nI (tkP F n k) := fun k hk => by
    rw [rat_nI (by omega) (by decide)]; exact if_pos (by omega)
  cases hr : (rLst (tkS F n) 401 0).1 with
  | false =>
    have e1 : (RdS F n K sq sv y fd et).1 = false := hct.1.trans hr
    have e2 : rdE (RdS F n K sq sv y fd et) = 1 := if_neg (by rw [e1]; decide)
    have e3 : rdT (RdS F n K sq sv y fd et) = nI (rLst (tkS F n) 401 0).2 := (if_neg (by rw [e1]; decide)).trans hct.2.1
    refine ⟨e2.trans (rdR_1 hr), ?_, fun z => absurd ((rdR_1 (q := q00) hr).trans z) (by decide)⟩
    rw [rdA_1 hr]
    unfold rdP
    rw [e2, if_neg (by decide), e3]
    exact hat _ hct.2.2.2
  | true =>
    have h1 := fin_out (sq := sq) (sv := sv) (y := y) (fd := fd) (et := et) hF h hr
    have hu := rLst_K h hr
    have e1 : (RdS F n K sq sv y fd et).1 = true := hct.1.trans hr
    have e2 : rdE (RdS F n K sq sv y fd et) = (RdS F n K sq sv y fd et).2.1.2.2.1 := if_pos e1
    have e3 : rdT (RdS F n K sq sv y fd et) = (RdS F n K sq sv y fd et).2.1.2.2.2.1 := if_pos e1
    cases hq : qFsT F n q00 (rLst (tkS F n) 401 0).2 with
    | none =>
      have hcl : Clq (fun k => (qErT F n k (qAtT F n q00 k)).1) 0 K := by
        intro j _ hj
        rw [← hu] at hj
        have h9 : ∀ m, ffind (fun k => decide (¬ (qErT F n k (qAtT F n q00 k)).1 = 0)) m = none → ∀ j, j < m → (qErT F n j (qAtT F n q00 j)).1 = 0 := by
          intro m
          induction m with
          | zero => intro _ j hj; exact absurd hj (Nat.not_lt_zero j)
          | succ m ih =>
            intro h0 j hj
            simp only [ffind] at h0
            cases hk : ffind (fun k => decide (¬ (qErT F n k (qAtT F n q00 k)).1 = 0)) m with
            | some x => rw [hk] at h0; cases h0
            | none =>
              rw [hk] at h0
              rcases Nat.lt_or_ge j m with q | q
              · exact ih hk j q
              · have e : j = m := by omega
                subst e
                by_cases c : (qErT F n j (qAtT F n q00 j)).1 = 0
                · exact c
                · exfalso
                  have h0 : (if decide (¬ (qErT F n j (qAtT F n q00 j)).1 = 0) = true then some j else none) = none := h0
                  rw [if_pos (decide_eq_true c)] at h0; cases h0
        exact h9 _ hq j hj
      obtain ⟨x1, x2⟩ := h1.2.1 hcl
      refine ⟨(e2.trans x1).trans (rdR_0 hr hq), ?_, fun _ => ⟨rfl, x2⟩⟩
      rw [rdA_0 hr hq]
      exact if_pos (e2.trans x1)
    | some k =>
      have hk := ffind_lt hq
      have hk1 : k < K := by rw [hu] at hk; exact hk.1
      have hne : ¬ (qErT F n k (qAtT F n q00 k)).1 = 0 := of_decide_eq_true hk.2
      have hbe : ∀ m i, ffind (fun k => decide (¬ (qErT F n k (qAtT F n q00 k)).1 = 0)) m = some i → ∀ j, j < i → (qErT F n j (qAtT F n q00 j)).1 = 0 := by
        intro m
        induction m with
        | zero => intro i h0; cases h0
        | succ m ih =>
          intro i h0 j hj
          simp only [ffind] at h0
          cases hk2 : ffind (fun k => decide (¬ (qErT F n k (qAtT F n q00 k)).1 = 0)) m with
          | some x => rw [hk2] at h0; cases h0; exact ih _ hk2 j hj
          | none =>
            rw [hk2] at h0
            have h0 : (if decide (¬ (qErT F n m (qAtT F n q00 m)).1 = 0) = true then some m else none) = some i := h0
            by_cases c : decide (¬ (qErT F n m (qAtT F n q00 m)).1 = 0) = true
            · rw [if_pos c] at h0
              cases h0
              by_cases c2 : (qErT F n j (qAtT F n q00 j)).1 = 0
              · exact c2
              · exfalso
                have h8 : ∀ m, ffind (fun k => decide (¬ (qErT F n k (qAtT F n q00 k)).1 = 0)) m = none → ∀ j, j < m → (qErT F n j (qAtT F n q00 j)).1 = 0 := by
                  intro m
                  induction m with
                  | zero => intro _ j hj; exact absurd hj (Nat.not_lt_zero j)
                  | succ m ih =>
                    intro h0 j hj
                    simp only [ffind] at h0
                    cases hk : ffind (fun k => decide (¬ (qErT F n k (qAtT F n q00 k)).1 = 0)) m with
                    | some x => rw [hk] at h0; cases h0
                    | none =>
                      rw [hk] at h0
                      rcases Nat.lt_or_ge j m with q | q
                      · exact ih hk j q
                      · have e : j = m := by omega
                        subst e
                        by_cases c : (qErT F n j (qAtT F n q00 j)).1 = 0
                        · exact c
                        · exfalso
                          have h0 : (if decide (¬ (qErT F n j (qAtT F n q00 j)).1 = 0) = true then some j else none) = none := h0
                          rw [if_pos (decide_eq_true c)] at h0; cases h0
                exact c2 (h8 _ hk2 j hj)
            · rw [if_neg c] at h0; cases h0
      obtain ⟨x1, x2⟩ := h1.2.2 k (Nat.zero_le _) hk1 (fun j _ hj => hbe _ _ hq j hj) hne
      have hR := rdR_s (q := q00) hr hq
      refine ⟨(e2.trans x1).trans hR, ?_, fun z => absurd (hR.trans z) hne⟩
      rw [rdA_s hr hq]
      unfold rdP
      rw [e2, x1, if_neg hne, e3, x2]
      exact hat k (Nat.le_of_lt hk1)
end
