/-! tests: each piece of the class's reader, by the reference's values -/
section
variable {T : Nat → Nat} {V : Nat → Int64} {K n : Nat} {B C : Nat → Bool} {M : Nat → Int32} {q q1 q2 q3 : ES} {E F lv ls lg lt : EF} {R G : RF} {sq : Nat → Nat} {sv : Nat → Int64} {tn : Nat → Nat} {tc : Nat → Nat → Int64} {t t1 u w w1 w2 w3 kd : Nat} {a b : Int32} {x y r : VS → Int32}
theorem cln_sub (h : Cln B t w) (h1 : t ≤ u) (h2 : w2 ≤ w) : Cln B u w2 := fun k a b => h k (by omega) (by omega)
theorem cln_app (h : Cln B t u) (h2 : Cln B u w) : Cln B t w := fun k a b => by
  rcases Nat.lt_or_ge k u with q | q
  · exact h k a q
  · exact h2 k q b
theorem cln_nil (h : w ≤ t) : Cln B t w := fun k a b => absurd (Nat.lt_of_le_of_lt a b) (by omega)
theorem cln_one (h : B t = false) : Cln B t (t + 1) := fun k a b => by rw [show k = t by omega]; exact h
theorem smr_wk (h : SmR B C q q1 t1 w1 x) (g1 : Cln B t t1) (g2 : Cln B w1 w) (o1 : t ≤ t1) (o2 : w1 ≤ w) : SmR B C q q1 t w x := by
  refine ⟨fun hc => ?_, fun k hk => ?_⟩
  · obtain ⟨a, b, c⟩ := h.1 (cln_sub hc o1 o2)
    exact ⟨a, b, c.wk o1 o2⟩
  · obtain ⟨k1, k2, k3, k4⟩ := hk
    refine h.2 k ⟨?_, ?_, k3, cln_sub k4 o1 (Nat.le_refl _)⟩
    · rcases Nat.lt_or_ge k t1 with c | c
      · rw [g1 k k1 c] at k3; cases k3
      · exact c
    · rcases Nat.lt_or_ge k w1 with c | c
      · exact c
      · rw [g2 k c k2] at k3; cases k3
theorem smr_eq (h : SmR B C q q1 t w x) (e : ∀ v, x v = y v) : SmR B C q q1 t w y := ⟨fun hc => by
  obtain ⟨a, b, c⟩ := h.1 hc
  exact ⟨a, b, c.eq e⟩, h.2⟩
theorem smr_eqc (h : SmR B C q q1 t w x) (e : Cln C t w → ∀ v, x v = y v) : SmR B C q q1 t w y := ⟨fun hc => by
  obtain ⟨a, b, c⟩ := h.1 hc
  exact ⟨a, b, c.eq (e hc)⟩, h.2⟩
theorem bdM_2 (h : bdM T V tn tc M t = false) (h2 : T t = 2) : badN T V tn tc t = false ∧ M t = nmN T V tn tc t := by
  have hb := of_decide_eq_false h
  refine ⟨decide_eq_false (fun q => hb (Or.inl q)), ?_⟩
  by_cases c : M t = nmN T V tn tc t
  · exact c
  · exact absurd (Or.inr (Or.inl ⟨h2, c⟩)) hb
theorem bdM_3 (h : bdM T V tn tc M t = false) (h2 : T t = 3) : M t = (V t).toInt32 := by
  have hb := of_decide_eq_false h
  by_cases c : M t = (V t).toInt32
  · exact c
  · exact absurd (Or.inr (Or.inr ⟨h2, c⟩)) hb
/-- only the steps and the error of the state behind count -/
theorem smr_st (h : SmR B C q q1 t w x) (e1 : q2.2.2.1 = q1.2.2.1) (e2 : q2.2.2.2.1 = q1.2.2.2.1) (e3 : q2.2.2.2.2 = q1.2.2.2.2) : SmR B C q q2 t w x := by
  refine ⟨fun hc => ?_, fun k hk => ?_⟩
  · rw [e1, e3]; exact h.1 hc
  · rw [e1, e2]; exact h.2 k hk
theorem smr_st0 (h : SmR B C q2 q1 t w x) (e3 : q2.2.2.2.2 = q.2.2.2.2) : SmR B C q q1 t w x := by
  refine ⟨fun hc => ?_, h.2⟩
  have h2 := h.1 hc
  rw [e3] at h2; exact h2
theorem smr_un (h : SmR B C q q1 t1 w1 x) (g1 : Cln B t t1) (o1 : t ≤ t1) (o2 : t1 ≤ w1) (hq : kS q.2.2.2.2 + 1 ≤ t) (hw : w1 ≤ 400) (hb : t + 1 ≤ t1) (hk : kd < 49) (hp : ∀ v s1 s, Psh s1 s (x v) → s.2 < 400 → Psh (sperf v kd a b s1) s (y v)) : SmR B C q (eAdd kd a b q1) t w1 y := by
  have h' := smr_wk h g1 (cln_nil (Nat.le_refl _)) o1 (Nat.le_refl _)
  refine ⟨fun hc => ?_, fun k hk => h'.2 k hk⟩
  obtain ⟨x1, x2, x3⟩ := h.1 (cln_sub hc o1 (Nat.le_refl _))
  have x4 := x3.2.1
  have h4 : kS q1.2.2.2.2 < 400 := by omega
  refine ⟨x1, ?_, cod_un (t := t) (w2 := w1) x3 hk h4 (by omega) hp x2⟩
  show _ < kS (aS kd a b q1.2.2.2.2)
  rw [aS_k h4]; omega
theorem smr_bin (h1 : SmR B C q q1 t1 w1 x) (e2 : q2.2.2.2.2 = q1.2.2.2.2) (e3 : q2.2.2.1 = q1.2.2.1) (e4 : q2.2.2.2.1 = q1.2.2.2.1) (h2 : q2.2.2.1 = 0 → kS q2.2.2.2.2 + 1 ≤ u → SmR B C q2 q3 u w2 y) (hk2 : ¬ q2.2.2.1 = 0 → Kp q2 q3)
    (g1 : Cln B t t1) (g2 : Cln B w1 u) (g3 : Cln B w2 w3) (o1 : t ≤ t1) (o1' : t1 ≤ w1) (o2 : w1 + 1 ≤ u) (o3 : u ≤ w2) (o4 : w2 ≤ w3) (hb : w1 + w2 + 1 + t ≤ w3 + t1 + u) (hq : kS q.2.2.2.2 + 1 ≤ t) (hw : w3 ≤ 400) (hk : kd < 49)
    (hp : ∀ v (s2 s1 s : SK), Psh s1 s (x v) → Psh s2 s1 (y v) → s.2 < 400 → Psh (sperf v kd a b s2) s (r v)) : SmR B C q (eAdd kd a b q3) t w3 r := by
  refine ⟨fun hc => ?_, fun k hk9 => ?_⟩
  · obtain ⟨x1, x2, x3⟩ := h1.1 (cln_sub hc o1 (by omega))
    have x4 := x3.2.1
    obtain ⟨y1, y2, y3⟩ := (h2 (e3.trans x1) (by rw [e2]; omega)).1 (cln_sub hc (by omega) o4)
    rw [e2] at y2 y3
    have y4 := y3.2.1
    have h4 : kS q3.2.2.2.2 < 400 := by omega
    refine ⟨y1, ?_, cod_bin (t := t) (w3 := w3) x3 y3 hb hk h4 x2 hp⟩
    show _ < kS (aS kd a b q3.2.2.2.2)
    rw [aS_k h4]; omega
  · obtain ⟨k1, k2, k3, k4⟩ := hk9
    show q3.2.2.1 = 3 ∧ q3.2.2.2.1 = nI k
    have kt : t1 ≤ k := by
      rcases Nat.lt_or_ge k t1 with c | c
      · rw [g1 k k1 c] at k3; cases k3
      · exact c
    rcases Nat.lt_or_ge k w1 with c | c
    · obtain ⟨a1, a2⟩ := h1.2 k ⟨kt, c, k3, cln_sub k4 o1 (Nat.le_refl _)⟩
      obtain ⟨b1, b2⟩ := hk2 (by rw [e3, a1]; decide)
      exact ⟨b1.trans (e3.trans a1), b2.trans (e4.trans a2)⟩
    · have ku : u ≤ k := by
        rcases Nat.lt_or_ge k u with c2 | c2
        · rw [g2 k c c2] at k3; cases k3
        · exact c2
      have kw : k < w2 := by
        rcases Nat.lt_or_ge k w2 with c2 | c2
        · exact c2
        · rw [g3 k c2 k2] at k3; cases k3
      obtain ⟨x1, x2, x3⟩ := h1.1 (cln_sub k4 o1 c)
      have x4 := x3.2.1
      exact (h2 (e3.trans x1) (by rw [e2]; omega)).2 k ⟨ku, kw, k3, cln_sub k4 (by omega) (Nat.le_refl _)⟩
/-! kinds of steps -/
theorem spj_l : ∀ s, s < 49 → (11 ≤ s ∧ s ≤ 19 ∨ 45 ≤ s) → SGm.getD s 0 ∉ ([7, 9, 10, 11, 12, 13, 14, 15, 16, 17, 22] : List Int32) := by decide +kernel
theorem spj_k (s : Nat) (hs : s < 49) (h : 11 ≤ s ∧ s ≤ 19 ∨ 45 ≤ s) : ¬ SGm.getD s 0 = 7 ∧ ¬ SGm.getD s 0 = 9 ∧ ¬ SGm.getD s 0 = 10 ∧ ¬ SGm.getD s 0 = 11 ∧ ¬ SGm.getD s 0 = 12 ∧ ¬ SGm.getD s 0 = 13 ∧ ¬ SGm.getD s 0 = 14 ∧ ¬ SGm.getD s 0 = 15 ∧ ¬ SGm.getD s 0 = 16 ∧ ¬ SGm.getD s 0 = 17 ∧ ¬ SGm.getD s 0 = 22 := by
  have hn := spj_l s hs h
  exact ⟨fun e => hn (by rw [e]; decide), fun e => hn (by rw [e]; decide), fun e => hn (by rw [e]; decide), fun e => hn (by rw [e]; decide), fun e => hn (by rw [e]; decide), fun e => hn (by rw [e]; decide), fun e => hn (by rw [e]; decide), fun e => hn (by rw [e]; decide), fun e => hn (by rw [e]; decide), fun e => hn (by rw [e]; decide), fun e => hn (by rw [e]; decide)⟩
theorem sp_join {v : VS} {s : SK} (hk : kd < 49) (h : 11 ≤ kd ∧ kd ≤ 19 ∨ 45 ≤ kd) : sperf v kd a b s = spush (spop (spop s).2).2 (sjoin kd (spop (spop s).2).1 (spop s).1) := by
  obtain ⟨h1, h2, h3, h4, h5, h6, h7, h8, h9, h10, h11⟩ := spj_k kd hk h
  unfold sperf
  rw [if_neg h1, if_neg h2, if_neg h3, if_neg h4, if_neg h5, if_neg h6, if_neg h7, if_neg h8, if_neg h9, if_neg h10, if_neg h11]
theorem pj_of (hk : kd < 49) (h : 11 ≤ kd ∧ kd ≤ 19 ∨ 45 ≤ kd) (hj : ∀ v, sjoin kd (x v) (y v) = r v) : ∀ v (s2 s1 s : SK), Psh s1 s (x v) → Psh s2 s1 (y v) → s.2 < 400 → Psh (sperf v kd a b s2) s (r v) := by
  intro v s2 s1 s p1 p2 hs
  obtain ⟨e1, e2, e3⟩ := psh_bin (z := sjoin kd (x v) (y v)) p1 p2 hs
  rw [sp_join hk h, e1, e2, ← hj v]; exact e3
/-! pieces -/
theorem tv_sg (hT : TVC T V K sq sv) (ht : t ≤ K) (hq : q.1 = nI t) : tSg sq q.1 = T t ∧ tVl sv q.1 = V t := by
  rw [hq]; exact ⟨hT.1.2.1 t ht, hT.2 t ht⟩
theorem known_ok (hT : TVC T V K sq sv) {j : Nat} (ht : t ≤ K) (hq : q.1 = nI t) (hc : T t = 2) (hj : srtN T t = j) (hC : bdM T V tn tc M t = false) : eKnown sq sv (tn j) (tc j) q = (true, eStep (eFd (M t) q)) := by
  obtain ⟨hB, hM⟩ := bdM_2 hC hc
  obtain ⟨e1, e2⟩ := tv_sg hT ht hq
  have hm : M t = oI (nfind (tc j) (tVl sv q.1) (tn j)) := by rw [hM]; unfold nmN; rw [hj, e2]
  have hb := of_decide_eq_false hB
  rw [hm]
  refine eKnown_b (e1.trans hc) (fun h => hb ⟨hc, ?_⟩)
  unfold nmN; rw [hj, ← e2]; exact h
theorem known_no (hT : TVC T V K sq sv) {j : Nat} (ht : t ≤ K) (hq : q.1 = nI t) (hj : srtN T t = j) (hB : badN T V tn tc t = true) (h0 : q.2.2.1 = 0) : (eKnown sq sv (tn j) (tc j) q).1 = true ∧ (eKnown sq sv (tn j) (tc j) q).2.1 = nI (t + 1) ∧ (eKnown sq sv (tn j) (tc j) q).2.2.2.1 = 3 ∧ (eKnown sq sv (tn j) (tc j) q).2.2.2.2.1 = nI t := by
  obtain ⟨e1, e2⟩ := tv_sg hT ht hq
  have hb := of_decide_eq_true hB
  have h3 : oI (nfind (tc j) (tVl sv q.1) (tn j)) = (-1) := by
    have := hb.2; unfold nmN at this; rw [hj, ← e2] at this; exact this
  have h0' : (eFd (oI (nfind (tc j) (tVl sv q.1) (tn j))) q).2.2.1 = 0 := h0
  rw [eKnown_c (e1.trans hb.1) h3, eNote_a h0']
  exact ⟨rfl, by show q.1 + 1 = _; rw [hq, nI_1], rfl, hq⟩
theorem nb_of (h : ¬ T t = 2) : badN T V tn tc t = false := decide_eq_false (fun q => h q.1)
theorem srt2 (h : ¬ T t = 2) : srtN T (t + 1) = 2 := if_neg h
theorem srt0 (h : T t = 2) : srtN T (t + 1) = 0 := if_pos h
/-- a fact of a stall -/
theorem sem_of (hT : TVC T V K sq sv) (hk : kd < 49) {g : VS → Int32 → Int32} (hp : ∀ v a s, sperf v kd a 0 s = spush s (g v a)) (h2 : ¬ T t = 2) (h1 : t + 1 ≤ K) (hq : q.1 = nI t) (h0 : q.2.2.1 = 0) (hs : kS q.2.2.2.2 + 1 ≤ t) (hr : (rEat T 2 (t + 1)).1 = true) :
    SmR (badN T V tn tc) (bdM T V tn tc M) q (eOf sq sv tn tc kd q).2 t (rEat T 2 (t + 1)).2 (fun v => g v (M (t + 1))) := by
  have hz := rEat_t hr
  have hq1 : (eStep q).1 = nI (t + 1) := by show q.1 + 1 = _; rw [hq, nI_1]
  have hK := hT.1.1
  rw [hz.2]
  refine ⟨fun hc => ?_, fun k hk9 => ?_⟩
  · have hB := hc (t + 1) (by omega) (by show t + 1 < t + 1 + 1; omega)
    have e := known_ok (tn := tn) (tc := tc) hT h1 hq1 hz.1 (srt2 h2) hB
    have h4 : kS q.2.2.2.2 < 400 := by omega
    have e2 : (eOf sq sv tn tc kd q).2 = eAdd kd (M (t + 1)) 0 (eStep (eFd (M (t + 1)) (eStep q))) := by unfold eOf; rw [e]; rfl
    rw [e2]
    refine ⟨h0, ?_, cod_one hk h4 (by show t + 1 ≤ t + 1 + 1; omega) (fun v s => hp v _ s)⟩
    show _ < kS (aS kd (M (t + 1)) 0 q.2.2.2.2)
    rw [aS_k h4]; omega
  · obtain ⟨k1, k2, k3, k4⟩ := hk9
    have e : k = t + 1 := by
      rcases Nat.lt_or_ge t k with c | c
      · have k2' : k < t + 1 + 1 := k2
        omega
      · rw [show k = t by omega, nb_of h2] at k3; cases k3
    subst e
    exact ⟨(known_no (q := eStep q) hT h1 hq1 (srt2 h2) k3 h0).2.2.1, (known_no (q := eStep q) hT h1 hq1 (srt2 h2) k3 h0).2.2.2⟩
theorem sp_42 {v : VS} {s : SK} : sperf v 42 a b s = spush s (bI (decide (rat 10 v.2.2.2.1 a = b))) := rfl
theorem sp_43 {v : VS} {s : SK} : sperf v 43 a b s = spush s (bI (fSq v.2.2.2.2.2.2 a)) := rfl
set_option maxHeartbeats 4000000 in
theorem sem_bear (hT : TVC T V K sq sv) (h2 : ¬ T t = 2) (h1 : t + 1 ≤ K) (hq : q.1 = nI t) (h0 : q.2.2.1 = 0) (hs : kS q.2.2.2.2 + 1 ≤ t) (hr1 : T (t + 1) = 2) (hr2 : T (t + 1 + 1) = 2) (h3 : t + 1 + 1 ≤ K) :
    SmR (badN T V tn tc) (bdM T V tn tc M) q (eBear sq sv tn tc q).2 t (t + 1 + 1 + 1) (fun v => bI (decide (rat 10 v.2.2.2.1 (M (t + 1)) = M (t + 1 + 1)))) := by
  have hq1 : (eStep q).1 = nI (t + 1) := by show q.1 + 1 = _; rw [hq, nI_1]
  have hK := hT.1.1
  have kb : ∀ k, t ≤ k → k < t + 1 + 1 + 1 → badN T V tn tc k = true → k = t + 1 ∨ k = t + 1 + 1 := by
    intro k a b c
    rcases Nat.lt_or_ge t k with d | d
    · omega
    · rw [show k = t by omega, nb_of h2] at c; cases c
  cases hB : badN T V tn tc (t + 1) with
  | false =>
   by_cases hC : bdM T V tn tc M (t + 1) = true
   · refine ⟨fun hc => (by rw [hc (t + 1) (by omega) (by omega)] at hC; cases hC), fun k hk9 => ?_⟩
     obtain ⟨k1, k2, k3, k4⟩ := hk9
     rcases kb k k1 k2 k3 with c | c
     · rw [c, hB] at k3; cases k3
     · rw [k4 (t + 1) (by omega) (by omega)] at hC; cases hC
   · have hB9 : bdM T V tn tc M (t + 1) = false := by
      cases h9 : bdM T V tn tc M (t + 1) with
      | false => rfl
      | true => exact absurd h9 hC
     have e := known_ok (tn := tn) (tc := tc) hT h1 hq1 hr1 (srt2 h2) hB9
     have hq2 : (eStep (eFd (M (t + 1)) (eStep q))).1 = nI (t + 1 + 1) := by show q.1 + 1 + 1 = _; rw [hq, nI_1, nI_1]
     refine ⟨fun hc => ?_, fun k hk9 => ?_⟩
     · have hB2 := hc (t + 1 + 1) (by omega) (by omega)
       have e9 := known_ok (tn := tn) (tc := tc) hT h3 hq2 hr2 (srt0 hr1) hB2
       have h4 : kS q.2.2.2.2 < 400 := by omega
       have e2 : (eBear sq sv tn tc q).2 = eAdd 42 (M (t + 1)) (M (t + 1 + 1)) (eStep (eFd (M (t + 1 + 1)) (eStep (eFd (M (t + 1)) (eStep q))))) := by
         rw [eBear_b (by rw [e]), e, e9]; rfl
       rw [e2]
       refine ⟨h0, ?_, cod_one (by omega) h4 (by omega) (fun v s => sp_42)⟩
       show _ < kS (aS 42 _ _ q.2.2.2.2)
       rw [aS_k h4]; omega
     · obtain ⟨k1, k2, k3, k4⟩ := hk9
       have ek : k = t + 1 + 1 := (kb k k1 k2 k3).resolve_left (fun c => by rw [c, hB] at k3; cases k3)
       subst ek
       have e9 := known_no (q := eStep (eFd (M (t + 1)) (eStep q))) (tn := tn) (tc := tc) hT h3 hq2 (srt0 hr1) k3 h0
       rw [eBear_b (by rw [e]), e]
       dsimp only at e9 ⊢
       generalize eKnown sq sv (tn 0) (tc 0) (eStep (eFd (M (t + 1)) (eStep q))) = r9 at e9 ⊢
       exact ⟨e9.2.2.1, e9.2.2.2⟩
  | true =>
    have hC : bdM T V tn tc M (t + 1) = true := decide_eq_true (Or.inl (of_decide_eq_true hB))
    refine ⟨fun hc => (by rw [hc (t + 1) (by omega) (by omega)] at hC; cases hC), fun k hk9 => ?_⟩
    obtain ⟨k1, k2, k3, k4⟩ := hk9
    have ek : k = t + 1 := (kb k k1 k2 k3).resolve_right (fun c => by have := k4 (t + 1) (by omega) (by omega); rw [hC] at this; cases this)
    subst ek
    obtain ⟨e1, e2, e3, e4⟩ := known_no (q := eStep q) (tn := tn) (tc := tc) hT h1 hq1 (srt2 h2) hB h0
    rw [eBear_b e1]
    have e9 := kp_known (sq := sq) (sv := sv) (nk := tn 0) (nf := tc 0) (eKnown sq sv (tn 2) (tc 2) (eStep q)).2 (by rw [e3]; decide)
    generalize eKnown sq sv (tn 2) (tc 2) (eStep q) = r2 at e1 e2 e3 e4 e9 ⊢
    generalize eKnown sq sv (tn 0) (tc 0) r2.2 = r9 at e9 ⊢
    exact ⟨e9.1.trans e3, e9.2.trans e4⟩
/-- a value that stands alone -/
theorem sem_one (hT : TVC T V K sq sv) (hk : kd < 49) (h2 : ¬ T t = 2) (h1 : t + 1 ≤ K) (h0 : q.2.2.1 = 0) (hs : kS q.2.2.2.2 + 1 ≤ t) (hp : ∀ v s, sperf v kd a 0 s = spush s (x v)) : SmR (badN T V tn tc) (bdM T V tn tc M) q (eStep (eAdd kd a 0 q)) t (t + 1) x := by
  have hK := hT.1.1
  have h4 : kS q.2.2.2.2 < 400 := by omega
  refine ⟨fun hc => ⟨h0, ?_, cod_one hk h4 (Nat.le_refl _) hp⟩, fun k hk9 => ?_⟩
  · show _ < kS (aS kd a 0 q.2.2.2.2)
    rw [aS_k h4]; omega
  · obtain ⟨k1, k2, k3, k4⟩ := hk9
    rw [show k = t by omega, nb_of h2] at k3; cases k3
/-! loops -/
set_option maxHeartbeats 4000000 in
theorem sem_lp (hT : TVC T V K sq sv) {α : Type} (c : α → Int32) {X : VS → Nat → α} {op : Nat → α → α → α} {a b : Nat} (ha : 2 < a) (hab : b < 49) {cond : Nat → Bool} {kd : Nat → Nat} (hc : ∀ s, s < 49 → (cond s = true ↔ a ≤ s ∧ s ≤ b))
    (hkd : ∀ s, a ≤ s → s ≤ b → kd s < 49 ∧ (11 ≤ kd s ∧ kd s ≤ 19 ∨ 45 ≤ kd s) ∧ ∀ l r, sjoin (kd s) (c l) (c r) = c (op s l r)) (hE : Sem (badN T V tn tc) (bdM T V tn tc M) K E R (fun v t => c (X v t))) (hct : Ctl K E R) (hkp : KpE E) :
    ∀ (m w : Nat) (z : ES) (x : VS → α), t ≤ w → w ≤ K → K ≤ w + m → z.1 = nI w → kS q.2.2.2.2 + 1 ≤ t → SmR (badN T V tn tc) (bdM T V tn tc M) q z t w (fun v => c (x v)) → (rRe T a b R m w).1 = true →
      SmR (badN T V tn tc) (bdM T V tn tc M) q (eLp sq cond kd E m true z).2 t (rRe T a b R m w).2 (fun v => c (xLp T a b R (X v) op m (x v) w)) := by
  intro m
  induction m with
  | zero =>
    intro w z x htw hw hm hz hs hS hr
    have e : w = K := by omega
    have h0 : ¬ (a ≤ T w ∧ T w ≤ b) := by rw [e]; have := hT.1.2.2.2.2; omega
    rw [rRe_x h0]; exact hS
  | succ m ih =>
    intro w z x htw hw hm hz hs hS hr
    have e : tSg sq z.1 = T w := by rw [hz]; exact hT.1.2.1 w hw
    by_cases cc : a ≤ T w ∧ T w ≤ b
    · have hw1 := tkc_s hT.1 hw (by omega)
      have hz1 : (eStep z).1 = nI (w + 1) := by show z.1 + 1 = _; rw [hz, nI_1]
      have hce : cond (tSg sq z.1) = true := by rw [e]; exact (hc _ (hT.1.2.2.1 w)).mpr cc
      have e1 : eLp sq cond kd E (m + 1) true z = eLp sq cond kd E m (E (eStep z)).1 (eAdd (kd (tSg sq z.1)) 0 0 (E (eStep z)).2) := if_pos ⟨rfl, hce⟩
      have e2 : rRe T a b R (m + 1) w = rDo T a b R (m + 1) (w + 1) := if_pos cc
      rw [e2] at hr
      obtain ⟨hr1, hr2⟩ := rDo_i hr
      obtain ⟨x1, x2, x3, x4⟩ := hct (w + 1) (eStep z) hw1 hz1
      have hx : ∀ v, xLp T a b R (X v) op (m + 1) (x v) w = xLp T a b R (X v) op m (op (T w) (x v) (X v (w + 1))) (R (w + 1)).2 := fun v => if_pos cc
      rw [e1, e2, hr2, x1.trans hr1, e]
      obtain ⟨k1, k2, k3⟩ := hkd (T w) cc.1 cc.2
      have hK := hT.1.1
      have nw : badN T V tn tc w = false := nb_of (by omega)
      refine smr_eq (ih (R (w + 1)).2 (eAdd (kd (T w)) 0 0 (E (eStep z)).2) (fun v => op (T w) (x v) (X v (w + 1))) (by omega) x4 (by omega) x2 hs ?_ (by rw [← hr2]; exact hr)) (fun v => by rw [hx v])
      exact smr_bin (q2 := eStep z) (u := w + 1) hS rfl rfl rfl (fun h0 hu => hE (w + 1) (eStep z) hw1 hz1 h0 hu hr1) (fun h => hkp (eStep z) h) (cln_nil (Nat.le_refl _)) (cln_one nw) (cln_nil (Nat.le_refl _)) (Nat.le_refl _) htw (Nat.le_refl _) x3 (Nat.le_refl _) (by omega) hs (by omega) k1 (pj_of k1 k2 (fun v => k3 _ _))
    · have hce : cond (tSg sq z.1) = false := by
        cases h9 : cond (tSg sq z.1) with
        | false => rfl
        | true => rw [e] at h9; exact absurd ((hc _ (hT.1.2.2.1 w)).mp h9) cc
      rw [eLp_c hce, rRe_x cc]
      exact smr_eq hS (fun v => by rw [xLp_x cc])
theorem sem_do (hT : TVC T V K sq sv) {α : Type} (c : α → Int32) {X : VS → Nat → α} {op : Nat → α → α → α} {a b : Nat} (ha : 2 < a) (hab : b < 49) {cond : Nat → Bool} {kd : Nat → Nat} (hc : ∀ s, s < 49 → (cond s = true ↔ a ≤ s ∧ s ≤ b))
    (hkd : ∀ s, a ≤ s → s ≤ b → kd s < 49 ∧ (11 ≤ kd s ∧ kd s ≤ 19 ∨ 45 ≤ kd s) ∧ ∀ l r, sjoin (kd s) (c l) (c r) = c (op s l r)) (hE : Sem (badN T V tn tc) (bdM T V tn tc M) K E R (fun v t => c (X v t))) (hct : Ctl K E R) (hkp : KpE E) :
    Sem (badN T V tn tc) (bdM T V tn tc M) K (fun q => eLp sq cond kd E 400 (E q).1 (E q).2) (rDo T a b R 401) (fun v t => c (xLp T a b R (X v) op 400 (X v t) (R t).2)) := by
  intro t q ht hq h0 hs hr
  obtain ⟨hr1, hr2⟩ := rDo_i hr
  obtain ⟨x1, x2, x3, x4⟩ := hct t q ht hq
  show SmR _ _ q (eLp sq cond kd E 400 (E q).1 (E q).2).2 t (rDo T a b R 401 t).2 _
  rw [x1.trans hr1, hr2]
  have hK := hT.1.1
  exact sem_lp hT c ha hab hc hkd hE hct hkp 400 _ _ (fun v => X v t) x3 x4 (by omega) x2 hs (hE t q ht hq h0 hs hr1) (by rw [← hr2]; exact hr)
end
