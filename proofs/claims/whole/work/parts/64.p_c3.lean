/-! tests: what the class's steps reckon is what the reference reckons. ST: the steps of a reader: count, kinds, firsts, seconds -/
abbrev ST : Type := Nat × (Nat → Nat) × (Nat → Int32) × (Nat → Int32)
def kS (S : ST) : Nat := min S.1 400
def aS (kd : Nat) (a b : Int32) (S : ST) : ST := (eAdd kd a b ((0 : Int32), (0 : Int32), (0 : Int32), (0 : Int32), S)).2.2.2.2
theorem kS_le (S : ST) : kS S ≤ 400 := Nat.min_le_right _ _
section
variable {S S1 S2 S3 : ST} {kd : Nat} {a b : Int32}
theorem aS_k (h : kS S < 400) : kS (aS kd a b S) = kS S + 1 := by
  show min (if kS S < 400 then kS S + 1 else kS S) 400 = _
  rw [if_pos h]; omega
theorem aS_q (h : kS S < 400) : (aS kd a b S).2.1 = va_up S.2.1 (kS S) kd := if_pos h
theorem aS_a (h : kS S < 400) : (aS kd a b S).2.2.1 = upd S.2.2.1 (kS S) a := if_pos h
theorem aS_b (h : kS S < 400) : (aS kd a b S).2.2.2 = upd S.2.2.2 (kS S) b := if_pos h
/-- the steps a to b of S are those of the arrays -/
def Agr (KQ : Nat → Nat) (FF FS : Nat → Int32) (S : ST) (a b : Nat) : Prop := ∀ i, a ≤ i → i < b → KQ i = S.2.1 i ∧ FF i = S.2.2.1 i ∧ FS i = S.2.2.2 i
theorem Agr.sub {KQ : Nat → Nat} {FF FS : Nat → Int32} {x y x' y' : Nat} (h : Agr KQ FF FS S x y) (h1 : x ≤ x') (h2 : y' ≤ y) : Agr KQ FF FS S x' y' := fun i a b => h i (by omega) (by omega)
/-- S1 has S's steps, and more -/
def Pfx (S S1 : ST) : Prop := kS S ≤ kS S1 ∧ ∀ i, i < kS S → S1.2.1 i = S.2.1 i ∧ S1.2.2.1 i = S.2.2.1 i ∧ S1.2.2.2 i = S.2.2.2 i
theorem Pfx.rf : Pfx S S := ⟨Nat.le_refl _, fun _ _ => ⟨rfl, rfl, rfl⟩⟩
theorem Pfx.tr (h : Pfx S S1) (h2 : Pfx S1 S2) : Pfx S S2 := ⟨Nat.le_trans h.1 h2.1, fun i hi => by
  obtain ⟨a, b, c⟩ := h.2 i hi
  obtain ⟨a2, b2, c2⟩ := h2.2 i (Nat.lt_of_lt_of_le hi h.1)
  exact ⟨a2.trans a, b2.trans b, c2.trans c⟩⟩
theorem Pfx.add (h : kS S < 400) : Pfx S (aS kd a b S) := by
  refine ⟨by rw [aS_k h]; omega, fun i hi => ?_⟩
  rw [aS_q h, aS_a h, aS_b h]
  exact ⟨if_neg (by omega), if_neg (by omega), if_neg (by omega)⟩
theorem Agr.pfx {KQ : Nat → Nat} {FF FS : Nat → Int32} {x : Nat} (h : Agr KQ FF FS S1 x (kS S)) (hp : Pfx S S1) : Agr KQ FF FS S x (kS S) := fun i hx hi => by
  obtain ⟨a, b, c⟩ := h i hx hi
  obtain ⟨a2, b2, c2⟩ := hp.2 i hi
  exact ⟨a.trans a2, b.trans b2, c.trans c2⟩
/-- s1 is s with x on top -/
def Psh (s1 s : SK) (x : Int32) : Prop := s1.2 = s.2 + 1 ∧ s1.1 s.2 = x ∧ ∀ i, i < s.2 → s1.1 i = s.1 i
theorem psh_push {s : SK} {x : Int32} (h : s.2 < 400) : Psh (spush s x) s x := by
  unfold spush; rw [if_pos h]
  exact ⟨rfl, if_pos rfl, fun i hi => if_neg (by omega)⟩
theorem psh_pop {s1 s : SK} {x : Int32} (h : Psh s1 s x) : (spop s1).1 = x ∧ (spop s1).2 = (s1.1, s.2) := by
  unfold spop
  rw [h.1, if_neg (by omega)]
  exact ⟨by rw [Nat.add_sub_cancel]; exact h.2.1, by rw [Nat.add_sub_cancel]⟩
theorem psh_un {s1 s : SK} {x y : Int32} (h : Psh s1 s x) (hs : s.2 < 400) : Psh (spush (spop s1).2 y) s y := by
  rw [(psh_pop h).2]
  have h2 := psh_push (s := ((s1.1, s.2) : SK)) (x := y) hs
  exact ⟨h2.1, h2.2.1, fun i hi => (h2.2.2 i hi).trans (h.2.2 i hi)⟩
theorem psh_bin {s2 s1 s : SK} {x y z : Int32} (h : Psh s1 s x) (h2 : Psh s2 s1 y) (hs : s.2 < 400) : (spop s2).1 = y ∧ (spop (spop s2).2).1 = x ∧ Psh (spush (spop (spop s2).2).2 z) s z := by
  have e1 := psh_pop h2
  have h3 : Psh ((s2.1, s1.2) : SK) s x := ⟨h.1, (h2.2.2 s.2 (by rw [h.1]; omega)).trans h.2.1, fun i hi => (h2.2.2 i (by rw [h.1]; omega)).trans (h.2.2 i hi)⟩
  rw [e1.2]
  exact ⟨e1.1, (psh_pop h3).1, psh_un h3 hs⟩
theorem srn_split {kq : Nat → Nat} {ff fs : Nat → Int32} {v : VS} {b : Nat} : ∀ (d i : Nat) (s : SK), i + d ≤ b → srn kq ff fs v b i s = srn kq ff fs v b (i + d) (srn kq ff fs v (i + d) i s) := by
  intro d
  induction d with
  | zero => intro i s h; rw [Nat.add_zero, srn_end (b := i) (Nat.le_refl _)]
  | succ d ih =>
    intro i s h
    rw [srn_go (b := b) (i := i) (by omega), srn_go (b := i + (d + 1)) (i := i) (by omega), ih (i + 1) _ (by omega), show i + 1 + d = i + (d + 1) by omega]
theorem srn_cut {kq : Nat → Nat} {ff fs : Nat → Int32} {v : VS} {x m b : Nat} {s : SK} (h1 : x ≤ m) (h2 : m ≤ b) : srn kq ff fs v b x s = srn kq ff fs v b m (srn kq ff fs v m x s) := by
  have h := srn_split (kq := kq) (ff := ff) (fs := fs) (v := v) (b := b) (m - x) x s (by omega)
  rwa [show x + (m - x) = m by omega] at h
/-- one step more -/
theorem srn_one {KQ : Nat → Nat} {FF FS : Nat → Int32} {v : VS} {x : Nat} {s : SK} (hk : kd < 49) (h : kS S < 400) (hx : x ≤ kS S) (hA : Agr KQ FF FS (aS kd a b S) x (kS S + 1)) : srn KQ FF FS v (kS S + 1) x s = sperf v kd a b (srn KQ FF FS v (kS S) x s) := by
  obtain ⟨e1, e2, e3⟩ := hA (kS S) hx (by omega)
  rw [aS_q h, show va_up S.2.1 (kS S) kd (kS S) = kd from if_pos rfl] at e1
  rw [aS_a h, show upd S.2.2.1 (kS S) a (kS S) = a from if_pos rfl] at e2
  rw [aS_b h, show upd S.2.2.2 (kS S) b (kS S) = b from if_pos rfl] at e3
  rw [srn_cut hx (Nat.le_succ _), srn_go (Nat.lt_succ_self _), srn_end (Nat.le_refl _)]
  have k1 : skind KQ (nI (kS S)) = kd := by
    unfold skind; rw [if_pos (by rw [nI_toInt (by omega)]; omega), nI_clamp (by omega), e1, sg_of hk]
  rw [k1, rat_nI h (by decide), rat_nI h (by decide), e2, e3]
/-- from S to S1 the steps push x, in as many steps at most as there are tokens from t to w -/
def Cod (S S1 : ST) (t w : Nat) (x : VS → Int32) : Prop := Pfx S S1 ∧ kS S1 + t ≤ kS S + w ∧
  ∀ KQ FF FS, Agr KQ FF FS S1 (kS S) (kS S1) → ∀ v s, s.2 + (kS S1 - kS S) ≤ 400 → Psh (srn KQ FF FS v (kS S1) (kS S) s) s (x v)
variable {t w u w2 : Nat} {x y : VS → Int32}
theorem Cod.wk (h : Cod S S1 t w x) (h1 : u ≤ t) (h2 : w ≤ w2) : Cod S S1 u w2 x := ⟨h.1, by have := h.2.1; omega, h.2.2⟩
theorem Cod.eq (h : Cod S S1 t w x) (e : ∀ v, x v = y v) : Cod S S1 t w y := ⟨h.1, h.2.1, fun KQ FF FS hA v s hs => by rw [← e v]; exact h.2.2 KQ FF FS hA v s hs⟩
theorem cod_one (hk : kd < 49) (h : kS S < 400) (hw : t + 1 ≤ w) (hp : ∀ v s, sperf v kd a b s = spush s (x v)) : Cod S (aS kd a b S) t w x := by
  refine ⟨Pfx.add h, by rw [aS_k h]; omega, fun KQ FF FS hA v s hs => ?_⟩
  rw [aS_k h] at hA hs ⊢
  rw [srn_one hk h (Nat.le_refl _) hA, srn_end (Nat.le_refl _), hp]
  exact psh_push (by omega)
theorem cod_un (hc : Cod S S1 u w x) (hk : kd < 49) (h : kS S1 < 400) (hw : w + t + 1 ≤ w2 + u) (hp : ∀ v s1 s, Psh s1 s (x v) → s.2 < 400 → Psh (sperf v kd a b s1) s (y v)) (hn : kS S < kS S1) : Cod S (aS kd a b S1) t w2 y := by
  refine ⟨hc.1.tr (Pfx.add h), by rw [aS_k h]; have := hc.2.1; omega, fun KQ FF FS hA v s hs => ?_⟩
  rw [aS_k h] at hA hs ⊢
  rw [srn_one hk h hc.1.1 hA]
  have h2 := hc.2.2 KQ FF FS ((hA.sub (Nat.le_refl _) (Nat.le_succ _)).pfx (Pfx.add h)) v s (by omega)
  exact hp v _ s h2 (by omega)
theorem cod_bin {r : VS → Int32} {t1 w3 : Nat} (hc : Cod S S1 t1 w x) (hd : Cod S1 S2 u w2 y) (hu : w + w2 + 1 + t ≤ w3 + t1 + u) (hk : kd < 49) (h : kS S2 < 400) (hn : kS S < kS S1) (hp : ∀ v (s2 s1 s : SK), Psh s1 s (x v) → Psh s2 s1 (y v) → s.2 < 400 → Psh (sperf v kd a b s2) s (r v)) : Cod S (aS kd a b S2) t w3 r := by
  refine ⟨hc.1.tr (hd.1.tr (Pfx.add h)), by rw [aS_k h]; have := hc.2.1; have := hd.2.1; omega, fun KQ FF FS hA v s hs => ?_⟩
  have l1 := hc.1.1
  have l2 := hd.1.1
  rw [aS_k h] at hA hs ⊢
  rw [srn_one hk h (Nat.le_trans l1 l2) hA, srn_cut l1 l2]
  have hA2 : Agr KQ FF FS S2 (kS S) (kS S2) := (hA.sub (Nat.le_refl _) (Nat.le_succ _)).pfx (Pfx.add h)
  have h2 := hc.2.2 KQ FF FS ((hA2.sub (Nat.le_refl _) l2).pfx hd.1) v s (by omega)
  have h3 := hd.2.2 KQ FF FS (hA2.sub l1 (Nat.le_refl _)) v (srn KQ FF FS v (kS S1) (kS S) s) (by rw [h2.1]; omega)
  exact hp v _ _ s h2 h3 (by omega)
end
/-! names and numbers in tests -/
def srtN (T : Nat → Nat) (k : Nat) : Nat := if T (k - 1) = 2 then 0 else 2
def nmN (T : Nat → Nat) (V : Nat → Int64) (tn : Nat → Nat) (tc : Nat → Nat → Int64) (k : Nat) : Int32 := oI (nfind (tc (srtN T k)) (V k) (tn (srtN T k)))
def badN (T : Nat → Nat) (V : Nat → Int64) (tn : Nat → Nat) (tc : Nat → Nat → Int64) (k : Nat) : Bool := decide (T k = 2 ∧ nmN T V tn tc k = (-1))
def TVC (T : Nat → Nat) (V : Nat → Int64) (K : Nat) (sq : Nat → Nat) (sv : Nat → Int64) : Prop := TKC T K sq ∧ ∀ t, t ≤ K → tVl sv (nI t) = V t
def Cln (B : Nat → Bool) (a b : Nat) : Prop := ∀ k, a ≤ k → k < b → B k = false
def Fst (B C : Nat → Bool) (a b k : Nat) : Prop := a ≤ k ∧ k < b ∧ B k = true ∧ Cln C a k
/-- a name that isn't told, or what M says is another thing than what was read -/
def bdM (T : Nat → Nat) (V : Nat → Int64) (tn : Nat → Nat) (tc : Nat → Nat → Int64) (M : Nat → Int32) (k : Nat) : Bool := decide ((T k = 2 ∧ nmN T V tn tc k = (-1)) ∨ (T k = 2 ∧ ¬ M k = nmN T V tn tc k) ∨ (T k = 3 ∧ ¬ M k = (V k).toInt32))
/-- what a piece of a test does, from t to w: all is told and the steps push x, or the first name that isn't told is noted -/
def SmR (B C : Nat → Bool) (q q1 : ES) (t w : Nat) (x : VS → Int32) : Prop :=
  (Cln C t w → q1.2.2.1 = 0 ∧ kS q.2.2.2.2 < kS q1.2.2.2.2 ∧ Cod q.2.2.2.2 q1.2.2.2.2 t w x) ∧ (∀ k, Fst B C t w k → q1.2.2.1 = 3 ∧ q1.2.2.2.1 = nI k)
def Sem (B C : Nat → Bool) (K : Nat) (E : EF) (R : RF) (X : VS → Nat → Int32) : Prop := ∀ t q, t ≤ K → q.1 = nI t → q.2.2.1 = 0 → kS q.2.2.2.2 + 1 ≤ t → (R t).1 = true → SmR B C q (E q).2 t (R t).2 (fun v => X v t)
/-- an error that is noted stays -/
def Kp (q q1 : ES) : Prop := q1.2.2.1 = q.2.2.1 ∧ q1.2.2.2.1 = q.2.2.2.1
def KpE (E : EF) : Prop := ∀ q, ¬ q.2.2.1 = 0 → Kp q (E q).2
section
variable {q q1 q2 : ES} {E F lv ls lg lt : EF} {sq : Nat → Nat} {sv : Nat → Int64} {tn : Nat → Nat} {tc : Nat → Nat → Int64}
theorem Kp.rf : Kp q q := ⟨rfl, rfl⟩
theorem Kp.tr (h : Kp q q1) (h2 : Kp q1 q2) : Kp q q2 := ⟨h2.1.trans h.1, h2.2.trans h.2⟩
theorem Kp.ne (h : Kp q q1) (hq : ¬ q.2.2.1 = 0) : ¬ q1.2.2.1 = 0 := by rw [h.1]; exact hq
theorem kp_note {e : Int32} (hq : ¬ q.2.2.1 = 0) : eNote e q = q := if_neg hq
theorem kp_skip {s : Nat} : KpE (eSkip sq s) := by
  intro q hq; unfold eSkip; split <;> exact ⟨rfl, rfl⟩
theorem kp_known {nk : Nat} {nf : Nat → Int64} : KpE (eKnown sq sv nk nf) := by
  intro q hq; unfold eKnown
  split
  · show Kp q (eStep (if _ then _ else _))
    split
    · rw [eNote_b (q := eFd (oI (nfind nf (tVl sv q.1) nk)) q) hq]; exact ⟨rfl, rfl⟩
    · exact ⟨rfl, rfl⟩
  · exact ⟨rfl, rfl⟩
theorem kp_then (h1 : KpE E) (h2 : KpE F) : KpE (fun q => eThen (E q) F) := by
  intro q hq
  have a := h1 q hq
  show Kp q (eThen (E q) F).2
  unfold eThen; split
  · exact a.tr (h2 _ (a.ne hq))
  · exact a
theorem kp_thenR {r : Bool × ES} (hq : ¬ q.2.2.1 = 0) (h1 : Kp q r.2) (h2 : KpE F) : Kp q (eThen r F).2 := by
  unfold eThen; split
  · exact h1.tr (h2 _ (h1.ne hq))
  · exact h1
theorem kp_lp {cond : Nat → Bool} {kd : Nat → Nat} (h : KpE E) : ∀ (m : Nat) (b : Bool), KpE (eLp sq cond kd E m b) := by
  intro m
  induction m with
  | zero => intro b q hq; exact Kp.rf
  | succ m ih =>
    intro b q hq
    show Kp q (if _ then _ else _ : Bool × ES).2
    split
    · have a : Kp q (eAdd (kd (tSg sq q.1)) 0 0 (E (eStep q)).2) := h (eStep q) hq
      exact a.tr (ih _ _ (a.ne hq))
    · exact Kp.rf
theorem kp_do {cond : Nat → Bool} {kd : Nat → Nat} (h : KpE E) : KpE (fun q => eLp sq cond kd E 400 (E q).1 (E q).2) := fun q hq => (h q hq).tr (kp_lp h 400 _ _ ((h q hq).ne hq))
theorem kp_ch2 {r : Bool × ES} (hq : ¬ q.2.2.1 = 0) (hr : Kp q r.2) (h : KpE ls) : Kp q (eCh2 sq ls r).2 := by
  have e : eCh2 sq ls r = eThen r (fun q => eThen (eSkip sq 10 q) (fun q => eThen (ls q) (eSkip sq 6))) := rfl
  rw [e]
  exact kp_thenR hq hr (kp_then kp_skip (kp_then h kp_skip))
theorem kp_bear : KpE (eBear sq sv tn tc) := by
  intro q hq
  have a := kp_known (sq := sq) (sv := sv) (nk := tn 2) (nf := tc 2) (eStep q) hq
  unfold eBear
  generalize eKnown sq sv (tn 2) (tc 2) (eStep q) = r at a ⊢
  split
  · have b := kp_known (sq := sq) (sv := sv) (nk := tn 0) (nf := tc 0) r.2 (a.ne hq)
    generalize eKnown sq sv (tn 0) (tc 0) r.2 = r2 at b ⊢
    exact ⟨b.1.trans a.1, b.2.trans a.2⟩
  · exact a
theorem kp_of {kd : Nat} : KpE (eOf sq sv tn tc kd) := fun q hq => kp_known (sq := sq) (sv := sv) (nk := tn 2) (nf := tc 2) (eStep q) hq
theorem kp_deep {d : Bool} (h : KpE F) (hq : ¬ q.2.2.1 = 0) : Kp q (eThen (eDeep d q) F).2 := by
  cases d with
  | true => rw [eDp_t]; exact h (eStep q) hq
  | false => exact Kp.rf
theorem kp_valF {d : Bool} (hv : KpE lv) (hs : KpE ls) : KpE (eValF sq sv tn tc d lv ls) := by
  intro q hq
  unfold eValF
  split
  · exact ⟨rfl, rfl⟩
  split
  · exact kp_of q hq
  split
  · exact kp_deep (kp_then hv (fun _ _ => ⟨rfl, rfl⟩)) hq
  split
  · exact kp_deep (kp_then hs kp_skip) hq
  split
  · unfold eChoF; split
    · exact kp_ch2 (q := q) hq (hs (eStep (eStep q)) hq) hs
    · exact ⟨rfl, rfl⟩
  · exact ⟨rfl, rfl⟩
theorem kp_cmp (h : KpE ls) : KpE (eCmpF sq ls) := by
  intro q hq; unfold eCmpF; split
  · exact h (eStep q) hq
  · exact Kp.rf
theorem kp_sinF {d : Bool} (hg : KpE lg) (ht : KpE lt) (hs : KpE ls) : KpE (eSinF sq sv tn tc d lg lt ls) := by
  intro q hq
  unfold eSinF
  split
  · exact kp_deep (kp_then hg (fun _ _ => ⟨rfl, rfl⟩)) hq
  split
  · exact kp_deep (kp_then ht kp_skip) hq
  split
  · exact kp_bear q hq
  split
  · exact kp_of q hq
  · exact kp_then hs (kp_cmp hs) q hq
theorem kp_mk {d : Bool} {lo : EF × EF × EF × EF} (h1 : KpE lo.1) (h2 : KpE lo.2.1) (h3 : KpE lo.2.2.1) (h4 : KpE lo.2.2.2) : KpE (eMk sq sv tn tc d lo).1 ∧ KpE (eMk sq sv tn tc d lo).2.1 ∧ KpE (eMk sq sv tn tc d lo).2.2.1 ∧ KpE (eMk sq sv tn tc d lo).2.2.2 := by
  have a1 := kp_valF (sq := sq) (sv := sv) (tn := tn) (tc := tc) (d := d) h1 h2
  have a2 := kp_do (sq := sq) (cond := isPM) (kd := fun s => s) (kp_do (sq := sq) (cond := isTD) (kd := fun s => s) a1)
  have a3 := kp_sinF (sq := sq) (sv := sv) (tn := tn) (tc := tc) (d := d) h3 h4 a2
  exact ⟨a1, a2, a3, kp_do (kp_do a3)⟩
theorem kp_L : ∀ n, KpE (eL sq sv tn tc n).1 ∧ KpE (eL sq sv tn tc n).2.1 ∧ KpE (eL sq sv tn tc n).2.2.1 ∧ KpE (eL sq sv tn tc n).2.2.2 := by
  intro n
  induction n with
  | zero => exact ⟨fun _ _ => Kp.rf, fun _ _ => Kp.rf, fun _ _ => Kp.rf, fun _ _ => Kp.rf⟩
  | succ n ih => exact kp_mk ih.1 ih.2.1 ih.2.2.1 ih.2.2.2
end
