/-! the reader of tests: what each of its methods does, as one function of the state ES: finger, found, error, errorToken, steps (count, kinds, firsts, seconds) -/
abbrev ES : Type := Int32 × Int32 × Int32 × Int32 × Nat × (Nat → Nat) × (Nat → Int32) × (Nat → Int32)
abbrev EF : Type := ES → Bool × ES
def kc (q : ES) : Nat := min q.2.2.2.2.1 400
theorem kc_le (q : ES) : kc q ≤ 400 := Nat.min_le_right _ _
def eStep (q : ES) : ES := (q.1 + 1, q.2)
def eFd (x : Int32) (q : ES) : ES := (q.1, x, q.2.2)
def eNote (e : Int32) (q : ES) : ES := if q.2.2.1 = 0 then (q.1, q.2.1, e, q.1, q.2.2.2.2) else q
def eAdd (kd : Nat) (a b : Int32) (q : ES) : ES :=
  (q.1, q.2.1, q.2.2.1, q.2.2.2.1, (if kc q < 400 then kc q + 1 else kc q), (if kc q < 400 then va_up q.2.2.2.2.2.1 (kc q) kd else q.2.2.2.2.2.1), (if kc q < 400 then upd q.2.2.2.2.2.2.1 (kc q) a else q.2.2.2.2.2.2.1), if kc q < 400 then upd q.2.2.2.2.2.2.2 (kc q) b else q.2.2.2.2.2.2.2)
theorem kc_eAdd (kd : Nat) (a b : Int32) (q : ES) : kc (eAdd kd a b q) = if kc q < 400 then kc q + 1 else kc q := by
  have h := kc_le q
  show min (if kc q < 400 then kc q + 1 else kc q) 400 = _
  split <;> omega
theorem eNote_a {e : Int32} {q : ES} (h : q.2.2.1 = 0) : eNote e q = (q.1, q.2.1, e, q.1, q.2.2.2.2) := if_pos h
theorem eNote_b {e : Int32} {q : ES} (h : ¬ q.2.2.1 = 0) : eNote e q = q := if_neg h
def eSkip (sq : Nat → Nat) (s : Nat) (q : ES) : Bool × ES := if tSg sq q.1 = s then (true, eStep q) else (false, q)
theorem eSkip_a {sq : Nat → Nat} {s : Nat} {q : ES} (h : tSg sq q.1 = s) : eSkip sq s q = (true, eStep q) := if_pos h
theorem eSkip_b {sq : Nat → Nat} {s : Nat} {q : ES} (h : ¬ tSg sq q.1 = s) : eSkip sq s q = (false, q) := if_neg h
theorem eSkip_t {sq : Nat → Nat} {s : Nat} {q : ES} (h : (eSkip sq s q).1 = true) : tSg sq q.1 = s := by
  by_cases c : tSg sq q.1 = s
  · exact c
  · rw [eSkip_b c] at h; cases h
theorem eSkip_f {sq : Nat → Nat} {s : Nat} {q : ES} (h : (eSkip sq s q).1 = false) : ¬ tSg sq q.1 = s := by
  intro c
  rw [eSkip_a c] at h; cases h
def eDeep (b : Bool) (q : ES) : Bool × ES := match b with
  | true => (true, eStep q)
  | false => (false, q)
def eKnown (sq : Nat → Nat) (sv : Nat → Int64) (nk : Nat) (nf : Nat → Int64) (q : ES) : Bool × ES :=
  if tSg sq q.1 = 2 then (true, eStep (if oI (nfind nf (tVl sv q.1) nk) = (-1) then eNote 3 (eFd (oI (nfind nf (tVl sv q.1) nk)) q) else eFd (oI (nfind nf (tVl sv q.1) nk)) q)) else (false, q)
theorem eKnown_a {sq : Nat → Nat} {sv : Nat → Int64} {nk : Nat} {nf : Nat → Int64} {q : ES} (h : ¬ tSg sq q.1 = 2) : eKnown sq sv nk nf q = (false, q) := if_neg h
theorem eKnown_b {sq : Nat → Nat} {sv : Nat → Int64} {nk : Nat} {nf : Nat → Int64} {q : ES} (h : tSg sq q.1 = 2) (h2 : ¬ oI (nfind nf (tVl sv q.1) nk) = (-1)) : eKnown sq sv nk nf q = (true, eStep (eFd (oI (nfind nf (tVl sv q.1) nk)) q)) := by
  unfold eKnown; rw [if_pos h, if_neg h2]
theorem eKnown_c {sq : Nat → Nat} {sv : Nat → Int64} {nk : Nat} {nf : Nat → Int64} {q : ES} (h : tSg sq q.1 = 2) (h2 : oI (nfind nf (tVl sv q.1) nk) = (-1)) : eKnown sq sv nk nf q = (true, eStep (eNote 3 (eFd (oI (nfind nf (tVl sv q.1) nk)) q))) := by
  unfold eKnown; rw [if_pos h, if_pos h2]
def eBear (sq : Nat → Nat) (sv : Nat → Int64) (tn : Nat → Nat) (tc : Nat → Nat → Int64) (q : ES) : Bool × ES :=
  if (eKnown sq sv (tn 2) (tc 2) (eStep q)).1 = true then ((eKnown sq sv (tn 0) (tc 0) (eKnown sq sv (tn 2) (tc 2) (eStep q)).2).1, eAdd 42 (eKnown sq sv (tn 2) (tc 2) (eStep q)).2.2.1 (eKnown sq sv (tn 0) (tc 0) (eKnown sq sv (tn 2) (tc 2) (eStep q)).2).2.2.1 (eKnown sq sv (tn 0) (tc 0) (eKnown sq sv (tn 2) (tc 2) (eStep q)).2).2) else (false, (eKnown sq sv (tn 2) (tc 2) (eStep q)).2)
theorem eBear_a {sq : Nat → Nat} {sv : Nat → Int64} {tn : Nat → Nat} {tc : Nat → Nat → Int64} {q : ES} (h : (eKnown sq sv (tn 2) (tc 2) (eStep q)).1 = false) : eBear sq sv tn tc q = (false, (eKnown sq sv (tn 2) (tc 2) (eStep q)).2) := by
  unfold eBear; rw [if_neg (by rw [h]; decide)]
theorem eBear_b {sq : Nat → Nat} {sv : Nat → Int64} {tn : Nat → Nat} {tc : Nat → Nat → Int64} {q : ES} (h : (eKnown sq sv (tn 2) (tc 2) (eStep q)).1 = true) : eBear sq sv tn tc q = ((eKnown sq sv (tn 0) (tc 0) (eKnown sq sv (tn 2) (tc 2) (eStep q)).2).1, eAdd 42 (eKnown sq sv (tn 2) (tc 2) (eStep q)).2.2.1 (eKnown sq sv (tn 0) (tc 0) (eKnown sq sv (tn 2) (tc 2) (eStep q)).2).2.2.1 (eKnown sq sv (tn 0) (tc 0) (eKnown sq sv (tn 2) (tc 2) (eStep q)).2).2) := by
  unfold eBear; rw [if_pos h]
def eOf (sq : Nat → Nat) (sv : Nat → Int64) (tn : Nat → Nat) (tc : Nat → Nat → Int64) (kd : Nat) (q : ES) : Bool × ES :=
  ((eKnown sq sv (tn 2) (tc 2) (eStep q)).1, eAdd kd (eKnown sq sv (tn 2) (tc 2) (eStep q)).2.2.1 0 (eKnown sq sv (tn 2) (tc 2) (eStep q)).2)
def eLp (sq : Nat → Nat) (cond : Nat → Bool) (kd : Nat → Nat) (body : EF) : Nat → Bool → ES → Bool × ES
  | 0, b, q => (b, q)
  | m + 1, b, q => if b = true ∧ cond (tSg sq q.1) = true then eLp sq cond kd body m (body (eStep q)).1 (eAdd (kd (tSg sq q.1)) 0 0 (body (eStep q)).2) else (b, q)
def mS (s : Nat) : Int32 := SGm.getD s 0
def eCh2 (sq : Nat → Nat) (ls : EF) (r : Bool × ES) : Bool × ES :=
  if r.1 = true then (if (eSkip sq 10 r.2).1 = true then (if (ls (eSkip sq 10 r.2).2).1 = true then eSkip sq 6 (ls (eSkip sq 10 r.2).2).2 else (false, (ls (eSkip sq 10 r.2).2).2)) else (false, (eSkip sq 10 r.2).2)) else (false, r.2)
def eChoF (sq : Nat → Nat) (deep : Bool) (ls : EF) (s : Nat) (q : ES) : Bool × ES :=
  if tSg sq q.1 = 5 ∧ deep = true then ((eCh2 sq ls (ls (eStep q))).1, eAdd s 0 0 (eCh2 sq ls (ls (eStep q))).2) else (false, q)
def eThen (r : Bool × ES) (f : EF) : Bool × ES := if r.1 = true then f r.2 else (false, r.2)
theorem eThen_t {r : Bool × ES} {f : EF} (h : r.1 = true) : eThen r f = f r.2 := if_pos h
theorem eThen_f {r : Bool × ES} {f : EF} (h : r.1 = false) : eThen r f = (false, r.2) := if_neg (by rw [h]; decide)
theorem eDp_t {q : ES} {f : EF} : eThen (eDeep true q) f = f (eStep q) := rfl
theorem eDp_f {q : ES} {f : EF} : eThen (eDeep false q) f = (false, q) := rfl
def eValF (sq : Nat → Nat) (sv : Nat → Int64) (tn : Nat → Nat) (tc : Nat → Nat → Int64) (deep : Bool) (lv ls : EF) (q : ES) : Bool × ES :=
  if mS (tSg sq q.1) = 11 ∨ mS (tSg sq q.1) = 12 ∨ mS (tSg sq q.1) = 13 ∨ mS (tSg sq q.1) = 14 then (true, eStep (eAdd (tSg sq q.1) (tVl sv q.1).toInt32 0 q))
  else if mS (tSg sq q.1) = 15 ∨ mS (tSg sq q.1) = 16 ∨ mS (tSg sq q.1) = 17 then eOf sq sv tn tc (tSg sq q.1) q
  else if mS (tSg sq q.1) = 18 then eThen (eDeep deep q) (fun q => eThen (lv q) (fun q => (true, eAdd 4 0 0 q)))
  else if mS (tSg sq q.1) = 19 then eThen (eDeep deep q) (fun q => eThen (ls q) (eSkip sq 6))
  else if mS (tSg sq q.1) = 20 ∨ mS (tSg sq q.1) = 21 then eChoF sq deep ls (tSg sq q.1) (eStep q)
  else (false, q)
def isTD (s : Nat) : Bool := decide (s = 13 ∨ s = 14)
def isPM (s : Nat) : Bool := decide (s = 11 ∨ s = 12)
def isOr (s : Nat) : Bool := decide (s = 46)
def isAn (s : Nat) : Bool := decide (s = 45)
def eProF (sq : Nat → Nat) (v : EF) (q : ES) : Bool × ES := eLp sq isTD (fun s => s) v 400 (v q).1 (v q).2
def eSumF (sq : Nat → Nat) (p : EF) (q : ES) : Bool × ES := eLp sq isPM (fun s => s) p 400 (p q).1 (p q).2
def eBotF (sq : Nat → Nat) (g : EF) (q : ES) : Bool × ES := eLp sq isAn (fun _ => 45) g 400 (g q).1 (g q).2
def eTesF (sq : Nat → Nat) (b : EF) (q : ES) : Bool × ES := eLp sq isOr (fun _ => 46) b 400 (b q).1 (b q).2
def eCmpF (sq : Nat → Nat) (s : EF) (q : ES) : Bool × ES :=
  if decide (15 ≤ tSg sq q.1 ∧ tSg sq q.1 ≤ 19) = true then ((s (eStep q)).1, eAdd (tSg sq q.1) 0 0 (s (eStep q)).2) else (false, q)
def eSinF (sq : Nat → Nat) (sv : Nat → Int64) (tn : Nat → Nat) (tc : Nat → Nat → Int64) (deep : Bool) (lg lt s : EF) (q : ES) : Bool × ES :=
  if mS (tSg sq q.1) = 7 then eThen (eDeep deep q) (fun q => eThen (lg q) (fun q => (true, eAdd 44 0 0 q)))
  else if mS (tSg sq q.1) = 8 then eThen (eDeep deep q) (fun q => eThen (lt q) (eSkip sq 8))
  else if mS (tSg sq q.1) = 9 then eBear sq sv tn tc q
  else if mS (tSg sq q.1) = 10 then eOf sq sv tn tc 43 q
  else eThen (s q) (eCmpF sq s)
def deepb : Nat → Bool
  | 0 => false
  | _ + 1 => true
def eMk (sq : Nat → Nat) (sv : Nat → Int64) (tn : Nat → Nat) (tc : Nat → Nat → Int64) (deep : Bool) (lo : EF × EF × EF × EF) : EF × EF × EF × EF :=
  (eValF sq sv tn tc deep lo.1 lo.2.1, eSumF sq (eProF sq (eValF sq sv tn tc deep lo.1 lo.2.1)),
   eSinF sq sv tn tc deep lo.2.2.1 lo.2.2.2 (eSumF sq (eProF sq (eValF sq sv tn tc deep lo.1 lo.2.1))),
   eTesF sq (eBotF sq (eSinF sq sv tn tc deep lo.2.2.1 lo.2.2.2 (eSumF sq (eProF sq (eValF sq sv tn tc deep lo.1 lo.2.1))))))
def eNo : EF := fun q => (false, q)
def eL (sq : Nat → Nat) (sv : Nat → Int64) (tn : Nat → Nat) (tc : Nat → Nat → Int64) : Nat → EF × EF × EF × EF
  | 0 => (eNo, eNo, eNo, eNo)
  | n + 1 => eMk sq sv tn tc (deepb n) (eL sq sv tn tc n)
def eV (sq : Nat → Nat) (sv : Nat → Int64) (tn : Nat → Nat) (tc : Nat → Nat → Int64) (n : Nat) : EF := (eL sq sv tn tc (n + 1)).1
def eP (sq : Nat → Nat) (sv : Nat → Int64) (tn : Nat → Nat) (tc : Nat → Nat → Int64) (n : Nat) : EF := eProF sq (eV sq sv tn tc n)
def eS (sq : Nat → Nat) (sv : Nat → Int64) (tn : Nat → Nat) (tc : Nat → Nat → Int64) (n : Nat) : EF := (eL sq sv tn tc (n + 1)).2.1
def eG (sq : Nat → Nat) (sv : Nat → Int64) (tn : Nat → Nat) (tc : Nat → Nat → Int64) (n : Nat) : EF := (eL sq sv tn tc (n + 1)).2.2.1
def eB (sq : Nat → Nat) (sv : Nat → Int64) (tn : Nat → Nat) (tc : Nat → Nat → Int64) (n : Nat) : EF := eBotF sq (eG sq sv tn tc n)
def eT (sq : Nat → Nat) (sv : Nat → Int64) (tn : Nat → Nat) (tc : Nat → Nat → Int64) (n : Nat) : EF := (eL sq sv tn tc (n + 1)).2.2.2
def eCho (sq : Nat → Nat) (sv : Nat → Int64) (tn : Nat → Nat) (tc : Nat → Nat → Int64) (n : Nat) (s : Nat) : EF := eChoF sq (deepb n) (eL sq sv tn tc n).2.1 s
section
variable {sq : Nat → Nat} {sv : Nat → Int64} {tn : Nat → Nat} {tc : Nat → Nat → Int64} {n i s : Nat} {q : ES} {lv ls lg lt g v p f : EF} {deep b : Bool} {X : Bool × ES}
theorem eV_s : eV sq sv tn tc (n + 1) = eValF sq sv tn tc true (eV sq sv tn tc n) (eS sq sv tn tc n) := rfl
theorem eV_0 : eV sq sv tn tc 0 = eValF sq sv tn tc false eNo eNo := rfl
theorem eL_s : eL sq sv tn tc (n + 1) = eMk sq sv tn tc (deepb n) (eL sq sv tn tc n) := rfl
theorem eS_is : eS sq sv tn tc n = eSumF sq (eP sq sv tn tc n) := by unfold eS eP eV; rw [eL_s]; unfold eMk; dsimp only
theorem eCho_s : eCho sq sv tn tc (n + 1) s = eChoF sq true (eS sq sv tn tc n) s := rfl
theorem eCho_0 : eCho sq sv tn tc 0 s = eChoF sq false eNo s := rfl
theorem eG_s : eG sq sv tn tc (n + 1) = eSinF sq sv tn tc true (eG sq sv tn tc n) (eT sq sv tn tc n) (eS sq sv tn tc (n + 1)) := rfl
theorem eG_0 : eG sq sv tn tc 0 = eSinF sq sv tn tc false eNo eNo (eS sq sv tn tc 0) := rfl
theorem eT_is : eT sq sv tn tc n = eTesF sq (eB sq sv tn tc n) := by unfold eT eB eG; rw [eL_s]; unfold eMk; dsimp only
theorem eP_i : eP sq sv tn tc n q = eLp sq isTD (fun s => s) (eV sq sv tn tc n) (400 - 0) (eV sq sv tn tc n q).1 (eV sq sv tn tc n q).2 := by rw [Nat.sub_zero]; unfold eP eProF; rfl
theorem eS_i : eS sq sv tn tc n q = eLp sq isPM (fun s => s) (eP sq sv tn tc n) (400 - 0) (eP sq sv tn tc n q).1 (eP sq sv tn tc n q).2 := by rw [Nat.sub_zero, eS_is]; unfold eSumF; rfl
theorem eB_i : eB sq sv tn tc n q = eLp sq isAn (fun _ => 45) (eG sq sv tn tc n) (400 - 0) (eG sq sv tn tc n q).1 (eG sq sv tn tc n q).2 := by rw [Nat.sub_zero]; unfold eB eBotF; rfl
theorem eT_i : eT sq sv tn tc n q = eLp sq isOr (fun _ => 46) (eB sq sv tn tc n) (400 - 0) (eB sq sv tn tc n q).1 (eB sq sv tn tc n q).2 := by rw [Nat.sub_zero, eT_is]; unfold eTesF; rfl
theorem nim {x a : Int32} {y : Int32} (h : x = a) (hn : a ≠ y) : ¬ x = y := fun q => hn (h.symm.trans q)
theorem eVal_1 (h : mS (tSg sq q.1) = 11 ∨ mS (tSg sq q.1) = 12 ∨ mS (tSg sq q.1) = 13 ∨ mS (tSg sq q.1) = 14) : eValF sq sv tn tc deep lv ls q = (true, eStep (eAdd (tSg sq q.1) (tVl sv q.1).toInt32 0 q)) := if_pos h
theorem eVal_2 (h : mS (tSg sq q.1) = 15 ∨ mS (tSg sq q.1) = 16 ∨ mS (tSg sq q.1) = 17) : eValF sq sv tn tc deep lv ls q = eOf sq sv tn tc (tSg sq q.1) q := by
  unfold eValF; generalize mS (tSg sq q.1) = m at h ⊢
  rcases h with rfl | rfl | rfl <;> rfl
theorem eVal_3 (h : mS (tSg sq q.1) = 18) : eValF sq sv tn tc deep lv ls q = eThen (eDeep deep q) (fun q => eThen (lv q) (fun q => (true, eAdd 4 0 0 q))) := by
  unfold eValF; rw [h]; rfl
theorem eVal_4 (h : mS (tSg sq q.1) = 19) : eValF sq sv tn tc deep lv ls q = eThen (eDeep deep q) (fun q => eThen (ls q) (eSkip sq 6)) := by
  unfold eValF; rw [h]; rfl
theorem eVal_5 (h : mS (tSg sq q.1) = 20 ∨ mS (tSg sq q.1) = 21) : eValF sq sv tn tc deep lv ls q = eChoF sq deep ls (tSg sq q.1) (eStep q) := by
  unfold eValF; generalize mS (tSg sq q.1) = m at h ⊢
  rcases h with rfl | rfl <;> rfl
theorem eVal_6 (h1 : ¬ mS (tSg sq q.1) = 11) (h2 : ¬ mS (tSg sq q.1) = 12) (h3 : ¬ mS (tSg sq q.1) = 13) (h4 : ¬ mS (tSg sq q.1) = 14) (h5 : ¬ mS (tSg sq q.1) = 15) (h6 : ¬ mS (tSg sq q.1) = 16) (h7 : ¬ mS (tSg sq q.1) = 17) (h8 : ¬ mS (tSg sq q.1) = 18) (h9 : ¬ mS (tSg sq q.1) = 19) (h10 : ¬ mS (tSg sq q.1) = 20) (h11 : ¬ mS (tSg sq q.1) = 21) : eValF sq sv tn tc deep lv ls q = (false, q) := by
  unfold eValF
  rw [if_neg (by rintro (h | h | h | h) <;> contradiction), if_neg (by rintro (h | h | h) <;> contradiction), if_neg h8, if_neg h9, if_neg (by rintro (h | h) <;> contradiction)]
theorem eSin_1 (h : mS (tSg sq q.1) = 7) : eSinF sq sv tn tc deep lg lt g q = eThen (eDeep deep q) (fun q => eThen (lg q) (fun q => (true, eAdd 44 0 0 q))) := if_pos h
theorem eSin_2 (h : mS (tSg sq q.1) = 8) : eSinF sq sv tn tc deep lg lt g q = eThen (eDeep deep q) (fun q => eThen (lt q) (eSkip sq 8)) := by unfold eSinF; rw [h]; rfl
theorem eSin_3 (h : mS (tSg sq q.1) = 9) : eSinF sq sv tn tc deep lg lt g q = eBear sq sv tn tc q := by unfold eSinF; rw [h]; rfl
theorem eSin_4 (h : mS (tSg sq q.1) = 10) : eSinF sq sv tn tc deep lg lt g q = eOf sq sv tn tc 43 q := by unfold eSinF; rw [h]; rfl
theorem eSin_5 (h1 : ¬ mS (tSg sq q.1) = 7) (h2 : ¬ mS (tSg sq q.1) = 8) (h3 : ¬ mS (tSg sq q.1) = 9) (h4 : ¬ mS (tSg sq q.1) = 10) : eSinF sq sv tn tc deep lg lt g q = eThen (g q) (eCmpF sq g) := by
  unfold eSinF; rw [if_neg h1, if_neg h2, if_neg h3, if_neg h4]
theorem eCmp_t (h : decide (15 ≤ tSg sq q.1 ∧ tSg sq q.1 ≤ 19) = true) : eCmpF sq f q = ((f (eStep q)).1, eAdd (tSg sq q.1) 0 0 (f (eStep q)).2) := if_pos h
theorem eCmp_f (h : decide (15 ≤ tSg sq q.1 ∧ tSg sq q.1 ≤ 19) = false) : eCmpF sq f q = (false, q) := if_neg (by rw [h]; decide)
theorem eChoF_a (h : ¬ tSg sq q.1 = 5) : eChoF sq deep ls s q = (false, q) := if_neg (fun x => h x.1)
theorem eChoF_b : eChoF sq false ls s q = (false, q) := if_neg (fun x => absurd x.2 (by decide))
theorem eChoF_c (h : tSg sq q.1 = 5) : eChoF sq true ls s q = ((eCh2 sq ls (ls (eStep q))).1, eAdd s 0 0 (eCh2 sq ls (ls (eStep q))).2) := if_pos ⟨h, rfl⟩
theorem eCh2_a (h : X.1 = false) : eCh2 sq ls X = (false, X.2) := if_neg (by rw [h]; decide)
theorem eCh2_b (h : X.1 = true) (h2 : (eSkip sq 10 X.2).1 = false) : eCh2 sq ls X = (false, (eSkip sq 10 X.2).2) := (if_pos h).trans (if_neg (by rw [h2]; decide))
theorem eCh2_c (h : X.1 = true) (h2 : (eSkip sq 10 X.2).1 = true) (h3 : (ls (eSkip sq 10 X.2).2).1 = false) : eCh2 sq ls X = (false, (ls (eSkip sq 10 X.2).2).2) := (if_pos h).trans ((if_pos h2).trans (if_neg (by rw [h3]; decide)))
theorem eCh2_d (h : X.1 = true) (h2 : (eSkip sq 10 X.2).1 = true) (h3 : (ls (eSkip sq 10 X.2).2).1 = true) : eCh2 sq ls X = eSkip sq 6 (ls (eSkip sq 10 X.2).2).2 := (if_pos h).trans ((if_pos h2).trans (if_pos h3))
theorem eLp_go {cond : Nat → Bool} {kd : Nat → Nat} {body : EF} (h : i < 400) (hb : b = true) (hc : cond (tSg sq q.1) = true) : eLp sq cond kd body (400 - i) b q = eLp sq cond kd body (400 - (i + 1)) (body (eStep q)).1 (eAdd (kd (tSg sq q.1)) 0 0 (body (eStep q)).2) := by
  rw [show 400 - i = (400 - (i + 1)) + 1 by omega]
  exact if_pos ⟨hb, hc⟩
theorem eLp_x {cond : Nat → Bool} {kd : Nat → Nat} {body : EF} (h : 400 ≤ i) : eLp sq cond kd body (400 - i) b q = (b, q) := by
  rw [show 400 - i = 0 by omega]; rfl
theorem eLp_b {m : Nat} {cond : Nat → Bool} {kd : Nat → Nat} {body : EF} (hb : b = false) : eLp sq cond kd body m b q = (b, q) := by
  cases m with
  | zero => rfl
  | succ m => exact if_neg (fun h => by rw [hb] at h; exact absurd h.1 (by decide))
theorem eLp_c {m : Nat} {cond : Nat → Bool} {kd : Nat → Nat} {body : EF} (hc : cond (tSg sq q.1) = false) : eLp sq cond kd body m b q = (b, q) := by
  cases m with
  | zero => rfl
  | succ m => exact if_neg (fun h => by rw [hc] at h; exact absurd h.2 (by decide))
theorem isOr_t (h : s = 46) : isOr s = true := dt h
theorem isOr_f (h : ¬ s = 46) : isOr s = false := df h
theorem isAn_t (h : s = 45) : isAn s = true := dt h
theorem isAn_f (h : ¬ s = 45) : isAn s = false := df h
theorem isPM_1 (h : s = 11) : isPM s = true := dt (Or.inl h)
theorem isPM_2 (h : s = 12) : isPM s = true := dt (Or.inr h)
theorem isPM_f (h : ¬ s = 11) (h2 : ¬ s = 12) : isPM s = false := df (fun x => x.elim h h2)
theorem isTD_1 (h : s = 13) : isTD s = true := dt (Or.inl h)
theorem isTD_2 (h : s = 14) : isTD s = true := dt (Or.inr h)
theorem isTD_f (h : ¬ s = 13) (h2 : ¬ s = 14) : isTD s = false := df (fun x => x.elim h h2)
end
