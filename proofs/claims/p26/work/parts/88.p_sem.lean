/-! what the machine of tests makes of the steps that were read -/
def StH (kq : Nat → Nat) (ff fs : Nat → Int32) : Nat → List (Nat × Int32 × Int32) → Prop
  | _, [] => True
  | m, t :: L => (kq m = t.1 ∧ ff m = t.2.1 ∧ fs m = t.2.2) ∧ StH kq ff fs (m + 1) L
def RepF (f : Nat → Int32) : List Int32 → Prop
  | [] => True
  | x :: l => f l.length = x ∧ RepF f l
def Rep (s : SK) (l : List Int32) : Prop := s.2 = l.length ∧ RepF s.1 l
section
variable {kq : Nat → Nat} {ff fs f0 : Nat → Int32} {v : VS} {b i m kd : Nat} {s : SK} {L : List (Nat × Int32 × Int32)} {l : List Int32} {x y a c : Int32}
theorem sr_1 {t : Nat × Int32 × Int32} (h : kq i = t.1 ∧ ff i = t.2.1 ∧ fs i = t.2.2) (hb : i < b) (hi : i < 400) (ht : t.1 < 49) : srn kq ff fs v b i s = srn kq ff fs v b (i + 1) (sperf v t.1 t.2.1 t.2.2 s) := by
  rw [srn_go hb, rat_nI hi (by decide), rat_nI hi (by decide)]
  unfold skind
  rw [if_pos (by rw [nI_toInt (by omega)]; omega), nI_clamp (by omega), h.1, h.2.1, h.2.2, sg_of ht]
theorem RepF_u {f : Nat → Int32} : ∀ {l : List Int32} {k : Nat}, l.length ≤ k → RepF f l → RepF (upd f k x) l := by
  intro l
  induction l with
  | nil => intro k _ _; exact trivial
  | cons y l ih =>
    intro k hk h
    rw [List.length_cons] at hk
    exact ⟨by rw [pk_un (by omega)]; exact h.1, ih (by omega) h.2⟩
theorem rp_push (h : Rep s l) (hl : l.length < 400) : Rep (spush s x) (x :: l) := by
  obtain ⟨h1, h2⟩ := h
  unfold spush
  rw [if_pos (by omega)]
  refine ⟨by show s.2 + 1 = l.length + 1; omega, ?_, RepF_u (by omega) h2⟩
  show upd s.1 s.2 x l.length = x
  rw [h1]; exact pk_us
theorem rp_pop (h : Rep s (x :: l)) : (spop s).1 = x ∧ Rep (spop s).2 l := by
  obtain ⟨h1, h2, h3⟩ := h
  have h4 : s.2 = l.length + 1 := h1
  refine ⟨?_, by show s.2 - 1 = l.length; omega, h3⟩
  show (if s.2 = 0 then 0 else s.1 (s.2 - 1)) = x
  rw [if_neg (by omega), show s.2 - 1 = l.length by omega]; exact h2
theorem rp_c (h : Rep s l) (hl : l.length < 400) (hs : sperf v kd a c s = spush s x) : Rep (sperf v kd a c s) (x :: l) := by rw [hs]; exact rp_push h hl
theorem rp_u (h : Rep s (y :: l)) (hl : l.length < 400) {g : Int32 → Int32} (hs : sperf v kd a c s = spush (spop s).2 (g (spop s).1)) : Rep (sperf v kd a c s) (g y :: l) := by
  obtain ⟨h1, h2⟩ := rp_pop h
  rw [hs, h1]; exact rp_push h2 hl
theorem rp_b (h : Rep s (y :: x :: l)) (hl : l.length < 400) (hs : sperf v kd a c s = spush (spop (spop s).2).2 (sjoin kd (spop (spop s).2).1 (spop s).1)) : Rep (sperf v kd a c s) (sjoin kd x y :: l) := by
  obtain ⟨h1, h2⟩ := rp_pop h
  obtain ⟨h3, h4⟩ := rp_pop h2
  rw [hs, h1, h3]; exact rp_push h4 hl
theorem hx_e (hb : m < b) (h : Rep (srn kq ff fs v b m (f0, 0)) [x]) : hxT kq ff fs v m b f0 = decide (x ≠ 0) := by
  unfold hxT
  rw [decide_eq_false (show ¬ b ≤ m by omega), Bool.false_or, (rp_pop h).1]
theorem bI_ne {b : Bool} : decide (bI b ≠ 0) = b := by cases b <;> rfl
theorem bI_not {b : Bool} : 1 - bI b = bI (!b) := by cases b <;> rfl
theorem bI_or {a b : Bool} : bI a ||| bI b = bI (a || b) := by cases a <;> cases b <;> rfl
theorem bI_and {a b : Bool} : bI a &&& bI b = bI (a && b) := by cases a <;> cases b <;> rfl
theorem sj_d {n : Nat} (h : 0 < n) (h2 : n < 1000) : sjoin 14 x (nI n) = x / nI n := by
  show (if nI n = 0 then 0 else x / nI n) = _
  exact if_neg (nI_ne0 h (by omega))
theorem sj_12 : sjoin 12 x y = x - y := rfl
theorem sj_13 : sjoin 13 x y = x * y := rfl
theorem sj_15 : sjoin 15 x y = bI (decide (x < y)) := rfl
theorem sj_16 : sjoin 16 x y = bI (decide (y < x)) := rfl
theorem sj_17 : sjoin 17 x y = bI (decide (x = y)) := rfl
theorem sj_18 : sjoin 18 x y = bI (decide (x ≤ y)) := rfl
theorem sj_19 : sjoin 19 x y = bI (decide (y ≤ x)) := rfl
theorem sj_45 : sjoin 45 x y = x &&& y := rfl
theorem sj_46 : sjoin 46 x y = x ||| y := rfl
theorem sj_47 : sjoin 47 x y = if y < x then y else x := rfl
theorem sj_48 : sjoin 48 x y = if x < y then y else x := rfl
end
theorem sm_w1 {kq : Nat → Nat} {ff fs f0 : Nat → Int32} {v : VS} {i m : Nat} (hS : StH kq ff fs i [(36, (wcode 0 [100, 97, 121]).toInt32, 0), (3, (lN m).toInt32, 0), (3, (lN 4).toInt32, 0), (14, 0, 0), (16, 0, 0)]) (hi : i + 5 ≤ 400) : hxT kq ff fs v i (i + 5) f0 = decide ((sjoin 16 v.1 (sjoin 14 (lN m).toInt32 (lN 4).toInt32)) ≠ 0) := by
  obtain ⟨h0, h1, h2, h3, h4, -⟩ := hS
  have r0 : Rep ((f0, 0) : SK) [] := ⟨rfl, trivial⟩
  have r1 : Rep (sperf v 36 (wcode 0 [100, 97, 121]).toInt32 0 ((f0, 0) : SK)) [v.1] := rp_c r0 (Nat.le_of_ble_eq_true rfl) rfl
  obtain ⟨s1, hs1⟩ : ∃ q, q = sperf v 36 (wcode 0 [100, 97, 121]).toInt32 0 ((f0, 0) : SK) := ⟨_, rfl⟩
  rw [← hs1] at r1
  have r2 : Rep (sperf v 3 (lN m).toInt32 0 s1) [(lN m).toInt32, v.1] := rp_c r1 (Nat.le_of_ble_eq_true rfl) rfl
  obtain ⟨s2, hs2⟩ : ∃ q, q = sperf v 3 (lN m).toInt32 0 s1 := ⟨_, rfl⟩
  rw [← hs2] at r2
  have r3 : Rep (sperf v 3 (lN 4).toInt32 0 s2) [(lN 4).toInt32, (lN m).toInt32, v.1] := rp_c r2 (Nat.le_of_ble_eq_true rfl) rfl
  obtain ⟨s3, hs3⟩ : ∃ q, q = sperf v 3 (lN 4).toInt32 0 s2 := ⟨_, rfl⟩
  rw [← hs3] at r3
  have r4 : Rep (sperf v 14 0 0 s3) [(sjoin 14 (lN m).toInt32 (lN 4).toInt32), v.1] := rp_b r3 (Nat.le_of_ble_eq_true rfl) rfl
  obtain ⟨s4, hs4⟩ : ∃ q, q = sperf v 14 0 0 s3 := ⟨_, rfl⟩
  rw [← hs4] at r4
  have r5 : Rep (sperf v 16 0 0 s4) [(sjoin 16 v.1 (sjoin 14 (lN m).toInt32 (lN 4).toInt32))] := rp_b r4 (Nat.le_of_ble_eq_true rfl) rfl
  obtain ⟨s5, hs5⟩ : ∃ q, q = sperf v 16 0 0 s4 := ⟨_, rfl⟩
  rw [← hs5] at r5
  have e : srn kq ff fs v (i + 5) i (f0, 0) = s5 := by
    rw [sr_1 (i := i) h0 (by omega) (by omega) (Nat.le_of_ble_eq_true rfl)]; dsimp only; rw [← hs1]
    rw [sr_1 (i := i + 1) h1 (by omega) (by omega) (Nat.le_of_ble_eq_true rfl)]; dsimp only; rw [← hs2]
    rw [sr_1 (i := i + 1 + 1) h2 (by omega) (by omega) (Nat.le_of_ble_eq_true rfl)]; dsimp only; rw [← hs3]
    rw [sr_1 (i := i + 1 + 1 + 1) h3 (by omega) (by omega) (Nat.le_of_ble_eq_true rfl)]; dsimp only; rw [← hs4]
    rw [sr_1 (i := i + 1 + 1 + 1 + 1) h4 (by omega) (by omega) (Nat.le_of_ble_eq_true rfl)]; dsimp only; rw [← hs5]
    exact srn_end (by omega)
  exact hx_e (by omega) (by rw [e]; exact r5)
theorem sm_w2 {kq : Nat → Nat} {ff fs f0 : Nat → Int32} {v : VS} {i a : Nat} (hS : StH kq ff fs i [(43, (nI a), 0), (44, 0, 0)]) (hi : i + 2 ≤ 400) : hxT kq ff fs v i (i + 2) f0 = decide ((1 - (bI (fSq v.2.2.2.2.2.2 (nI a)))) ≠ 0) := by
  obtain ⟨h0, h1, -⟩ := hS
  have r0 : Rep ((f0, 0) : SK) [] := ⟨rfl, trivial⟩
  have r1 : Rep (sperf v 43 (nI a) 0 ((f0, 0) : SK)) [(bI (fSq v.2.2.2.2.2.2 (nI a)))] := rp_c r0 (Nat.le_of_ble_eq_true rfl) rfl
  obtain ⟨s1, hs1⟩ : ∃ q, q = sperf v 43 (nI a) 0 ((f0, 0) : SK) := ⟨_, rfl⟩
  rw [← hs1] at r1
  have r2 : Rep (sperf v 44 0 0 s1) [(1 - (bI (fSq v.2.2.2.2.2.2 (nI a))))] := rp_u (g := fun q => 1 - q) r1 (Nat.le_of_ble_eq_true rfl) rfl
  obtain ⟨s2, hs2⟩ : ∃ q, q = sperf v 44 0 0 s1 := ⟨_, rfl⟩
  rw [← hs2] at r2
  have e : srn kq ff fs v (i + 2) i (f0, 0) = s2 := by
    rw [sr_1 (i := i) h0 (by omega) (by omega) (Nat.le_of_ble_eq_true rfl)]; dsimp only; rw [← hs1]
    rw [sr_1 (i := i + 1) h1 (by omega) (by omega) (Nat.le_of_ble_eq_true rfl)]; dsimp only; rw [← hs2]
    exact srn_end (by omega)
  exact hx_e (by omega) (by rw [e]; exact r2)
theorem sm_w3 {kq : Nat → Nat} {ff fs f0 : Nat → Int32} {v : VS} {i a m : Nat} (hS : StH kq ff fs i [(40, (nI a), 0), (3, (lN m).toInt32, 0), (3, (lN 9).toInt32, 0), (14, 0, 0), (19, 0, 0)]) (hi : i + 5 ≤ 400) : hxT kq ff fs v i (i + 5) f0 = decide ((sjoin 19 (rat 10 v.2.2.2.2.2.2 (nI a)) (sjoin 14 (lN m).toInt32 (lN 9).toInt32)) ≠ 0) := by
  obtain ⟨h0, h1, h2, h3, h4, -⟩ := hS
  have r0 : Rep ((f0, 0) : SK) [] := ⟨rfl, trivial⟩
  have r1 : Rep (sperf v 40 (nI a) 0 ((f0, 0) : SK)) [(rat 10 v.2.2.2.2.2.2 (nI a))] := rp_c r0 (Nat.le_of_ble_eq_true rfl) rfl
  obtain ⟨s1, hs1⟩ : ∃ q, q = sperf v 40 (nI a) 0 ((f0, 0) : SK) := ⟨_, rfl⟩
  rw [← hs1] at r1
  have r2 : Rep (sperf v 3 (lN m).toInt32 0 s1) [(lN m).toInt32, (rat 10 v.2.2.2.2.2.2 (nI a))] := rp_c r1 (Nat.le_of_ble_eq_true rfl) rfl
  obtain ⟨s2, hs2⟩ : ∃ q, q = sperf v 3 (lN m).toInt32 0 s1 := ⟨_, rfl⟩
  rw [← hs2] at r2
  have r3 : Rep (sperf v 3 (lN 9).toInt32 0 s2) [(lN 9).toInt32, (lN m).toInt32, (rat 10 v.2.2.2.2.2.2 (nI a))] := rp_c r2 (Nat.le_of_ble_eq_true rfl) rfl
  obtain ⟨s3, hs3⟩ : ∃ q, q = sperf v 3 (lN 9).toInt32 0 s2 := ⟨_, rfl⟩
  rw [← hs3] at r3
  have r4 : Rep (sperf v 14 0 0 s3) [(sjoin 14 (lN m).toInt32 (lN 9).toInt32), (rat 10 v.2.2.2.2.2.2 (nI a))] := rp_b r3 (Nat.le_of_ble_eq_true rfl) rfl
  obtain ⟨s4, hs4⟩ : ∃ q, q = sperf v 14 0 0 s3 := ⟨_, rfl⟩
  rw [← hs4] at r4
  have r5 : Rep (sperf v 19 0 0 s4) [(sjoin 19 (rat 10 v.2.2.2.2.2.2 (nI a)) (sjoin 14 (lN m).toInt32 (lN 9).toInt32))] := rp_b r4 (Nat.le_of_ble_eq_true rfl) rfl
  obtain ⟨s5, hs5⟩ : ∃ q, q = sperf v 19 0 0 s4 := ⟨_, rfl⟩
  rw [← hs5] at r5
  have e : srn kq ff fs v (i + 5) i (f0, 0) = s5 := by
    rw [sr_1 (i := i) h0 (by omega) (by omega) (Nat.le_of_ble_eq_true rfl)]; dsimp only; rw [← hs1]
    rw [sr_1 (i := i + 1) h1 (by omega) (by omega) (Nat.le_of_ble_eq_true rfl)]; dsimp only; rw [← hs2]
    rw [sr_1 (i := i + 1 + 1) h2 (by omega) (by omega) (Nat.le_of_ble_eq_true rfl)]; dsimp only; rw [← hs3]
    rw [sr_1 (i := i + 1 + 1 + 1) h3 (by omega) (by omega) (Nat.le_of_ble_eq_true rfl)]; dsimp only; rw [← hs4]
    rw [sr_1 (i := i + 1 + 1 + 1 + 1) h4 (by omega) (by omega) (Nat.le_of_ble_eq_true rfl)]; dsimp only; rw [← hs5]
    exact srn_end (by omega)
  exact hx_e (by omega) (by rw [e]; exact r5)
theorem sm_w4 {kq : Nat → Nat} {ff fs f0 : Nat → Int32} {v : VS} {i a b c m : Nat} (hS : StH kq ff fs i [(42, (nI a), (nI b)), (39, (nI c), 0), (3, (lN m).toInt32, 0), (15, 0, 0), (46, 0, 0)]) (hi : i + 5 ≤ 400) : hxT kq ff fs v i (i + 5) f0 = decide ((sjoin 46 (bI (decide (rat 10 v.2.2.2.1 (nI a) = (nI b)))) (sjoin 15 (rat 10 v.2.2.2.2.2.1 (nI c)) (lN m).toInt32)) ≠ 0) := by
  obtain ⟨h0, h1, h2, h3, h4, -⟩ := hS
  have r0 : Rep ((f0, 0) : SK) [] := ⟨rfl, trivial⟩
  have r1 : Rep (sperf v 42 (nI a) (nI b) ((f0, 0) : SK)) [(bI (decide (rat 10 v.2.2.2.1 (nI a) = (nI b))))] := rp_c r0 (Nat.le_of_ble_eq_true rfl) rfl
  obtain ⟨s1, hs1⟩ : ∃ q, q = sperf v 42 (nI a) (nI b) ((f0, 0) : SK) := ⟨_, rfl⟩
  rw [← hs1] at r1
  have r2 : Rep (sperf v 39 (nI c) 0 s1) [(rat 10 v.2.2.2.2.2.1 (nI c)), (bI (decide (rat 10 v.2.2.2.1 (nI a) = (nI b))))] := rp_c r1 (Nat.le_of_ble_eq_true rfl) rfl
  obtain ⟨s2, hs2⟩ : ∃ q, q = sperf v 39 (nI c) 0 s1 := ⟨_, rfl⟩
  rw [← hs2] at r2
  have r3 : Rep (sperf v 3 (lN m).toInt32 0 s2) [(lN m).toInt32, (rat 10 v.2.2.2.2.2.1 (nI c)), (bI (decide (rat 10 v.2.2.2.1 (nI a) = (nI b))))] := rp_c r2 (Nat.le_of_ble_eq_true rfl) rfl
  obtain ⟨s3, hs3⟩ : ∃ q, q = sperf v 3 (lN m).toInt32 0 s2 := ⟨_, rfl⟩
  rw [← hs3] at r3
  have r4 : Rep (sperf v 15 0 0 s3) [(sjoin 15 (rat 10 v.2.2.2.2.2.1 (nI c)) (lN m).toInt32), (bI (decide (rat 10 v.2.2.2.1 (nI a) = (nI b))))] := rp_b r3 (Nat.le_of_ble_eq_true rfl) rfl
  obtain ⟨s4, hs4⟩ : ∃ q, q = sperf v 15 0 0 s3 := ⟨_, rfl⟩
  rw [← hs4] at r4
  have r5 : Rep (sperf v 46 0 0 s4) [(sjoin 46 (bI (decide (rat 10 v.2.2.2.1 (nI a) = (nI b)))) (sjoin 15 (rat 10 v.2.2.2.2.2.1 (nI c)) (lN m).toInt32))] := rp_b r4 (Nat.le_of_ble_eq_true rfl) rfl
  obtain ⟨s5, hs5⟩ : ∃ q, q = sperf v 46 0 0 s4 := ⟨_, rfl⟩
  rw [← hs5] at r5
  have e : srn kq ff fs v (i + 5) i (f0, 0) = s5 := by
    rw [sr_1 (i := i) h0 (by omega) (by omega) (Nat.le_of_ble_eq_true rfl)]; dsimp only; rw [← hs1]
    rw [sr_1 (i := i + 1) h1 (by omega) (by omega) (Nat.le_of_ble_eq_true rfl)]; dsimp only; rw [← hs2]
    rw [sr_1 (i := i + 1 + 1) h2 (by omega) (by omega) (Nat.le_of_ble_eq_true rfl)]; dsimp only; rw [← hs3]
    rw [sr_1 (i := i + 1 + 1 + 1) h3 (by omega) (by omega) (Nat.le_of_ble_eq_true rfl)]; dsimp only; rw [← hs4]
    rw [sr_1 (i := i + 1 + 1 + 1 + 1) h4 (by omega) (by omega) (Nat.le_of_ble_eq_true rfl)]; dsimp only; rw [← hs5]
    exact srn_end (by omega)
  exact hx_e (by omega) (by rw [e]; exact r5)
theorem sm_w5 {kq : Nat → Nat} {ff fs f0 : Nat → Int32} {v : VS} {i a m : Nat} (hS : StH kq ff fs i [(38, (nI a), 0), (3, (lN m).toInt32, 0), (3, (lN 5).toInt32, 0), (14, 0, 0), (18, 0, 0), (37, (wcode 0 [100, 97, 109, 112]).toInt32, 0), (3, (lN m).toInt32, 0), (3, (lN 20).toInt32, 0), (14, 0, 0), (16, 0, 0), (45, 0, 0), (36, (wcode 0 [100, 97, 121]).toInt32, 0), (3, (lN m).toInt32, 0), (3, (lN 3).toInt32, 0), (14, 0, 0), (17, 0, 0), (44, 0, 0), (46, 0, 0)]) (hi : i + 18 ≤ 400) : hxT kq ff fs v i (i + 18) f0 = decide ((sjoin 46 (sjoin 45 (sjoin 18 (rat 10 v.2.2.2.2.1 (nI a)) (sjoin 14 (lN m).toInt32 (lN 5).toInt32)) (sjoin 16 v.2.1 (sjoin 14 (lN m).toInt32 (lN 20).toInt32))) (1 - (sjoin 17 v.1 (sjoin 14 (lN m).toInt32 (lN 3).toInt32)))) ≠ 0) := by
  obtain ⟨h0, h1, h2, h3, h4, h5, h6, h7, h8, h9, h10, h11, h12, h13, h14, h15, h16, h17, -⟩ := hS
  have r0 : Rep ((f0, 0) : SK) [] := ⟨rfl, trivial⟩
  have r1 : Rep (sperf v 38 (nI a) 0 ((f0, 0) : SK)) [(rat 10 v.2.2.2.2.1 (nI a))] := rp_c r0 (Nat.le_of_ble_eq_true rfl) rfl
  obtain ⟨s1, hs1⟩ : ∃ q, q = sperf v 38 (nI a) 0 ((f0, 0) : SK) := ⟨_, rfl⟩
  rw [← hs1] at r1
  have r2 : Rep (sperf v 3 (lN m).toInt32 0 s1) [(lN m).toInt32, (rat 10 v.2.2.2.2.1 (nI a))] := rp_c r1 (Nat.le_of_ble_eq_true rfl) rfl
  obtain ⟨s2, hs2⟩ : ∃ q, q = sperf v 3 (lN m).toInt32 0 s1 := ⟨_, rfl⟩
  rw [← hs2] at r2
  have r3 : Rep (sperf v 3 (lN 5).toInt32 0 s2) [(lN 5).toInt32, (lN m).toInt32, (rat 10 v.2.2.2.2.1 (nI a))] := rp_c r2 (Nat.le_of_ble_eq_true rfl) rfl
  obtain ⟨s3, hs3⟩ : ∃ q, q = sperf v 3 (lN 5).toInt32 0 s2 := ⟨_, rfl⟩
  rw [← hs3] at r3
  have r4 : Rep (sperf v 14 0 0 s3) [(sjoin 14 (lN m).toInt32 (lN 5).toInt32), (rat 10 v.2.2.2.2.1 (nI a))] := rp_b r3 (Nat.le_of_ble_eq_true rfl) rfl
  obtain ⟨s4, hs4⟩ : ∃ q, q = sperf v 14 0 0 s3 := ⟨_, rfl⟩
  rw [← hs4] at r4
  have r5 : Rep (sperf v 18 0 0 s4) [(sjoin 18 (rat 10 v.2.2.2.2.1 (nI a)) (sjoin 14 (lN m).toInt32 (lN 5).toInt32))] := rp_b r4 (Nat.le_of_ble_eq_true rfl) rfl
  obtain ⟨s5, hs5⟩ : ∃ q, q = sperf v 18 0 0 s4 := ⟨_, rfl⟩
  rw [← hs5] at r5
  have r6 : Rep (sperf v 37 (wcode 0 [100, 97, 109, 112]).toInt32 0 s5) [v.2.1, (sjoin 18 (rat 10 v.2.2.2.2.1 (nI a)) (sjoin 14 (lN m).toInt32 (lN 5).toInt32))] := rp_c r5 (Nat.le_of_ble_eq_true rfl) rfl
  obtain ⟨s6, hs6⟩ : ∃ q, q = sperf v 37 (wcode 0 [100, 97, 109, 112]).toInt32 0 s5 := ⟨_, rfl⟩
  rw [← hs6] at r6
  have r7 : Rep (sperf v 3 (lN m).toInt32 0 s6) [(lN m).toInt32, v.2.1, (sjoin 18 (rat 10 v.2.2.2.2.1 (nI a)) (sjoin 14 (lN m).toInt32 (lN 5).toInt32))] := rp_c r6 (Nat.le_of_ble_eq_true rfl) rfl
  obtain ⟨s7, hs7⟩ : ∃ q, q = sperf v 3 (lN m).toInt32 0 s6 := ⟨_, rfl⟩
  rw [← hs7] at r7
  have r8 : Rep (sperf v 3 (lN 20).toInt32 0 s7) [(lN 20).toInt32, (lN m).toInt32, v.2.1, (sjoin 18 (rat 10 v.2.2.2.2.1 (nI a)) (sjoin 14 (lN m).toInt32 (lN 5).toInt32))] := rp_c r7 (Nat.le_of_ble_eq_true rfl) rfl
  obtain ⟨s8, hs8⟩ : ∃ q, q = sperf v 3 (lN 20).toInt32 0 s7 := ⟨_, rfl⟩
  rw [← hs8] at r8
  have r9 : Rep (sperf v 14 0 0 s8) [(sjoin 14 (lN m).toInt32 (lN 20).toInt32), v.2.1, (sjoin 18 (rat 10 v.2.2.2.2.1 (nI a)) (sjoin 14 (lN m).toInt32 (lN 5).toInt32))] := rp_b r8 (Nat.le_of_ble_eq_true rfl) rfl
  obtain ⟨s9, hs9⟩ : ∃ q, q = sperf v 14 0 0 s8 := ⟨_, rfl⟩
  rw [← hs9] at r9
  have r10 : Rep (sperf v 16 0 0 s9) [(sjoin 16 v.2.1 (sjoin 14 (lN m).toInt32 (lN 20).toInt32)), (sjoin 18 (rat 10 v.2.2.2.2.1 (nI a)) (sjoin 14 (lN m).toInt32 (lN 5).toInt32))] := rp_b r9 (Nat.le_of_ble_eq_true rfl) rfl
  obtain ⟨s10, hs10⟩ : ∃ q, q = sperf v 16 0 0 s9 := ⟨_, rfl⟩
  rw [← hs10] at r10
  have r11 : Rep (sperf v 45 0 0 s10) [(sjoin 45 (sjoin 18 (rat 10 v.2.2.2.2.1 (nI a)) (sjoin 14 (lN m).toInt32 (lN 5).toInt32)) (sjoin 16 v.2.1 (sjoin 14 (lN m).toInt32 (lN 20).toInt32)))] := rp_b r10 (Nat.le_of_ble_eq_true rfl) rfl
  obtain ⟨s11, hs11⟩ : ∃ q, q = sperf v 45 0 0 s10 := ⟨_, rfl⟩
  rw [← hs11] at r11
  have r12 : Rep (sperf v 36 (wcode 0 [100, 97, 121]).toInt32 0 s11) [v.1, (sjoin 45 (sjoin 18 (rat 10 v.2.2.2.2.1 (nI a)) (sjoin 14 (lN m).toInt32 (lN 5).toInt32)) (sjoin 16 v.2.1 (sjoin 14 (lN m).toInt32 (lN 20).toInt32)))] := rp_c r11 (Nat.le_of_ble_eq_true rfl) rfl
  obtain ⟨s12, hs12⟩ : ∃ q, q = sperf v 36 (wcode 0 [100, 97, 121]).toInt32 0 s11 := ⟨_, rfl⟩
  rw [← hs12] at r12
  have r13 : Rep (sperf v 3 (lN m).toInt32 0 s12) [(lN m).toInt32, v.1, (sjoin 45 (sjoin 18 (rat 10 v.2.2.2.2.1 (nI a)) (sjoin 14 (lN m).toInt32 (lN 5).toInt32)) (sjoin 16 v.2.1 (sjoin 14 (lN m).toInt32 (lN 20).toInt32)))] := rp_c r12 (Nat.le_of_ble_eq_true rfl) rfl
  obtain ⟨s13, hs13⟩ : ∃ q, q = sperf v 3 (lN m).toInt32 0 s12 := ⟨_, rfl⟩
  rw [← hs13] at r13
  have r14 : Rep (sperf v 3 (lN 3).toInt32 0 s13) [(lN 3).toInt32, (lN m).toInt32, v.1, (sjoin 45 (sjoin 18 (rat 10 v.2.2.2.2.1 (nI a)) (sjoin 14 (lN m).toInt32 (lN 5).toInt32)) (sjoin 16 v.2.1 (sjoin 14 (lN m).toInt32 (lN 20).toInt32)))] := rp_c r13 (Nat.le_of_ble_eq_true rfl) rfl
  obtain ⟨s14, hs14⟩ : ∃ q, q = sperf v 3 (lN 3).toInt32 0 s13 := ⟨_, rfl⟩
  rw [← hs14] at r14
  have r15 : Rep (sperf v 14 0 0 s14) [(sjoin 14 (lN m).toInt32 (lN 3).toInt32), v.1, (sjoin 45 (sjoin 18 (rat 10 v.2.2.2.2.1 (nI a)) (sjoin 14 (lN m).toInt32 (lN 5).toInt32)) (sjoin 16 v.2.1 (sjoin 14 (lN m).toInt32 (lN 20).toInt32)))] := rp_b r14 (Nat.le_of_ble_eq_true rfl) rfl
  obtain ⟨s15, hs15⟩ : ∃ q, q = sperf v 14 0 0 s14 := ⟨_, rfl⟩
  rw [← hs15] at r15
  have r16 : Rep (sperf v 17 0 0 s15) [(sjoin 17 v.1 (sjoin 14 (lN m).toInt32 (lN 3).toInt32)), (sjoin 45 (sjoin 18 (rat 10 v.2.2.2.2.1 (nI a)) (sjoin 14 (lN m).toInt32 (lN 5).toInt32)) (sjoin 16 v.2.1 (sjoin 14 (lN m).toInt32 (lN 20).toInt32)))] := rp_b r15 (Nat.le_of_ble_eq_true rfl) rfl
  obtain ⟨s16, hs16⟩ : ∃ q, q = sperf v 17 0 0 s15 := ⟨_, rfl⟩
  rw [← hs16] at r16
  have r17 : Rep (sperf v 44 0 0 s16) [(1 - (sjoin 17 v.1 (sjoin 14 (lN m).toInt32 (lN 3).toInt32))), (sjoin 45 (sjoin 18 (rat 10 v.2.2.2.2.1 (nI a)) (sjoin 14 (lN m).toInt32 (lN 5).toInt32)) (sjoin 16 v.2.1 (sjoin 14 (lN m).toInt32 (lN 20).toInt32)))] := rp_u (g := fun q => 1 - q) r16 (Nat.le_of_ble_eq_true rfl) rfl
  obtain ⟨s17, hs17⟩ : ∃ q, q = sperf v 44 0 0 s16 := ⟨_, rfl⟩
  rw [← hs17] at r17
  have r18 : Rep (sperf v 46 0 0 s17) [(sjoin 46 (sjoin 45 (sjoin 18 (rat 10 v.2.2.2.2.1 (nI a)) (sjoin 14 (lN m).toInt32 (lN 5).toInt32)) (sjoin 16 v.2.1 (sjoin 14 (lN m).toInt32 (lN 20).toInt32))) (1 - (sjoin 17 v.1 (sjoin 14 (lN m).toInt32 (lN 3).toInt32))))] := rp_b r17 (Nat.le_of_ble_eq_true rfl) rfl
  obtain ⟨s18, hs18⟩ : ∃ q, q = sperf v 46 0 0 s17 := ⟨_, rfl⟩
  rw [← hs18] at r18
  have e : srn kq ff fs v (i + 18) i (f0, 0) = s18 := by
    rw [sr_1 (i := i) h0 (by omega) (by omega) (Nat.le_of_ble_eq_true rfl)]; dsimp only; rw [← hs1]
    rw [sr_1 (i := i + 1) h1 (by omega) (by omega) (Nat.le_of_ble_eq_true rfl)]; dsimp only; rw [← hs2]
    rw [sr_1 (i := i + 1 + 1) h2 (by omega) (by omega) (Nat.le_of_ble_eq_true rfl)]; dsimp only; rw [← hs3]
    rw [sr_1 (i := i + 1 + 1 + 1) h3 (by omega) (by omega) (Nat.le_of_ble_eq_true rfl)]; dsimp only; rw [← hs4]
    rw [sr_1 (i := i + 1 + 1 + 1 + 1) h4 (by omega) (by omega) (Nat.le_of_ble_eq_true rfl)]; dsimp only; rw [← hs5]
    rw [sr_1 (i := i + 1 + 1 + 1 + 1 + 1) h5 (by omega) (by omega) (Nat.le_of_ble_eq_true rfl)]; dsimp only; rw [← hs6]
    rw [sr_1 (i := i + 1 + 1 + 1 + 1 + 1 + 1) h6 (by omega) (by omega) (Nat.le_of_ble_eq_true rfl)]; dsimp only; rw [← hs7]
    rw [sr_1 (i := i + 1 + 1 + 1 + 1 + 1 + 1 + 1) h7 (by omega) (by omega) (Nat.le_of_ble_eq_true rfl)]; dsimp only; rw [← hs8]
    rw [sr_1 (i := i + 1 + 1 + 1 + 1 + 1 + 1 + 1 + 1) h8 (by omega) (by omega) (Nat.le_of_ble_eq_true rfl)]; dsimp only; rw [← hs9]
    rw [sr_1 (i := i + 1 + 1 + 1 + 1 + 1 + 1 + 1 + 1 + 1) h9 (by omega) (by omega) (Nat.le_of_ble_eq_true rfl)]; dsimp only; rw [← hs10]
    rw [sr_1 (i := i + 1 + 1 + 1 + 1 + 1 + 1 + 1 + 1 + 1 + 1) h10 (by omega) (by omega) (Nat.le_of_ble_eq_true rfl)]; dsimp only; rw [← hs11]
    rw [sr_1 (i := i + 1 + 1 + 1 + 1 + 1 + 1 + 1 + 1 + 1 + 1 + 1) h11 (by omega) (by omega) (Nat.le_of_ble_eq_true rfl)]; dsimp only; rw [← hs12]
    rw [sr_1 (i := i + 1 + 1 + 1 + 1 + 1 + 1 + 1 + 1 + 1 + 1 + 1 + 1) h12 (by omega) (by omega) (Nat.le_of_ble_eq_true rfl)]; dsimp only; rw [← hs13]
    rw [sr_1 (i := i + 1 + 1 + 1 + 1 + 1 + 1 + 1 + 1 + 1 + 1 + 1 + 1 + 1) h13 (by omega) (by omega) (Nat.le_of_ble_eq_true rfl)]; dsimp only; rw [← hs14]
    rw [sr_1 (i := i + 1 + 1 + 1 + 1 + 1 + 1 + 1 + 1 + 1 + 1 + 1 + 1 + 1 + 1) h14 (by omega) (by omega) (Nat.le_of_ble_eq_true rfl)]; dsimp only; rw [← hs15]
    rw [sr_1 (i := i + 1 + 1 + 1 + 1 + 1 + 1 + 1 + 1 + 1 + 1 + 1 + 1 + 1 + 1 + 1) h15 (by omega) (by omega) (Nat.le_of_ble_eq_true rfl)]; dsimp only; rw [← hs16]
    rw [sr_1 (i := i + 1 + 1 + 1 + 1 + 1 + 1 + 1 + 1 + 1 + 1 + 1 + 1 + 1 + 1 + 1 + 1) h16 (by omega) (by omega) (Nat.le_of_ble_eq_true rfl)]; dsimp only; rw [← hs17]
    rw [sr_1 (i := i + 1 + 1 + 1 + 1 + 1 + 1 + 1 + 1 + 1 + 1 + 1 + 1 + 1 + 1 + 1 + 1 + 1) h17 (by omega) (by omega) (Nat.le_of_ble_eq_true rfl)]; dsimp only; rw [← hs18]
    exact srn_end (by omega)
  exact hx_e (by omega) (by rw [e]; exact r18)
theorem sm_w6 {kq : Nat → Nat} {ff fs f0 : Nat → Int32} {v : VS} {i m : Nat} (hS : StH kq ff fs i [(41, (wcode 0 [99, 111, 105, 110, 115]).toInt32, 0), (3, (lN m).toInt32, 0), (47, 0, 0), (3, (lN 2).toInt32, 0), (13, 0, 0), (36, (wcode 0 [100, 97, 121]).toInt32, 0), (12, 0, 0), (3, (lN m).toInt32, 0), (15, 0, 0)]) (hi : i + 9 ≤ 400) : hxT kq ff fs v i (i + 9) f0 = decide ((sjoin 15 (sjoin 12 (sjoin 13 (sjoin 47 v.2.2.1 (lN m).toInt32) (lN 2).toInt32) v.1) (lN m).toInt32) ≠ 0) := by
  obtain ⟨h0, h1, h2, h3, h4, h5, h6, h7, h8, -⟩ := hS
  have r0 : Rep ((f0, 0) : SK) [] := ⟨rfl, trivial⟩
  have r1 : Rep (sperf v 41 (wcode 0 [99, 111, 105, 110, 115]).toInt32 0 ((f0, 0) : SK)) [v.2.2.1] := rp_c r0 (Nat.le_of_ble_eq_true rfl) rfl
  obtain ⟨s1, hs1⟩ : ∃ q, q = sperf v 41 (wcode 0 [99, 111, 105, 110, 115]).toInt32 0 ((f0, 0) : SK) := ⟨_, rfl⟩
  rw [← hs1] at r1
  have r2 : Rep (sperf v 3 (lN m).toInt32 0 s1) [(lN m).toInt32, v.2.2.1] := rp_c r1 (Nat.le_of_ble_eq_true rfl) rfl
  obtain ⟨s2, hs2⟩ : ∃ q, q = sperf v 3 (lN m).toInt32 0 s1 := ⟨_, rfl⟩
  rw [← hs2] at r2
  have r3 : Rep (sperf v 47 0 0 s2) [(sjoin 47 v.2.2.1 (lN m).toInt32)] := rp_b r2 (Nat.le_of_ble_eq_true rfl) rfl
  obtain ⟨s3, hs3⟩ : ∃ q, q = sperf v 47 0 0 s2 := ⟨_, rfl⟩
  rw [← hs3] at r3
  have r4 : Rep (sperf v 3 (lN 2).toInt32 0 s3) [(lN 2).toInt32, (sjoin 47 v.2.2.1 (lN m).toInt32)] := rp_c r3 (Nat.le_of_ble_eq_true rfl) rfl
  obtain ⟨s4, hs4⟩ : ∃ q, q = sperf v 3 (lN 2).toInt32 0 s3 := ⟨_, rfl⟩
  rw [← hs4] at r4
  have r5 : Rep (sperf v 13 0 0 s4) [(sjoin 13 (sjoin 47 v.2.2.1 (lN m).toInt32) (lN 2).toInt32)] := rp_b r4 (Nat.le_of_ble_eq_true rfl) rfl
  obtain ⟨s5, hs5⟩ : ∃ q, q = sperf v 13 0 0 s4 := ⟨_, rfl⟩
  rw [← hs5] at r5
  have r6 : Rep (sperf v 36 (wcode 0 [100, 97, 121]).toInt32 0 s5) [v.1, (sjoin 13 (sjoin 47 v.2.2.1 (lN m).toInt32) (lN 2).toInt32)] := rp_c r5 (Nat.le_of_ble_eq_true rfl) rfl
  obtain ⟨s6, hs6⟩ : ∃ q, q = sperf v 36 (wcode 0 [100, 97, 121]).toInt32 0 s5 := ⟨_, rfl⟩
  rw [← hs6] at r6
  have r7 : Rep (sperf v 12 0 0 s6) [(sjoin 12 (sjoin 13 (sjoin 47 v.2.2.1 (lN m).toInt32) (lN 2).toInt32) v.1)] := rp_b r6 (Nat.le_of_ble_eq_true rfl) rfl
  obtain ⟨s7, hs7⟩ : ∃ q, q = sperf v 12 0 0 s6 := ⟨_, rfl⟩
  rw [← hs7] at r7
  have r8 : Rep (sperf v 3 (lN m).toInt32 0 s7) [(lN m).toInt32, (sjoin 12 (sjoin 13 (sjoin 47 v.2.2.1 (lN m).toInt32) (lN 2).toInt32) v.1)] := rp_c r7 (Nat.le_of_ble_eq_true rfl) rfl
  obtain ⟨s8, hs8⟩ : ∃ q, q = sperf v 3 (lN m).toInt32 0 s7 := ⟨_, rfl⟩
  rw [← hs8] at r8
  have r9 : Rep (sperf v 15 0 0 s8) [(sjoin 15 (sjoin 12 (sjoin 13 (sjoin 47 v.2.2.1 (lN m).toInt32) (lN 2).toInt32) v.1) (lN m).toInt32)] := rp_b r8 (Nat.le_of_ble_eq_true rfl) rfl
  obtain ⟨s9, hs9⟩ : ∃ q, q = sperf v 15 0 0 s8 := ⟨_, rfl⟩
  rw [← hs9] at r9
  have e : srn kq ff fs v (i + 9) i (f0, 0) = s9 := by
    rw [sr_1 (i := i) h0 (by omega) (by omega) (Nat.le_of_ble_eq_true rfl)]; dsimp only; rw [← hs1]
    rw [sr_1 (i := i + 1) h1 (by omega) (by omega) (Nat.le_of_ble_eq_true rfl)]; dsimp only; rw [← hs2]
    rw [sr_1 (i := i + 1 + 1) h2 (by omega) (by omega) (Nat.le_of_ble_eq_true rfl)]; dsimp only; rw [← hs3]
    rw [sr_1 (i := i + 1 + 1 + 1) h3 (by omega) (by omega) (Nat.le_of_ble_eq_true rfl)]; dsimp only; rw [← hs4]
    rw [sr_1 (i := i + 1 + 1 + 1 + 1) h4 (by omega) (by omega) (Nat.le_of_ble_eq_true rfl)]; dsimp only; rw [← hs5]
    rw [sr_1 (i := i + 1 + 1 + 1 + 1 + 1) h5 (by omega) (by omega) (Nat.le_of_ble_eq_true rfl)]; dsimp only; rw [← hs6]
    rw [sr_1 (i := i + 1 + 1 + 1 + 1 + 1 + 1) h6 (by omega) (by omega) (Nat.le_of_ble_eq_true rfl)]; dsimp only; rw [← hs7]
    rw [sr_1 (i := i + 1 + 1 + 1 + 1 + 1 + 1 + 1) h7 (by omega) (by omega) (Nat.le_of_ble_eq_true rfl)]; dsimp only; rw [← hs8]
    rw [sr_1 (i := i + 1 + 1 + 1 + 1 + 1 + 1 + 1 + 1) h8 (by omega) (by omega) (Nat.le_of_ble_eq_true rfl)]; dsimp only; rw [← hs9]
    exact srn_end (by omega)
  exact hx_e (by omega) (by rw [e]; exact r9)
theorem sm_w7 {kq : Nat → Nat} {ff fs f0 : Nat → Int32} {v : VS} {i m : Nat} (hS : StH kq ff fs i [(3, (lN m).toInt32, 0), (3, (lN 2).toInt32, 0), (14, 0, 0), (3, (lN 2).toInt32, 0), (13, 0, 0), (3, (lN m).toInt32, 0), (17, 0, 0)]) (hi : i + 7 ≤ 400) : hxT kq ff fs v i (i + 7) f0 = decide ((sjoin 17 (sjoin 13 (sjoin 14 (lN m).toInt32 (lN 2).toInt32) (lN 2).toInt32) (lN m).toInt32) ≠ 0) := by
  obtain ⟨h0, h1, h2, h3, h4, h5, h6, -⟩ := hS
  have r0 : Rep ((f0, 0) : SK) [] := ⟨rfl, trivial⟩
  have r1 : Rep (sperf v 3 (lN m).toInt32 0 ((f0, 0) : SK)) [(lN m).toInt32] := rp_c r0 (Nat.le_of_ble_eq_true rfl) rfl
  obtain ⟨s1, hs1⟩ : ∃ q, q = sperf v 3 (lN m).toInt32 0 ((f0, 0) : SK) := ⟨_, rfl⟩
  rw [← hs1] at r1
  have r2 : Rep (sperf v 3 (lN 2).toInt32 0 s1) [(lN 2).toInt32, (lN m).toInt32] := rp_c r1 (Nat.le_of_ble_eq_true rfl) rfl
  obtain ⟨s2, hs2⟩ : ∃ q, q = sperf v 3 (lN 2).toInt32 0 s1 := ⟨_, rfl⟩
  rw [← hs2] at r2
  have r3 : Rep (sperf v 14 0 0 s2) [(sjoin 14 (lN m).toInt32 (lN 2).toInt32)] := rp_b r2 (Nat.le_of_ble_eq_true rfl) rfl
  obtain ⟨s3, hs3⟩ : ∃ q, q = sperf v 14 0 0 s2 := ⟨_, rfl⟩
  rw [← hs3] at r3
  have r4 : Rep (sperf v 3 (lN 2).toInt32 0 s3) [(lN 2).toInt32, (sjoin 14 (lN m).toInt32 (lN 2).toInt32)] := rp_c r3 (Nat.le_of_ble_eq_true rfl) rfl
  obtain ⟨s4, hs4⟩ : ∃ q, q = sperf v 3 (lN 2).toInt32 0 s3 := ⟨_, rfl⟩
  rw [← hs4] at r4
  have r5 : Rep (sperf v 13 0 0 s4) [(sjoin 13 (sjoin 14 (lN m).toInt32 (lN 2).toInt32) (lN 2).toInt32)] := rp_b r4 (Nat.le_of_ble_eq_true rfl) rfl
  obtain ⟨s5, hs5⟩ : ∃ q, q = sperf v 13 0 0 s4 := ⟨_, rfl⟩
  rw [← hs5] at r5
  have r6 : Rep (sperf v 3 (lN m).toInt32 0 s5) [(lN m).toInt32, (sjoin 13 (sjoin 14 (lN m).toInt32 (lN 2).toInt32) (lN 2).toInt32)] := rp_c r5 (Nat.le_of_ble_eq_true rfl) rfl
  obtain ⟨s6, hs6⟩ : ∃ q, q = sperf v 3 (lN m).toInt32 0 s5 := ⟨_, rfl⟩
  rw [← hs6] at r6
  have r7 : Rep (sperf v 17 0 0 s6) [(sjoin 17 (sjoin 13 (sjoin 14 (lN m).toInt32 (lN 2).toInt32) (lN 2).toInt32) (lN m).toInt32)] := rp_b r6 (Nat.le_of_ble_eq_true rfl) rfl
  obtain ⟨s7, hs7⟩ : ∃ q, q = sperf v 17 0 0 s6 := ⟨_, rfl⟩
  rw [← hs7] at r7
  have e : srn kq ff fs v (i + 7) i (f0, 0) = s7 := by
    rw [sr_1 (i := i) h0 (by omega) (by omega) (Nat.le_of_ble_eq_true rfl)]; dsimp only; rw [← hs1]
    rw [sr_1 (i := i + 1) h1 (by omega) (by omega) (Nat.le_of_ble_eq_true rfl)]; dsimp only; rw [← hs2]
    rw [sr_1 (i := i + 1 + 1) h2 (by omega) (by omega) (Nat.le_of_ble_eq_true rfl)]; dsimp only; rw [← hs3]
    rw [sr_1 (i := i + 1 + 1 + 1) h3 (by omega) (by omega) (Nat.le_of_ble_eq_true rfl)]; dsimp only; rw [← hs4]
    rw [sr_1 (i := i + 1 + 1 + 1 + 1) h4 (by omega) (by omega) (Nat.le_of_ble_eq_true rfl)]; dsimp only; rw [← hs5]
    rw [sr_1 (i := i + 1 + 1 + 1 + 1 + 1) h5 (by omega) (by omega) (Nat.le_of_ble_eq_true rfl)]; dsimp only; rw [← hs6]
    rw [sr_1 (i := i + 1 + 1 + 1 + 1 + 1 + 1) h6 (by omega) (by omega) (Nat.le_of_ble_eq_true rfl)]; dsimp only; rw [← hs7]
    exact srn_end (by omega)
  exact hx_e (by omega) (by rw [e]; exact r7)
theorem sm_w8 {kq : Nat → Nat} {ff fs f0 : Nat → Int32} {v : VS} {i a c m : Nat} (hS : StH kq ff fs i [(39, (nI a), 0), (40, (nI c), 0), (4, 0, 0), (48, 0, 0), (3, (lN m).toInt32, 0), (3, (lN 6).toInt32, 0), (14, 0, 0), (16, 0, 0)]) (hi : i + 8 ≤ 400) : hxT kq ff fs v i (i + 8) f0 = decide ((sjoin 16 (sjoin 48 (rat 10 v.2.2.2.2.2.1 (nI a)) (-(rat 10 v.2.2.2.2.2.2 (nI c)))) (sjoin 14 (lN m).toInt32 (lN 6).toInt32)) ≠ 0) := by
  obtain ⟨h0, h1, h2, h3, h4, h5, h6, h7, -⟩ := hS
  have r0 : Rep ((f0, 0) : SK) [] := ⟨rfl, trivial⟩
  have r1 : Rep (sperf v 39 (nI a) 0 ((f0, 0) : SK)) [(rat 10 v.2.2.2.2.2.1 (nI a))] := rp_c r0 (Nat.le_of_ble_eq_true rfl) rfl
  obtain ⟨s1, hs1⟩ : ∃ q, q = sperf v 39 (nI a) 0 ((f0, 0) : SK) := ⟨_, rfl⟩
  rw [← hs1] at r1
  have r2 : Rep (sperf v 40 (nI c) 0 s1) [(rat 10 v.2.2.2.2.2.2 (nI c)), (rat 10 v.2.2.2.2.2.1 (nI a))] := rp_c r1 (Nat.le_of_ble_eq_true rfl) rfl
  obtain ⟨s2, hs2⟩ : ∃ q, q = sperf v 40 (nI c) 0 s1 := ⟨_, rfl⟩
  rw [← hs2] at r2
  have r3 : Rep (sperf v 4 0 0 s2) [(-(rat 10 v.2.2.2.2.2.2 (nI c))), (rat 10 v.2.2.2.2.2.1 (nI a))] := rp_u (g := fun q => -q) r2 (Nat.le_of_ble_eq_true rfl) rfl
  obtain ⟨s3, hs3⟩ : ∃ q, q = sperf v 4 0 0 s2 := ⟨_, rfl⟩
  rw [← hs3] at r3
  have r4 : Rep (sperf v 48 0 0 s3) [(sjoin 48 (rat 10 v.2.2.2.2.2.1 (nI a)) (-(rat 10 v.2.2.2.2.2.2 (nI c))))] := rp_b r3 (Nat.le_of_ble_eq_true rfl) rfl
  obtain ⟨s4, hs4⟩ : ∃ q, q = sperf v 48 0 0 s3 := ⟨_, rfl⟩
  rw [← hs4] at r4
  have r5 : Rep (sperf v 3 (lN m).toInt32 0 s4) [(lN m).toInt32, (sjoin 48 (rat 10 v.2.2.2.2.2.1 (nI a)) (-(rat 10 v.2.2.2.2.2.2 (nI c))))] := rp_c r4 (Nat.le_of_ble_eq_true rfl) rfl
  obtain ⟨s5, hs5⟩ : ∃ q, q = sperf v 3 (lN m).toInt32 0 s4 := ⟨_, rfl⟩
  rw [← hs5] at r5
  have r6 : Rep (sperf v 3 (lN 6).toInt32 0 s5) [(lN 6).toInt32, (lN m).toInt32, (sjoin 48 (rat 10 v.2.2.2.2.2.1 (nI a)) (-(rat 10 v.2.2.2.2.2.2 (nI c))))] := rp_c r5 (Nat.le_of_ble_eq_true rfl) rfl
  obtain ⟨s6, hs6⟩ : ∃ q, q = sperf v 3 (lN 6).toInt32 0 s5 := ⟨_, rfl⟩
  rw [← hs6] at r6
  have r7 : Rep (sperf v 14 0 0 s6) [(sjoin 14 (lN m).toInt32 (lN 6).toInt32), (sjoin 48 (rat 10 v.2.2.2.2.2.1 (nI a)) (-(rat 10 v.2.2.2.2.2.2 (nI c))))] := rp_b r6 (Nat.le_of_ble_eq_true rfl) rfl
  obtain ⟨s7, hs7⟩ : ∃ q, q = sperf v 14 0 0 s6 := ⟨_, rfl⟩
  rw [← hs7] at r7
  have r8 : Rep (sperf v 16 0 0 s7) [(sjoin 16 (sjoin 48 (rat 10 v.2.2.2.2.2.1 (nI a)) (-(rat 10 v.2.2.2.2.2.2 (nI c)))) (sjoin 14 (lN m).toInt32 (lN 6).toInt32))] := rp_b r7 (Nat.le_of_ble_eq_true rfl) rfl
  obtain ⟨s8, hs8⟩ : ∃ q, q = sperf v 16 0 0 s7 := ⟨_, rfl⟩
  rw [← hs8] at r8
  have e : srn kq ff fs v (i + 8) i (f0, 0) = s8 := by
    rw [sr_1 (i := i) h0 (by omega) (by omega) (Nat.le_of_ble_eq_true rfl)]; dsimp only; rw [← hs1]
    rw [sr_1 (i := i + 1) h1 (by omega) (by omega) (Nat.le_of_ble_eq_true rfl)]; dsimp only; rw [← hs2]
    rw [sr_1 (i := i + 1 + 1) h2 (by omega) (by omega) (Nat.le_of_ble_eq_true rfl)]; dsimp only; rw [← hs3]
    rw [sr_1 (i := i + 1 + 1 + 1) h3 (by omega) (by omega) (Nat.le_of_ble_eq_true rfl)]; dsimp only; rw [← hs4]
    rw [sr_1 (i := i + 1 + 1 + 1 + 1) h4 (by omega) (by omega) (Nat.le_of_ble_eq_true rfl)]; dsimp only; rw [← hs5]
    rw [sr_1 (i := i + 1 + 1 + 1 + 1 + 1) h5 (by omega) (by omega) (Nat.le_of_ble_eq_true rfl)]; dsimp only; rw [← hs6]
    rw [sr_1 (i := i + 1 + 1 + 1 + 1 + 1 + 1) h6 (by omega) (by omega) (Nat.le_of_ble_eq_true rfl)]; dsimp only; rw [← hs7]
    rw [sr_1 (i := i + 1 + 1 + 1 + 1 + 1 + 1 + 1) h7 (by omega) (by omega) (Nat.le_of_ble_eq_true rfl)]; dsimp only; rw [← hs8]
    exact srn_end (by omega)
  exact hx_e (by omega) (by rw [e]; exact r8)
/-! an order's test in all -/
def wTx (tn : Nat → Nat) (d : Nat → Nat) : List Nat := if d 5 = 1 then ln_w1 (d 6) else if d 5 = 2 then ln_w2 (d 7 % tn 2) else if d 5 = 3 then ln_w3 (d 7 % tn 2) (d 6) else if d 5 = 4 then ln_w4 (d 7 % tn 2) (d 9 % tn 0) (d 8 % tn 2) (d 6) else if d 5 = 5 then ln_w5 (d 7 % tn 2) (d 6) else if d 5 = 6 then ln_w6 (d 6) else if d 5 = 7 then ln_w7 (d 6) else if d 5 = 8 then ln_w8 (d 7 % tn 2) (d 8 % tn 2) (d 6) else []
def wTk (tn : Nat → Nat) (d : Nat → Nat) : List (Nat × Int64) := if d 5 = 1 then tk_w1 (d 6) else if d 5 = 2 then tk_w2 (d 7 % tn 2) else if d 5 = 3 then tk_w3 (d 7 % tn 2) (d 6) else if d 5 = 4 then tk_w4 (d 7 % tn 2) (d 9 % tn 0) (d 8 % tn 2) (d 6) else if d 5 = 5 then tk_w5 (d 7 % tn 2) (d 6) else if d 5 = 6 then tk_w6 (d 6) else if d 5 = 7 then tk_w7 (d 6) else if d 5 = 8 then tk_w8 (d 7 % tn 2) (d 8 % tn 2) (d 6) else []
def wSt (tn : Nat → Nat) (d : Nat → Nat) (X : SX) : SX := if d 5 = 1 then st_w1 (d 6) X else if d 5 = 2 then st_w2 (d 7 % tn 2) X else if d 5 = 3 then st_w3 (d 7 % tn 2) (d 6) X else if d 5 = 4 then st_w4 (d 7 % tn 2) (d 9 % tn 0) (d 8 % tn 2) (d 6) X else if d 5 = 5 then st_w5 (d 7 % tn 2) (d 6) X else if d 5 = 6 then st_w6 (d 6) X else if d 5 = 7 then st_w7 (d 6) X else if d 5 = 8 then st_w8 (d 7 % tn 2) (d 8 % tn 2) (d 6) X else X
def wSl (tn : Nat → Nat) (d : Nat → Nat) : List (Nat × Int32 × Int32) := if d 5 = 1 then [(36, (wcode 0 [100, 97, 121]).toInt32, 0), (3, (lN (d 6)).toInt32, 0), (3, (lN 4).toInt32, 0), (14, 0, 0), (16, 0, 0)] else if d 5 = 2 then [(43, (nI (d 7 % tn 2)), 0), (44, 0, 0)] else if d 5 = 3 then [(40, (nI (d 7 % tn 2)), 0), (3, (lN (d 6)).toInt32, 0), (3, (lN 9).toInt32, 0), (14, 0, 0), (19, 0, 0)] else if d 5 = 4 then [(42, (nI (d 7 % tn 2)), (nI (d 9 % tn 0))), (39, (nI (d 8 % tn 2)), 0), (3, (lN (d 6)).toInt32, 0), (15, 0, 0), (46, 0, 0)] else if d 5 = 5 then [(38, (nI (d 7 % tn 2)), 0), (3, (lN (d 6)).toInt32, 0), (3, (lN 5).toInt32, 0), (14, 0, 0), (18, 0, 0), (37, (wcode 0 [100, 97, 109, 112]).toInt32, 0), (3, (lN (d 6)).toInt32, 0), (3, (lN 20).toInt32, 0), (14, 0, 0), (16, 0, 0), (45, 0, 0), (36, (wcode 0 [100, 97, 121]).toInt32, 0), (3, (lN (d 6)).toInt32, 0), (3, (lN 3).toInt32, 0), (14, 0, 0), (17, 0, 0), (44, 0, 0), (46, 0, 0)] else if d 5 = 6 then [(41, (wcode 0 [99, 111, 105, 110, 115]).toInt32, 0), (3, (lN (d 6)).toInt32, 0), (47, 0, 0), (3, (lN 2).toInt32, 0), (13, 0, 0), (36, (wcode 0 [100, 97, 121]).toInt32, 0), (12, 0, 0), (3, (lN (d 6)).toInt32, 0), (15, 0, 0)] else if d 5 = 7 then [(3, (lN (d 6)).toInt32, 0), (3, (lN 2).toInt32, 0), (14, 0, 0), (3, (lN 2).toInt32, 0), (13, 0, 0), (3, (lN (d 6)).toInt32, 0), (17, 0, 0)] else if d 5 = 8 then [(39, (nI (d 7 % tn 2)), 0), (40, (nI (d 8 % tn 2)), 0), (4, 0, 0), (48, 0, 0), (3, (lN (d 6)).toInt32, 0), (3, (lN 6).toInt32, 0), (14, 0, 0), (16, 0, 0)] else []
theorem wE_1 {tn d : Nat → Nat} {X : SX} (h : d 5 = 1) : wTx tn d = ln_w1 (d 6) ∧ wTk tn d = tk_w1 (d 6) ∧ wSt tn d X = st_w1 (d 6) X ∧ wSl tn d = [(36, (wcode 0 [100, 97, 121]).toInt32, 0), (3, (lN (d 6)).toInt32, 0), (3, (lN 4).toInt32, 0), (14, 0, 0), (16, 0, 0)] := by unfold wTx wTk wSt wSl; rw [h]; exact ⟨rfl, rfl, rfl, rfl⟩
theorem wE_2 {tn d : Nat → Nat} {X : SX} (h : d 5 = 2) : wTx tn d = ln_w2 (d 7 % tn 2) ∧ wTk tn d = tk_w2 (d 7 % tn 2) ∧ wSt tn d X = st_w2 (d 7 % tn 2) X ∧ wSl tn d = [(43, (nI (d 7 % tn 2)), 0), (44, 0, 0)] := by unfold wTx wTk wSt wSl; rw [h]; exact ⟨rfl, rfl, rfl, rfl⟩
theorem wE_3 {tn d : Nat → Nat} {X : SX} (h : d 5 = 3) : wTx tn d = ln_w3 (d 7 % tn 2) (d 6) ∧ wTk tn d = tk_w3 (d 7 % tn 2) (d 6) ∧ wSt tn d X = st_w3 (d 7 % tn 2) (d 6) X ∧ wSl tn d = [(40, (nI (d 7 % tn 2)), 0), (3, (lN (d 6)).toInt32, 0), (3, (lN 9).toInt32, 0), (14, 0, 0), (19, 0, 0)] := by unfold wTx wTk wSt wSl; rw [h]; exact ⟨rfl, rfl, rfl, rfl⟩
theorem wE_4 {tn d : Nat → Nat} {X : SX} (h : d 5 = 4) : wTx tn d = ln_w4 (d 7 % tn 2) (d 9 % tn 0) (d 8 % tn 2) (d 6) ∧ wTk tn d = tk_w4 (d 7 % tn 2) (d 9 % tn 0) (d 8 % tn 2) (d 6) ∧ wSt tn d X = st_w4 (d 7 % tn 2) (d 9 % tn 0) (d 8 % tn 2) (d 6) X ∧ wSl tn d = [(42, (nI (d 7 % tn 2)), (nI (d 9 % tn 0))), (39, (nI (d 8 % tn 2)), 0), (3, (lN (d 6)).toInt32, 0), (15, 0, 0), (46, 0, 0)] := by unfold wTx wTk wSt wSl; rw [h]; exact ⟨rfl, rfl, rfl, rfl⟩
theorem wE_5 {tn d : Nat → Nat} {X : SX} (h : d 5 = 5) : wTx tn d = ln_w5 (d 7 % tn 2) (d 6) ∧ wTk tn d = tk_w5 (d 7 % tn 2) (d 6) ∧ wSt tn d X = st_w5 (d 7 % tn 2) (d 6) X ∧ wSl tn d = [(38, (nI (d 7 % tn 2)), 0), (3, (lN (d 6)).toInt32, 0), (3, (lN 5).toInt32, 0), (14, 0, 0), (18, 0, 0), (37, (wcode 0 [100, 97, 109, 112]).toInt32, 0), (3, (lN (d 6)).toInt32, 0), (3, (lN 20).toInt32, 0), (14, 0, 0), (16, 0, 0), (45, 0, 0), (36, (wcode 0 [100, 97, 121]).toInt32, 0), (3, (lN (d 6)).toInt32, 0), (3, (lN 3).toInt32, 0), (14, 0, 0), (17, 0, 0), (44, 0, 0), (46, 0, 0)] := by unfold wTx wTk wSt wSl; rw [h]; exact ⟨rfl, rfl, rfl, rfl⟩
theorem wE_6 {tn d : Nat → Nat} {X : SX} (h : d 5 = 6) : wTx tn d = ln_w6 (d 6) ∧ wTk tn d = tk_w6 (d 6) ∧ wSt tn d X = st_w6 (d 6) X ∧ wSl tn d = [(41, (wcode 0 [99, 111, 105, 110, 115]).toInt32, 0), (3, (lN (d 6)).toInt32, 0), (47, 0, 0), (3, (lN 2).toInt32, 0), (13, 0, 0), (36, (wcode 0 [100, 97, 121]).toInt32, 0), (12, 0, 0), (3, (lN (d 6)).toInt32, 0), (15, 0, 0)] := by unfold wTx wTk wSt wSl; rw [h]; exact ⟨rfl, rfl, rfl, rfl⟩
theorem wE_7 {tn d : Nat → Nat} {X : SX} (h : d 5 = 7) : wTx tn d = ln_w7 (d 6) ∧ wTk tn d = tk_w7 (d 6) ∧ wSt tn d X = st_w7 (d 6) X ∧ wSl tn d = [(3, (lN (d 6)).toInt32, 0), (3, (lN 2).toInt32, 0), (14, 0, 0), (3, (lN 2).toInt32, 0), (13, 0, 0), (3, (lN (d 6)).toInt32, 0), (17, 0, 0)] := by unfold wTx wTk wSt wSl; rw [h]; exact ⟨rfl, rfl, rfl, rfl⟩
theorem wE_8 {tn d : Nat → Nat} {X : SX} (h : d 5 = 8) : wTx tn d = ln_w8 (d 7 % tn 2) (d 8 % tn 2) (d 6) ∧ wTk tn d = tk_w8 (d 7 % tn 2) (d 8 % tn 2) (d 6) ∧ wSt tn d X = st_w8 (d 7 % tn 2) (d 8 % tn 2) (d 6) X ∧ wSl tn d = [(39, (nI (d 7 % tn 2)), 0), (40, (nI (d 8 % tn 2)), 0), (4, 0, 0), (48, 0, 0), (3, (lN (d 6)).toInt32, 0), (3, (lN 6).toInt32, 0), (14, 0, 0), (16, 0, 0)] := by unfold wTx wTk wSt wSl; rw [h]; exact ⟨rfl, rfl, rfl, rfl⟩
theorem wE_0 {tn d : Nat → Nat} {X : SX} (h : d 5 = 0) : wTx tn d = [] ∧ wTk tn d = [] ∧ wSt tn d X = X ∧ wSl tn d = [] := by unfold wTx wTk wSt wSl; rw [h]; exact ⟨rfl, rfl, rfl, rfl⟩
section
variable {tn d : Nat → Nat} {v : VS} {kq : Nat → Nat} {ff fs f0 : Nat → Int32} {i : Nat}
theorem lN_I {n : Nat} : (lN n).toInt32 = nI n := lN_i n
theorem sq_le {fr : Nat → Int32} {k : Nat} (hk : k < 10) : (!fSq fr (nI k)) = decide (fr k ≤ 7) := by
  by_cases h : fr k ≤ 7
  · rw [sq_f hk h, dt h]; rfl
  · rw [sq_t hk h, df h]; rfl
theorem half {n : Nat} (h : n < 1000) : decide (nI n / nI 2 * nI 2 = nI n) = decide (nI n - nI n / 2 * 2 = 0) := by
  have e : nI n - nI n / 2 * 2 = nI (n % 2) := pk_rem (a := n) (d := 2) (by omega) (by omega) (by omega)
  rw [pk_div (by omega) (by omega) (by omega), pk_mul, e]
  by_cases q : n % 2 = 0
  · rw [dt (show nI (n / 2 * 2) = nI n by rw [show n / 2 * 2 = n by omega]), dt (by rw [q]; rfl)]
  · rw [df (fun z => by have := (nI_eq (by omega) (by omega)).mp z; omega), df (fun z => by have := (nI_eq (a := n % 2) (b := 0) (by omega) (by decide)).mp z; omega)]
theorem mul2 {x : Int32} : x * nI 2 = 2 * x := Int32.mul_comm _ _
/-- the machine says of an order's steps what the law's model says -/
theorem ts_ok (hS : StH kq ff fs i (wSl tn d)) (hi : i + (wSl tn d).length ≤ 400) (h5 : d 5 ≤ 8) (h6 : d 6 < 130) (h2 : 1 ≤ tn 2 ∧ tn 2 ≤ 10) (h0 : 1 ≤ tn 0 ∧ tn 0 ≤ 8) : hxT kq ff fs v i (i + (wSl tn d).length) f0 = sHold tn d v := by
  have ha := Nat.mod_lt (d 7) (y := tn 2) (by omega)
  have hb := Nat.mod_lt (d 8) (y := tn 2) (by omega)
  have hc := Nat.mod_lt (d 9) (y := tn 0) (by omega)
  have h9 : d 5 = 0 ∨ d 5 = 1 ∨ d 5 = 2 ∨ d 5 = 3 ∨ d 5 = 4 ∨ d 5 = 5 ∨ d 5 = 6 ∨ d 5 = 7 ∨ d 5 = 8 := by omega
  rcases h9 with h | h | h | h | h | h | h | h | h
  · rw [sH_0 h, (wE_0 (X := (0, fun _ => 0, fun _ => 0, fun _ => 0)) h).2.2.2]; unfold hxT; rw [decide_eq_true (show i + ([] : List (Nat × Int32 × Int32)).length ≤ i from Nat.le_refl _)]; rfl
  · rw [(wE_1 (X := (0, fun _ => 0, fun _ => 0, fun _ => 0)) h).2.2.2] at hS hi ⊢
    refine (sm_w1 hS hi).trans ?_
    rw [sH_1 h]
    rw [sj_16, lN_I, lN_I, sj_d (by omega) (by omega), bI_ne]; rfl
  · rw [(wE_2 (X := (0, fun _ => 0, fun _ => 0, fun _ => 0)) h).2.2.2] at hS hi ⊢
    refine (sm_w2 hS hi).trans ?_
    rw [sH_2 h]
    rw [bI_not, bI_ne]; exact sq_le (by omega)
  · rw [(wE_3 (X := (0, fun _ => 0, fun _ => 0, fun _ => 0)) h).2.2.2] at hS hi ⊢
    refine (sm_w3 hS hi).trans ?_
    rw [sH_3 h]
    rw [sj_19, lN_I, lN_I, sj_d (by omega) (by omega), bI_ne, rat_nI (by omega) (by decide)]; rfl
  · rw [(wE_4 (X := (0, fun _ => 0, fun _ => 0, fun _ => 0)) h).2.2.2] at hS hi ⊢
    refine (sm_w4 hS hi).trans ?_
    rw [sH_4 h]
    rw [sj_46, sj_15, bI_or, bI_ne, lN_I, rat_nI (by omega) (by decide), rat_nI (by omega) (by decide)]
  · rw [(wE_5 (X := (0, fun _ => 0, fun _ => 0, fun _ => 0)) h).2.2.2] at hS hi ⊢
    refine (sm_w5 hS hi).trans ?_
    rw [sH_5 h]
    rw [sj_46, sj_45, sj_18, sj_16, sj_17, lN_I, lN_I, lN_I, lN_I, sj_d (by omega) (by omega), sj_d (by omega) (by omega), sj_d (by omega) (by omega), bI_and, bI_not, bI_or, bI_ne, rat_nI (by omega) (by decide), decide_not]; rfl
  · rw [(wE_6 (X := (0, fun _ => 0, fun _ => 0, fun _ => 0)) h).2.2.2] at hS hi ⊢
    refine (sm_w6 hS hi).trans ?_
    rw [sH_6 h]
    rw [sj_15, sj_12, sj_13, sj_47, lN_I, lN_I, bI_ne, mul2]
  · rw [(wE_7 (X := (0, fun _ => 0, fun _ => 0, fun _ => 0)) h).2.2.2] at hS hi ⊢
    refine (sm_w7 hS hi).trans ?_
    rw [sH_7 h]
    rw [sj_17, sj_13, lN_I, lN_I, sj_d (by omega) (by omega), bI_ne]; exact half (by omega)
  · rw [(wE_8 (X := (0, fun _ => 0, fun _ => 0, fun _ => 0)) h).2.2.2] at hS hi ⊢
    refine (sm_w8 hS hi).trans ?_
    rw [sH_8 (by omega)]
    rw [sj_16, sj_48, lN_I, lN_I, sj_d (by omega) (by omega), bI_ne, rat_nI (by omega) (by decide), rat_nI (by omega) (by decide)]; rfl
end
