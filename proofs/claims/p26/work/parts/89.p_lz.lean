/-! the letters of a printed list; what the class knows once it has read them -/
def lnC (dt : Nat → Nat → Nat) (k : Nat) : List Nat := (if dt 4 k = 0 then ln_carv0 k (dt 2 k) (dt 3 k) else ln_carv1 k (dt 2 k) (dt 3 k) (dt 4 k - 1)) ++ (if k % 2 = 0 then [59] else [32, 59, 10])
def lnO (tn d : Nat → Nat) : List Nat := (if d 0 = 1 then ln_oil (d 1) else ln_carve (d 2) (d 1) (d 3)) ++ (wTx tn d ++ [59, 10])
def LL (tn : Nat → Nat) (dt od : Nat → Nat → Nat) : List Nat := cat (fun k => ln_beast k (dt 0 k) (dt 1 k)) (tn 0) ++ (cat (lnC dt) (tn 1) ++ (cat (fun k => ln_stall k (dt 5 k)) (tn 2) ++ (cat (fun k => ln_bish k (dt 6 k) (dt 7 k)) (tn 3) ++ cat (fun k => lnO tn (od k)) (tn 4))))
def TT (tn : Nat → Nat) (dt od : Nat → Nat → Nat) : List (Nat × Int64) := cat (fun k => tk_beast k (dt 0 k) (dt 1 k)) (tn 0) ++ (cat (tkC dt) (tn 1) ++ (cat (fun k => tk_stall k (dt 5 k)) (tn 2) ++ (cat (fun k => tk_bish k (dt 6 k) (dt 7 k)) (tn 3) ++ cat (fun k => tkO tn (od k)) (tn 4))))
theorem uN_id {c : Nat → Nat} {j x : Nat} (h : c j = x) : updN c j x = c := by
  funext a
  by_cases q : a = j
  · subst q; exact uN_same.trans h.symm
  · exact uN_ne q
section
variable {sq : Nat → Nat} {sv : Nat → Int64} {c : Nat → Nat} {i j k m n q x : Nat} {fd et : Int32} {dt od : Nat → Nat → Nat} {tn : Nat → Nat} {z : LSt} {X : SX} {t : (Nat → Nat) × (Nat → Nat)}
theorem run_all (hD : DtS tn dt od) (hz : ∀ j, 4 < j → tn j = 0) (hT : TK sq sv 0 (TT tn dt od)) (hend : tSg sq (nI (TT tn dt od).length) = 0) (hX : X.1 = 0) :
    ∃ z', lRun sq sv 400 true (ys 0 fd et X (fun _ => 0) (fun _ _ => 0) (fun _ _ => 0) t) = (true, z') ∧ RS dt od tn et tn (TT tn dt od).length z' := by
  have hn := hD.1
  unfold CntS at hn
  have b0 : RS dt od tn et (updN (fun _ => 0) 0 0) 0 (ys 0 fd et X (fun _ => 0) (fun _ _ => 0) (fun _ _ => 0) t) := by
    rw [uN_id rfl]
    refine ⟨fd, X, t, ?_, by rw [hX]; exact Nat.zero_le _, fun k hk => absurd hk (Nat.not_lt_zero k)⟩
    rw [show NC (fun _ => 0) = fun _ _ => 0 from by funext a b; exact if_neg (fun z => absurd z.2 (Nat.not_lt_zero _)), show trC dt od (fun _ => 0) = fun _ _ => 0 from by funext a b; exact if_neg (fun z => absurd z.2 (Nat.not_lt_zero _))]
  obtain ⟨T0, T1⟩ := TK.app hT
  obtain ⟨T1, T2⟩ := TK.app T1
  obtain ⟨T2, T3⟩ := TK.app T2
  obtain ⟨T3, T4⟩ := TK.app T3
  obtain ⟨z0, g0, a0⟩ := run_cat (c := fun _ => 0) (j := 0) (n := tn 0) (fun k hk i z h hT => sq_beast hD hk (fun _ _ => rfl) h hT) (tn 0) (Nat.le_refl _) _ _ b0 T0
  have b1 : RS dt od tn et (updN (updN (fun _ => 0) 0 (tn 0)) 1 0) (0 + (cat (fun k => tk_beast k (dt 0 k) (dt 1 k)) (tn 0)).length) z0 := by rw [uN_id (c := updN (fun _ => 0) 0 (tn 0)) (j := 1) (x := 0) rfl]; exact a0
  obtain ⟨z1, g1, a1⟩ := run_cat (c := updN (fun _ => 0) 0 (tn 0)) (j := 1) (n := tn 1) (fun k hk i z h hT => sq_carv hD uN_same hk h hT) (tn 1) (Nat.le_refl _) _ _ b1 T1
  have b2 : RS dt od tn et (updN (updN (updN (fun _ => 0) 0 (tn 0)) 1 (tn 1)) 2 0) (0 + (cat (fun k => tk_beast k (dt 0 k) (dt 1 k)) (tn 0)).length + (cat (tkC dt) (tn 1)).length) z1 := by rw [uN_id (c := updN (updN (fun _ => 0) 0 (tn 0)) 1 (tn 1)) (j := 2) (x := 0) rfl]; exact a1
  obtain ⟨z2, g2, a2⟩ := run_cat (c := updN (updN (fun _ => 0) 0 (tn 0)) 1 (tn 1)) (j := 2) (n := tn 2) (fun k hk i z h hT => sq_stall hD hk h hT) (tn 2) (Nat.le_refl _) _ _ b2 T2
  have b3 : RS dt od tn et (updN (updN (updN (updN (fun _ => 0) 0 (tn 0)) 1 (tn 1)) 2 (tn 2)) 3 0) (0 + (cat (fun k => tk_beast k (dt 0 k) (dt 1 k)) (tn 0)).length + (cat (tkC dt) (tn 1)).length + (cat (fun k => tk_stall k (dt 5 k)) (tn 2)).length) z2 := by rw [uN_id (c := updN (updN (updN (fun _ => 0) 0 (tn 0)) 1 (tn 1)) 2 (tn 2)) (j := 3) (x := 0) rfl]; exact a2
  obtain ⟨z3, g3, a3⟩ := run_cat (c := updN (updN (updN (fun _ => 0) 0 (tn 0)) 1 (tn 1)) 2 (tn 2)) (j := 3) (n := tn 3) (fun k hk i z h hT => sq_bish hD hk h hT) (tn 3) (Nat.le_refl _) _ _ b3 T3
  have b4 : RS dt od tn et (updN (updN (updN (updN (updN (fun _ => 0) 0 (tn 0)) 1 (tn 1)) 2 (tn 2)) 3 (tn 3)) 4 0) (0 + (cat (fun k => tk_beast k (dt 0 k) (dt 1 k)) (tn 0)).length + (cat (tkC dt) (tn 1)).length + (cat (fun k => tk_stall k (dt 5 k)) (tn 2)).length + (cat (fun k => tk_bish k (dt 6 k) (dt 7 k)) (tn 3)).length) z3 := by rw [uN_id (c := updN (updN (updN (updN (fun _ => 0) 0 (tn 0)) 1 (tn 1)) 2 (tn 2)) 3 (tn 3)) (j := 4) (x := 0) rfl]; exact a3
  obtain ⟨z4, g4, a4⟩ := run_cat (c := updN (updN (updN (updN (fun _ => 0) 0 (tn 0)) 1 (tn 1)) 2 (tn 2)) 3 (tn 3)) (j := 4) (n := tn 4) (fun k hk i z h hT => sq_ord hD rfl rfl rfl hk h hT) (tn 4) (Nat.le_refl _) _ _ b4 T4
  have ec : updN (updN (updN (updN (updN (fun _ => 0) 0 (tn 0)) 1 (tn 1)) 2 (tn 2)) 3 (tn 3)) 4 (tn 4) = tn := by
    funext a
    rcases (by omega : a = 0 ∨ a = 1 ∨ a = 2 ∨ a = 3 ∨ a = 4 ∨ 4 < a) with r | r | r | r | r | r
    · subst r; rfl
    · subst r; rfl
    · subst r; rfl
    · subst r; rfl
    · subst r; rfl
    · rw [uN_ne (by omega), uN_ne (by omega), uN_ne (by omega), uN_ne (by omega), uN_ne (by omega), hz a r]
  rw [ec] at a4
  have el : 0 + (cat (fun k => tk_beast k (dt 0 k) (dt 1 k)) (tn 0)).length + (cat (tkC dt) (tn 1)).length + (cat (fun k => tk_stall k (dt 5 k)) (tn 2)).length + (cat (fun k => tk_bish k (dt 6 k) (dt 7 k)) (tn 3)).length + (cat (fun k => tkO tn (od k)) (tn 4)).length = (TT tn dt od).length := by
    unfold TT
    rw [List.length_append, List.length_append, List.length_append, List.length_append]; omega
  rw [el] at a4
  refine ⟨z4, ?_, a4⟩
  obtain ⟨r, hr⟩ : ∃ r, 400 = r + tn 4 + tn 3 + tn 2 + tn 1 + tn 0 := ⟨400 - (tn 4 + tn 3 + tn 2 + tn 1 + tn 0), by omega⟩
  rw [hr, g0, g1, g2, g3, g4]
  obtain ⟨fd', X', t', e, _⟩ := a4
  rw [e]
  exact lRun_c hend
end
/-! letters -/
def ChZ (f : Nat → Int32) (n : Nat) : Nat → List (Nat × Int64) → Prop
  | p, [] => skp f n p = n
  | p, t :: T => ∃ q, TokAt f n p q t.1 t.2 ∧ ChZ f n q T
section
variable {f : Nat → Int32} {n p e k : Nat} {R A E : List Nat} {T T2 G : List (Nat × Int64)} {tn d : Nat → Nat} {dt od : Nat → Nat → Nat}
theorem cz_app : ∀ {T : List (Nat × Int64)} {p : Nat}, Chain f n p T e → ChZ f n e T2 → ChZ f n p (T ++ T2) := by
  intro T
  induction T with
  | nil => intro p h h2; have h : p = e := h; subst h; exact h2
  | cons t T ih => intro p h h2; obtain ⟨q, h3, h4⟩ := h; exact ⟨q, h3, ih h4 h2⟩
theorem cz_bl {x : Nat} (h : Hold f p (x :: R)) (hx : bl x = true) (hn : p < n) (h2 : ChZ f n (p + 1) T) : ChZ f n p T := by
  have e1 : skp f n p = skp f n (p + 1) := by
    unfold skp
    rw [show n - p = (n - (p + 1)) + 1 by omega]
    show (if isB (f p) = true then skb f (n - (p + 1)) (p + 1) else p) = _
    rw [if_pos (by rw [h.1, (cls x (bl_lt hx)).2.2]; exact hx)]
  match T, h2 with
  | [], h2 => exact e1.trans h2
  | t :: T, h2 =>
    obtain ⟨q, ⟨a1, a2, a3, a4⟩, h4⟩ := h2
    exact ⟨q, ⟨by rw [e1]; exact a1, by rw [e1]; exact a2, by rw [e1]; exact a3, by rw [e1]; exact a4⟩, h4⟩
theorem lz (hn : p + (A ++ R).length = n) (hc : (∀ p', Hold f p' R → p' + R.length = n → Chain f n p' [] (p + A.length)) → Chain f n p (G ++ []) (p + A.length)) (k : ChZ f n (p + A.length) T) : ChZ f n p (G ++ T) := by
  have h1 := hc (fun p' _ h => by show p' = p + A.length; rw [List.length_append] at hn; omega)
  rw [List.append_nil] at h1
  exact cz_app h1 k
theorem cz_cat {F : Nat → List Nat} {G : Nat → List (Nat × Int64)} {m : Nat} (step : ∀ k, k < m → ∀ p R T, Hold f p (F k ++ R) → p + (F k ++ R).length = n → ChZ f n (p + (F k).length) T → ChZ f n p (G k ++ T)) : ∀ k, k ≤ m → ∀ p R T, Hold f p (cat F k ++ R) → p + (cat F k ++ R).length = n → ChZ f n (p + (cat F k).length) T → ChZ f n p (cat G k ++ T) := by
  intro k
  induction k with
  | zero => intro _ p R T _ _ h; exact h
  | succ k ih =>
    intro hk p R T h hn h2
    have h : Hold f p ((cat F k ++ F k) ++ R) := h
    have hn : p + ((cat F k ++ F k) ++ R).length = n := hn
    have h2 : ChZ f n (p + (cat F k ++ F k).length) T := h2
    show ChZ f n p ((cat G k ++ G k) ++ T)
    rw [List.append_assoc] at h hn ⊢
    refine ih (by omega) p (F k ++ R) (G k ++ T) h hn (step k (by omega) _ R T h.app.2 ?_ ?_)
    · rw [List.length_append] at hn; omega
    · rw [List.length_append, ← Nat.add_assoc] at h2; exact h2
/-- ; behind a line -/
theorem cz_se (h : Hold f p (59 :: R)) (hn : p + (59 :: R).length = n) (k : ChZ f n (p + 1) T) : ChZ f n p ((9, 0) :: T) :=
  lz (A := [59]) (G := [(9, 0)]) hn (fun kk => ch_s (B := []) (x := 59) h hn (by decide) (by decide) ⟨rfl, rfl, rfl⟩ (by decide +kernel) (by decide +kernel) kk) k
theorem nal_w (h5 : d 5 ≤ 8) : nal (wTx tn d ++ (59 :: R)) := by
  have h9 : d 5 = 0 ∨ d 5 = 1 ∨ d 5 = 2 ∨ d 5 = 3 ∨ d 5 = 4 ∨ d 5 = 5 ∨ d 5 = 6 ∨ d 5 = 7 ∨ d 5 = 8 := by omega
  rcases h9 with h | h | h | h | h | h | h | h | h
  · rw [(wE_0 (X := (0, fun _ => 0, fun _ => 0, fun _ => 0)) h).1]; exact ⟨by decide, rfl, rfl⟩
  · rw [(wE_1 (X := (0, fun _ => 0, fun _ => 0, fun _ => 0)) h).1]; exact ⟨by decide, rfl, rfl⟩
  · rw [(wE_2 (X := (0, fun _ => 0, fun _ => 0, fun _ => 0)) h).1]; exact ⟨by decide, rfl, rfl⟩
  · rw [(wE_3 (X := (0, fun _ => 0, fun _ => 0, fun _ => 0)) h).1]; exact ⟨by decide, rfl, rfl⟩
  · rw [(wE_4 (X := (0, fun _ => 0, fun _ => 0, fun _ => 0)) h).1]; exact ⟨by decide, rfl, rfl⟩
  · rw [(wE_5 (X := (0, fun _ => 0, fun _ => 0, fun _ => 0)) h).1]; exact ⟨by decide, rfl, rfl⟩
  · rw [(wE_6 (X := (0, fun _ => 0, fun _ => 0, fun _ => 0)) h).1]; exact ⟨by decide, rfl, rfl⟩
  · rw [(wE_7 (X := (0, fun _ => 0, fun _ => 0, fun _ => 0)) h).1]; exact ⟨by decide, rfl, rfl⟩
  · rw [(wE_8 (X := (0, fun _ => 0, fun _ => 0, fun _ => 0)) h).1]; exact ⟨by decide, rfl, rfl⟩
theorem ndg_of : ∀ {L : List Nat}, nal L → ndg L
  | [], _ => trivial
  | _ :: _, h => ⟨h.1, h.2.2⟩
theorem lz_w (h5 : d 5 ≤ 8) (h6 : d 6 < 130) (h0 : 1 ≤ tn 0 ∧ tn 0 ≤ 8) (h2 : 1 ≤ tn 2 ∧ tn 2 ≤ 10) (h : Hold f p (wTx tn d ++ (59 :: R))) (hn : p + (wTx tn d ++ (59 :: R)).length = n) (k : ChZ f n (p + (wTx tn d).length) T) : ChZ f n p (wTk tn d ++ T) := by
  have ha := Nat.mod_lt (d 7) (y := tn 2) (by omega)
  have hb := Nat.mod_lt (d 8) (y := tn 2) (by omega)
  have hq := Nat.mod_lt (d 9) (y := tn 0) (by omega)
  have h9 : d 5 = 0 ∨ d 5 = 1 ∨ d 5 = 2 ∨ d 5 = 3 ∨ d 5 = 4 ∨ d 5 = 5 ∨ d 5 = 6 ∨ d 5 = 7 ∨ d 5 = 8 := by omega
  rcases h9 with e | e | e | e | e | e | e | e | e
  · rw [(wE_0 (X := (0, fun _ => 0, fun _ => 0, fun _ => 0)) e).1] at k
    rw [(wE_0 (X := (0, fun _ => 0, fun _ => 0, fun _ => 0)) e).2.1]
    exact k
  · have ew := wE_1 (tn := tn) (X := (0, fun _ => 0, fun _ => 0, fun _ => 0)) e
    rw [ew.1] at h hn k
    rw [ew.2.1]
    exact lz hn (fun kk => ch_w1 (by omega) (show ndg (59 :: R) from ⟨by decide, rfl⟩) h hn kk) k
  · have ew := wE_2 (tn := tn) (X := (0, fun _ => 0, fun _ => 0, fun _ => 0)) e
    rw [ew.1] at h hn k
    rw [ew.2.1]
    exact lz hn (fun kk => ch_w2 (by omega) (show nal (59 :: R) from ⟨by decide, rfl, rfl⟩) h hn kk) k
  · have ew := wE_3 (tn := tn) (X := (0, fun _ => 0, fun _ => 0, fun _ => 0)) e
    rw [ew.1] at h hn k
    rw [ew.2.1]
    exact lz hn (fun kk => ch_w3 (by omega) (by omega) (show ndg (59 :: R) from ⟨by decide, rfl⟩) h hn kk) k
  · have ew := wE_4 (tn := tn) (X := (0, fun _ => 0, fun _ => 0, fun _ => 0)) e
    rw [ew.1] at h hn k
    rw [ew.2.1]
    exact lz hn (fun kk => ch_w4 (by omega) (by omega) (by omega) (by omega) (show ndg (59 :: R) from ⟨by decide, rfl⟩) h hn kk) k
  · have ew := wE_5 (tn := tn) (X := (0, fun _ => 0, fun _ => 0, fun _ => 0)) e
    rw [ew.1] at h hn k
    rw [ew.2.1]
    exact lz hn (fun kk => ch_w5 (by omega) (by omega) (show ndg (59 :: R) from ⟨by decide, rfl⟩) h hn kk) k
  · have ew := wE_6 (tn := tn) (X := (0, fun _ => 0, fun _ => 0, fun _ => 0)) e
    rw [ew.1] at h hn k
    rw [ew.2.1]
    exact lz hn (fun kk => ch_w6 (by omega) (show ndg (59 :: R) from ⟨by decide, rfl⟩) h hn kk) k
  · have ew := wE_7 (tn := tn) (X := (0, fun _ => 0, fun _ => 0, fun _ => 0)) e
    rw [ew.1] at h hn k
    rw [ew.2.1]
    exact lz hn (fun kk => ch_w7 (by omega) (show ndg (59 :: R) from ⟨by decide, rfl⟩) h hn kk) k
  · have ew := wE_8 (tn := tn) (X := (0, fun _ => 0, fun _ => 0, fun _ => 0)) e
    rw [ew.1] at h hn k
    rw [ew.2.1]
    exact lz hn (fun kk => ch_w8 (by omega) (by omega) (by omega) (show ndg (59 :: R) from ⟨by decide, rfl⟩) h hn kk) k
theorem lz_C (h2 : dt 2 k ≤ 9) (h3 : dt 3 k ≤ 9) (h4 : dt 4 k ≤ 9) (hk : k < 10) (h : Hold f p (lnC dt k ++ R)) (hn : p + (lnC dt k ++ R).length = n) (kz : ChZ f n (p + (lnC dt k).length) T) : ChZ f n p (tkC dt k ++ T) := by
  unfold lnC at h hn kz
  unfold tkC
  rw [List.append_assoc] at h hn ⊢
  rw [List.length_append, ← Nat.add_assoc] at kz
  have hA := h.app.2
  have hlen := hn
  rw [List.length_append, ← Nat.add_assoc] at hlen
  have hS : ChZ f n (p + (if dt 4 k = 0 then ln_carv0 k (dt 2 k) (dt 3 k) else ln_carv1 k (dt 2 k) (dt 3 k) (dt 4 k - 1)).length) ([(9, 0)] ++ T) := by
    generalize p + (if dt 4 k = 0 then ln_carv0 k (dt 2 k) (dt 3 k) else ln_carv1 k (dt 2 k) (dt 3 k) (dt 4 k - 1)).length = p2 at hA kz hlen ⊢
    by_cases hp : k % 2 = 0
    · rw [if_pos hp] at hA kz hlen
      exact cz_se hA hlen kz
    · rw [if_neg hp] at hA kz hlen
      have hl3 : p2 + (R.length + 3) = n := by rw [List.length_append] at hlen; simp only [List.length_cons, List.length_nil] at hlen; omega
      exact cz_bl hA rfl (by omega) (cz_se hA.2 (by rw [List.length_cons]; show p2 + 1 + ((10 :: R).length + 1) = n; rw [List.length_cons]; omega) (cz_bl hA.2.2 rfl (by omega) kz))
  have hR : nal ((if k % 2 = 0 then [59] else [32, 59, 10]) ++ R) := by split <;> exact ⟨by decide, rfl, rfl⟩
  by_cases h0 : dt 4 k = 0
  · rw [if_pos h0] at h hn hS ⊢
    exact lz hn (fun kk => ch_carv0 (by omega) (by omega) (by omega) (ndg_of hR) h hn kk) hS
  · rw [if_neg h0] at h hn hS ⊢
    exact lz hn (fun kk => ch_carv1 (by omega) (by omega) (by omega) (by omega) hR h hn kk) hS
theorem lz_O (h1 : d 1 < 10) (h2 : d 2 < 10) (h3 : d 3 < 10) (h5 : d 5 ≤ 8) (h6 : d 6 < 130) (t0 : 1 ≤ tn 0 ∧ tn 0 ≤ 8) (t2 : 1 ≤ tn 2 ∧ tn 2 ≤ 10) (h : Hold f p (lnO tn d ++ R)) (hn : p + (lnO tn d ++ R).length = n) (kz : ChZ f n (p + (lnO tn d).length) T) : ChZ f n p (tkO tn d ++ T) := by
  unfold lnO at h hn kz
  unfold tkO
  rw [List.append_assoc, List.append_assoc] at h hn ⊢
  rw [List.length_append, List.length_append, ← Nat.add_assoc, ← Nat.add_assoc] at kz
  have hA := h.app.2
  have hlen := hn
  rw [List.length_append, ← Nat.add_assoc] at hlen
  have hS : ChZ f n (p + (if d 0 = 1 then ln_oil (d 1) else ln_carve (d 2) (d 1) (d 3)).length) (wTk tn d ++ ([(9, 0)] ++ T)) := by
    generalize p + (if d 0 = 1 then ln_oil (d 1) else ln_carve (d 2) (d 1) (d 3)).length = p2 at hA kz hlen ⊢
    have hn2 : p2 + (wTx tn d ++ ([59, 10] ++ R)).length = n := hlen
    refine lz_w h5 h6 t0 t2 (R := 10 :: R) hA hn2 ?_
    have hB := hA.app.2
    rw [List.length_append] at hn2
    have hl2 : p2 + (wTx tn d).length + (R.length + 2) = n := by
      have : ([59, 10] ++ R).length = R.length + 2 := rfl
      omega
    generalize p2 + (wTx tn d).length = p3 at hB kz hl2 ⊢
    exact cz_se hB (by show p3 + (R.length + 2) = n; omega) (cz_bl hB.2 rfl (by omega) kz)
  have hR := nal_w (tn := tn) (d := d) (R := 10 :: R) h5
  by_cases h0 : d 0 = 1
  · rw [if_pos h0] at h hn hS ⊢
    exact lz hn (fun kk => ch_oil h1 hR h hn kk) hS
  · rw [if_neg h0] at h hn hS ⊢
    exact lz hn (fun kk => ch_carve h2 h1 h3 hR h hn kk) hS
theorem lz_all (hD : DtS tn dt od) (h : Hold f 0 (LL tn dt od)) : ChZ f (LL tn dt od).length 0 (TT tn dt od) := by
  have hn := hD.1
  unfold CntS at hn
  have hl : 0 + (LL tn dt od ++ []).length = (LL tn dt od).length := by rw [List.append_nil, Nat.zero_add]
  rw [← List.append_nil (LL tn dt od)] at h
  generalize hN : (LL tn dt od).length = n at hl ⊢
  unfold LL at h hl
  unfold TT
  rw [← List.append_nil (cat (fun k => tkO tn (od k)) (tn 4))]
  simp only [List.append_assoc] at h hl ⊢
  refine cz_cat (fun k hk p R T h hn k => by obtain ⟨d1, d2, d3⟩ := hD.2.1 _ hk; exact lz hn (fun kk => ch_beast (by omega) (by omega) (by omega) h hn kk) k) (tn 0) (Nat.le_refl _) _ _ _ h hl ?_
  have h1 := h.app.2
  rw [List.length_append, ← Nat.add_assoc] at hl
  refine cz_cat (fun k hk p R T h hn kz => by obtain ⟨d1, d2, d3, d4, d5⟩ := hD.2.2.1 _ hk; exact lz_C (by omega) (by omega) (by omega) (by omega) h hn kz) (tn 1) (Nat.le_refl _) _ _ _ h1 hl ?_
  have h2 := h1.app.2
  rw [List.length_append, ← Nat.add_assoc] at hl
  refine cz_cat (fun k hk p R T h hn k => by obtain ⟨d1, d2⟩ := hD.2.2.2.1 _ hk; exact lz hn (fun kk => ch_stall (by omega) (by omega) h hn kk) k) (tn 2) (Nat.le_refl _) _ _ _ h2 hl ?_
  have h3 := h2.app.2
  rw [List.length_append, ← Nat.add_assoc] at hl
  refine cz_cat (fun k hk p R T h hn k => by obtain ⟨d1, d2⟩ := hD.2.2.2.2.1 _ hk; exact lz hn (fun kk => ch_bish (by omega) (by omega) (by omega) h hn kk) k) (tn 3) (Nat.le_refl _) _ _ _ h3 hl ?_
  have h4 := h3.app.2
  rw [List.length_append, ← Nat.add_assoc] at hl
  refine cz_cat (fun k hk p R T h hn kz => by obtain ⟨o0, o1, o2, o3, o5, o6, _⟩ := hD.2.2.2.2.2 _ hk; exact lz_O (by omega) (by omega) (by omega) o5 o6 (by omega) (by omega) h hn kz) (tn 4) (Nat.le_refl _) _ _ _ h4 hl ?_
  rw [List.length_append, ← Nat.add_assoc] at hl
  show skp f n _ = n
  rw [List.length_nil, Nat.add_zero] at hl
  rw [hl]
  exact skp_end (Nat.le_refl _)
end
