/-! what the class answers, place by place -/
def nbr (fb : Nat → Int32) : Nat → Nat
  | 0 => 0
  | k + 1 => nbr fb k + (if fb k = (-1) then 0 else 1)
section
variable {tn : Nat → Nat} {tr : Nat → Nat → Int32} {od : Nat → Nat → Nat} {c : CS} {dd m k i n b e : Nat} {T : Nat → VS → Bool} {x : Int32} {fb fq : Nat → Int32} {bg : Nat → Int32}
theorem nbr_t (h : fb i = (-1)) : nbr fb i = nbr fb (i + 1) := by
  show _ = nbr fb i + (if fb i = (-1) then 0 else 1); rw [if_pos h]; rfl
theorem nbr_f (h : ¬ fb i = (-1)) : nbr fb i + 1 = nbr fb (i + 1) := by
  show _ = nbr fb i + (if fb i = (-1) then 0 else 1); rw [if_neg h]
theorem nbr_le : ∀ i, nbr fb i ≤ i := by
  intro i
  induction i with
  | zero => exact Nat.le_refl _
  | succ i ih => show nbr fb i + (if fb i = (-1) then 0 else 1) ≤ i + 1; split <;> omega
theorem bear_s : fBear fb x (i + 1) = fBear fb x i + (if rat 10 fb (nI i) = x then 1 else 0) := rfl
theorem nbr_B : ∀ n, n ≤ 10 → fBear fb (-1) n = nI (n - nbr fb n) := by
  intro n
  induction n with
  | zero => intro _; rfl
  | succ n ih =>
    intro h
    have hl := nbr_le (fb := fb) n
    rw [bear_s, ih (by omega), rat_nI (by omega) (by decide)]
    by_cases q : fb n = (-1)
    · rw [if_pos q, ← nbr_t q, nI_1]; congr 1; omega
    · rw [if_neg q, ← nbr_f q, Int32.add_zero]; congr 1; omega
theorem nbr_I (hn : n ≤ 10) : nI n - fBear fb (-1) n = nI (nbr fb n) := by
  have hl := nbr_le (fb := fb) n
  rw [nbr_B n hn, pk_sub (by omega)]; congr 1; omega
theorem qua_t (hi : i < 10) (h : fb i = (-1)) : fQua fb fq i = fQua fb fq (i + 1) := by
  show _ = fQua fb fq i + (if rat 10 fb (nI i) = (-1) then 0 else rat 10 fq (nI i))
  rw [rat_nI hi (by decide), if_pos h, Int32.add_zero]
theorem qua_f (hi : i < 10) (h : ¬ fb i = (-1)) : fQua fb fq i + fq i = fQua fb fq (i + 1) := by
  show _ = fQua fb fq i + (if rat 10 fb (nI i) = (-1) then 0 else rat 10 fq (nI i))
  rw [rat_nI hi (by decide), if_neg h, rat_nI hi (by decide)]
theorem bg_t (hi : i < 10) (h : fb i = (-1)) (hn : n < 100) (hb : ∀ b, b < n → bg b = fBear fb (nI b) i) : ∀ b, b < n → bg b = fBear fb (nI b) (i + 1) := fun b h2 => by
  rw [bear_s, rat_nI hi (by decide), h, if_neg (fun q => nI_nm1 (n := b) (by omega) q.symm), Int32.add_zero]; exact hb b h2
theorem bg_f (hi : i < 10) (h : fb i = nI e) (he : e < n) (hn : n < 100) (hb : ∀ b, b < n → bg b = fBear fb (nI b) i) : ∀ b, b < n → upd bg e (bg e + 1) b = fBear fb (nI b) (i + 1) := fun b h2 => by
  rw [bear_s, rat_nI hi (by decide), h]
  by_cases q : b = e
  · subst q; rw [pk_us, if_pos rfl, hb b h2]
  · rw [pk_un q, if_neg (fun z => q ((nI_eq (by omega) (by omega)).mp z).symm), Int32.add_zero]; exact hb b h2
theorem dlt_a (hk : k < 10) (h : c.1.2.2.2.1 k = (-1)) : 0 = fDlt tr tn c k := by
  unfold fDlt; split
  · rfl
  · exact del_no hk h
theorem dlt_b (h : fBsp tr c.1.1 (tn 3) = (-1)) : 0 = fDlt tr tn c k := (if_pos h).symm
theorem dlt_c (hb : b < 1000) (h : fBsp tr c.1.1 (tn 3) = nI b) : fDel tr c.1.2.2.2.1 c.1.2.2.2.2.1 (nI b) (nI k) = fDlt tr tn c k := by
  unfold fDlt; rw [if_neg (by rw [h]; exact nI_nm1 (by omega)), h]
theorem bsp_m1 (hn : tn 3 ≤ 6) (h : fBsp tr c.1.1 (tn 3) < 0) : fBsp tr c.1.1 (tn 3) = (-1) := by
  rcases BI_x (fBsp_BI (tr := tr) (day := c.1.1) (n := tn 3) hn) with z | ⟨b, hb, z⟩
  · exact z
  · rw [z] at h; exact absurd h (nI_pos (by omega))
theorem bsp_ge (hn : tn 3 ≤ 6) (h : 0 ≤ fBsp tr c.1.1 (tn 3)) : ∃ b, b < tn 3 ∧ fBsp tr c.1.1 (tn 3) = nI b := (BI_x (fBsp_BI (tr := tr) (day := c.1.1) (n := tn 3) hn)).resolve_left (fun z => by rw [z] at h; exact absurd h (by decide))
theorem due_1 (ho : OrdS tn tr od k) (hk : k < 20) (h0 : od k 0 = 1) : fDue tr T c.1 k = T k c.1 := by
  unfold fDue
  rw [rat_nI (f := tr 9) hk (by decide), (ho.2.2.2 h0).1, df (p := ¬ (-1 : Int32) = (-1)) (fun q => q rfl), Bool.not_false, Bool.or_true, Bool.true_and]
theorem due_0 (hn : tn 0 < 1000) (ho : OrdS tn tr od k) (hk : k < 20) (h0 : ¬ od k 0 = 1) : fDue tr T c.1 k = (fOpen tr c.1.2.2.2.1 (nI k) && T k c.1) := by
  unfold fDue
  have hb := ho.1
  rw [rat_nI (f := tr 9) hk (by decide), (ho.2.2.1 (by omega)).1, dt (p := ¬ nI (od k 2) = (-1)) (nI_nm1 (by omega)), Bool.not_true, Bool.or_false]
theorem ord_9 (ho : OrdS tn tr od k) (h0 : od k 0 = 1) : (-1) = tr 9 k := (ho.2.2.2 h0).1.symm
theorem ord_A (ho : OrdS tn tr od k) (h0 : od k 0 = 1) : (-1) = tr 10 k := (ho.2.2.2 h0).2.symm
theorem ord_90 (ho : OrdS tn tr od k) (h0 : ¬ od k 0 = 1) : nI (od k 2) = tr 9 k := (ho.2.2.1 (by have := ho.1; omega)).1.symm
theorem ord_A0 (ho : OrdS tn tr od k) (h0 : ¬ od k 0 = 1) : nI (od k 3) = tr 10 k := (ho.2.2.1 (by have := ho.1; omega)).2.symm
theorem bst_0 (hk : k < 8) : fBst tr tn c k (nI 0) = tr 0 k := by unfold fBst; rw [if_pos (by decide), rat_nI hk (by decide)]
theorem bst_1 (hk : k < 8) : fBst tr tn c k (nI 1) = tr 1 k := by unfold fBst; rw [if_neg (by decide), if_pos (by decide), rat_nI hk (by decide)]
theorem bst_2 : fBst tr tn c k (nI 2) = fBear c.1.2.2.2.1 (nI k) (tn 2) := by unfold fBst; rw [if_neg (by decide), if_neg (by decide)]
theorem stl_7 (hk : k < 10) : ∀ w, w < 7 → (upd (upd (upd (upd (upd (upd (upd (fun _ => 0) 0 (tr 5 k)) 1 (c.1.2.2.2.1 k)) 2 (c.1.2.2.2.2.1 k)) 3 (c.1.2.2.2.2.2.1 k)) 4 (c.1.2.2.2.2.2.2 k)) 5 (bI (fSq c.1.2.2.2.2.2.2 (nI k)))) 6 (fDlt tr tn c k)) w = fStl tr tn c k (nI w) := by
  intro w hw
  match w, hw with
  | 0, _ => exact ((pk_un (by decide)).trans ((pk_un (by decide)).trans ((pk_un (by decide)).trans ((pk_un (by decide)).trans ((pk_un (by decide)).trans ((pk_un (by decide)).trans (pk_us))))))).trans (show fStl tr tn c k (nI 0) = (tr 5 k) from by unfold fStl; rw [if_pos (by decide), rat_nI (f := tr 5) (n := 10) (k := k) (by omega) (by decide)]).symm
  | 1, _ => exact ((pk_un (by decide)).trans ((pk_un (by decide)).trans ((pk_un (by decide)).trans ((pk_un (by decide)).trans ((pk_un (by decide)).trans (pk_us)))))).trans (show fStl tr tn c k (nI 1) = (c.1.2.2.2.1 k) from by unfold fStl; rw [if_neg (by decide), if_pos (by decide), rat_nI (f := c.1.2.2.2.1) (n := 10) (k := k) (by omega) (by decide)]).symm
  | 2, _ => exact ((pk_un (by decide)).trans ((pk_un (by decide)).trans ((pk_un (by decide)).trans ((pk_un (by decide)).trans (pk_us))))).trans (show fStl tr tn c k (nI 2) = (c.1.2.2.2.2.1 k) from by unfold fStl; rw [if_neg (by decide), if_neg (by decide), if_pos (by decide), rat_nI (f := c.1.2.2.2.2.1) (n := 10) (k := k) (by omega) (by decide)]).symm
  | 3, _ => exact ((pk_un (by decide)).trans ((pk_un (by decide)).trans ((pk_un (by decide)).trans (pk_us)))).trans (show fStl tr tn c k (nI 3) = (c.1.2.2.2.2.2.1 k) from by unfold fStl; rw [if_neg (by decide), if_neg (by decide), if_neg (by decide), if_pos (by decide), rat_nI (f := c.1.2.2.2.2.2.1) (n := 10) (k := k) (by omega) (by decide)]).symm
  | 4, _ => exact ((pk_un (by decide)).trans ((pk_un (by decide)).trans (pk_us))).trans (show fStl tr tn c k (nI 4) = (c.1.2.2.2.2.2.2 k) from by unfold fStl; rw [if_neg (by decide), if_neg (by decide), if_neg (by decide), if_neg (by decide), if_pos (by decide), rat_nI (f := c.1.2.2.2.2.2.2) (n := 10) (k := k) (by omega) (by decide)]).symm
  | 5, _ => exact ((pk_un (by decide)).trans (pk_us)).trans (show fStl tr tn c k (nI 5) = (bI (fSq c.1.2.2.2.2.2.2 (nI k))) from by unfold fStl; rw [if_neg (by decide), if_neg (by decide), if_neg (by decide), if_neg (by decide), if_neg (by decide), if_pos (by decide)]).symm
  | 6, _ => exact (pk_us).trans (show fStl tr tn c k (nI 6) = (fDlt tr tn c k) from by unfold fStl; rw [if_neg (by decide), if_neg (by decide), if_neg (by decide), if_neg (by decide), if_neg (by decide), if_neg (by decide)]).symm
  | w + 7, h => exact absurd h (by omega)
theorem cvr_5 (hk : k < 5) : ∀ w, w < 5 → (upd (upd (upd (upd (upd (fun _ => 0) 0 (tr 2 k)) 1 (tr 3 k)) 2 (tr 4 k)) 3 (oI (fToday tr (tn 4) T c.1 k))) 4 (c.2.2.2 k)) w = fCvr tr tn T c k (nI w) := by
  intro w hw
  match w, hw with
  | 0, _ => exact ((pk_un (by decide)).trans ((pk_un (by decide)).trans ((pk_un (by decide)).trans ((pk_un (by decide)).trans (pk_us))))).trans (show fCvr tr tn T c k (nI 0) = (tr 2 k) from by unfold fCvr; rw [if_pos (by decide), rat_nI (f := tr 2) (n := 5) (k := k) (by omega) (by decide)]).symm
  | 1, _ => exact ((pk_un (by decide)).trans ((pk_un (by decide)).trans ((pk_un (by decide)).trans (pk_us)))).trans (show fCvr tr tn T c k (nI 1) = (tr 3 k) from by unfold fCvr; rw [if_neg (by decide), if_pos (by decide), rat_nI (f := tr 3) (n := 5) (k := k) (by omega) (by decide)]).symm
  | 2, _ => exact ((pk_un (by decide)).trans ((pk_un (by decide)).trans (pk_us))).trans (show fCvr tr tn T c k (nI 2) = (tr 4 k) from by unfold fCvr; rw [if_neg (by decide), if_neg (by decide), if_pos (by decide), rat_nI (f := tr 4) (n := 5) (k := k) (by omega) (by decide)]).symm
  | 3, _ => exact ((pk_un (by decide)).trans (pk_us)).trans (show fCvr tr tn T c k (nI 3) = (oI (fToday tr (tn 4) T c.1 k)) from by unfold fCvr; rw [if_neg (by decide), if_neg (by decide), if_neg (by decide), if_pos (by decide)]).symm
  | 4, _ => exact (pk_us).trans (show fCvr tr tn T c k (nI 4) = (c.2.2.2 k) from by unfold fCvr; rw [if_neg (by decide), if_neg (by decide), if_neg (by decide), if_neg (by decide), rat_nI (f := c.2.2.2) (n := 5) (k := k) (by omega) (by decide)]).symm
  | w + 5, h => exact absurd h (by omega)
theorem ord_k (hN9 : tn 0 ≤ 1000) (ho : OrdS tn tr od k) (hk : k < 20) : (if rat 20 (tr 9) (nI k) = (-1) then 1 else 0) = nI (od k 0) := by
  have hb := ho.1
  rw [rat_nI hk (by decide)]
  by_cases h : od k 0 = 1
  · rw [(ho.2.2.2 h).1, if_pos rfl, h]; rfl
  · have h0 : od k 0 = 0 := by omega
    by_cases q : tr 9 k = (-1)
    · rw [(ho.2.2.1 h0).1] at q
      rcases Nat.lt_or_ge (od k 2) 2147483648 with z | z
      · exact absurd q (nI_nm1 z)
      · exact absurd hb.2.2.1 (by have := hN9; omega)
    · rw [if_neg q, h0]; rfl
theorem ord_6 (hN9 : tn 0 ≤ 1000) (ho : OrdS tn tr od k) (hk : k < 20) : ∀ w, w < 6 → (upd (upd (upd (upd (upd (upd (fun _ => 0) 0 (nI (od k 0))) 1 (nI (od k 1))) 2 (tr 9 k)) 3 (tr 10 k)) 4 (c.2.2.1 k)) 5 (bI (fDue tr T c.1 k))) w = fOrd tr T c k (nI w) := by
  intro w hw
  match w, hw with
  | 0, _ => exact ((pk_un (by decide)).trans ((pk_un (by decide)).trans ((pk_un (by decide)).trans ((pk_un (by decide)).trans ((pk_un (by decide)).trans (pk_us)))))).trans (show fOrd tr T c k (nI 0) = (nI (od k 0)) from by unfold fOrd; rw [if_pos (by decide), ord_k hN9 ho hk]).symm
  | 1, _ => exact ((pk_un (by decide)).trans ((pk_un (by decide)).trans ((pk_un (by decide)).trans ((pk_un (by decide)).trans (pk_us))))).trans (show fOrd tr T c k (nI 1) = (nI (od k 1)) from by unfold fOrd; rw [if_neg (by decide), if_pos (by decide), rat_nI (f := tr 8) (n := 20) (k := k) (by omega) (by decide), ho.2.1]).symm
  | 2, _ => exact ((pk_un (by decide)).trans ((pk_un (by decide)).trans ((pk_un (by decide)).trans (pk_us)))).trans (show fOrd tr T c k (nI 2) = (tr 9 k) from by unfold fOrd; rw [if_neg (by decide), if_neg (by decide), if_pos (by decide), rat_nI (f := tr 9) (n := 20) (k := k) (by omega) (by decide)]).symm
  | 3, _ => exact ((pk_un (by decide)).trans ((pk_un (by decide)).trans (pk_us))).trans (show fOrd tr T c k (nI 3) = (tr 10 k) from by unfold fOrd; rw [if_neg (by decide), if_neg (by decide), if_neg (by decide), if_pos (by decide), rat_nI (f := tr 10) (n := 20) (k := k) (by omega) (by decide)]).symm
  | 4, _ => exact ((pk_un (by decide)).trans (pk_us)).trans (show fOrd tr T c k (nI 4) = (c.2.2.1 k) from by unfold fOrd; rw [if_neg (by decide), if_neg (by decide), if_neg (by decide), if_neg (by decide), if_pos (by decide), rat_nI (f := c.2.2.1) (n := 20) (k := k) (by omega) (by decide)]).symm
  | 5, _ => exact (pk_us).trans (show fOrd tr T c k (nI 5) = (bI (fDue tr T c.1 k)) from by unfold fOrd; rw [if_neg (by decide), if_neg (by decide), if_neg (by decide), if_neg (by decide), if_neg (by decide)]).symm
  | w + 6, h => exact absurd h (by omega)
theorem cnt_14 (hS : tn 2 ≤ 10) (hb : b = nbr c.1.2.2.2.1 (tn 2)) (h0 : n = 0) : ∀ w, w < 14 → (upd (upd (upd (upd (upd (upd (upd (upd (upd (upd (upd (upd (upd (upd (fun _ => 0) 0 c.1.1) 1 c.1.2.1) 2 (nI (tn 0))) 3 (nI (tn 1))) 4 (nI (tn 2))) 5 (nI (tn 3))) 6 (nI (tn 4))) 7 (nI b)) 8 (fSqk c.1.2.2.2.2.2.2 (tn 2))) 9 (fWrm c.1.2.2.2.2.2.1 (tn 2))) 10 c.1.2.2.1) 11 c.2.1) 12 (fOpn tr c.1.2.2.2.1 (tn 4))) 13 0) w = fCnt tr tn n c (nI w) := by
  intro w hw
  match w, hw with
  | 0, _ => exact ((pk_un (by decide)).trans ((pk_un (by decide)).trans ((pk_un (by decide)).trans ((pk_un (by decide)).trans ((pk_un (by decide)).trans ((pk_un (by decide)).trans ((pk_un (by decide)).trans ((pk_un (by decide)).trans ((pk_un (by decide)).trans ((pk_un (by decide)).trans ((pk_un (by decide)).trans ((pk_un (by decide)).trans ((pk_un (by decide)).trans (pk_us)))))))))))))).trans (show fCnt tr tn n c (nI 0) = (c.1.1) from by unfold fCnt; rw [if_pos (by decide)]).symm
  | 1, _ => exact ((pk_un (by decide)).trans ((pk_un (by decide)).trans ((pk_un (by decide)).trans ((pk_un (by decide)).trans ((pk_un (by decide)).trans ((pk_un (by decide)).trans ((pk_un (by decide)).trans ((pk_un (by decide)).trans ((pk_un (by decide)).trans ((pk_un (by decide)).trans ((pk_un (by decide)).trans ((pk_un (by decide)).trans (pk_us))))))))))))).trans (show fCnt tr tn n c (nI 1) = (c.1.2.1) from by unfold fCnt; rw [if_neg (by decide), if_pos (by decide)]).symm
  | 2, _ => exact ((pk_un (by decide)).trans ((pk_un (by decide)).trans ((pk_un (by decide)).trans ((pk_un (by decide)).trans ((pk_un (by decide)).trans ((pk_un (by decide)).trans ((pk_un (by decide)).trans ((pk_un (by decide)).trans ((pk_un (by decide)).trans ((pk_un (by decide)).trans ((pk_un (by decide)).trans (pk_us)))))))))))).trans (show fCnt tr tn n c (nI 2) = (nI (tn 0)) from by unfold fCnt; rw [if_neg (by decide), if_neg (by decide), if_pos (by decide)]).symm
  | 3, _ => exact ((pk_un (by decide)).trans ((pk_un (by decide)).trans ((pk_un (by decide)).trans ((pk_un (by decide)).trans ((pk_un (by decide)).trans ((pk_un (by decide)).trans ((pk_un (by decide)).trans ((pk_un (by decide)).trans ((pk_un (by decide)).trans ((pk_un (by decide)).trans (pk_us))))))))))).trans (show fCnt tr tn n c (nI 3) = (nI (tn 1)) from by unfold fCnt; rw [if_neg (by decide), if_neg (by decide), if_neg (by decide), if_pos (by decide)]).symm
  | 4, _ => exact ((pk_un (by decide)).trans ((pk_un (by decide)).trans ((pk_un (by decide)).trans ((pk_un (by decide)).trans ((pk_un (by decide)).trans ((pk_un (by decide)).trans ((pk_un (by decide)).trans ((pk_un (by decide)).trans ((pk_un (by decide)).trans (pk_us)))))))))).trans (show fCnt tr tn n c (nI 4) = (nI (tn 2)) from by unfold fCnt; rw [if_neg (by decide), if_neg (by decide), if_neg (by decide), if_neg (by decide), if_pos (by decide)]).symm
  | 5, _ => exact ((pk_un (by decide)).trans ((pk_un (by decide)).trans ((pk_un (by decide)).trans ((pk_un (by decide)).trans ((pk_un (by decide)).trans ((pk_un (by decide)).trans ((pk_un (by decide)).trans ((pk_un (by decide)).trans (pk_us))))))))).trans (show fCnt tr tn n c (nI 5) = (nI (tn 3)) from by unfold fCnt; rw [if_neg (by decide), if_neg (by decide), if_neg (by decide), if_neg (by decide), if_neg (by decide), if_pos (by decide)]).symm
  | 6, _ => exact ((pk_un (by decide)).trans ((pk_un (by decide)).trans ((pk_un (by decide)).trans ((pk_un (by decide)).trans ((pk_un (by decide)).trans ((pk_un (by decide)).trans ((pk_un (by decide)).trans (pk_us)))))))).trans (show fCnt tr tn n c (nI 6) = (nI (tn 4)) from by unfold fCnt; rw [if_neg (by decide), if_neg (by decide), if_neg (by decide), if_neg (by decide), if_neg (by decide), if_neg (by decide), if_pos (by decide)]).symm
  | 7, _ => exact ((pk_un (by decide)).trans ((pk_un (by decide)).trans ((pk_un (by decide)).trans ((pk_un (by decide)).trans ((pk_un (by decide)).trans ((pk_un (by decide)).trans (pk_us))))))).trans (show fCnt tr tn n c (nI 7) = (nI b) from by unfold fCnt; rw [if_neg (by decide), if_neg (by decide), if_neg (by decide), if_neg (by decide), if_neg (by decide), if_neg (by decide), if_neg (by decide), if_pos (by decide), nbr_I hS, hb]).symm
  | 8, _ => exact ((pk_un (by decide)).trans ((pk_un (by decide)).trans ((pk_un (by decide)).trans ((pk_un (by decide)).trans ((pk_un (by decide)).trans (pk_us)))))).trans (show fCnt tr tn n c (nI 8) = (fSqk c.1.2.2.2.2.2.2 (tn 2)) from by unfold fCnt; rw [if_neg (by decide), if_neg (by decide), if_neg (by decide), if_neg (by decide), if_neg (by decide), if_neg (by decide), if_neg (by decide), if_neg (by decide), if_pos (by decide)]).symm
  | 9, _ => exact ((pk_un (by decide)).trans ((pk_un (by decide)).trans ((pk_un (by decide)).trans ((pk_un (by decide)).trans (pk_us))))).trans (show fCnt tr tn n c (nI 9) = (fWrm c.1.2.2.2.2.2.1 (tn 2)) from by unfold fCnt; rw [if_neg (by decide), if_neg (by decide), if_neg (by decide), if_neg (by decide), if_neg (by decide), if_neg (by decide), if_neg (by decide), if_neg (by decide), if_neg (by decide), if_pos (by decide)]).symm
  | 10, _ => exact ((pk_un (by decide)).trans ((pk_un (by decide)).trans ((pk_un (by decide)).trans (pk_us)))).trans (show fCnt tr tn n c (nI 10) = (c.1.2.2.1) from by unfold fCnt; rw [if_neg (by decide), if_neg (by decide), if_neg (by decide), if_neg (by decide), if_neg (by decide), if_neg (by decide), if_neg (by decide), if_neg (by decide), if_neg (by decide), if_neg (by decide), if_pos (by decide)]).symm
  | 11, _ => exact ((pk_un (by decide)).trans ((pk_un (by decide)).trans (pk_us))).trans (show fCnt tr tn n c (nI 11) = (c.2.1) from by unfold fCnt; rw [if_neg (by decide), if_neg (by decide), if_neg (by decide), if_neg (by decide), if_neg (by decide), if_neg (by decide), if_neg (by decide), if_neg (by decide), if_neg (by decide), if_neg (by decide), if_neg (by decide), if_pos (by decide)]).symm
  | 12, _ => exact ((pk_un (by decide)).trans (pk_us)).trans (show fCnt tr tn n c (nI 12) = (fOpn tr c.1.2.2.2.1 (tn 4)) from by unfold fCnt; rw [if_neg (by decide), if_neg (by decide), if_neg (by decide), if_neg (by decide), if_neg (by decide), if_neg (by decide), if_neg (by decide), if_neg (by decide), if_neg (by decide), if_neg (by decide), if_neg (by decide), if_neg (by decide), if_pos (by decide)]).symm
  | 13, _ => exact (pk_us).trans (show fCnt tr tn n c (nI 13) = (0) from by unfold fCnt; rw [if_neg (by decide), if_neg (by decide), if_neg (by decide), if_neg (by decide), if_neg (by decide), if_neg (by decide), if_neg (by decide), if_neg (by decide), if_neg (by decide), if_neg (by decide), if_neg (by decide), if_neg (by decide), if_neg (by decide), h0, nI_0]).symm
  | w + 14, h => exact absurd h (by omega)
theorem mean_n : ∀ q, q < 311 → ∀ d, d < 11 → 0 < d → FP.ddiv (FP.i2d (nI q)) (FP.i2d (nI d)) &&& 0x7fffffffffffffff ≤ 0x7ff0000000000000 := by decide +kernel
theorem mean_c : ∀ q, q < 311 → ∀ d, d < 11 → Op.cmpValue (FP.dcmp (fMean (nI d) (nI q)) (fMean (nI d) (nI q))) .l = 0 := by decide +kernel
theorem qua_n (hC : CIn tn c dd m) : ∀ i, i ≤ tn 2 → i ≤ 10 → ∃ q, q ≤ 31 * i ∧ fQua c.1.2.2.2.1 c.1.2.2.2.2.1 i = nI q := by
  intro i
  induction i with
  | zero => intro _ _; exact ⟨0, Nat.le_refl _, nI_0.symm⟩
  | succ i ih =>
    intro h1 h2
    obtain ⟨q, hq, e⟩ := ih (by omega) (by omega)
    obtain ⟨_, p, _, _, hp, hp2, _⟩ := hC.2.2.2.2.2 i (by omega)
    by_cases z : c.1.2.2.2.1 i = (-1)
    · rw [← qua_t (by omega) z]; exact ⟨q, by omega, e⟩
    · rw [← qua_f (by omega) z, e, hp, nI_add]; exact ⟨q + p, by omega, rfl⟩
theorem mean_k (hC : CIn tn c dd m) (hS : tn 2 ≤ 10) : ¬ (nI (tn 2) - fBear c.1.2.2.2.1 (-1) (tn 2)) = 0 → vf_n64 (FP.ddiv (FP.i2d (fQua c.1.2.2.2.1 c.1.2.2.2.2.1 (tn 2))) (FP.i2d (nI (tn 2) - fBear c.1.2.2.2.1 (-1) (tn 2)))) := by
  obtain ⟨q, hq, e⟩ := qua_n hC (tn 2) (Nat.le_refl _) hS
  have hl := nbr_le (fb := c.1.2.2.2.1) (tn 2)
  rw [nbr_I hS, e]
  intro h0
  refine mean_n q (by omega) _ (by omega) ?_
  rcases Nat.eq_zero_or_pos (nbr c.1.2.2.2.1 (tn 2)) with z | z
  · rw [z] at h0; exact absurd nI_0 h0
  · exact z
theorem mean_b {y : UInt64} (hC : CIn tn c dd m) (hS : tn 2 ≤ 10) (hb : b = nbr c.1.2.2.2.1 (tn 2)) (hx : x = fQua c.1.2.2.2.1 c.1.2.2.2.2.1 (tn 2)) (hy : (b = 0 ∧ y = FP.dconst0) ∨ (¬ b = 0 ∧ y = FP.ddiv (FP.i2d x) (FP.i2d (nI b)))) :
    Op.cmpValue (FP.dcmp (fMean (nI (tn 2) - fBear c.1.2.2.2.1 (-1) (tn 2)) (fQua c.1.2.2.2.1 c.1.2.2.2.2.1 (tn 2))) y) .l = 0 := by
  obtain ⟨q, hq, e⟩ := qua_n hC (tn 2) (Nat.le_refl _) hS
  have hl := nbr_le (fb := c.1.2.2.2.1) (tn 2)
  have e2 : y = fMean (nI b) x := by
    rcases hy with ⟨h1, h2⟩ | ⟨h1, h2⟩
    · rw [h2, h1]; exact (if_pos nI_0).symm
    · rw [h2]; exact (if_neg (fun z => h1 ((nI_eq (b := 0) (by omega) (by omega)).mp (z.trans nI_0.symm)))).symm
  rw [e2, hx, nbr_I hS, ← hb, e]
  exact mean_c q (by omega) b (by omega)
end
