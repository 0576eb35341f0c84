/-! what both know of a list that is told -/
/-- the orders' tests -/
def tsQ (T : Nat → Nat) (M : Nat → Int32) (q : RS) (k : Nat) (v : VS) : Bool := if q.2.2.1 20 k = (-1) then true else xTes T M v 8 (q.2.2.1 20 k).toNatClampNeg
section
variable {T : Nat → Nat} {V : Nat → Int64} {K t : Nat} {M : Nat → Int32} {y : LSt} {q : RS} {tn : Nat → Nat} {kF : Nat → Int32}
theorem tsQ_n {k : Nat} {v : VS} (h : q.2.2.1 20 k = (-1)) : tsQ T M q k v = true := if_pos h
theorem tsQ_s {k t0 : Nat} {v : VS} (h : q.2.2.1 20 k = nI t0) (h2 : t0 < 2147483648) : tsQ T M q k v = xTes T M v 8 t0 := by
  unfold tsQ; rw [h, if_neg (nI_nm1 h2), nI_clamp h2]
theorem rl_tok (h : Rl T V M K xN t y q) (hK : K ≤ 400) (hn : tn 4 = q.1 4) : TstOK (tn 4) y.2.2.2.2.1 y.2.2.2.2.2 y.1.2.2.2.2.2.1 y.1.2.2.2.2.2.2.1 y.1.2.2.2.2.2.2.2 (tsQ T M q) := by
  rw [hn]
  refine ⟨h.2.1.2.2.2.2.2, fun k hk => ?_⟩
  obtain ⟨a, b, c⟩ := h.2.2.2.2.2 k hk (fun z => by cases z)
  refine ⟨a, b, fun v f0 => ?_⟩
  rcases c with ⟨c1, c2⟩ | ⟨t0, c1, c2, c3, c4, c5, c6⟩
  · rw [tsQ_n c1]; unfold hxT; rw [decide_eq_true c2]; rfl
  · rw [tsQ_s c1 (by omega)]; exact c6 _ _ _ (fun i _ _ => ⟨rfl, rfl, rfl⟩) v f0
theorem rl_sok (h : Rl T V M K xN t y q) (hK : K ≤ 400) (hn : ∀ j, j < 5 → tn j = q.1 j) (hk : TKO T K kF) (hM : MOK T K (q.2.2.1 3)) (hM2 : M = q.2.2.1 3) : SOK tn y.2.2.2.1 (tsQ T M q) T K (fun i => if i = 0 then kF else q.2.2.1 i) := by
  obtain ⟨_, ⟨b1, b2⟩, _, d1, e1, f1⟩ := h
  have d : ∀ r, r < 11 → ∀ k, k < tn (srR r) → y.2.2.2.1 r k = q.2.2.1 (mrR r) k ∧ RgR r (q.2.2.1 (mrR r) k) q.1 := fun r hr k hk => d1 r hr k (by rw [← hn _ (mr_ok r hr).2.2.2.2.2]; exact hk) (fun z => by cases z)
  have hL := b2
  obtain ⟨l0, l1, l2, l3, l4⟩ := b2
  have n0 := hn 0 (by omega)
  have n1 := hn 1 (by omega)
  have n2 := hn 2 (by omega)
  have n3 := hn 3 (by omega)
  have n4 := hn 4 (by omega)
  refine ⟨⟨by omega, by omega, by omega, by omega, by omega⟩, ⟨fun k hk => (d 0 (by omega) k hk).1.symm, fun k hk => (d 1 (by omega) k hk).1.symm⟩,
    ⟨fun k hk => (d 2 (by omega) k hk).1.symm, fun k hk => (d 3 (by omega) k hk).1.symm, fun k hk => (d 4 (by omega) k hk).1.symm, fun k hk => ?_⟩, fun k hk => (d 5 (by omega) k hk).1.symm,
    ⟨fun k hk => (d 6 (by omega) k hk).1.symm, fun k hk => (d 7 (by omega) k hk).1.symm⟩, ⟨fun k hk => ?_, fun k hk => (d 9 (by omega) k hk).1.symm, fun k hk => (d 8 (by omega) k hk).1.symm, fun k hk => (d 10 (by omega) k hk).1.symm, fun k hk => ?_, fun k hk => ?_, fun k hk => ?_⟩, fun _ => hk, fun _ => hM⟩
  · rw [rat_nI (by omega) (by decide), (d 3 (by omega) k hk).1]
    exact Int32.not_lt.mpr ((d 3 (by omega) k hk).2.1 rfl)
  · rw [rat_nI (by omega) (by decide), (d 9 (by omega) k hk).1]
    exact e1 k (by omega) (fun z => by cases z)
  · rw [rat_nI (by omega) (by decide), (d 8 (by omega) k hk).1, n2]
    exact (d 8 (by omega) k hk).2.2.1 rfl
  · rw [rat_nI (by omega) (by decide), (d 9 (by omega) k hk).1, n0]
    exact (d 9 (by omega) k hk).2.2.2.1 rfl
  · intro v
    obtain ⟨_, _, c⟩ := f1 k (by omega) (fun z => by cases z)
    rcases c with ⟨c1, c2⟩ | ⟨t0, c1, c2, c3, c4, c5, c6⟩
    · exact Or.inl ⟨c1, tsQ_n c1⟩
    · refine Or.inr ⟨t0, c1, c2, c3, ?_⟩
      rw [tsQ_s c1 (by omega), hM2]; rfl
end
