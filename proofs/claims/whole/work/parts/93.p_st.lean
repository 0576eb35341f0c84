/-! what holds at the start: the launch's constants, by the Statement's own words -/
def NFL : List Cond := flatC (Cond.and given_1 narrow_1)
def NXe : List Nat := [4, 7, 64, 67, 206, 70, 73, 76, 79, 82, 85, 88, 91, 94, 97, 106, 112, 100, 103, 109, 254, 167, 170, 257, 173, 176, 179, 260, 182, 263, 185, 266, 188, 191, 269, 194, 272, 275, 278, 281, 284, 287, 200, 203, 197, 209, 212, 290, 293]
def NXo : List Nat := [5, 8, 65, 68, 207, 71, 74, 77, 80, 83, 86, 89, 92, 95, 98, 107, 113, 101, 104, 110, 255, 168, 171, 258, 174, 177, 180, 261, 183, 264, 186, 267, 189, 192, 270, 195, 273, 276, 279, 282, 285, 288, 201, 204, 198, 210, 213, 291, 294]
def NXc : List Nat := [6, 9, 66, 69, 208, 72, 75, 78, 81, 84, 87, 90, 93, 96, 99, 108, 114, 102, 105, 111, 256, 169, 172, 259, 175, 178, 181, 262, 184, 265, 187, 268, 190, 193, 271, 196, 274, 277, 280, 283, 286, 289, 202, 205, 199, 211, 214, 292, 295]
def TXl : List Nat := [520, 536, 543, 551, 735, 557, 559, 561, 563, 565, 567, 569, 571, 573, 575, 585, 589, 577, 583, 587, 1908, 637, 649, 1909, 651, 653, 659, 1910, 665, 1911, 667, 1912, 677, 679, 1913, 685, 1914, 1915, 1916, 1917, 1918, 1919, 715, 717, 703, 757, 759, 1920, 1921]
def NSI : List Nat := [433, 434, 435, 436, 437, 438, 439, 440, 441, 442, 444, 445, 446, 448, 450, 452, 453, 454, 455, 456, 457, 458, 459, 460, 461, 463, 465, 467, 468, 71]
def NSx : List Nat := [541, 550, 558, 566, 576, 585, 593, 602, 611, 618, 628, 636, 645, 651, 657, 664, 672, 679, 687, 698, 707, 715, 724, 733, 744, 751, 758, 764, 771, 524]
def NSc : List Nat := [542, 551, 559, 567, 577, 586, 594, 603, 612, 619, 629, 637, 646, 652, 658, 665, 673, 680, 688, 699, 708, 716, 725, 734, 745, 752, 759, 765, 772, 525]
def NSa : List Nat := [543, 552, 560, 568, 578, 587, 595, 604, 613, 620, 630, 638, 647, 653, 659, 666, 674, 681, 689, 700, 709, 717, 726, 735, 746, 753, 760, 766, 773, 526]
def NSl : List Nat := [544, 553, 561, 569, 579, 588, 596, 605, 614, 621, 631, 639, 648, 654, 660, 667, 675, 682, 690, 701, 710, 718, 727, 736, 747, 754, 761, 767, 774, 527]
def NSe : List Nat := [545, 554, 562, 570, 580, 589, 597, 606, 615, 622, 632, 640, 649, 655, 661, 668, 676, 683, 691, 702, 711, 719, 728, 737, 748, 755, 762, 768, 775, 528]
def TSI : List Nat := [66, 76, 204, 139, 153, 161, 207]
def TSx : List Nat := [341, 371, 404, 431, 456, 476, 504]
theorem nx_ex : ∀ i, i < 49 → NFL[NXe.getD i 0]? = some (Cond.exactly (Term.static "ChoirStalls$Sign" (SGN.getD i "") "LChoirStalls$Sign;") "ChoirStalls$Sign") := by decide +kernel
theorem nx_or : ∀ i, i < 49 → NFL[NXo.getD i 0]? = some (Cond.eq (.field (Term.static "ChoirStalls$Sign" (SGN.getD i "") "LChoirStalls$Sign;") "java/lang/Enum" "ordinal" "I") (.int (SGo.getD i 0))) := by decide +kernel
theorem nx_co : ∀ i, i < 49 → NFL[NXc.getD i 0]? = some (Cond.eq (.field (Term.static "ChoirStalls$Sign" (SGN.getD i "") "LChoirStalls$Sign;") "ChoirStalls$Sign" "code" "J") (.long (SGc.getD i 0))) := by decide +kernel
theorem tx_ls : ∀ i, i < 49 → lw_tbl[TXl.getD i 0]? = some (Cond.laysStatic "ChoirStalls$Sign" (SGN.getD i "") "LChoirStalls$Sign;") := by decide +kernel
theorem nx_sw : ∀ j, j < 49 → NFL[118 + j]? = some (Cond.eq (.elem (Term.static "ChoirStalls$1" "$SwitchMap$ChoirStalls$Sign" "[I") (.int (Int32.ofNat j))) (.int (SGm.getD j 0))) := by decide +kernel
theorem nx_sg : ∀ i, i < 49 → NFL[15 + i]? = some (Cond.eq (.elem (Term.static "ChoirStalls" "SIGNS" "[LChoirStalls$Sign;") (.int (Int32.ofNat i))) (Term.static "ChoirStalls$Sign" (SGN.getD i "") "LChoirStalls$Sign;")) := by decide +kernel
theorem nx_wa : ∀ i, i < 29 → NFL[220 + i]? = some (Cond.eq (.elem (Term.static "ChoirStallsModel" "WORDS" "[Ljava/lang/String;") (.int (Int32.ofNat i))) (Term.string "ChoirStallsModel" (NSI.getD i 0))) := by decide +kernel
theorem nx_sx : ∀ i, i < 30 → NFL[NSx.getD i 0]? = some (Cond.exactly (Term.string "ChoirStallsModel" (NSI.getD i 0)) "java/lang/String") := by decide +kernel
theorem nx_sc : ∀ i, i < 30 → NFL[NSc.getD i 0]? = some (Cond.eq (.field (Term.string "ChoirStallsModel" (NSI.getD i 0)) "java/lang/String" "coder" "B") (.int 0)) := by decide +kernel
theorem nx_sa : ∀ i, i < 30 → NFL[NSa.getD i 0]? = some (Cond.arrayOf (Term.field (Term.string "ChoirStallsModel" (NSI.getD i 0)) "java/lang/String" "value" "[B") .byte) := by decide +kernel
theorem nx_sl : ∀ i, i < 30 → NFL[NSl.getD i 0]? = some (Cond.eq (.length (Term.field (Term.string "ChoirStallsModel" (NSI.getD i 0)) "java/lang/String" "value" "[B")) (.int (Int32.ofNat (SLn i)))) := by decide +kernel
theorem nx_se : ∀ i, i < 30 → ∀ j, j < SLn i → NFL[NSe.getD i 0 + j]? = some (Cond.eq (.elem (Term.field (Term.string "ChoirStallsModel" (NSI.getD i 0)) "java/lang/String" "value" "[B") (.int (Int32.ofNat j))) (.int (SB i j))) := by decide +kernel
theorem nx_tx : ∀ i, i < 7 → NFL[TSx.getD i 0]? = some (Cond.exactly (Term.string "ChoirStalls" (TSI.getD i 0)) "java/lang/String") := by decide +kernel
theorem SGo_inj : ∀ i, i < 49 → ∀ j, j < 49 → SGo.getD i 0 = SGo.getD j 0 → i = j := by decide +kernel
section
variable {s : State} {args : Array Value} {A : Nat → Prop}
theorem nf_at {i : Nat} {w : Cond} (hg : (Cond.and given_1 narrow_1).before args s = true) (h : NFL[i]? = some w) : w.before args s = true := flat_of_before _ hg _ (List.mem_of_getElem? h)
theorem tb_at {i : Nat} {w : Cond} (ht : ∀ w ∈ lw_tbl, w.before args s = true) (h : lw_tbl[i]? = some w) : w.before args s = true := ht _ (List.mem_of_getElem? h)
theorem lw_OF {t : Term} {a : Nat} {o n d : String} {v : Value} (ht : t.eval args s none [] s = some (.ref a)) (hv : (Term.field t o n d).eval args s none [] s = some v) (hA : ∀ a : Nat, a < s.heap.size → ¬ A a) : va_OF o n d v a A s s.heap := by
  cases hfo : s.fieldFound? o n d with
  | none =>
    rw [va_fe ht] at hv
    simp [State.fieldOf?, State.fieldNamed?, hfo] at hv
  | some x =>
    obtain ⟨cf, k, fi, f⟩ := x
    obtain ⟨g1, cell, g2, g3, -, -, g6⟩ := Term.field_spec hfo ht hv
    exact ⟨cf, k, fi, f, cell, hfo, g1, g2, g3, g6, hA _ (Array.getElem?_eq_some_iff.mp g2).1⟩
theorem lw_en (ht : ∀ w ∈ lw_tbl, w.before args s = true) (hg : (Cond.and given_1 narrow_1).before args s = true) (hA : ∀ a : Nat, a < s.heap.size → ¬ A a) :
    ∃ ad : Nat → Nat, va_En "ChoirStalls$Sign" "LChoirStalls$Sign;" SGN SGF ad A s s.heap ∧ va_Ef 49 "ChoirStalls$Sign" "code" "J" (fun k => .long (SGc.getD k 0)) ad A s s.heap ∧ ∀ i, i < 49 → (Term.static "ChoirStalls$Sign" (SGN.getD i "") "LChoirStalls$Sign;").eval args s none [] s = some (.ref (ad i)) := by
  have h0 : ∀ i : Nat, ∃ t : Nat, i < 49 → (Term.static "ChoirStalls$Sign" (SGN.getD i "") "LChoirStalls$Sign;").eval args s none [] s = some (.ref t) ∧ va_O "ChoirStalls$Sign" t A s s.heap := by
    intro i
    by_cases hi : i < 49
    · obtain ⟨a, c, cell, k, q1, q2, q3, q4, q5, q6, -⟩ := Cond.exactly_spec (nf_at hg (nx_ex i hi))
      exact ⟨a, fun _ => ⟨q1, cell, q3, q5, by rw [q6]; exact q2, hA a (Array.getElem?_eq_some_iff.mp q3).1⟩⟩
    · exact ⟨0, fun h => absurd h hi⟩
  obtain ⟨ad, had⟩ := Classical.axiomOfChoice h0
  have hOr : va_Ef 49 "java/lang/Enum" "ordinal" "I" (fun k => .int (SGo.getD k 0)) ad A s s.heap := va_Efof (tm := fun i => .int (SGo.getD i 0)) (fun i hi => (had i hi).1) (fun i hi => nf_at hg (nx_or i hi)) (fun _ _ => rfl) hA
  have hCo : va_Ef 49 "ChoirStalls$Sign" "code" "J" (fun k => .long (SGc.getD k 0)) ad A s s.heap := va_Efof (tm := fun i => .long (SGc.getD i 0)) (fun i hi => (had i hi).1) (fun i hi => nf_at hg (nx_co i hi)) (fun _ _ => rfl) hA
  have hini : (Cond.initialized "ChoirStalls$Sign").before args s = true := tb_at (i := 128) (w := Cond.initialized "ChoirStalls$Sign") ht (by decide +kernel)
  refine ⟨ad, ⟨fun i hi => ⟨va_Zof (tb_at ht (tx_ls i hi)) hini (had i hi).1 hA, (had i hi).2, fun q hq => ?_⟩, fun i j hi hj e => ?_⟩, hCo, fun i hi => (had i hi).1⟩
  · cases List.mem_singleton.mp hq; exact hOr i hi
  · have hi : i < 49 := hi
    have hj : j < 49 := hj
    obtain ⟨cf, k, fi, f, cell, h1, h2, h3, h4, h5, -⟩ := hOr i hi
    obtain ⟨cf2, k2, fi2, f2, cell2, g1, g2, g3, g4, g5, -⟩ := hOr j hj
    rw [← e] at g3
    cases h1.symm.trans g1
    cases h3.symm.trans g3
    have h6 : some (Value.int (SGo.getD i 0)) = some (Value.int (SGo.getD j 0)) := h5.symm.trans g5
    injection h6 with h6
    injection h6 with h6
    exact SGo_inj i hi j hj h6
theorem lw_sw (ht : ∀ w ∈ lw_tbl, w.before args s = true) (hg : (Cond.and given_1 narrow_1).before args s = true) (hA : ∀ a : Nat, a < s.heap.size → ¬ A a) :
    ∃ t : Nat, va_Z "ChoirStalls$1" "$SwitchMap$ChoirStalls$Sign" "[I" (.ref t) A s s.heap ∧ va_T .int t 49 (fun j => .int (SGm.getD j 0)) A s s.heap := by
  obtain ⟨t, h1, h2⟩ := va_Tof (tm := (Term.static "ChoirStalls$1" "$SwitchMap$ChoirStalls$Sign" "[I")) (ty := .int) (N := 49) (f := fun j => .int (SGm.getD j 0)) (by decide) (nf_at (i := 116) (w := Cond.arrayOf (Term.static "ChoirStalls$1" "$SwitchMap$ChoirStalls$Sign" "[I") .int) hg (by decide +kernel)) (va_eqv (u := .int 49) (nf_at (i := 117) (w := Cond.eq (.length (Term.static "ChoirStalls$1" "$SwitchMap$ChoirStalls$Sign" "[I")) (.int 49)) hg (by decide +kernel)) rfl) (fun j hj => va_eqv (nf_at hg (nx_sw j hj)) rfl) hA
  exact ⟨t, va_Zof (tb_at (i := 604) (w := Cond.laysStatic "ChoirStalls$1" "$SwitchMap$ChoirStalls$Sign" "[I") ht (by decide +kernel)) (tb_at (i := 129) (w := Cond.initialized "ChoirStalls$1") ht (by decide +kernel)) h1 hA, h2⟩
theorem lw_sg {ad : Nat → Nat} (ht : ∀ w ∈ lw_tbl, w.before args s = true) (hg : (Cond.and given_1 narrow_1).before args s = true) (hA : ∀ a : Nat, a < s.heap.size → ¬ A a) (hev : ∀ i, i < 49 → (Term.static "ChoirStalls$Sign" (SGN.getD i "") "LChoirStalls$Sign;").eval args s none [] s = some (.ref (ad i))) :
    ∃ t : Nat, va_Z "ChoirStalls" "SIGNS" "[LChoirStalls$Sign;" (.ref t) A s s.heap ∧ va_T (.object "ChoirStalls$Sign") t 49 (fun j => .ref (ad j)) A s s.heap := by
  obtain ⟨t, h1, h2⟩ := va_Tof (tm := (Term.static "ChoirStalls" "SIGNS" "[LChoirStalls$Sign;")) (ty := .object "ChoirStalls$Sign") (N := 49) (f := fun j => .ref (ad j)) (by decide) (nf_at (i := 12) (w := Cond.arrayOf (Term.static "ChoirStalls" "SIGNS" "[LChoirStalls$Sign;") (.object "ChoirStalls$Sign")) hg (by decide +kernel)) (va_eqv (u := .int 49) (nf_at (i := 13) (w := Cond.eq (.length (Term.static "ChoirStalls" "SIGNS" "[LChoirStalls$Sign;")) (.int 49)) hg (by decide +kernel)) rfl) (fun j hj => va_eqv (nf_at hg (nx_sg j hj)) (hev j hj)) hA
  exact ⟨t, va_Zof (tb_at (i := 541) (w := Cond.laysStatic "ChoirStalls" "SIGNS" "[LChoirStalls$Sign;") ht (by decide +kernel)) (tb_at (i := 109) (w := Cond.initialized "ChoirStalls") ht (by decide +kernel)) h1 hA, h2⟩
theorem lw_str (hg : (Cond.and given_1 narrow_1).before args s = true) (hA : ∀ a : Nat, a < s.heap.size → ¬ A a) :
    ∃ p : Nat → Nat × Nat, ∀ i, i < 30 → (Term.string "ChoirStallsModel" (NSI.getD i 0)).eval args s none [] s = some (.ref (p i).1) ∧ va_O "java/lang/String" (p i).1 A s s.heap ∧ va_OF "java/lang/String" "coder" "B" (.int 0) (p i).1 A s s.heap ∧ va_OF "java/lang/String" "value" "[B" (.ref (p i).2) (p i).1 A s s.heap ∧ va_T .byte (p i).2 (SLn i) (fun j => .int (SB i j)) A s s.heap := by
  have h0 : ∀ i : Nat, ∃ p : Nat × Nat, i < 30 → (Term.string "ChoirStallsModel" (NSI.getD i 0)).eval args s none [] s = some (.ref p.1) ∧ va_O "java/lang/String" p.1 A s s.heap ∧ va_OF "java/lang/String" "coder" "B" (.int 0) p.1 A s s.heap ∧ va_OF "java/lang/String" "value" "[B" (.ref p.2) p.1 A s s.heap ∧ va_T .byte p.2 (SLn i) (fun j => .int (SB i j)) A s s.heap := by
    intro i
    by_cases hi : i < 30
    · obtain ⟨a, c, cell, k, q1, q2, q3, q4, q5, q6, -⟩ := Cond.exactly_spec (nf_at hg (nx_sx i hi))
      have h14 := (SLn_lt i hi).1
      obtain ⟨v, h1, h2⟩ := va_Tof (tm := (Term.field (Term.string "ChoirStallsModel" (NSI.getD i 0)) "java/lang/String" "value" "[B")) (ty := .byte) (N := SLn i) (f := fun j => .int (SB i j)) (by omega) (nf_at hg (nx_sa i hi)) (va_eqv (nf_at hg (nx_sl i hi)) rfl) (fun j hj => va_eqv (nf_at hg (nx_se i hi j hj)) rfl) hA
      exact ⟨(a, v), fun _ => ⟨q1, ⟨cell, q3, q5, by rw [q6]; exact q2, hA a (Array.getElem?_eq_some_iff.mp q3).1⟩, lw_OF q1 (va_eqv (nf_at hg (nx_sc i hi)) rfl) hA, lw_OF q1 h1 hA, h2⟩⟩
    · exact ⟨(0, 0), fun h => absurd h hi⟩
  exact Classical.axiomOfChoice h0
theorem lw_tex (hg : (Cond.and given_1 narrow_1).before args s = true) : ∃ x : Nat → Nat, ∀ i, i < 7 → (Term.string "ChoirStalls" (TSI.getD i 0)).eval args s none [] s = some (.ref (x i)) := by
  have h0 : ∀ i : Nat, ∃ a : Nat, i < 7 → (Term.string "ChoirStalls" (TSI.getD i 0)).eval args s none [] s = some (.ref a) := by
    intro i
    by_cases hi : i < 7
    · obtain ⟨a, c, cell, k, q1, -⟩ := Cond.exactly_spec (nf_at hg (nx_tx i hi))
      exact ⟨a, fun _ => q1⟩
    · exact ⟨0, fun h => absurd h hi⟩
  exact Classical.axiomOfChoice h0
theorem lw_kn (ht : ∀ w ∈ lw_tbl, w.before args s = true) : ∃ (D : va_G) (g : Nat → ClassId), va_K D CLS (TYS g) s := by
  have hts : ∀ w ∈ WALL, w.before args s = true := fun w hw => ht w (List.mem_filter.mp hw).1
  have h0 : ∀ k : Nat, ∃ p : ClassId × (Nat → Nat), ∀ q : vw_C, CLS[k]? = some q → u_Kn s q.1 q.2.1 q.2.2 p.1 p.2 := by
    intro k
    match k with
    | 0 => obtain ⟨cC, iS, h⟩ := u_known (C := RX1) (T := TX1) (N := 14) (n := 14) hts in_X1 (tb_at (i := 384) (w := Cond.instantiable RX1 14) ht (by decide +kernel)); exact ⟨(cC, iS), fun q hq => by cases hq; exact h⟩
    | 1 => obtain ⟨cC, iS, h⟩ := u_known (C := RX2) (T := TX2) (N := 6) (n := 6) hts in_X2 (tb_at (i := 323) (w := Cond.instantiable RX2 6) ht (by decide +kernel)); exact ⟨(cC, iS), fun q hq => by cases hq; exact h⟩
    | 2 => obtain ⟨cC, iS, h⟩ := u_known (C := RX3) (T := TX3) (N := 2) (n := 2) hts in_X3 (tb_at (i := 166) (w := Cond.instantiable RX3 2) ht (by decide +kernel)); exact ⟨(cC, iS), fun q hq => by cases hq; exact h⟩
    | 3 => obtain ⟨cC, iS, h⟩ := u_known (C := RX4) (T := TX4) (N := 2) (n := 2) hts in_X4 (tb_at (i := 392) (w := Cond.instantiable RX4 2) ht (by decide +kernel)); exact ⟨(cC, iS), fun q hq => by cases hq; exact h⟩
    | 4 => obtain ⟨cC, iS, h⟩ := u_known (C := RX5) (T := TX5) (N := 1) (n := 1) hts in_X5 (tb_at (i := 146) (w := Cond.instantiable RX5 1) ht (by decide +kernel)); exact ⟨(cC, iS), fun q hq => by cases hq; exact h⟩
    | 5 => obtain ⟨cC, iS, h⟩ := u_known (C := RX7) (T := TX7) (N := 4) (n := 4) hts in_X7 (tb_at (i := 187) (w := Cond.instantiable RX7 4) ht (by decide +kernel)); exact ⟨(cC, iS), fun q hq => by cases hq; exact h⟩
    | 6 => obtain ⟨cC, iS, h⟩ := u_known (C := RX8) (T := TX8) (N := 8) (n := 8) hts in_X8 (tb_at (i := 325) (w := Cond.instantiable RX8 8) ht (by decide +kernel)); exact ⟨(cC, iS), fun q hq => by cases hq; exact h⟩
    | 7 => obtain ⟨cC, iS, h⟩ := u_known (C := RX9) (T := TX9) (N := 19) (n := 19) hts in_X9 (tb_at (i := 160) (w := Cond.instantiable RX9 19) ht (by decide +kernel)); exact ⟨(cC, iS), fun q hq => by cases hq; exact h⟩
    | 8 => obtain ⟨cC, iS, h⟩ := u_known (C := RX10) (T := TX10) (N := 8) (n := 8) hts in_X10 (tb_at (i := 138) (w := Cond.instantiable RX10 8) ht (by decide +kernel)); exact ⟨(cC, iS), fun q hq => by cases hq; exact h⟩
    | 9 => obtain ⟨cC, iS, h⟩ := u_known (C := RX11) (T := TX11) (N := 27) (n := 27) hts in_X11 (tb_at (i := 1236) (w := Cond.instantiable RX11 27) ht (by decide +kernel)); exact ⟨(cC, iS), fun q hq => by cases hq; exact h⟩
    | 10 => obtain ⟨cC, iS, h⟩ := u_known (C := RX12) (T := TX12) (N := 10) (n := 10) hts in_X12 (tb_at (i := 1345) (w := Cond.instantiable RX12 10) ht (by decide +kernel)); exact ⟨(cC, iS), fun q hq => by cases hq; exact h⟩
    | 11 => obtain ⟨cC, iS, h⟩ := u_known (C := RX13) (T := TX13) (N := 12) (n := 12) hts in_X13 (tb_at (i := 1230) (w := Cond.instantiable RX13 12) ht (by decide +kernel)); exact ⟨(cC, iS), fun q hq => by cases hq; exact h⟩
    | k + 12 => exact ⟨(0, fun _ => 0), fun q hq => by simp [CLS] at hq⟩
  obtain ⟨p, hp⟩ := Classical.axiomOfChoice h0
  obtain ⟨c0, k0, m0, a1, a2, a3⟩ := Cond.arrayClass_spec (tb_at (i := 158) (w := Cond.arrayClass .int) ht (by decide +kernel))
  obtain ⟨c1, k1, m1, b1, b2, b3⟩ := Cond.arrayClass_spec (tb_at (i := 183) (w := Cond.arrayClass .long) ht (by decide +kernel))
  obtain ⟨m2, c2, k2, d1, d2, d3, d4, d5⟩ := Cond.arrayOver_spec (tb_at (i := 193) (w := Cond.arrayOver (.object "ChoirStalls$Sign")) ht (by decide +kernel))
  refine ⟨(fun k => (p k).1, fun k => (p k).2), fun k => if k = 0 then c0 else if k = 1 then c1 else c2, fun k q hq => hp k q hq, fun k q hk => ?_⟩
  match k, hk with
  | 0, hk => cases hk; exact ⟨fun n z => ⟨fun k h => (by cases h), k0, a2, m0, a3⟩, a1⟩
  | 1, hk => cases hk; exact ⟨fun n z => ⟨fun k h => (by cases h), k1, b2, m1, b3⟩, b1⟩
  | 2, hk => cases hk; exact ⟨fun n z => ⟨fun k h => (by cases h), k2, d3, m2, d4⟩, k2, m2, d3, d4, d1, d5⟩
  | k + 3, hk => simp [TYS] at hk
theorem lw_static (ht : ∀ w ∈ lw_tbl, w.before args s = true) (hg : (Cond.and given_1 narrow_1).before args s = true) (hA : ∀ a : Nat, a < s.heap.size → ¬ A a) :
    ∃ (z : Nat → Nat) (D : va_G) (g : Nat → ClassId), va_K D CLS (TYS g) s ∧ Zs z A s s.heap ∧ Ys z A s s.heap ∧ Xs z A s s.heap := by
  obtain ⟨D, g, hK⟩ := lw_kn ht
  obtain ⟨ad, hEn, hCo, hev⟩ := lw_en ht hg hA
  obtain ⟨t0, hs1, hs2⟩ := lw_sw ht hg hA
  obtain ⟨t1, hs3, hs4⟩ := lw_sg ht hg hA hev
  obtain ⟨p, hp⟩ := lw_str hg hA
  obtain ⟨x, hx⟩ := lw_tex hg
  obtain ⟨t2, hw1, hw2⟩ := va_Tof (tm := (Term.static "ChoirStallsModel" "WORDS" "[Ljava/lang/String;")) (ty := .object "java/lang/String") (N := 29) (f := fun j => .ref (p j).1) (by decide) (nf_at (i := 218) (w := Cond.arrayOf (Term.static "ChoirStallsModel" "WORDS" "[Ljava/lang/String;") (.object "java/lang/String")) hg (by decide +kernel)) (va_eqv (u := .int 29) (nf_at (i := 219) (w := Cond.eq (.length (Term.static "ChoirStallsModel" "WORDS" "[Ljava/lang/String;")) (.int 29)) hg (by decide +kernel)) rfl) (fun j hj => va_eqv (nf_at hg (nx_wa j hj)) (hp j (by omega)).1) hA
  obtain ⟨z, hz⟩ : ∃ z : Nat → Nat, z = fun j => if j < 49 then ad j else if j = 100 then t0 else if j = 101 then t1 else if j = 102 then t2 else if j < 110 then 0 else if j < 150 then (p (j - 110)).1 else if j < 200 then (p (j - 150)).2 else x (j - 200) := ⟨_, rfl⟩
  have z0 : ∀ j, j < 49 → z j = ad j := fun j hj => by rw [hz]; exact if_pos hj
  have z1 : z 100 = t0 := by rw [hz]; rfl
  have z2 : z 101 = t1 := by rw [hz]; rfl
  have z3 : z 102 = t2 := by rw [hz]; rfl
  have z4 : ∀ i, i < 30 → z (110 + i) = (p i).1 := fun i hi => by
    rw [hz]; dsimp only
    rw [if_neg (by omega), if_neg (by omega), if_neg (by omega), if_neg (by omega), if_neg (by omega), if_pos (by omega), show 110 + i - 110 = i by omega]
  have z5 : ∀ i, i < 30 → z (150 + i) = (p i).2 := fun i hi => by
    rw [hz]; dsimp only
    rw [if_neg (by omega), if_neg (by omega), if_neg (by omega), if_neg (by omega), if_neg (by omega), if_neg (by omega), if_pos (by omega), show 150 + i - 150 = i by omega]
  have z6 : ∀ i, i < 7 → z (200 + i) = x i := fun i hi => by
    rw [hz]; dsimp only
    rw [if_neg (by omega), if_neg (by omega), if_neg (by omega), if_neg (by omega), if_neg (by omega), if_neg (by omega), if_neg (by omega), show 200 + i - 200 = i by omega]
  clear hz
  have hNs : Nst s := fun w hw => by
    have hk := (List.mem_filter.mp hw).2
    have h1 := ht w (List.mem_filter.mp hw).1
    cases w <;> first | exact va_Nw.of rfl h1 | (simp [nk_w] at hk)
  refine ⟨z, D, g, hK, ⟨hNs, ⟨fun i hi => ?_, fun i j hi hj e => ?_⟩, fun i hi => ?_, ?_, ?_, ?_, ?_, va_AO.of (A := args) ?_⟩, ⟨fun i hi => ?_, ?_, ?_, ?_, ?_, ?_⟩, ⟨?_, ?_, ⟨?_, ?_, ?_, ?_, ?_, ?_, ?_⟩, ?_, ?_⟩⟩
  · have hi : i < 49 := hi
    rw [z0 i hi]; exact hEn.1 i hi
  · have hi : i < 49 := hi
    have hj : j < 49 := hj
    rw [z0 i hi, z0 j hj] at e; exact hEn.2 i j hi hj e
  · rw [z0 i hi]; exact hCo i hi
  · rw [z1]; exact hs1
  · rw [z1]; exact hs2
  · rw [z2]; exact hs3
  · rw [z2]
    obtain ⟨cell, g1, g2, g3, g4, g5, g6, g7⟩ := hs4
    exact ⟨cell, g1, g2, g3, g4, g5, fun j hj => (by have h8 := g6 j hj; show _ = some (Value.ref (z j)); rw [z0 j hj]; exact h8), g7⟩
  · exact tb_at (i := 193) (w := Cond.arrayOver (.object "ChoirStalls$Sign")) ht (by decide +kernel)
  · rw [z4 i hi, z5 i hi]; exact (hp i hi).2
  · rw [z3]; exact va_Zof (tb_at (i := 1482) (w := Cond.laysStatic "ChoirStallsModel" "WORDS" "[Ljava/lang/String;") ht (by decide +kernel)) (tb_at (i := 119) (w := Cond.initialized "ChoirStallsModel") ht (by decide +kernel)) hw1 hA
  · rw [z3]
    obtain ⟨cell, g1, g2, g3, g4, g5, g6, g7⟩ := hw2
    exact ⟨cell, g1, g2, g3, g4, g5, fun j hj => (by have h8 := g6 j hj; show _ = some (Value.ref (z (110 + j))); rw [z4 j (by omega)]; exact h8), g7⟩
  · exact va_Zof (tb_at (i := 1492) (w := Cond.laysStatic "java/lang/String" "COMPACT_STRINGS" "Z") ht (by decide +kernel)) (tb_at (i := 130) (w := Cond.initialized "java/lang/String") ht (by decide +kernel)) (va_eqv (u := .int 1) (nf_at (i := 249) (w := Cond.eq (.static "java/lang/String" "COMPACT_STRINGS" "Z") (.int 1)) hg (by decide +kernel)) rfl) hA
  · exact va_Zqof (tb_at (i := 1508) (w := Cond.laysStatic "jdk/internal/util/Preconditions" "SIOOBE_FORMATTER" "Ljava/util/function/BiFunction;") ht (by decide +kernel)) (tb_at (i := 132) (w := Cond.initialized "jdk/internal/util/Preconditions") ht (by decide +kernel)) (nf_at (i := 250) (w := Cond.isRef (.static "jdk/internal/util/Preconditions" "SIOOBE_FORMATTER" "Ljava/util/function/BiFunction;")) hg (by decide +kernel)) hA
  · rw [show z 139 = (p 29).1 from z4 29 (by decide)]; exact vk_R.of (A := args) (tb_at (i := 1531) (w := Cond.stringRef "ChoirStallsModel" 71 "()[];,+-*/<>=") ht (by decide +kernel)) (hp 29 (by decide)).1
  · exact vx_Zqof (tb_at (i := 952) (w := Cond.laysStatic "java/lang/Throwable" "UNASSIGNED_STACK" "[Ljava/lang/StackTraceElement;") ht (by decide +kernel)) (tb_at (i := 122) (w := Cond.initialized "java/lang/Throwable") ht (by decide +kernel)) (nf_at (i := 215) (w := Cond.isRef (.static "java/lang/Throwable" "UNASSIGNED_STACK" "[Ljava/lang/StackTraceElement;")) hg (by decide +kernel)) hA
  · exact vx_Zqof (tb_at (i := 954) (w := Cond.laysStatic "java/lang/Throwable" "SUPPRESSED_SENTINEL" "Ljava/util/List;") ht (by decide +kernel)) (tb_at (i := 122) (w := Cond.initialized "java/lang/Throwable") ht (by decide +kernel)) (nf_at (i := 216) (w := Cond.isRef (.static "java/lang/Throwable" "SUPPRESSED_SENTINEL" "Ljava/util/List;")) hg (by decide +kernel)) hA
  · rw [show z 200 = x 0 from z6 0 (by decide)]; exact vk_R.of (A := args) (tb_at (i := 966) (w := Cond.stringRef RX10 66 "the tape would be too long") ht (by decide +kernel)) (hx 0 (by decide))
  · rw [show z 201 = x 1 from z6 1 (by decide)]; exact vk_R.of (A := args) (tb_at (i := 1015) (w := Cond.stringRef RX10 76 "the tape has no so many bytes") ht (by decide +kernel)) (hx 1 (by decide))
  · rw [show z 202 = x 2 from z6 2 (by decide)]; exact vk_R.of (A := args) (tb_at (i := 1042) (w := Cond.stringRef RX10 204 "there is no such number") ht (by decide +kernel)) (hx 2 (by decide))
  · rw [show z 203 = x 3 from z6 3 (by decide)]; exact vk_R.of (A := args) (tb_at (i := 1102) (w := Cond.stringRef RX10 139 "there is no such damp") ht (by decide +kernel)) (hx 3 (by decide))
  · rw [show z 204 = x 4 from z6 4 (by decide)]; exact vk_R.of (A := args) (tb_at (i := 1117) (w := Cond.stringRef RX10 153 "there is no coin") ht (by decide +kernel)) (hx 4 (by decide))
  · rw [show z 205 = x 5 from z6 5 (by decide)]; exact vk_R.of (A := args) (tb_at (i := 1125) (w := Cond.stringRef RX10 161 "the stall bears no beast") ht (by decide +kernel)) (hx 5 (by decide))
  · rw [show z 206 = x 6 from z6 6 (by decide)]; exact vk_R.of (A := args) (tb_at (i := 1136) (w := Cond.stringRef RX10 207 "not so many days") ht (by decide +kernel)) (hx 6 (by decide))
  · exact va_Nc.of (nf_at (i := 338) (w := Cond.not (.castable "java/lang/IllegalStateException" "java/lang/IndexOutOfBoundsException")) hg (by decide +kernel))
  · exact va_Nc.of (nf_at (i := 325) (w := Cond.not (.castable "java/lang/IndexOutOfBoundsException" "java/lang/IllegalArgumentException")) hg (by decide +kernel))
end
