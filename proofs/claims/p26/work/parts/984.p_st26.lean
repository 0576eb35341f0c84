/-! what holds at the start: the launch's constants, by the Statement's own words -/
def NFL : List Cond := flatC (Cond.and given_1 narrow_1)
def NXe : List Nat := [66, 6, 123, 126, 213, 129, 132, 135, 138, 141, 144, 147, 150, 153, 156, 165, 171, 159, 162, 168, 428, 174, 177, 431, 180, 183, 186, 434, 189, 437, 192, 440, 195, 198, 443, 201, 446, 449, 452, 455, 458, 461, 207, 210, 204, 216, 219, 464, 467]
def NXo : List Nat := [67, 7, 124, 127, 214, 130, 133, 136, 139, 142, 145, 148, 151, 154, 157, 166, 172, 160, 163, 169, 429, 175, 178, 432, 181, 184, 187, 435, 190, 438, 193, 441, 196, 199, 444, 202, 447, 450, 453, 456, 459, 462, 208, 211, 205, 217, 220, 465, 468]
def NXc : List Nat := [68, 8, 125, 128, 215, 131, 134, 137, 140, 143, 146, 149, 152, 155, 158, 167, 173, 161, 164, 170, 430, 176, 179, 433, 182, 185, 188, 436, 191, 439, 194, 442, 197, 200, 445, 203, 448, 451, 454, 457, 460, 463, 209, 212, 206, 218, 221, 466, 469]
def TXl : List Nat := [947, 570, 969, 977, 1155, 983, 985, 987, 989, 991, 993, 995, 997, 999, 1001, 1011, 1015, 1003, 1009, 1013, 1540, 1057, 1069, 1541, 1071, 1073, 1079, 1542, 1085, 1543, 1087, 1544, 1097, 1099, 1545, 1105, 1546, 1547, 1548, 1549, 1550, 1551, 1135, 1137, 1123, 1177, 1179, 1552, 1553]
def NSr : List Nat := [1474, 1475, 1381, 1476, 1477, 1478, 1479, 1480, 1481, 1482, 1483, 1484, 1485, 1486, 1487, 1488, 1489, 1490, 1491, 1492, 1493, 1494, 1495, 1496, 1497, 1245, 1375, 1376, 1377, 1378, 1379, 1380, 1403, 1461, 1462, 1463, 1464, 1465, 1467, 1468, 1469, 1470, 1498]
def NSx : List Nat := [767, 773, 664, 779, 793, 799, 820, 834, 840, 846, 861, 874, 879, 897, 903, 919, 938, 944, 964, 978, 988, 997, 1016, 1026, 1032, 595, 606, 616, 626, 631, 643, 654, 668, 680, 687, 698, 707, 719, 729, 738, 749, 758, 1038]
def NSc : List Nat := [768, 774, 665, 780, 794, 800, 821, 835, 841, 847, 862, 875, 880, 898, 904, 920, 939, 945, 965, 979, 989, 998, 1017, 1027, 1033, 596, 607, 617, 627, 632, 644, 655, 669, 681, 688, 699, 708, 720, 730, 739, 750, 759, 1039]
def NSa : List Nat := [769, 775, 666, 781, 795, 801, 822, 836, 842, 848, 863, 876, 881, 899, 905, 921, 940, 946, 966, 980, 990, 999, 1018, 1028, 1034, 597, 608, 618, 628, 633, 645, 656, 670, 682, 689, 700, 709, 721, 731, 740, 751, 760, 1040]
def NSl : List Nat := [770, 776, 667, 782, 796, 802, 823, 837, 843, 849, 864, 877, 882, 900, 906, 922, 941, 947, 967, 981, 991, 1000, 1019, 1029, 1035, 598, 609, 619, 629, 634, 646, 657, 671, 683, 690, 701, 710, 722, 732, 741, 752, 761, 1041]
def NSe : List Nat := [771, 777, 0, 783, 797, 803, 824, 838, 844, 850, 865, 878, 883, 901, 907, 923, 942, 948, 968, 982, 992, 1001, 1020, 1030, 1036, 599, 610, 620, 630, 635, 647, 658, 672, 684, 691, 702, 711, 723, 733, 742, 753, 762, 1042]
def TSI : List Nat := [153, 161]
def TSx : List Nat := [1069, 1089]
theorem nx_ex : ∀ i, i < 49 → NFL[NXe.getD i 0]? = some (Cond.exactly (Term.static "ChoirStalls$Sign" (SGN.getD i "") "LChoirStalls$Sign;") "ChoirStalls$Sign") := by decide +kernel
theorem nx_or : ∀ i, i < 49 → NFL[NXo.getD i 0]? = some (Cond.eq (.field (Term.static "ChoirStalls$Sign" (SGN.getD i "") "LChoirStalls$Sign;") "java/lang/Enum" "ordinal" "I") (.int (SGo.getD i 0))) := by decide +kernel
theorem nx_co : ∀ i, i < 49 → NFL[NXc.getD i 0]? = some (Cond.eq (.field (Term.static "ChoirStalls$Sign" (SGN.getD i "") "LChoirStalls$Sign;") "ChoirStalls$Sign" "code" "J") (.long (SGc.getD i 0))) := by decide +kernel
theorem tx_ls : ∀ i, i < 49 → lw_tbl[TXl.getD i 0]? = some (Cond.laysStatic "ChoirStalls$Sign" (SGN.getD i "") "LChoirStalls$Sign;") := by decide +kernel
theorem nx_sw : ∀ j, j < 49 → NFL[12 + j]? = some (Cond.eq (.elem (Term.static "ChoirStalls$1" "$SwitchMap$ChoirStalls$Sign" "[I") (.int (Int32.ofNat j))) (.int (SGm.getD j 0))) := by decide +kernel
theorem nx_sg : ∀ i, i < 49 → NFL[74 + i]? = some (Cond.eq (.elem (Term.static "ChoirStalls" "SIGNS" "[LChoirStalls$Sign;") (.int (Int32.ofNat i))) (Term.static "ChoirStalls$Sign" (SGN.getD i "") "LChoirStalls$Sign;")) := by decide +kernel
theorem nx_sx : ∀ i, i < 43 → NFL[NSx.getD i 0]? = some (Cond.exactly (Term.string "ChoirStallsLaw" (TXI.getD i 0)) "java/lang/String") := by decide +kernel
theorem nx_sc : ∀ i, i < 43 → NFL[NSc.getD i 0]? = some (Cond.eq (.field (Term.string "ChoirStallsLaw" (TXI.getD i 0)) "java/lang/String" "coder" "B") (.int 0)) := by decide +kernel
theorem nx_sa : ∀ i, i < 43 → NFL[NSa.getD i 0]? = some (Cond.arrayOf (Term.field (Term.string "ChoirStallsLaw" (TXI.getD i 0)) "java/lang/String" "value" "[B") .byte) := by decide +kernel
theorem nx_sl : ∀ i, i < 43 → NFL[NSl.getD i 0]? = some (Cond.eq (.length (Term.field (Term.string "ChoirStallsLaw" (TXI.getD i 0)) "java/lang/String" "value" "[B")) (.int (Int32.ofNat (TX i).length))) := by decide +kernel
theorem nx_se : ∀ i, i < 43 → ∀ j, j < (TX i).length → NFL[NSe.getD i 0 + j]? = some (Cond.eq (.elem (Term.field (Term.string "ChoirStallsLaw" (TXI.getD i 0)) "java/lang/String" "value" "[B") (.int (Int32.ofNat j))) (.int (nI ((TX i).getD j 0)))) := by decide +kernel
theorem nx_d1 : ∀ j, j < 100 → NFL[225 + j]? = some (Cond.eq (.elem (Term.static "java/lang/Integer" "DigitOnes" "[B") (.int (Int32.ofNat j))) (.int (nI (48 + j % 10)))) := by decide +kernel
theorem nx_d2 : ∀ j, j < 100 → NFL[328 + j]? = some (Cond.eq (.elem (Term.static "java/lang/Integer" "DigitTens" "[B") (.int (Int32.ofNat j))) (.int (nI (48 + j / 10)))) := by decide +kernel
theorem tr_ls : ∀ i, i < 43 → lw_tbl[NSr.getD i 0]? = some (Cond.stringRef "ChoirStallsLaw" (TXI.getD i 0) (TXS.getD i "")) := by decide +kernel
theorem tx_len : ∀ i, i < 43 → (TX i).length < 1000 := by decide +kernel
theorem nx_tx : ∀ i, i < 2 → NFL[TSx.getD i 0]? = some (Cond.exactly (Term.string "ChoirStalls" (TSI.getD i 0)) "java/lang/String") := by decide +kernel
theorem SGo_inj : ∀ i, i < 49 → ∀ j, j < 49 → SGo.getD i 0 = SGo.getD j 0 → i = j := by decide +kernel
section
variable {s : State} {args : Array Value} {A : Nat → Prop}
theorem nf_at {i : Nat} {w : Cond} (hg : (Cond.and given_1 narrow_1).before args s = true) (h : NFL[i]? = some w) : w.before args s = true := flat_of_before _ hg _ (List.mem_of_getElem? h)
theorem tb_at {i : Nat} {w : Cond} (ht : ∀ w ∈ lw_tbl, w.before args s = true) (h : lw_tbl[i]? = some w) : w.before args s = true := ht _ (List.mem_of_getElem? h)
theorem lw_OF {t : Term} {a : Nat} {o n d : String} {v : Value} (ht : t.eval args s none [] s = some (.ref a)) (hv : (Term.field t o n d).eval args s none [] s = some v) (hA : ∀ a : Nat, a < s.heap.size → ¬ A a) : va_OF o n d v a A s s.heap := by
  cases hfo : s.fieldFound? o n d with
  | none =>
    rw [va_fe ht] at hv
    simp [State.fieldOf?, State.fieldNamed?, hfo] at hv
  | some x =>
    obtain ⟨cf, k, fi, f⟩ := x
    obtain ⟨g1, cell, g2, g3, -, -, g6⟩ := Term.field_spec hfo ht hv
    exact ⟨cf, k, fi, f, cell, hfo, g1, g2, g3, g6, hA _ (Array.getElem?_eq_some_iff.mp g2).1⟩
theorem lw_en (ht : ∀ w ∈ lw_tbl, w.before args s = true) (hg : (Cond.and given_1 narrow_1).before args s = true) (hA : ∀ a : Nat, a < s.heap.size → ¬ A a) :
    ∃ ad : Nat → Nat, va_En "ChoirStalls$Sign" "LChoirStalls$Sign;" SGN SGF ad A s s.heap ∧ va_Ef 49 "ChoirStalls$Sign" "code" "J" (fun k => .long (SGc.getD k 0)) ad A s s.heap ∧ ∀ i, i < 49 → (Term.static "ChoirStalls$Sign" (SGN.getD i "") "LChoirStalls$Sign;").eval args s none [] s = some (.ref (ad i)) := by
  have h0 : ∀ i : Nat, ∃ t : Nat, i < 49 → (Term.static "ChoirStalls$Sign" (SGN.getD i "") "LChoirStalls$Sign;").eval args s none [] s = some (.ref t) ∧ va_O "ChoirStalls$Sign" t A s s.heap := by
    intro i
    by_cases hi : i < 49
    · obtain ⟨a, c, cell, k, q1, q2, q3, q4, q5, q6, -⟩ := Cond.exactly_spec (nf_at hg (nx_ex i hi))
      exact ⟨a, fun _ => ⟨q1, cell, q3, q5, by rw [q6]; exact q2, hA a (Array.getElem?_eq_some_iff.mp q3).1⟩⟩
    · exact ⟨0, fun h => absurd h hi⟩
  obtain ⟨ad, had⟩ := Classical.axiomOfChoice h0
  have hOr : va_Ef 49 "java/lang/Enum" "ordinal" "I" (fun k => .int (SGo.getD k 0)) ad A s s.heap := va_Efof (tm := fun i => .int (SGo.getD i 0)) (fun i hi => (had i hi).1) (fun i hi => nf_at hg (nx_or i hi)) (fun _ _ => rfl) hA
  have hCo : va_Ef 49 "ChoirStalls$Sign" "code" "J" (fun k => .long (SGc.getD k 0)) ad A s s.heap := va_Efof (tm := fun i => .long (SGc.getD i 0)) (fun i hi => (had i hi).1) (fun i hi => nf_at hg (nx_co i hi)) (fun _ _ => rfl) hA
  have hini : (Cond.initialized "ChoirStalls$Sign").before args s = true := tb_at (i := 75) (w := Cond.initialized "ChoirStalls$Sign") ht (by decide +kernel)
  refine ⟨ad, ⟨fun i hi => ⟨va_Zof (tb_at ht (tx_ls i hi)) hini (had i hi).1 hA, (had i hi).2, fun q hq => ?_⟩, fun i j hi hj e => ?_⟩, hCo, fun i hi => (had i hi).1⟩
  · cases List.mem_singleton.mp hq; exact hOr i hi
  · have hi : i < 49 := hi
    have hj : j < 49 := hj
    obtain ⟨cf, k, fi, f, cell, h1, h2, h3, h4, h5, -⟩ := hOr i hi
    obtain ⟨cf2, k2, fi2, f2, cell2, g1, g2, g3, g4, g5, -⟩ := hOr j hj
    rw [← e] at g3
    cases h1.symm.trans g1
    cases h3.symm.trans g3
    have h6 : some (Value.int (SGo.getD i 0)) = some (Value.int (SGo.getD j 0)) := h5.symm.trans g5
    injection h6 with h6
    injection h6 with h6
    exact SGo_inj i hi j hj h6
theorem lw_sw (ht : ∀ w ∈ lw_tbl, w.before args s = true) (hg : (Cond.and given_1 narrow_1).before args s = true) (hA : ∀ a : Nat, a < s.heap.size → ¬ A a) :
    ∃ t : Nat, va_Z "ChoirStalls$1" "$SwitchMap$ChoirStalls$Sign" "[I" (.ref t) A s s.heap ∧ va_T .int t 49 (fun j => .int (SGm.getD j 0)) A s s.heap := by
  obtain ⟨t, h1, h2⟩ := va_Tof (tm := (Term.static "ChoirStalls$1" "$SwitchMap$ChoirStalls$Sign" "[I")) (ty := .int) (N := 49) (f := fun j => .int (SGm.getD j 0)) (by decide) (nf_at (i := 10) (w := Cond.arrayOf (Term.static "ChoirStalls$1" "$SwitchMap$ChoirStalls$Sign" "[I") .int) hg (by decide +kernel)) (va_eqv (u := .int 49) (nf_at (i := 11) (w := Cond.eq (.length (Term.static "ChoirStalls$1" "$SwitchMap$ChoirStalls$Sign" "[I")) (.int 49)) hg (by decide +kernel)) rfl) (fun j hj => va_eqv (nf_at hg (nx_sw j hj)) rfl) hA
  exact ⟨t, va_Zof (tb_at (i := 576) (w := Cond.laysStatic "ChoirStalls$1" "$SwitchMap$ChoirStalls$Sign" "[I") ht (by decide +kernel)) (tb_at (i := 76) (w := Cond.initialized "ChoirStalls$1") ht (by decide +kernel)) h1 hA, h2⟩
theorem lw_sg {ad : Nat → Nat} (ht : ∀ w ∈ lw_tbl, w.before args s = true) (hg : (Cond.and given_1 narrow_1).before args s = true) (hA : ∀ a : Nat, a < s.heap.size → ¬ A a) (hev : ∀ i, i < 49 → (Term.static "ChoirStalls$Sign" (SGN.getD i "") "LChoirStalls$Sign;").eval args s none [] s = some (.ref (ad i))) :
    ∃ t : Nat, va_Z "ChoirStalls" "SIGNS" "[LChoirStalls$Sign;" (.ref t) A s s.heap ∧ va_T (.object "ChoirStalls$Sign") t 49 (fun j => .ref (ad j)) A s s.heap := by
  obtain ⟨t, h1, h2⟩ := va_Tof (tm := (Term.static "ChoirStalls" "SIGNS" "[LChoirStalls$Sign;")) (ty := .object "ChoirStalls$Sign") (N := 49) (f := fun j => .ref (ad j)) (by decide) (nf_at (i := 71) (w := Cond.arrayOf (Term.static "ChoirStalls" "SIGNS" "[LChoirStalls$Sign;") (.object "ChoirStalls$Sign")) hg (by decide +kernel)) (va_eqv (u := .int 49) (nf_at (i := 72) (w := Cond.eq (.length (Term.static "ChoirStalls" "SIGNS" "[LChoirStalls$Sign;")) (.int 49)) hg (by decide +kernel)) rfl) (fun j hj => va_eqv (nf_at hg (nx_sg j hj)) (hev j hj)) hA
  exact ⟨t, va_Zof (tb_at (i := 967) (w := Cond.laysStatic "ChoirStalls" "SIGNS" "[LChoirStalls$Sign;") ht (by decide +kernel)) (tb_at (i := 60) (w := Cond.initialized "ChoirStalls") ht (by decide +kernel)) h1 hA, h2⟩
theorem lw_str (hg : (Cond.and given_1 narrow_1).before args s = true) (hA : ∀ a : Nat, a < s.heap.size → ¬ A a) :
    ∃ p : Nat → Nat × Nat, ∀ i, i < 43 → (Term.string "ChoirStallsLaw" (TXI.getD i 0)).eval args s none [] s = some (.ref (p i).1) ∧ StrS (p i).1 (p i).2 (TX i) A s s.heap := by
  have h0 : ∀ i : Nat, ∃ p : Nat × Nat, i < 43 → (Term.string "ChoirStallsLaw" (TXI.getD i 0)).eval args s none [] s = some (.ref p.1) ∧ StrS p.1 p.2 (TX i) A s s.heap := by
    intro i
    by_cases hi : i < 43
    · obtain ⟨a, c, cell, k, q1, q2, q3, q4, q5, q6, -⟩ := Cond.exactly_spec (nf_at hg (nx_sx i hi))
      have h14 := tx_len i hi
      obtain ⟨v, h1, h2⟩ := va_Tof (tm := (Term.field (Term.string "ChoirStallsLaw" (TXI.getD i 0)) "java/lang/String" "value" "[B")) (ty := .byte) (N := (TX i).length) (f := fun j => .int (nI ((TX i).getD j 0))) (by omega) (nf_at hg (nx_sa i hi)) (va_eqv (nf_at hg (nx_sl i hi)) rfl) (fun j hj => va_eqv (nf_at hg (nx_se i hi j hj)) rfl) hA
      exact ⟨(a, v), fun _ => ⟨q1, ⟨cell, q3, q5, by rw [q6]; exact q2, hA a (Array.getElem?_eq_some_iff.mp q3).1⟩, lw_OF q1 (va_eqv (nf_at hg (nx_sc i hi)) rfl) hA, lw_OF q1 h1 hA, h2⟩⟩
    · exact ⟨(0, 0), fun h => absurd h hi⟩
  exact Classical.axiomOfChoice h0
theorem lw_dg (ht : ∀ w ∈ lw_tbl, w.before args s = true) (hg : (Cond.and given_1 narrow_1).before args s = true) (hA : ∀ a : Nat, a < s.heap.size → ¬ A a) :
    ∃ t1 t2 : Nat, (va_Z "java/lang/Integer" "DigitOnes" "[B" (.ref t1) A s s.heap ∧ va_T .byte t1 100 (fun j => .int (nI (48 + j % 10))) A s s.heap) ∧ va_Z "java/lang/Integer" "DigitTens" "[B" (.ref t2) A s s.heap ∧ va_T .byte t2 100 (fun j => .int (nI (48 + j / 10))) A s s.heap := by
  obtain ⟨t1, h1, g1⟩ := va_Tof (tm := (Term.static "java/lang/Integer" "DigitOnes" "[B")) (ty := .byte) (N := 100) (f := fun j => .int (nI (48 + j % 10))) (by decide) (nf_at (i := 223) (w := Cond.arrayOf (Term.static "java/lang/Integer" "DigitOnes" "[B") .byte) hg (by decide +kernel)) (va_eqv (u := .int 100) (nf_at (i := 224) (w := Cond.eq (.length (Term.static "java/lang/Integer" "DigitOnes" "[B")) (.int 100)) hg (by decide +kernel)) rfl) (fun j hj => va_eqv (nf_at hg (nx_d1 j hj)) rfl) hA
  obtain ⟨t2, h2, g2⟩ := va_Tof (tm := (Term.static "java/lang/Integer" "DigitTens" "[B")) (ty := .byte) (N := 100) (f := fun j => .int (nI (48 + j / 10))) (by decide) (nf_at (i := 326) (w := Cond.arrayOf (Term.static "java/lang/Integer" "DigitTens" "[B") .byte) hg (by decide +kernel)) (va_eqv (u := .int 100) (nf_at (i := 327) (w := Cond.eq (.length (Term.static "java/lang/Integer" "DigitTens" "[B")) (.int 100)) hg (by decide +kernel)) rfl) (fun j hj => va_eqv (nf_at hg (nx_d2 j hj)) rfl) hA
  exact ⟨t1, t2, ⟨va_Zof (tb_at (i := 1364) (w := Cond.laysStatic "java/lang/Integer" "DigitOnes" "[B") ht (by decide +kernel)) (tb_at (i := 59) (w := Cond.initialized "java/lang/Integer") ht (by decide +kernel)) h1 hA, g1⟩, va_Zof (tb_at (i := 1366) (w := Cond.laysStatic "java/lang/Integer" "DigitTens" "[B") ht (by decide +kernel)) (tb_at (i := 59) (w := Cond.initialized "java/lang/Integer") ht (by decide +kernel)) h2 hA, g2⟩
theorem sel_sb {y x : MethodName} {a : Array Value} (hx : x.cls = y.cls) (hy : y.cls ≠ "java/lang/invoke/MethodHandle" ∧ y.cls ≠ "java/lang/invoke/VarHandle") (hsel : (Cond.selects "java/lang/StringBuilder" x x).before args s = true) (hpriv : (Cond.privateMethod y).before args s = true) (hinst : (Cond.instanceMethod y).before args s = true) : (Cond.selects "java/lang/StringBuilder" y y).before a s = true := by
  obtain ⟨c, r, m, q1, q2, q3, q4, kP, hkP, hkPi⟩ := Cond.selects_spec hsel
  obtain ⟨mk, methM, hnamed, hmethM, -, -⟩ := Cond.instanceMethod_spec hinst
  have hfound : s.methodFound? y.cls y.name y.desc = some mk := State.methodFound?_of_named hnamed hy
  have hs : selectMethod {} s.vm c mk = .method mk := selectMethod_private hmethM (Cond.privateMethod_at hpriv mk methM hnamed hmethM)
  have e : mk.cls = m.cls := Option.some.inj ((findClass_of_methodNamed hnamed).symm.trans (hx ▸ findClass_of_methodNamed q3))
  simp only [Cond.before, Cond.holds, Cond.value, q1, hfound, hnamed, hs, e, hkP]
  simp; exact hkPi
theorem sp_st (ht : ∀ w ∈ lw_tbl, w.before args s = true) : SelP s := by
  intro y hy a
  have hx := tb_at (i := 1290) (w := Cond.selects "java/lang/StringBuilder" { cls := "java/lang/AbstractStringBuilder", name := "isLatin1", desc := "()Z" } { cls := "java/lang/AbstractStringBuilder", name := "isLatin1", desc := "()Z" }) ht (by decide +kernel)
  simp only [SBP, List.mem_cons, List.not_mem_nil, or_false] at hy
  rcases hy with rfl | rfl | rfl | rfl
  · exact sel_sb (x := { cls := "java/lang/AbstractStringBuilder", name := "isLatin1", desc := "()Z" }) rfl (by decide +kernel) hx (tb_at (i := 1259) (w := Cond.privateMethod yJ5_ensureCapacityInternal_d00df) ht (by decide +kernel)) (tb_at (i := 1260) (w := Cond.instanceMethod yJ5_ensureCapacityInternal_d00df) ht (by decide +kernel))
  · exact sel_sb (x := { cls := "java/lang/AbstractStringBuilder", name := "isLatin1", desc := "()Z" }) rfl (by decide +kernel) hx (tb_at (i := 1263) (w := Cond.privateMethod yJ5_newCapacity_0f7a4) ht (by decide +kernel)) (tb_at (i := 1264) (w := Cond.instanceMethod yJ5_newCapacity_0f7a4) ht (by decide +kernel))
  · exact sel_sb (x := { cls := "java/lang/AbstractStringBuilder", name := "isLatin1", desc := "()Z" }) rfl (by decide +kernel) hx (tb_at (i := 1310) (w := Cond.privateMethod yJ5_putStringAt_47b60) ht (by decide +kernel)) (tb_at (i := 1311) (w := Cond.instanceMethod yJ5_putStringAt_47b60) ht (by decide +kernel))
  · exact sel_sb (x := { cls := "java/lang/AbstractStringBuilder", name := "isLatin1", desc := "()Z" }) rfl (by decide +kernel) hx (tb_at (i := 1314) (w := Cond.privateMethod yJ5_inflateIfNeededFor_a7421) ht (by decide +kernel)) (tb_at (i := 1315) (w := Cond.instanceMethod yJ5_inflateIfNeededFor_a7421) ht (by decide +kernel))
theorem lw_tex (hg : (Cond.and given_1 narrow_1).before args s = true) : ∃ x : Nat → Nat, ∀ i, i < 2 → (Term.string "ChoirStalls" (TSI.getD i 0)).eval args s none [] s = some (.ref (x i)) := by
  have h0 : ∀ i : Nat, ∃ a : Nat, i < 2 → (Term.string "ChoirStalls" (TSI.getD i 0)).eval args s none [] s = some (.ref a) := by
    intro i
    by_cases hi : i < 2
    · obtain ⟨a, c, cell, k, q1, -⟩ := Cond.exactly_spec (nf_at hg (nx_tx i hi))
      exact ⟨a, fun _ => q1⟩
    · exact ⟨0, fun h => absurd h hi⟩
  exact Classical.axiomOfChoice h0
theorem lw_kn (ht : ∀ w ∈ lw_tbl, w.before args s = true) : ∃ (D : va_G) (g : Nat → ClassId), va_K D CLS (TYS g) s := by
  have hts : ∀ w ∈ WALL, w.before args s = true := fun w hw => ht w (List.mem_filter.mp hw).1
  have h0 : ∀ k : Nat, ∃ p : ClassId × (Nat → Nat), ∀ q : vw_C, CLS[k]? = some q → u_Kn s q.1 q.2.1 q.2.2 p.1 p.2 := by
    intro k
    match k with
    | 0 => obtain ⟨cC, iS, h⟩ := u_known (C := RX1) (T := TX1) (N := 14) (n := 14) hts in_X1 (tb_at (i := 325) (w := Cond.instantiable RX1 14) ht (by decide +kernel)); exact ⟨(cC, iS), fun q hq => by cases hq; exact h⟩
    | 1 => obtain ⟨cC, iS, h⟩ := u_known (C := RX2) (T := TX2) (N := 6) (n := 6) hts in_X2 (tb_at (i := 264) (w := Cond.instantiable RX2 6) ht (by decide +kernel)); exact ⟨(cC, iS), fun q hq => by cases hq; exact h⟩
    | 2 => obtain ⟨cC, iS, h⟩ := u_known (C := RX3) (T := TX3) (N := 2) (n := 2) hts in_X3 (tb_at (i := 107) (w := Cond.instantiable RX3 2) ht (by decide +kernel)); exact ⟨(cC, iS), fun q hq => by cases hq; exact h⟩
    | 3 => obtain ⟨cC, iS, h⟩ := u_known (C := RX4) (T := TX4) (N := 2) (n := 2) hts in_X4 (tb_at (i := 333) (w := Cond.instantiable RX4 2) ht (by decide +kernel)); exact ⟨(cC, iS), fun q hq => by cases hq; exact h⟩
    | 4 => obtain ⟨cC, iS, h⟩ := u_known (C := RX5) (T := TX5) (N := 1) (n := 1) hts in_X5 (tb_at (i := 87) (w := Cond.instantiable RX5 1) ht (by decide +kernel)); exact ⟨(cC, iS), fun q hq => by cases hq; exact h⟩
    | 5 => obtain ⟨cC, iS, h⟩ := u_known (C := RX7) (T := TX7) (N := 4) (n := 4) hts in_X7 (tb_at (i := 128) (w := Cond.instantiable RX7 4) ht (by decide +kernel)); exact ⟨(cC, iS), fun q hq => by cases hq; exact h⟩
    | 6 => obtain ⟨cC, iS, h⟩ := u_known (C := RX8) (T := TX8) (N := 8) (n := 8) hts in_X8 (tb_at (i := 266) (w := Cond.instantiable RX8 8) ht (by decide +kernel)); exact ⟨(cC, iS), fun q hq => by cases hq; exact h⟩
    | 7 => obtain ⟨cC, iS, h⟩ := u_known (C := RX9) (T := TX9) (N := 19) (n := 19) hts in_X9 (tb_at (i := 101) (w := Cond.instantiable RX9 19) ht (by decide +kernel)); exact ⟨(cC, iS), fun q hq => by cases hq; exact h⟩
    | 8 => obtain ⟨cC, iS, h⟩ := u_known (C := RX10) (T := TX10) (N := 8) (n := 8) hts in_X10 (tb_at (i := 79) (w := Cond.instantiable RX10 8) ht (by decide +kernel)); exact ⟨(cC, iS), fun q hq => by cases hq; exact h⟩
    | 9 => obtain ⟨cC, iS, h⟩ := u_known (C := RX11) (T := TX11) (N := 9) (n := 9) hts in_X11 (tb_at (i := 1201) (w := Cond.instantiable RX11 9) ht (by decide +kernel)); exact ⟨(cC, iS), fun q hq => by cases hq; exact h⟩
    | 10 => obtain ⟨cC, iS, h⟩ := u_known (C := RB1) (T := TB1) (N := 4) (n := 4) hts in_B1 (tb_at (i := 1383) (w := Cond.instantiable RB1 4) ht (by decide +kernel)); exact ⟨(cC, iS), fun q hq => by cases hq; exact h⟩
    | 11 => obtain ⟨cC, iS, h⟩ := u_known (C := RB0) (T := TB0) (N := 4) (n := 4) hts in_B0 (tb_at (i := 1409) (w := Cond.instantiable RB0 4) ht (by decide +kernel)); exact ⟨(cC, iS), fun q hq => by cases hq; exact h⟩
    | k + 12 => exact ⟨(0, fun _ => 0), fun q hq => by simp [CLS] at hq⟩
  obtain ⟨p, hp⟩ := Classical.axiomOfChoice h0
  obtain ⟨c0, k0, m0, a1, a2, a3⟩ := Cond.arrayClass_spec (tb_at (i := 99) (w := Cond.arrayClass .int) ht (by decide +kernel))
  obtain ⟨c1, k1, m1, b1, b2, b3⟩ := Cond.arrayClass_spec (tb_at (i := 124) (w := Cond.arrayClass .long) ht (by decide +kernel))
  obtain ⟨m2, c2, k2, d1, d2, d3, d4, d5⟩ := Cond.arrayOver_spec (tb_at (i := 134) (w := Cond.arrayOver (.object "ChoirStalls$Sign")) ht (by decide +kernel))
  obtain ⟨c3, k3, m3, e1, e2, e3⟩ := Cond.arrayClass_spec (tb_at (i := 505) (w := Cond.arrayClass .byte) ht (by decide +kernel))
  obtain ⟨m4, c4, k4, f1, f2, f3, f4, f5⟩ := arrayOverA_spec (tb_at (i := 1207) (w := Cond.arrayOver (.array .int)) ht (by decide +kernel))
  obtain ⟨c5, k5, m5, g1, g2, g3⟩ := Cond.arrayClass_spec (tb_at (i := 1528) (w := Cond.arrayClass .boolean) ht (by decide +kernel))
  refine ⟨(fun k => (p k).1, fun k => (p k).2), fun k => if k = 0 then c0 else if k = 1 then c1 else if k = 2 then c2 else if k = 3 then c3 else if k = 4 then c4 else c5, fun k q hq => hp k q hq, fun k q hk => ?_⟩
  match k, hk with
  | 0, hk => cases hk; exact ⟨fun n z => ⟨fun k h => (by cases h), k0, a2, m0, a3⟩, a1⟩
  | 1, hk => cases hk; exact ⟨fun n z => ⟨fun k h => (by cases h), k1, b2, m1, b3⟩, b1⟩
  | 2, hk => cases hk; exact ⟨fun n z => ⟨fun k h => (by cases h), k2, d3, m2, d4⟩, k2, m2, d3, d4, d1, d5⟩
  | 3, hk => cases hk; exact ⟨fun n z => ⟨fun k h => (by cases h), k3, e2, m3, e3⟩, e1⟩
  | 4, hk => cases hk; exact ⟨fun n z => ⟨fun k h => (by cases h), k4, f3, m4, f4⟩, f5⟩
  | 5, hk => cases hk; exact ⟨fun n z => ⟨fun k h => (by cases h), k5, g2, m5, g3⟩, g1⟩
  | k + 6, hk => simp [TYS] at hk
theorem lw_static (ht : ∀ w ∈ lw_tbl, w.before args s = true) (hg : (Cond.and given_1 narrow_1).before args s = true) (hA : ∀ a : Nat, a < s.heap.size → ¬ A a) :
    ∃ (z : Nat → Nat) (D : va_G) (g : Nat → ClassId), va_K D CLS (TYS g) s ∧ Zs z A s s.heap ∧ Ls z A s s.heap ∧ Xs z A s s.heap := by
  obtain ⟨D, g, hK⟩ := lw_kn ht
  obtain ⟨ad, hEn, hCo, hev⟩ := lw_en ht hg hA
  obtain ⟨t0, hs1, hs2⟩ := lw_sw ht hg hA
  obtain ⟨t1, hs3, hs4⟩ := lw_sg ht hg hA hev
  obtain ⟨p, hp⟩ := lw_str hg hA
  obtain ⟨t2, t3, ⟨hd1, hd2⟩, hd3, hd4⟩ := lw_dg ht hg hA
  obtain ⟨x, hx⟩ := lw_tex hg
  obtain ⟨z, hz⟩ : ∃ z : Nat → Nat, z = fun j => if j < 49 then ad j else if j = 100 then t0 else if j = 101 then t1 else if j < 290 then x (j - 200) else if j = 290 then t2 else if j < 300 then t3 else if j < 400 then (p (j - 300)).1 else (p (j - 400)).2 := ⟨_, rfl⟩
  have z0 : ∀ j, j < 49 → z j = ad j := fun j hj => by rw [hz]; exact if_pos hj
  have z1 : z 100 = t0 := by rw [hz]; rfl
  have z2 : z 101 = t1 := by rw [hz]; rfl
  have z3 : z 290 = t2 := by rw [hz]; rfl
  have z4 : z 291 = t3 := by rw [hz]; rfl
  have z5 : ∀ i, i < 43 → z (300 + i) = (p i).1 := fun i hi => by
    rw [hz]; dsimp only
    rw [if_neg (by omega), if_neg (by omega), if_neg (by omega), if_neg (by omega), if_neg (by omega), if_neg (by omega), if_pos (by omega), show 300 + i - 300 = i by omega]
  have z6 : ∀ i, i < 43 → z (400 + i) = (p i).2 := fun i hi => by
    rw [hz]; dsimp only
    rw [if_neg (by omega), if_neg (by omega), if_neg (by omega), if_neg (by omega), if_neg (by omega), if_neg (by omega), if_neg (by omega), show 400 + i - 400 = i by omega]
  have z7 : ∀ i, i < 2 → z (200 + i) = x i := fun i hi => by
    rw [hz]; dsimp only
    rw [if_neg (by omega), if_neg (by omega), if_neg (by omega), if_pos (by omega), show 200 + i - 200 = i by omega]
  clear hz
  have hNs : Nst s := fun w hw => by
    have hk := (List.mem_filter.mp hw).2
    have h1 := ht w (List.mem_filter.mp hw).1
    cases w <;> first | exact va_Nw.of rfl h1 | (simp [nk_w] at hk)
  refine ⟨z, D, g, hK, ⟨hNs, ⟨fun i hi => ?_, fun i j hi hj e => ?_⟩, fun i hi => ?_, ?_, ?_, ?_, ?_, va_AO.of (A := args) ?_⟩, ⟨fun i hi => ?_, fun i hi => ?_, sp_st ht, ?_, ?_, ?_, ?_, ?_, ?_, ?_⟩, ⟨?_, ?_, ⟨?_, ?_⟩, trivial⟩⟩
  · have hi : i < 49 := hi
    rw [z0 i hi]; exact hEn.1 i hi
  · have hi : i < 49 := hi
    have hj : j < 49 := hj
    rw [z0 i hi, z0 j hj] at e; exact hEn.2 i j hi hj e
  · rw [z0 i hi]; exact hCo i hi
  · rw [z1]; exact hs1
  · rw [z1]; exact hs2
  · rw [z2]; exact hs3
  · rw [z2]
    obtain ⟨cell, g1, g2, g3, g4, g5, g6, g7⟩ := hs4
    exact ⟨cell, g1, g2, g3, g4, g5, fun j hj => (by have h8 := g6 j hj; show _ = some (Value.ref (z j)); rw [z0 j hj]; exact h8), g7⟩
  · exact tb_at (i := 134) (w := Cond.arrayOver (.object "ChoirStalls$Sign")) ht (by decide +kernel)
  · rw [z5 i hi, z6 i hi]; exact (hp i hi).2
  · rw [z5 i hi]; exact vk_R.of (A := args) (tb_at ht (tr_ls i hi)) (hp i hi).1
  · exact va_Zof (tb_at (i := 860) (w := Cond.laysStatic "java/lang/String" "COMPACT_STRINGS" "Z") ht (by decide +kernel)) (tb_at (i := 50) (w := Cond.initialized "java/lang/String") ht (by decide +kernel)) (va_eqv (u := .int 1) (nf_at (i := 61) (w := Cond.eq (.static "java/lang/String" "COMPACT_STRINGS" "Z") (.int 1)) hg (by decide +kernel)) rfl) hA
  · exact va_Zqof (tb_at (i := 876) (w := Cond.laysStatic "jdk/internal/util/Preconditions" "SIOOBE_FORMATTER" "Ljava/util/function/BiFunction;") ht (by decide +kernel)) (tb_at (i := 57) (w := Cond.initialized "jdk/internal/util/Preconditions") ht (by decide +kernel)) (nf_at (i := 62) (w := Cond.isRef (.static "jdk/internal/util/Preconditions" "SIOOBE_FORMATTER" "Ljava/util/function/BiFunction;")) hg (by decide +kernel)) hA
  · rw [z3]; exact hd1
  · rw [z3]; exact hd2
  · rw [z4]; exact hd3
  · rw [z4]; exact hd4
  · show (Cond.arrayOver (.array .int)).before args s = true; exact tb_at (i := 1207) (w := Cond.arrayOver (.array .int)) ht (by decide +kernel)
  · exact vx_Zqof (tb_at (i := 465) (w := Cond.laysStatic "java/lang/Throwable" "UNASSIGNED_STACK" "[Ljava/lang/StackTraceElement;") ht (by decide +kernel)) (tb_at (i := 69) (w := Cond.initialized "java/lang/Throwable") ht (by decide +kernel)) (nf_at (i := 4) (w := Cond.isRef (.static "java/lang/Throwable" "UNASSIGNED_STACK" "[Ljava/lang/StackTraceElement;")) hg (by decide +kernel)) hA
  · exact vx_Zqof (tb_at (i := 467) (w := Cond.laysStatic "java/lang/Throwable" "SUPPRESSED_SENTINEL" "Ljava/util/List;") ht (by decide +kernel)) (tb_at (i := 69) (w := Cond.initialized "java/lang/Throwable") ht (by decide +kernel)) (nf_at (i := 5) (w := Cond.isRef (.static "java/lang/Throwable" "SUPPRESSED_SENTINEL" "Ljava/util/List;")) hg (by decide +kernel)) hA
  · rw [show z 200 = x 0 from z7 0 (by decide)]; exact vk_R.of (A := args) (tb_at (i := 1516) (w := Cond.stringRef RX10 153 "there is no coin") ht (by decide +kernel)) (hx 0 (by decide))
  · rw [show z 201 = x 1 from z7 1 (by decide)]; exact vk_R.of (A := args) (tb_at (i := 1521) (w := Cond.stringRef RX10 161 "the stall bears no beast") ht (by decide +kernel)) (hx 1 (by decide))
end
theorem xT_of {b L : Nat} {xs : Nat → Int32} {s : State} {A : Nat → Prop} (h : va_X b L xs s s.heap) (hb : ¬ A b) : va_T .int b L (fun j => .int (xs j)) A s s.heap := by
  obtain ⟨scr, h1, h2, h3, h4, h5⟩ := h
  exact ⟨scr, h1, h2, h3, Nat.le_of_eq h4.symm, by rw [h4], h5, hb⟩
