/-! the text of a test -/
theorem Asc_nil : Asc [] := Asc.of rfl
theorem wT_1 {tn d : Nat → Nat} (h : d 5 = 1) : ((([] ++ TX 3) ++ dec (d 6)) ++ TX 4) = wTx tn d := by
  rw [(wE_1 (X := (0, fun _ => 0, fun _ => 0, fun _ => 0)) h).1]
  unfold ln_w1
  simp only [List.append_assoc, List.nil_append]
theorem wT_2 {tn d : Nat → Nat} (h : d 5 = 2) : (([] ++ TX 5) ++ (([] ++ TX 0) ++ dec (d 7 % tn 2))) = wTx tn d := by
  rw [(wE_2 (X := (0, fun _ => 0, fun _ => 0, fun _ => 0)) h).1]
  unfold ln_w2
  simp only [List.append_assoc, List.nil_append]
theorem wT_3 {tn d : Nat → Nat} (h : d 5 = 3) : ((((([] ++ TX 6) ++ (([] ++ TX 0) ++ dec (d 7 % tn 2))) ++ TX 7) ++ dec (d 6)) ++ TX 8) = wTx tn d := by
  rw [(wE_3 (X := (0, fun _ => 0, fun _ => 0, fun _ => 0)) h).1]
  unfold ln_w3
  simp only [List.append_assoc, List.nil_append]
theorem wT_4 {tn d : Nat → Nat} (h : d 5 = 4) : ((((((([] ++ TX 9) ++ (([] ++ TX 0) ++ dec (d 7 % tn 2))) ++ (([] ++ TX 1) ++ dec (d 9 % tn 0))) ++ TX 10) ++ (([] ++ TX 0) ++ dec (d 8 % tn 2))) ++ TX 11) ++ dec (d 6)) = wTx tn d := by
  rw [(wE_4 (X := (0, fun _ => 0, fun _ => 0, fun _ => 0)) h).1]
  unfold ln_w4
  simp only [List.append_assoc, List.nil_append]
theorem wT_5 {tn d : Nat → Nat} (h : d 5 = 5) : ((((((((([] ++ TX 12) ++ (([] ++ TX 0) ++ dec (d 7 % tn 2))) ++ TX 13) ++ dec (d 6)) ++ TX 14) ++ dec (d 6)) ++ TX 15) ++ dec (d 6)) ++ TX 16) = wTx tn d := by
  rw [(wE_5 (X := (0, fun _ => 0, fun _ => 0, fun _ => 0)) h).1]
  unfold ln_w5
  simp only [List.append_assoc, List.nil_append]
theorem wT_6 {tn d : Nat → Nat} (h : d 5 = 6) : (((([] ++ TX 17) ++ dec (d 6)) ++ TX 18) ++ dec (d 6)) = wTx tn d := by
  rw [(wE_6 (X := (0, fun _ => 0, fun _ => 0, fun _ => 0)) h).1]
  unfold ln_w6
  simp only [List.append_assoc, List.nil_append]
theorem wT_7 {tn d : Nat → Nat} (h : d 5 = 7) : (((([] ++ TX 19) ++ dec (d 6)) ++ TX 20) ++ dec (d 6)) = wTx tn d := by
  rw [(wE_7 (X := (0, fun _ => 0, fun _ => 0, fun _ => 0)) h).1]
  unfold ln_w7
  simp only [List.append_assoc, List.nil_append]
theorem wT_8 {tn d : Nat → Nat} (h : d 5 = 8) : ((((((([] ++ TX 21) ++ (([] ++ TX 0) ++ dec (d 7 % tn 2))) ++ TX 22) ++ (([] ++ TX 0) ++ dec (d 8 % tn 2))) ++ TX 23) ++ dec (d 6)) ++ TX 24) = wTx tn d := by
  rw [(wE_8 (X := (0, fun _ => 0, fun _ => 0, fun _ => 0)) h).1]
  unfold ln_w8
  simp only [List.append_assoc, List.nil_append]
