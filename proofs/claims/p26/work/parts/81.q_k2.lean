theorem w_1395 : Cond.lays RJ4 RJ5 "value" "[B" ∈ WALL := wl_in (i := 1395) (by decide +kernel) (by decide +kernel)
theorem w_1397 : Cond.lays RJ4 RJ5 "coder" "B" ∈ WALL := wl_in (i := 1397) (by decide +kernel) (by decide +kernel)
theorem w_1399 : Cond.lays RJ4 RJ5 "maybeLatin1" "Z" ∈ WALL := wl_in (i := 1399) (by decide +kernel) (by decide +kernel)
theorem w_1401 : Cond.lays RJ4 RJ5 "count" "I" ∈ WALL := wl_in (i := 1401) (by decide +kernel) (by decide +kernel)
theorem w_1452 : Cond.laysFinal RJ0 RJ0 "value" "[B" ∈ WALL := wl_in (i := 1452) (by decide +kernel) (by decide +kernel)
theorem w_1454 : Cond.laysFinal RJ0 RJ0 "coder" "B" ∈ WALL := wl_in (i := 1454) (by decide +kernel) (by decide +kernel)
theorem w_1456 : Cond.lays RJ0 RJ0 "hash" "I" ∈ WALL := wl_in (i := 1456) (by decide +kernel) (by decide +kernel)
theorem w_1458 : Cond.lays RJ0 RJ0 "hashIsZero" "Z" ∈ WALL := wl_in (i := 1458) (by decide +kernel) (by decide +kernel)
theorem in_B0 : ∀ w ∈ u_ws RB0 TB0 4, w ∈ WALL := show ∀ w ∈ ([Cond.laysFinal RJ0 RJ0 "value" "[B", Cond.laysFinal RJ0 RJ0 "coder" "B", Cond.lays RJ0 RJ0 "hash" "I", Cond.lays RJ0 RJ0 "hashIsZero" "Z"] : List Cond), w ∈ WALL from List.forall_mem_cons.mpr ⟨w_1452, List.forall_mem_cons.mpr ⟨w_1454, List.forall_mem_cons.mpr ⟨w_1456, List.forall_mem_cons.mpr ⟨w_1458, fun _ h => absurd h List.not_mem_nil⟩⟩⟩⟩
theorem in_B1 : ∀ w ∈ u_ws RB1 TB1 4, w ∈ WALL := show ∀ w ∈ ([Cond.lays RJ4 RJ5 "value" "[B", Cond.lays RJ4 RJ5 "coder" "B", Cond.lays RJ4 RJ5 "maybeLatin1" "Z", Cond.lays RJ4 RJ5 "count" "I"] : List Cond), w ∈ WALL from List.forall_mem_cons.mpr ⟨w_1395, List.forall_mem_cons.mpr ⟨w_1397, List.forall_mem_cons.mpr ⟨w_1399, List.forall_mem_cons.mpr ⟨w_1401, fun _ h => absurd h List.not_mem_nil⟩⟩⟩⟩
