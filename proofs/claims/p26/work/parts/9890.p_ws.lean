theorem whole_start {p : Program} {e : Env} {s : State} {m : MethodId} {below : List Frame} {meth : Method} {c : Code} (l : Launch) (hflags : l.flags = flags0) {b L : Nat} {xs : Nat → Int32} (hL : L ≤ 260) (C0 : lw_At p s m meth c b L xs) : W p l e room_1 s m #[Value.ref b] below meth c s.heap [] 0 0 (lw_Z below #[Value.ref b] s) (entryFrame m ([Value.ref b] : List Value).toArray 36) := by
  obtain ⟨hx, hb, hr, hml, hown9, hts9, hScr, hbl, hlocks, hgv⟩ := id C0
  obtain ⟨z, D, g, hK, hZ, hY, hX⟩ := lw_static (A := fun q : Nat => s.heap.size ≤ q) hts9 hgv (fun a ha h => absurd h (by omega))
  exact lw_enter C0 ⟨hK, hZ, hY, hX, fun _ h => h, Nat.not_le.mpr hbl, by unfold Launch.stackTraces; rw [hflags]; decide +kernel, xT_of hScr (Nat.not_le.mpr hbl)⟩ (fun _ h => h) hL
