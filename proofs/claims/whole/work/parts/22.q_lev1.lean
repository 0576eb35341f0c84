theorem w_736 : Cond.fieldLink RX2 301 RX6 "CLOSE" "LChoirStalls$Sign;" ∈ WALL := wl_in (i := 736) (by decide +kernel) (by decide +kernel)
theorem w_742 : Cond.fieldLink RX2 311 RX6 "COMMA" "LChoirStalls$Sign;" ∈ WALL := wl_in (i := 742) (by decide +kernel) (by decide +kernel)
