theorem w_73 : Cond.initialized "java/lang/IllegalStateException" ∈ WALL := wl_in (i := 73) (by decide +kernel) (by decide +kernel)
theorem w_903 : Cond.classLink RX10 64 "java/lang/IllegalStateException" ∈ WALL := wl_in (i := 903) (by decide +kernel) (by decide +kernel)
