theorem w_137 : Cond.classLink RL 8 RX10 ∈ WALL := wl_in (i := 137) (by decide +kernel) (by decide +kernel)
theorem w_138 : Cond.instantiable RX10 8 ∈ WALL := wl_in (i := 138) (by decide +kernel) (by decide +kernel)
theorem w_139 : Cond.methodLink RL 72 yX10_init ∈ WALL := wl_in (i := 139) (by decide +kernel) (by decide +kernel)
theorem w_140 : Cond.instanceMethod yX10_init ∈ WALL := wl_in (i := 140) (by decide +kernel) (by decide +kernel)
theorem w_141 : Cond.code yX10_init cX10_init 1 none ∈ WALL := wl_in (i := 141) (by decide +kernel) (by decide +kernel)
theorem w_1229 : Cond.classLink RL 73 RX13 ∈ WALL := wl_in (i := 1229) (by decide +kernel) (by decide +kernel)
theorem w_1230 : Cond.instantiable RX13 12 ∈ WALL := wl_in (i := 1230) (by decide +kernel) (by decide +kernel)
theorem w_1231 : Cond.methodLink RL 75 yX13_init ∈ WALL := wl_in (i := 1231) (by decide +kernel) (by decide +kernel)
theorem w_1232 : Cond.instanceMethod yX13_init ∈ WALL := wl_in (i := 1232) (by decide +kernel) (by decide +kernel)
theorem w_1233 : Cond.code yX13_init cX13_init 1 none ∈ WALL := wl_in (i := 1233) (by decide +kernel) (by decide +kernel)
theorem gw_X10_init : GoodIn WALL (WS yX10_init cX10_init 1 none) := gw_W w_141
theorem gw_X13_init : GoodIn WALL (WS yX13_init cX13_init 1 none) := gw_W w_1233
