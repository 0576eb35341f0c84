theorem w_1216 : Cond.fieldLink RL 56 RX11 "beasts" "[[I" ∈ WALL := wl_in (i := 1216) (by decide +kernel) (by decide +kernel)
theorem w_1220 : Cond.fieldLink RL 41 RX11 "stalls" "[[I" ∈ WALL := wl_in (i := 1220) (by decide +kernel) (by decide +kernel)
theorem w_1246 : Cond.methodLink RL 37 yJ4_append_15ec4 ∈ WALL := wl_in (i := 1246) (by decide +kernel) (by decide +kernel)
theorem w_1247 : Cond.instanceMethod yJ4_append_15ec4 ∈ WALL := wl_in (i := 1247) (by decide +kernel) (by decide +kernel)
theorem w_1248 : Cond.selects RJ4 yJ4_append_15ec4 yJ4_append_15ec4 ∈ WALL := wl_in (i := 1248) (by decide +kernel) (by decide +kernel)
theorem w_1249 : Cond.code yJ4_append_15ec4 cJ4_append_15ec4 2 (some (.object "java/lang/StringBuilder")) ∈ WALL := wl_in (i := 1249) (by decide +kernel) (by decide +kernel)
theorem w_1350 : Cond.methodLink RL 47 yJ4_append_bf812 ∈ WALL := wl_in (i := 1350) (by decide +kernel) (by decide +kernel)
theorem w_1351 : Cond.instanceMethod yJ4_append_bf812 ∈ WALL := wl_in (i := 1351) (by decide +kernel) (by decide +kernel)
theorem w_1352 : Cond.selects RJ4 yJ4_append_bf812 yJ4_append_bf812 ∈ WALL := wl_in (i := 1352) (by decide +kernel) (by decide +kernel)
theorem w_1353 : Cond.code yJ4_append_bf812 cJ4_append_bf812 2 (some (.object "java/lang/StringBuilder")) ∈ WALL := wl_in (i := 1353) (by decide +kernel) (by decide +kernel)
theorem w_1382 : Cond.classLink RL 32 RJ4 ∈ WALL := wl_in (i := 1382) (by decide +kernel) (by decide +kernel)
theorem w_1383 : Cond.instantiable RJ4 4 ∈ WALL := wl_in (i := 1383) (by decide +kernel) (by decide +kernel)
theorem w_1384 : Cond.methodLink RL 34 yJ4_init_da8c8 ∈ WALL := wl_in (i := 1384) (by decide +kernel) (by decide +kernel)
theorem w_1385 : Cond.instanceMethod yJ4_init_da8c8 ∈ WALL := wl_in (i := 1385) (by decide +kernel) (by decide +kernel)
theorem w_1386 : Cond.code yJ4_init_da8c8 cJ4_init_da8c8 1 none ∈ WALL := wl_in (i := 1386) (by decide +kernel) (by decide +kernel)
theorem w_1404 : Cond.methodLink RL 50 yJ4_toString_0e30d ∈ WALL := wl_in (i := 1404) (by decide +kernel) (by decide +kernel)
theorem w_1405 : Cond.instanceMethod yJ4_toString_0e30d ∈ WALL := wl_in (i := 1405) (by decide +kernel) (by decide +kernel)
theorem w_1406 : Cond.selects RJ4 yJ4_toString_0e30d yJ4_toString_0e30d ∈ WALL := wl_in (i := 1406) (by decide +kernel) (by decide +kernel)
theorem w_1407 : Cond.code yJ4_toString_0e30d cJ4_toString_0e30d 1 (some (.object "java/lang/String")) ∈ WALL := wl_in (i := 1407) (by decide +kernel) (by decide +kernel)
theorem gw_J4_init_da8c8 : GoodIn WALL (WS yJ4_init_da8c8 cJ4_init_da8c8 1 none) := gw_W w_1386
theorem gv_L_37 : GoodIn WALL (wsV RL 37 RJ4 yJ4_append_15ec4 (WS yJ4_append_15ec4 cJ4_append_15ec4 2 (some (.object "java/lang/StringBuilder")))) := gw_V w_1246 w_1247 w_1248 w_49 w_1249
theorem gv_L_47 : GoodIn WALL (wsV RL 47 RJ4 yJ4_append_bf812 (WS yJ4_append_bf812 cJ4_append_bf812 2 (some (.object "java/lang/StringBuilder")))) := gw_V w_1350 w_1351 w_1352 w_49 w_1353
theorem gv_L_50 : GoodIn WALL (wsV RL 50 RJ4 yJ4_toString_0e30d (WS yJ4_toString_0e30d cJ4_toString_0e30d 1 (some (.object "java/lang/String")))) := gw_V w_1404 w_1405 w_1406 w_49 w_1407
