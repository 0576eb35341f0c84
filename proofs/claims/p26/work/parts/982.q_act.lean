theorem w_47 : Cond.initialized RL ∈ WALL := wl_in (i := 47) (by decide +kernel) (by decide +kernel)
theorem w_835 : Cond.methodLink RL 112 yL_below ∈ WALL := wl_in (i := 835) (by decide +kernel) (by decide +kernel)
theorem w_836 : Cond.static yL_below ∈ WALL := wl_in (i := 836) (by decide +kernel) (by decide +kernel)
theorem w_837 : Cond.code yL_below cL_below 2 (some .int) ∈ WALL := wl_in (i := 837) (by decide +kernel) (by decide +kernel)
theorem nw_905 : Cond.castable "java/lang/IllegalStateException" "java/lang/IllegalStateException" ∈ NWALL := nw_in (i := 905) (by decide +kernel) (by decide +kernel)
theorem w_1210 : Cond.fieldLink RL 172 RX11 "damp" "I" ∈ WALL := wl_in (i := 1210) (by decide +kernel) (by decide +kernel)
theorem w_1212 : Cond.fieldLink RL 182 RX11 "coins" "I" ∈ WALL := wl_in (i := 1212) (by decide +kernel) (by decide +kernel)
theorem w_1502 : Cond.classLink RL 188 "java/lang/IllegalStateException" ∈ WALL := wl_in (i := 1502) (by decide +kernel) (by decide +kernel)
theorem w_1503 : Cond.methodLink RL 176 yX10_setDamp ∈ WALL := wl_in (i := 1503) (by decide +kernel) (by decide +kernel)
theorem w_1504 : Cond.instanceMethod yX10_setDamp ∈ WALL := wl_in (i := 1504) (by decide +kernel) (by decide +kernel)
theorem w_1505 : Cond.selects RX10 yX10_setDamp yX10_setDamp ∈ WALL := wl_in (i := 1505) (by decide +kernel) (by decide +kernel)
theorem w_1506 : Cond.code yX10_setDamp cX10_setDamp 3 (some .int) ∈ WALL := wl_in (i := 1506) (by decide +kernel) (by decide +kernel)
theorem w_1508 : Cond.methodLink RL 179 yX10_oil ∈ WALL := wl_in (i := 1508) (by decide +kernel) (by decide +kernel)
theorem w_1509 : Cond.instanceMethod yX10_oil ∈ WALL := wl_in (i := 1509) (by decide +kernel) (by decide +kernel)
theorem w_1510 : Cond.selects RX10 yX10_oil yX10_oil ∈ WALL := wl_in (i := 1510) (by decide +kernel) (by decide +kernel)
theorem w_1511 : Cond.code yX10_oil cX10_oil 3 (some .int) ∈ WALL := wl_in (i := 1511) (by decide +kernel) (by decide +kernel)
theorem w_1512 : Cond.methodLink RL 185 yX10_smoke ∈ WALL := wl_in (i := 1512) (by decide +kernel) (by decide +kernel)
theorem w_1513 : Cond.instanceMethod yX10_smoke ∈ WALL := wl_in (i := 1513) (by decide +kernel) (by decide +kernel)
theorem w_1514 : Cond.selects RX10 yX10_smoke yX10_smoke ∈ WALL := wl_in (i := 1514) (by decide +kernel) (by decide +kernel)
theorem w_1515 : Cond.code yX10_smoke cX10_smoke 3 (some .int) ∈ WALL := wl_in (i := 1515) (by decide +kernel) (by decide +kernel)
theorem w_1517 : Cond.methodLink RL 190 yX10_strip ∈ WALL := wl_in (i := 1517) (by decide +kernel) (by decide +kernel)
theorem w_1518 : Cond.instanceMethod yX10_strip ∈ WALL := wl_in (i := 1518) (by decide +kernel) (by decide +kernel)
theorem w_1519 : Cond.selects RX10 yX10_strip yX10_strip ∈ WALL := wl_in (i := 1519) (by decide +kernel) (by decide +kernel)
theorem w_1520 : Cond.code yX10_strip cX10_strip 3 (some .int) ∈ WALL := wl_in (i := 1520) (by decide +kernel) (by decide +kernel)
theorem w_1522 : Cond.methodLink RL 193 yL_passed ∈ WALL := wl_in (i := 1522) (by decide +kernel) (by decide +kernel)
theorem w_1523 : Cond.static yL_passed ∈ WALL := wl_in (i := 1523) (by decide +kernel) (by decide +kernel)
theorem w_1524 : Cond.code yL_passed cL_passed 5 (some .boolean) ∈ WALL := wl_in (i := 1524) (by decide +kernel) (by decide +kernel)
theorem gs_L_112 : GoodIn WALL (va_wsS RL 112 yL_below (WS yL_below cL_below 2 (some .int))) := gw_S w_835 w_836 w_47 w_837
theorem gv_L_176 : GoodIn WALL (wsV RL 176 RX10 yX10_setDamp (WS yX10_setDamp cX10_setDamp 3 (some .int))) := gw_V w_1503 w_1504 w_1505 w_60 w_1506
theorem gv_L_179 : GoodIn WALL (wsV RL 179 RX10 yX10_oil (WS yX10_oil cX10_oil 3 (some .int))) := gw_V w_1508 w_1509 w_1510 w_60 w_1511
theorem gv_L_185 : GoodIn WALL (wsV RL 185 RX10 yX10_smoke (WS yX10_smoke cX10_smoke 3 (some .int))) := gw_V w_1512 w_1513 w_1514 w_60 w_1515
theorem gv_L_190 : GoodIn WALL (wsV RL 190 RX10 yX10_strip (WS yX10_strip cX10_strip 3 (some .int))) := gw_V w_1517 w_1518 w_1519 w_60 w_1520
theorem gs_L_193 : GoodIn WALL (va_wsS RL 193 yL_passed (WS yL_passed cL_passed 5 (some .boolean))) := gw_S w_1522 w_1523 w_47 w_1524
