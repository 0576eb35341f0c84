theorem w_49 : Cond.selects RX13 yX13_cut yX13_cut ∈ WALL := wl_in (i := 49) (by decide +kernel) (by decide +kernel)
theorem w_54 : Cond.selects RX13 yX13_isList yX13_isList ∈ WALL := wl_in (i := 54) (by decide +kernel) (by decide +kernel)
theorem w_67 : Cond.selects RX13 yX13_errorOf yX13_errorOf ∈ WALL := wl_in (i := 67) (by decide +kernel) (by decide +kernel)
theorem w_1394 : Cond.fieldLink RX13 13 RX13 "errorAt" "I" ∈ WALL := wl_in (i := 1394) (by decide +kernel) (by decide +kernel)
theorem w_1455 : Cond.methodLink RX13 254 yX13_cut ∈ WALL := wl_in (i := 1455) (by decide +kernel) (by decide +kernel)
theorem w_1457 : Cond.instanceMethod yX13_cut ∈ WALL := wl_in (i := 1457) (by decide +kernel) (by decide +kernel)
theorem w_1458 : Cond.code yX13_cut cX13_cut 4 none ∈ WALL := wl_in (i := 1458) (by decide +kernel) (by decide +kernel)
theorem w_1587 : Cond.methodLink RX13 258 yX13_isList ∈ WALL := wl_in (i := 1587) (by decide +kernel) (by decide +kernel)
theorem w_1589 : Cond.instanceMethod yX13_isList ∈ WALL := wl_in (i := 1589) (by decide +kernel) (by decide +kernel)
theorem w_1590 : Cond.code yX13_isList cX13_isList 2 (some .boolean) ∈ WALL := wl_in (i := 1590) (by decide +kernel) (by decide +kernel)
theorem w_1639 : Cond.methodLink RX13 261 yX13_errorOf ∈ WALL := wl_in (i := 1639) (by decide +kernel) (by decide +kernel)
theorem w_1641 : Cond.instanceMethod yX13_errorOf ∈ WALL := wl_in (i := 1641) (by decide +kernel) (by decide +kernel)
theorem w_1642 : Cond.code yX13_errorOf cX13_errorOf 4 (some .int) ∈ WALL := wl_in (i := 1642) (by decide +kernel) (by decide +kernel)
theorem gv_X13_254 : GoodIn WALL (wsV RX13 254 RX13 yX13_cut (WS yX13_cut cX13_cut 4 none)) := gw_V w_1455 w_1457 w_49 w_119 w_1458
theorem gv_X13_258 : GoodIn WALL (wsV RX13 258 RX13 yX13_isList (WS yX13_isList cX13_isList 2 (some .boolean))) := gw_V w_1587 w_1589 w_54 w_119 w_1590
theorem gv_X13_261 : GoodIn WALL (wsV RX13 261 RX13 yX13_errorOf (WS yX13_errorOf cX13_errorOf 4 (some .int))) := gw_V w_1639 w_1641 w_67 w_119 w_1642
