theorem w_51 : Cond.selects RX13 yX13_lengthAt yX13_lengthAt ∈ WALL := wl_in (i := 51) (by decide +kernel) (by decide +kernel)
theorem w_52 : Cond.selects RX13 yX13_kindAt yX13_kindAt ∈ WALL := wl_in (i := 52) (by decide +kernel) (by decide +kernel)
theorem w_53 : Cond.selects RX13 yX13_wordAt yX13_wordAt ∈ WALL := wl_in (i := 53) (by decide +kernel) (by decide +kernel)
theorem w_1463 : Cond.methodLink RX13 96 yX13_lengthAt ∈ WALL := wl_in (i := 1463) (by decide +kernel) (by decide +kernel)
theorem w_1465 : Cond.instanceMethod yX13_lengthAt ∈ WALL := wl_in (i := 1465) (by decide +kernel) (by decide +kernel)
theorem w_1466 : Cond.code yX13_lengthAt cX13_lengthAt 4 (some .int) ∈ WALL := wl_in (i := 1466) (by decide +kernel) (by decide +kernel)
theorem w_1473 : Cond.methodLink RX13 102 yX13_kindAt ∈ WALL := wl_in (i := 1473) (by decide +kernel) (by decide +kernel)
theorem w_1475 : Cond.instanceMethod yX13_kindAt ∈ WALL := wl_in (i := 1475) (by decide +kernel) (by decide +kernel)
theorem w_1476 : Cond.code yX13_kindAt cX13_kindAt 5 (some .int) ∈ WALL := wl_in (i := 1476) (by decide +kernel) (by decide +kernel)
theorem w_1477 : Cond.methodLink RX13 67 yX13_wordAt ∈ WALL := wl_in (i := 1477) (by decide +kernel) (by decide +kernel)
theorem w_1479 : Cond.instanceMethod yX13_wordAt ∈ WALL := wl_in (i := 1479) (by decide +kernel) (by decide +kernel)
theorem w_1480 : Cond.code yX13_wordAt cX13_wordAt 5 (some .int) ∈ WALL := wl_in (i := 1480) (by decide +kernel) (by decide +kernel)
theorem w_1532 : Cond.methodLink RX13 73 yJ0_indexOf_0f7a4 ∈ WALL := wl_in (i := 1532) (by decide +kernel) (by decide +kernel)
theorem w_1533 : Cond.instanceMethod yJ0_indexOf_0f7a4 ∈ WALL := wl_in (i := 1533) (by decide +kernel) (by decide +kernel)
theorem w_1534 : Cond.selects RJ0 yJ0_indexOf_0f7a4 yJ0_indexOf_0f7a4 ∈ WALL := wl_in (i := 1534) (by decide +kernel) (by decide +kernel)
theorem w_1535 : Cond.code yJ0_indexOf_0f7a4 cJ0_indexOf_0f7a4 2 (some .int) ∈ WALL := wl_in (i := 1535) (by decide +kernel) (by decide +kernel)
theorem gv_X13_102 : GoodIn WALL (wsV RX13 102 RX13 yX13_kindAt (WS yX13_kindAt cX13_kindAt 5 (some .int))) := gw_V w_1473 w_1475 w_52 w_119 w_1476
theorem gv_X13_67 : GoodIn WALL (wsV RX13 67 RX13 yX13_wordAt (WS yX13_wordAt cX13_wordAt 5 (some .int))) := gw_V w_1477 w_1479 w_53 w_119 w_1480
theorem gv_X13_73 : GoodIn WALL (wsV RX13 73 RJ0 yJ0_indexOf_0f7a4 (WS yJ0_indexOf_0f7a4 cJ0_indexOf_0f7a4 2 (some .int))) := gw_V w_1532 w_1533 w_1534 w_130 w_1535
theorem gv_X13_96 : GoodIn WALL (wsV RX13 96 RX13 yX13_lengthAt (WS yX13_lengthAt cX13_lengthAt 4 (some .int))) := gw_V w_1463 w_1465 w_51 w_119 w_1466
