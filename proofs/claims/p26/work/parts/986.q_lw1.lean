theorem w_431 : Cond.methodLink RL 218 yX10_count ∈ WALL := wl_in (i := 431) (by decide +kernel) (by decide +kernel)
theorem w_432 : Cond.instanceMethod yX10_count ∈ WALL := wl_in (i := 432) (by decide +kernel) (by decide +kernel)
theorem w_433 : Cond.selects RX10 yX10_count yX10_count ∈ WALL := wl_in (i := 433) (by decide +kernel) (by decide +kernel)
theorem w_434 : Cond.code yX10_count cX10_count 2 (some .int) ∈ WALL := wl_in (i := 434) (by decide +kernel) (by decide +kernel)
theorem w_547 : Cond.methodLink RL 228 yX10_carver ∈ WALL := wl_in (i := 547) (by decide +kernel) (by decide +kernel)
theorem w_548 : Cond.instanceMethod yX10_carver ∈ WALL := wl_in (i := 548) (by decide +kernel) (by decide +kernel)
theorem w_549 : Cond.selects RX10 yX10_carver yX10_carver ∈ WALL := wl_in (i := 549) (by decide +kernel) (by decide +kernel)
theorem w_550 : Cond.code yX10_carver cX10_carver 3 (some .int) ∈ WALL := wl_in (i := 550) (by decide +kernel) (by decide +kernel)
theorem w_599 : Cond.methodLink RL 222 yX10_stall ∈ WALL := wl_in (i := 599) (by decide +kernel) (by decide +kernel)
theorem w_600 : Cond.instanceMethod yX10_stall ∈ WALL := wl_in (i := 600) (by decide +kernel) (by decide +kernel)
theorem w_601 : Cond.selects RX10 yX10_stall yX10_stall ∈ WALL := wl_in (i := 601) (by decide +kernel) (by decide +kernel)
theorem w_602 : Cond.code yX10_stall cX10_stall 3 (some .int) ∈ WALL := wl_in (i := 602) (by decide +kernel) (by decide +kernel)
theorem w_619 : Cond.methodLink RL 225 yX10_order ∈ WALL := wl_in (i := 619) (by decide +kernel) (by decide +kernel)
theorem w_620 : Cond.instanceMethod yX10_order ∈ WALL := wl_in (i := 620) (by decide +kernel) (by decide +kernel)
theorem w_621 : Cond.selects RX10 yX10_order yX10_order ∈ WALL := wl_in (i := 621) (by decide +kernel) (by decide +kernel)
theorem w_622 : Cond.code yX10_order cX10_order 3 (some .int) ∈ WALL := wl_in (i := 622) (by decide +kernel) (by decide +kernel)
theorem w_632 : Cond.methodLink RL 231 yX10_bishop ∈ WALL := wl_in (i := 632) (by decide +kernel) (by decide +kernel)
theorem w_633 : Cond.instanceMethod yX10_bishop ∈ WALL := wl_in (i := 633) (by decide +kernel) (by decide +kernel)
theorem w_634 : Cond.selects RX10 yX10_bishop yX10_bishop ∈ WALL := wl_in (i := 634) (by decide +kernel) (by decide +kernel)
theorem w_635 : Cond.code yX10_bishop cX10_bishop 1 (some .int) ∈ WALL := wl_in (i := 635) (by decide +kernel) (by decide +kernel)
theorem w_649 : Cond.methodLink RL 234 yX10_worst ∈ WALL := wl_in (i := 649) (by decide +kernel) (by decide +kernel)
theorem w_650 : Cond.instanceMethod yX10_worst ∈ WALL := wl_in (i := 650) (by decide +kernel) (by decide +kernel)
theorem w_651 : Cond.selects RX10 yX10_worst yX10_worst ∈ WALL := wl_in (i := 651) (by decide +kernel) (by decide +kernel)
theorem w_652 : Cond.code yX10_worst cX10_worst 2 (some .int) ∈ WALL := wl_in (i := 652) (by decide +kernel) (by decide +kernel)
theorem w_839 : Cond.methodLink RL 106 yL_cell ∈ WALL := wl_in (i := 839) (by decide +kernel) (by decide +kernel)
theorem w_840 : Cond.static yL_cell ∈ WALL := wl_in (i := 840) (by decide +kernel) (by decide +kernel)
theorem w_841 : Cond.code yL_cell cL_cell 2 (some .int) ∈ WALL := wl_in (i := 841) (by decide +kernel) (by decide +kernel)
theorem w_1499 : Cond.methodLink RL 215 yL_act ∈ WALL := wl_in (i := 1499) (by decide +kernel) (by decide +kernel)
theorem w_1500 : Cond.static yL_act ∈ WALL := wl_in (i := 1500) (by decide +kernel) (by decide +kernel)
theorem w_1501 : Cond.codeWith yL_act cL_act 8 (some .boolean) [(159, 166, 169, 188), (239, 246, 249, 188)] ∈ WALL := wl_in (i := 1501) (by decide +kernel) (by decide +kernel)
theorem w_1527 : Cond.classLink RL 221 "[[I" ∈ WALL := wl_in (i := 1527) (by decide +kernel) (by decide +kernel)
theorem w_1528 : Cond.arrayClass .boolean ∈ WALL := wl_in (i := 1528) (by decide +kernel) (by decide +kernel)
theorem gs_L_106 : GoodIn WALL (va_wsS RL 106 yL_cell (WS yL_cell cL_cell 2 (some .int))) := gw_S w_839 w_840 w_47 w_841
theorem gh_L_215 : GoodIn WALL (va_wsS RL 215 yL_act (WSH yL_act cL_act 8 (some .boolean) [(159, 166, 169, 188), (239, 246, 249, 188)])) := gw_SH w_1499 w_1500 w_47 w_1501
theorem gv_L_218 : GoodIn WALL (wsV RL 218 RX10 yX10_count (WS yX10_count cX10_count 2 (some .int))) := gw_V w_431 w_432 w_433 w_60 w_434
theorem gv_L_222 : GoodIn WALL (wsV RL 222 RX10 yX10_stall (WS yX10_stall cX10_stall 3 (some .int))) := gw_V w_599 w_600 w_601 w_60 w_602
theorem gv_L_225 : GoodIn WALL (wsV RL 225 RX10 yX10_order (WS yX10_order cX10_order 3 (some .int))) := gw_V w_619 w_620 w_621 w_60 w_622
theorem gv_L_228 : GoodIn WALL (wsV RL 228 RX10 yX10_carver (WS yX10_carver cX10_carver 3 (some .int))) := gw_V w_547 w_548 w_549 w_60 w_550
theorem gv_L_231 : GoodIn WALL (wsV RL 231 RX10 yX10_bishop (WS yX10_bishop cX10_bishop 1 (some .int))) := gw_V w_632 w_633 w_634 w_60 w_635
theorem gv_L_234 : GoodIn WALL (wsV RL 234 RX10 yX10_worst (WS yX10_worst cX10_worst 2 (some .int))) := gw_V w_649 w_650 w_651 w_60 w_652
