theorem w_839 : Cond.methodLink RL 106 yL_cell ∈ WALL := wl_in (i := 839) (by decide +kernel) (by decide +kernel)
theorem w_840 : Cond.static yL_cell ∈ WALL := wl_in (i := 840) (by decide +kernel) (by decide +kernel)
theorem w_841 : Cond.code yL_cell cL_cell 2 (some .int) ∈ WALL := wl_in (i := 841) (by decide +kernel) (by decide +kernel)
theorem w_1499 : Cond.methodLink RL 215 yL_act ∈ WALL := wl_in (i := 1499) (by decide +kernel) (by decide +kernel)
theorem w_1500 : Cond.static yL_act ∈ WALL := wl_in (i := 1500) (by decide +kernel) (by decide +kernel)
theorem w_1501 : Cond.codeWith yL_act cL_act 8 (some .boolean) [(159, 166, 169, 188), (239, 246, 249, 188)] ∈ WALL := wl_in (i := 1501) (by decide +kernel) (by decide +kernel)
theorem gs_L_106 : GoodIn WALL (va_wsS RL 106 yL_cell (WS yL_cell cL_cell 2 (some .int))) := gw_S w_839 w_840 w_47 w_841
theorem gh_L_215 : GoodIn WALL (va_wsS RL 215 yL_act (WSH yL_act cL_act 8 (some .boolean) [(159, 166, 169, 188), (239, 246, 249, 188)])) := gw_SH w_1499 w_1500 w_47 w_1501
