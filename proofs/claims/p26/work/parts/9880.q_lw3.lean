theorem w_78 : Cond.classLink RL 10 RX10 ∈ WALL := wl_in (i := 78) (by decide +kernel) (by decide +kernel)
theorem w_79 : Cond.instantiable RX10 8 ∈ WALL := wl_in (i := 79) (by decide +kernel) (by decide +kernel)
theorem w_80 : Cond.methodLink RL 210 yX10_init ∈ WALL := wl_in (i := 80) (by decide +kernel) (by decide +kernel)
theorem w_81 : Cond.instanceMethod yX10_init ∈ WALL := wl_in (i := 81) (by decide +kernel) (by decide +kernel)
theorem w_82 : Cond.code yX10_init cX10_init 1 none ∈ WALL := wl_in (i := 82) (by decide +kernel) (by decide +kernel)
theorem w_800 : Cond.methodLink RL 256 yX11_isSame ∈ WALL := wl_in (i := 800) (by decide +kernel) (by decide +kernel)
theorem w_801 : Cond.instanceMethod yX11_isSame ∈ WALL := wl_in (i := 801) (by decide +kernel) (by decide +kernel)
theorem w_802 : Cond.selects RX11 yX11_isSame yX11_isSame ∈ WALL := wl_in (i := 802) (by decide +kernel) (by decide +kernel)
theorem w_803 : Cond.code yX11_isSame cX11_isSame 12 (some .boolean) ∈ WALL := by set_option maxRecDepth 100000 in exact wl_in (i := 803) rfl (by decide +kernel)
theorem w_843 : Cond.methodLink RL 211 yL_taught ∈ WALL := wl_in (i := 843) (by decide +kernel) (by decide +kernel)
theorem w_844 : Cond.static yL_taught ∈ WALL := wl_in (i := 844) (by decide +kernel) (by decide +kernel)
theorem w_845 : Cond.code yL_taught cL_taught 5 (some .int) ∈ WALL := wl_in (i := 845) (by decide +kernel) (by decide +kernel)
theorem w_1197 : Cond.methodLink RL 206 yL_list ∈ WALL := wl_in (i := 1197) (by decide +kernel) (by decide +kernel)
theorem w_1198 : Cond.static yL_list ∈ WALL := wl_in (i := 1198) (by decide +kernel) (by decide +kernel)
theorem w_1199 : Cond.code yL_list cL_list 7 (some (.object "ChoirStallsLaw$Sim")) ∈ WALL := by set_option maxRecDepth 100000 in exact wl_in (i := 1199) rfl (by decide +kernel)
theorem gs_L_206 : GoodIn WALL (va_wsS RL 206 yL_list (WS yL_list cL_list 7 (some (.object "ChoirStallsLaw$Sim")))) := gw_S w_1197 w_1198 w_47 w_1199
theorem gs_L_211 : GoodIn WALL (va_wsS RL 211 yL_taught (WS yL_taught cL_taught 5 (some .int))) := gw_S w_843 w_844 w_47 w_845
theorem gv_L_256 : GoodIn WALL (wsV RL 256 RX11 yX11_isSame (WS yX11_isSame cX11_isSame 12 (some .boolean))) := gw_V w_800 w_801 w_802 w_52 w_803
theorem gw_X10_init : GoodIn WALL (WS yX10_init cX10_init 1 none) := gw_W w_82
