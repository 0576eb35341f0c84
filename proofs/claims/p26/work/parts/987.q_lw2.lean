theorem w_636 : Cond.methodLink RL 247 yX10_pleasure ∈ WALL := wl_in (i := 636) (by decide +kernel) (by decide +kernel)
theorem w_637 : Cond.instanceMethod yX10_pleasure ∈ WALL := wl_in (i := 637) (by decide +kernel) (by decide +kernel)
theorem w_638 : Cond.selects RX10 yX10_pleasure yX10_pleasure ∈ WALL := wl_in (i := 638) (by decide +kernel) (by decide +kernel)
theorem w_639 : Cond.code yX10_pleasure cX10_pleasure 2 (some .int) ∈ WALL := wl_in (i := 639) (by decide +kernel) (by decide +kernel)
theorem w_739 : Cond.methodLink RL 244 yX10_until ∈ WALL := wl_in (i := 739) (by decide +kernel) (by decide +kernel)
theorem w_740 : Cond.instanceMethod yX10_until ∈ WALL := wl_in (i := 740) (by decide +kernel) (by decide +kernel)
theorem w_741 : Cond.selects RX10 yX10_until yX10_until ∈ WALL := wl_in (i := 741) (by decide +kernel) (by decide +kernel)
theorem w_742 : Cond.code yX10_until cX10_until 4 (some .int) ∈ WALL := wl_in (i := 742) (by decide +kernel) (by decide +kernel)
theorem w_751 : Cond.methodLink RL 241 yX10_foresee ∈ WALL := wl_in (i := 751) (by decide +kernel) (by decide +kernel)
theorem w_752 : Cond.instanceMethod yX10_foresee ∈ WALL := wl_in (i := 752) (by decide +kernel) (by decide +kernel)
theorem w_753 : Cond.selects RX10 yX10_foresee yX10_foresee ∈ WALL := wl_in (i := 753) (by decide +kernel) (by decide +kernel)
theorem w_754 : Cond.code yX10_foresee cX10_foresee 4 (some .int) ∈ WALL := wl_in (i := 754) (by decide +kernel) (by decide +kernel)
theorem w_755 : Cond.methodLink RL 237 yX10_digest ∈ WALL := wl_in (i := 755) (by decide +kernel) (by decide +kernel)
theorem w_756 : Cond.instanceMethod yX10_digest ∈ WALL := wl_in (i := 756) (by decide +kernel) (by decide +kernel)
theorem w_757 : Cond.selects RX10 yX10_digest yX10_digest ∈ WALL := wl_in (i := 757) (by decide +kernel) (by decide +kernel)
theorem w_758 : Cond.code yX10_digest cX10_digest 4 (some .long) ∈ WALL := wl_in (i := 758) (by decide +kernel) (by decide +kernel)
theorem w_1525 : Cond.methodLink RL 253 yJ9_abs_0f7a4 ∈ WALL := wl_in (i := 1525) (by decide +kernel) (by decide +kernel)
theorem w_1526 : Cond.methodLink RL 250 yJ9_min_7cf53 ∈ WALL := wl_in (i := 1526) (by decide +kernel) (by decide +kernel)
theorem gv_L_237 : GoodIn WALL (wsV RL 237 RX10 yX10_digest (WS yX10_digest cX10_digest 4 (some .long))) := gw_V w_755 w_756 w_757 w_60 w_758
theorem gv_L_241 : GoodIn WALL (wsV RL 241 RX10 yX10_foresee (WS yX10_foresee cX10_foresee 4 (some .int))) := gw_V w_751 w_752 w_753 w_60 w_754
theorem gv_L_244 : GoodIn WALL (wsV RL 244 RX10 yX10_until (WS yX10_until cX10_until 4 (some .int))) := gw_V w_739 w_740 w_741 w_60 w_742
theorem gv_L_247 : GoodIn WALL (wsV RL 247 RX10 yX10_pleasure (WS yX10_pleasure cX10_pleasure 2 (some .int))) := gw_V w_636 w_637 w_638 w_60 w_639
