theorem w_846 : Cond.methodLink RL 9 yX10_trim ∈ WALL := wl_in (i := 846) (by decide +kernel) (by decide +kernel)
theorem w_847 : Cond.instanceMethod yX10_trim ∈ WALL := wl_in (i := 847) (by decide +kernel) (by decide +kernel)
theorem w_848 : Cond.selects RX10 yX10_trim yX10_trim ∈ WALL := wl_in (i := 848) (by decide +kernel) (by decide +kernel)
theorem w_849 : Cond.code yX10_trim cX10_trim 2 (some .int) ∈ WALL := wl_in (i := 849) (by decide +kernel) (by decide +kernel)
theorem w_851 : Cond.methodLink RL 15 yJ0_length_8abf5 ∈ WALL := wl_in (i := 851) (by decide +kernel) (by decide +kernel)
theorem w_861 : Cond.methodLink RL 21 yJ0_charAt_5068e ∈ WALL := wl_in (i := 861) (by decide +kernel) (by decide +kernel)
theorem w_862 : Cond.instanceMethod yJ0_charAt_5068e ∈ WALL := wl_in (i := 862) (by decide +kernel) (by decide +kernel)
theorem w_863 : Cond.selects RJ0 yJ0_charAt_5068e yJ0_charAt_5068e ∈ WALL := wl_in (i := 863) (by decide +kernel) (by decide +kernel)
theorem w_864 : Cond.code yJ0_charAt_5068e cJ0_charAt_5068e 2 (some .char) ∈ WALL := wl_in (i := 864) (by decide +kernel) (by decide +kernel)
theorem w_899 : Cond.methodLink RL 25 yX10_feed ∈ WALL := wl_in (i := 899) (by decide +kernel) (by decide +kernel)
theorem w_900 : Cond.instanceMethod yX10_feed ∈ WALL := wl_in (i := 900) (by decide +kernel) (by decide +kernel)
theorem w_901 : Cond.selects RX10 yX10_feed yX10_feed ∈ WALL := wl_in (i := 901) (by decide +kernel) (by decide +kernel)
theorem w_902 : Cond.code yX10_feed cX10_feed 6 (some .int) ∈ WALL := wl_in (i := 902) (by decide +kernel) (by decide +kernel)
theorem w_924 : Cond.methodLink RL 29 yX10_teach ∈ WALL := wl_in (i := 924) (by decide +kernel) (by decide +kernel)
theorem w_925 : Cond.instanceMethod yX10_teach ∈ WALL := wl_in (i := 925) (by decide +kernel) (by decide +kernel)
theorem w_926 : Cond.selects RX10 yX10_teach yX10_teach ∈ WALL := wl_in (i := 926) (by decide +kernel) (by decide +kernel)
theorem w_927 : Cond.code yX10_teach cX10_teach 3 (some .int) ∈ WALL := wl_in (i := 927) (by decide +kernel) (by decide +kernel)
theorem gv_L_15 : GoodIn WALL (wsV RL 15 RJ0 yJ0_length_8abf5 (WS yJ0_length_8abf5 cJ0_length_8abf5 1 (some .int))) := gw_V w_851 w_852 w_853 w_50 w_854
theorem gv_L_21 : GoodIn WALL (wsV RL 21 RJ0 yJ0_charAt_5068e (WS yJ0_charAt_5068e cJ0_charAt_5068e 2 (some .char))) := gw_V w_861 w_862 w_863 w_50 w_864
theorem gv_L_25 : GoodIn WALL (wsV RL 25 RX10 yX10_feed (WS yX10_feed cX10_feed 6 (some .int))) := gw_V w_899 w_900 w_901 w_60 w_902
theorem gv_L_29 : GoodIn WALL (wsV RL 29 RX10 yX10_teach (WS yX10_teach cX10_teach 3 (some .int))) := gw_V w_924 w_925 w_926 w_60 w_927
theorem gv_L_9 : GoodIn WALL (wsV RL 9 RX10 yX10_trim (WS yX10_trim cX10_trim 2 (some .int))) := gw_V w_846 w_847 w_848 w_60 w_849
