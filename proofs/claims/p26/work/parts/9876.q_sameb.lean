theorem w_804 : Cond.methodLink RX11 83 yX10_stall ∈ WALL := wl_in (i := 804) (by decide +kernel) (by decide +kernel)
theorem w_805 : Cond.methodLink RX11 88 yX10_beast ∈ WALL := wl_in (i := 805) (by decide +kernel) (by decide +kernel)
theorem w_806 : Cond.instanceMethod yX10_beast ∈ WALL := wl_in (i := 806) (by decide +kernel) (by decide +kernel)
theorem w_807 : Cond.selects RX10 yX10_beast yX10_beast ∈ WALL := wl_in (i := 807) (by decide +kernel) (by decide +kernel)
theorem w_808 : Cond.code yX10_beast cX10_beast 3 (some .int) ∈ WALL := wl_in (i := 808) (by decide +kernel) (by decide +kernel)
theorem w_809 : Cond.methodLink RX11 91 yX10_carver ∈ WALL := wl_in (i := 809) (by decide +kernel) (by decide +kernel)
theorem w_810 : Cond.methodLink RX11 94 yX10_order ∈ WALL := wl_in (i := 810) (by decide +kernel) (by decide +kernel)
theorem w_811 : Cond.methodLink RX11 97 yX10_pleasure ∈ WALL := wl_in (i := 811) (by decide +kernel) (by decide +kernel)
theorem w_812 : Cond.methodLink RX11 98 yX10_worst ∈ WALL := wl_in (i := 812) (by decide +kernel) (by decide +kernel)
theorem w_813 : Cond.methodLink RX11 101 yX11_worst ∈ WALL := wl_in (i := 813) (by decide +kernel) (by decide +kernel)
theorem w_814 : Cond.instanceMethod yX11_worst ∈ WALL := wl_in (i := 814) (by decide +kernel) (by decide +kernel)
theorem w_815 : Cond.selects RX11 yX11_worst yX11_worst ∈ WALL := wl_in (i := 815) (by decide +kernel) (by decide +kernel)
theorem w_816 : Cond.code yX11_worst cX11_worst 6 (some .int) ∈ WALL := wl_in (i := 816) (by decide +kernel) (by decide +kernel)
theorem w_817 : Cond.methodLink RX11 102 yX11_squeaking ∈ WALL := wl_in (i := 817) (by decide +kernel) (by decide +kernel)
theorem w_818 : Cond.instanceMethod yX11_squeaking ∈ WALL := wl_in (i := 818) (by decide +kernel) (by decide +kernel)
theorem w_819 : Cond.selects RX11 yX11_squeaking yX11_squeaking ∈ WALL := wl_in (i := 819) (by decide +kernel) (by decide +kernel)
theorem w_820 : Cond.code yX11_squeaking cX11_squeaking 3 (some .int) ∈ WALL := wl_in (i := 820) (by decide +kernel) (by decide +kernel)
theorem w_821 : Cond.methodLink RX11 105 yX11_worms ∈ WALL := wl_in (i := 821) (by decide +kernel) (by decide +kernel)
theorem w_822 : Cond.instanceMethod yX11_worms ∈ WALL := wl_in (i := 822) (by decide +kernel) (by decide +kernel)
theorem w_823 : Cond.selects RX11 yX11_worms yX11_worms ∈ WALL := wl_in (i := 823) (by decide +kernel) (by decide +kernel)
theorem w_824 : Cond.code yX11_worms cX11_worms 6 (some .int) ∈ WALL := wl_in (i := 824) (by decide +kernel) (by decide +kernel)
theorem w_825 : Cond.methodLink RX11 108 yX10_count ∈ WALL := wl_in (i := 825) (by decide +kernel) (by decide +kernel)
theorem w_826 : Cond.methodLink RX11 111 yX10_bishop ∈ WALL := wl_in (i := 826) (by decide +kernel) (by decide +kernel)
theorem w_827 : Cond.methodLink RX11 112 yX10_mean ∈ WALL := wl_in (i := 827) (by decide +kernel) (by decide +kernel)
theorem w_828 : Cond.instanceMethod yX10_mean ∈ WALL := wl_in (i := 828) (by decide +kernel) (by decide +kernel)
theorem w_829 : Cond.selects RX10 yX10_mean yX10_mean ∈ WALL := wl_in (i := 829) (by decide +kernel) (by decide +kernel)
theorem w_830 : Cond.code yX10_mean cX10_mean 2 (some .double) ∈ WALL := wl_in (i := 830) (by decide +kernel) (by decide +kernel)
theorem gv_X11_101 : GoodIn WALL (wsV RX11 101 RX11 yX11_worst (WS yX11_worst cX11_worst 6 (some .int))) := gw_V w_813 w_814 w_815 w_52 w_816
theorem gv_X11_102 : GoodIn WALL (wsV RX11 102 RX11 yX11_squeaking (WS yX11_squeaking cX11_squeaking 3 (some .int))) := gw_V w_817 w_818 w_819 w_52 w_820
theorem gv_X11_105 : GoodIn WALL (wsV RX11 105 RX11 yX11_worms (WS yX11_worms cX11_worms 6 (some .int))) := gw_V w_821 w_822 w_823 w_52 w_824
theorem gv_X11_108 : GoodIn WALL (wsV RX11 108 RX10 yX10_count (WS yX10_count cX10_count 2 (some .int))) := gw_V w_825 w_432 w_433 w_60 w_434
theorem gv_X11_111 : GoodIn WALL (wsV RX11 111 RX10 yX10_bishop (WS yX10_bishop cX10_bishop 1 (some .int))) := gw_V w_826 w_633 w_634 w_60 w_635
theorem gv_X11_112 : GoodIn WALL (wsV RX11 112 RX10 yX10_mean (WS yX10_mean cX10_mean 2 (some .double))) := gw_V w_827 w_828 w_829 w_60 w_830
theorem gv_X11_83 : GoodIn WALL (wsV RX11 83 RX10 yX10_stall (WS yX10_stall cX10_stall 3 (some .int))) := gw_V w_804 w_600 w_601 w_60 w_602
theorem gv_X11_88 : GoodIn WALL (wsV RX11 88 RX10 yX10_beast (WS yX10_beast cX10_beast 3 (some .int))) := gw_V w_805 w_806 w_807 w_60 w_808
theorem gv_X11_91 : GoodIn WALL (wsV RX11 91 RX10 yX10_carver (WS yX10_carver cX10_carver 3 (some .int))) := gw_V w_809 w_548 w_549 w_60 w_550
theorem gv_X11_94 : GoodIn WALL (wsV RX11 94 RX10 yX10_order (WS yX10_order cX10_order 3 (some .int))) := gw_V w_810 w_620 w_621 w_60 w_622
theorem gv_X11_97 : GoodIn WALL (wsV RX11 97 RX10 yX10_pleasure (WS yX10_pleasure cX10_pleasure 2 (some .int))) := gw_V w_811 w_637 w_638 w_60 w_639
theorem gv_X11_98 : GoodIn WALL (wsV RX11 98 RX10 yX10_worst (WS yX10_worst cX10_worst 2 (some .int))) := gw_V w_812 w_650 w_651 w_60 w_652
