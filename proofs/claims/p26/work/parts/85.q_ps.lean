theorem w_770 : Cond.methodLink RX11 60 yX11_orderFor ∈ WALL := wl_in (i := 770) (by decide +kernel) (by decide +kernel)
theorem w_771 : Cond.instanceMethod yX11_orderFor ∈ WALL := wl_in (i := 771) (by decide +kernel) (by decide +kernel)
theorem w_772 : Cond.selects RX11 yX11_orderFor yX11_orderFor ∈ WALL := wl_in (i := 772) (by decide +kernel) (by decide +kernel)
theorem w_773 : Cond.code yX11_orderFor cX11_orderFor 4 (some .int) ∈ WALL := wl_in (i := 773) (by decide +kernel) (by decide +kernel)
theorem w_784 : Cond.methodLink RX11 67 yX11_bishop ∈ WALL := wl_in (i := 784) (by decide +kernel) (by decide +kernel)
theorem w_785 : Cond.instanceMethod yX11_bishop ∈ WALL := wl_in (i := 785) (by decide +kernel) (by decide +kernel)
theorem w_786 : Cond.selects RX11 yX11_bishop yX11_bishop ∈ WALL := wl_in (i := 786) (by decide +kernel) (by decide +kernel)
theorem w_787 : Cond.code yX11_bishop cX11_bishop 3 (some .int) ∈ WALL := wl_in (i := 787) (by decide +kernel) (by decide +kernel)
theorem w_788 : Cond.methodLink RX11 71 yX11_pleasure ∈ WALL := wl_in (i := 788) (by decide +kernel) (by decide +kernel)
theorem w_789 : Cond.instanceMethod yX11_pleasure ∈ WALL := wl_in (i := 789) (by decide +kernel) (by decide +kernel)
theorem w_790 : Cond.selects RX11 yX11_pleasure yX11_pleasure ∈ WALL := wl_in (i := 790) (by decide +kernel) (by decide +kernel)
theorem w_791 : Cond.code yX11_pleasure cX11_pleasure 4 (some .int) ∈ WALL := wl_in (i := 791) (by decide +kernel) (by decide +kernel)
theorem w_1214 : Cond.fieldLink RX11 64 RX11 "all" "I" ∈ WALL := wl_in (i := 1214) (by decide +kernel) (by decide +kernel)
theorem gv_X11_60 : GoodIn WALL (wsV RX11 60 RX11 yX11_orderFor (WS yX11_orderFor cX11_orderFor 4 (some .int))) := gw_V w_770 w_771 w_772 w_52 w_773
theorem gv_X11_67 : GoodIn WALL (wsV RX11 67 RX11 yX11_bishop (WS yX11_bishop cX11_bishop 3 (some .int))) := gw_V w_784 w_785 w_786 w_52 w_787
theorem gv_X11_71 : GoodIn WALL (wsV RX11 71 RX11 yX11_pleasure (WS yX11_pleasure cX11_pleasure 4 (some .int))) := gw_V w_788 w_789 w_790 w_52 w_791
