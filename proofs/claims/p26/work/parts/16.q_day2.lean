theorem w_9 : Cond.selects RX1 yX1_letCarversWork yX1_letCarversWork ∈ WALL := wl_in (i := 9) (by decide +kernel) (by decide +kernel)
theorem w_10 : Cond.selects RX1 yX1_workOn yX1_workOn ∈ WALL := wl_in (i := 10) (by decide +kernel) (by decide +kernel)
theorem w_12 : Cond.selects RX1 yX1_oilHinges yX1_oilHinges ∈ WALL := wl_in (i := 12) (by decide +kernel) (by decide +kernel)
theorem w_13 : Cond.selects RX1 yX1_rustHinges yX1_rustHinges ∈ WALL := wl_in (i := 13) (by decide +kernel) (by decide +kernel)
theorem w_14 : Cond.selects RX1 yX1_breedWorms yX1_breedWorms ∈ WALL := wl_in (i := 14) (by decide +kernel) (by decide +kernel)
theorem w_16 : Cond.selects RX1 yX1_receiveCoins yX1_receiveCoins ∈ WALL := wl_in (i := 16) (by decide +kernel) (by decide +kernel)
theorem nw_160 : Cond.fieldLinkNest RX1 158 RX9 "carvers" "LChoirStalls$Names;" RX10 ∈ NWALL := nw_in (i := 160) (by decide +kernel) (by decide +kernel)
theorem w_557 : Cond.instanceMethod yX1_orderToday ∈ WALL := wl_in (i := 557) (by decide +kernel) (by decide +kernel)
theorem w_558 : Cond.selects RX1 yX1_orderToday yX1_orderToday ∈ WALL := wl_in (i := 558) (by decide +kernel) (by decide +kernel)
theorem w_559 : Cond.code yX1_orderToday cX1_orderToday 4 (some .int) ∈ WALL := wl_in (i := 559) (by decide +kernel) (by decide +kernel)
theorem w_684 : Cond.methodLink RX1 143 yX1_letCarversWork ∈ WALL := wl_in (i := 684) (by decide +kernel) (by decide +kernel)
theorem w_686 : Cond.instanceMethod yX1_letCarversWork ∈ WALL := wl_in (i := 686) (by decide +kernel) (by decide +kernel)
theorem w_687 : Cond.code yX1_letCarversWork cX1_letCarversWork 3 none ∈ WALL := wl_in (i := 687) (by decide +kernel) (by decide +kernel)
theorem w_688 : Cond.methodLink RX1 161 yX1_orderToday ∈ WALL := wl_in (i := 688) (by decide +kernel) (by decide +kernel)
theorem w_689 : Cond.methodLink RX1 164 yX1_workOn ∈ WALL := wl_in (i := 689) (by decide +kernel) (by decide +kernel)
theorem w_691 : Cond.instanceMethod yX1_workOn ∈ WALL := wl_in (i := 691) (by decide +kernel) (by decide +kernel)
theorem w_692 : Cond.code yX1_workOn cX1_workOn 7 none ∈ WALL := wl_in (i := 692) (by decide +kernel) (by decide +kernel)
theorem w_708 : Cond.methodLink RX1 146 yX1_oilHinges ∈ WALL := wl_in (i := 708) (by decide +kernel) (by decide +kernel)
theorem w_710 : Cond.instanceMethod yX1_oilHinges ∈ WALL := wl_in (i := 710) (by decide +kernel) (by decide +kernel)
theorem w_711 : Cond.code yX1_oilHinges cX1_oilHinges 2 none ∈ WALL := wl_in (i := 711) (by decide +kernel) (by decide +kernel)
theorem w_712 : Cond.methodLink RX1 149 yX1_rustHinges ∈ WALL := wl_in (i := 712) (by decide +kernel) (by decide +kernel)
theorem w_714 : Cond.instanceMethod yX1_rustHinges ∈ WALL := wl_in (i := 714) (by decide +kernel) (by decide +kernel)
theorem w_715 : Cond.code yX1_rustHinges cX1_rustHinges 2 none ∈ WALL := wl_in (i := 715) (by decide +kernel) (by decide +kernel)
theorem w_717 : Cond.methodLink RX1 152 yX1_breedWorms ∈ WALL := wl_in (i := 717) (by decide +kernel) (by decide +kernel)
theorem w_719 : Cond.instanceMethod yX1_breedWorms ∈ WALL := wl_in (i := 719) (by decide +kernel) (by decide +kernel)
theorem w_720 : Cond.code yX1_breedWorms cX1_breedWorms 4 none ∈ WALL := wl_in (i := 720) (by decide +kernel) (by decide +kernel)
theorem w_733 : Cond.methodLink RX1 155 yX1_receiveCoins ∈ WALL := wl_in (i := 733) (by decide +kernel) (by decide +kernel)
theorem w_735 : Cond.instanceMethod yX1_receiveCoins ∈ WALL := wl_in (i := 735) (by decide +kernel) (by decide +kernel)
theorem w_736 : Cond.code yX1_receiveCoins cX1_receiveCoins 3 none ∈ WALL := wl_in (i := 736) (by decide +kernel) (by decide +kernel)
theorem gv_X1_143 : GoodIn WALL (wsV RX1 143 RX1 yX1_letCarversWork (WS yX1_letCarversWork cX1_letCarversWork 3 none)) := gw_V w_684 w_686 w_9 w_67 w_687
theorem gv_X1_146 : GoodIn WALL (wsV RX1 146 RX1 yX1_oilHinges (WS yX1_oilHinges cX1_oilHinges 2 none)) := gw_V w_708 w_710 w_12 w_67 w_711
theorem gv_X1_149 : GoodIn WALL (wsV RX1 149 RX1 yX1_rustHinges (WS yX1_rustHinges cX1_rustHinges 2 none)) := gw_V w_712 w_714 w_13 w_67 w_715
theorem gv_X1_152 : GoodIn WALL (wsV RX1 152 RX1 yX1_breedWorms (WS yX1_breedWorms cX1_breedWorms 4 none)) := gw_V w_717 w_719 w_14 w_67 w_720
theorem gv_X1_155 : GoodIn WALL (wsV RX1 155 RX1 yX1_receiveCoins (WS yX1_receiveCoins cX1_receiveCoins 3 none)) := gw_V w_733 w_735 w_16 w_67 w_736
theorem gv_X1_161 : GoodIn WALL (wsV RX1 161 RX1 yX1_orderToday (WS yX1_orderToday cX1_orderToday 4 (some .int))) := gw_V w_688 w_557 w_558 w_67 w_559
theorem gv_X1_164 : GoodIn WALL (wsV RX1 164 RX1 yX1_workOn (WS yX1_workOn cX1_workOn 7 none)) := gw_V w_689 w_691 w_10 w_67 w_692
