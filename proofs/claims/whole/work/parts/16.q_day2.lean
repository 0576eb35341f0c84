theorem w_38 : Cond.selects RX1 yX1_letCarversWork yX1_letCarversWork ∈ WALL := wl_in (i := 38) (by decide +kernel) (by decide +kernel)
theorem w_39 : Cond.selects RX1 yX1_workOn yX1_workOn ∈ WALL := wl_in (i := 39) (by decide +kernel) (by decide +kernel)
theorem w_41 : Cond.selects RX1 yX1_oilHinges yX1_oilHinges ∈ WALL := wl_in (i := 41) (by decide +kernel) (by decide +kernel)
theorem w_42 : Cond.selects RX1 yX1_rustHinges yX1_rustHinges ∈ WALL := wl_in (i := 42) (by decide +kernel) (by decide +kernel)
theorem w_43 : Cond.selects RX1 yX1_breedWorms yX1_breedWorms ∈ WALL := wl_in (i := 43) (by decide +kernel) (by decide +kernel)
theorem w_45 : Cond.selects RX1 yX1_receiveCoins yX1_receiveCoins ∈ WALL := wl_in (i := 45) (by decide +kernel) (by decide +kernel)
theorem nw_219 : Cond.fieldLinkNest RX1 158 RX9 "carvers" "LChoirStalls$Names;" RX10 ∈ NWALL := nw_in (i := 219) (by decide +kernel) (by decide +kernel)
theorem w_852 : Cond.instanceMethod yX1_orderToday ∈ WALL := wl_in (i := 852) (by decide +kernel) (by decide +kernel)
theorem w_853 : Cond.selects RX1 yX1_orderToday yX1_orderToday ∈ WALL := wl_in (i := 853) (by decide +kernel) (by decide +kernel)
theorem w_854 : Cond.code yX1_orderToday cX1_orderToday 4 (some .int) ∈ WALL := wl_in (i := 854) (by decide +kernel) (by decide +kernel)
theorem w_1141 : Cond.methodLink RX1 143 yX1_letCarversWork ∈ WALL := wl_in (i := 1141) (by decide +kernel) (by decide +kernel)
theorem w_1143 : Cond.instanceMethod yX1_letCarversWork ∈ WALL := wl_in (i := 1143) (by decide +kernel) (by decide +kernel)
theorem w_1144 : Cond.code yX1_letCarversWork cX1_letCarversWork 3 none ∈ WALL := wl_in (i := 1144) (by decide +kernel) (by decide +kernel)
theorem w_1145 : Cond.methodLink RX1 161 yX1_orderToday ∈ WALL := wl_in (i := 1145) (by decide +kernel) (by decide +kernel)
theorem w_1146 : Cond.methodLink RX1 164 yX1_workOn ∈ WALL := wl_in (i := 1146) (by decide +kernel) (by decide +kernel)
theorem w_1148 : Cond.instanceMethod yX1_workOn ∈ WALL := wl_in (i := 1148) (by decide +kernel) (by decide +kernel)
theorem w_1149 : Cond.code yX1_workOn cX1_workOn 7 none ∈ WALL := wl_in (i := 1149) (by decide +kernel) (by decide +kernel)
theorem w_1162 : Cond.methodLink RX1 146 yX1_oilHinges ∈ WALL := wl_in (i := 1162) (by decide +kernel) (by decide +kernel)
theorem w_1164 : Cond.instanceMethod yX1_oilHinges ∈ WALL := wl_in (i := 1164) (by decide +kernel) (by decide +kernel)
theorem w_1165 : Cond.code yX1_oilHinges cX1_oilHinges 2 none ∈ WALL := wl_in (i := 1165) (by decide +kernel) (by decide +kernel)
theorem w_1166 : Cond.methodLink RX1 149 yX1_rustHinges ∈ WALL := wl_in (i := 1166) (by decide +kernel) (by decide +kernel)
theorem w_1168 : Cond.instanceMethod yX1_rustHinges ∈ WALL := wl_in (i := 1168) (by decide +kernel) (by decide +kernel)
theorem w_1169 : Cond.code yX1_rustHinges cX1_rustHinges 2 none ∈ WALL := wl_in (i := 1169) (by decide +kernel) (by decide +kernel)
theorem w_1171 : Cond.methodLink RX1 152 yX1_breedWorms ∈ WALL := wl_in (i := 1171) (by decide +kernel) (by decide +kernel)
theorem w_1173 : Cond.instanceMethod yX1_breedWorms ∈ WALL := wl_in (i := 1173) (by decide +kernel) (by decide +kernel)
theorem w_1174 : Cond.code yX1_breedWorms cX1_breedWorms 4 none ∈ WALL := wl_in (i := 1174) (by decide +kernel) (by decide +kernel)
theorem w_1187 : Cond.methodLink RX1 155 yX1_receiveCoins ∈ WALL := wl_in (i := 1187) (by decide +kernel) (by decide +kernel)
theorem w_1189 : Cond.instanceMethod yX1_receiveCoins ∈ WALL := wl_in (i := 1189) (by decide +kernel) (by decide +kernel)
theorem w_1190 : Cond.code yX1_receiveCoins cX1_receiveCoins 3 none ∈ WALL := wl_in (i := 1190) (by decide +kernel) (by decide +kernel)
theorem gv_X1_143 : GoodIn WALL (wsV RX1 143 RX1 yX1_letCarversWork (WS yX1_letCarversWork cX1_letCarversWork 3 none)) := gw_V w_1141 w_1143 w_38 w_117 w_1144
theorem gv_X1_146 : GoodIn WALL (wsV RX1 146 RX1 yX1_oilHinges (WS yX1_oilHinges cX1_oilHinges 2 none)) := gw_V w_1162 w_1164 w_41 w_117 w_1165
theorem gv_X1_149 : GoodIn WALL (wsV RX1 149 RX1 yX1_rustHinges (WS yX1_rustHinges cX1_rustHinges 2 none)) := gw_V w_1166 w_1168 w_42 w_117 w_1169
theorem gv_X1_152 : GoodIn WALL (wsV RX1 152 RX1 yX1_breedWorms (WS yX1_breedWorms cX1_breedWorms 4 none)) := gw_V w_1171 w_1173 w_43 w_117 w_1174
theorem gv_X1_155 : GoodIn WALL (wsV RX1 155 RX1 yX1_receiveCoins (WS yX1_receiveCoins cX1_receiveCoins 3 none)) := gw_V w_1187 w_1189 w_45 w_117 w_1190
theorem gv_X1_161 : GoodIn WALL (wsV RX1 161 RX1 yX1_orderToday (WS yX1_orderToday cX1_orderToday 4 (some .int))) := gw_V w_1145 w_852 w_853 w_117 w_854
theorem gv_X1_164 : GoodIn WALL (wsV RX1 164 RX1 yX1_workOn (WS yX1_workOn cX1_workOn 7 none)) := gw_V w_1146 w_1148 w_39 w_117 w_1149
