theorem w_55 : Cond.selects RX13 yX13_isLine yX13_isLine ∈ WALL := wl_in (i := 55) (by decide +kernel) (by decide +kernel)
theorem w_56 : Cond.selects RX13 yX13_isName yX13_isName ∈ WALL := wl_in (i := 56) (by decide +kernel) (by decide +kernel)
theorem w_57 : Cond.selects RX13 yX13_eat yX13_eat ∈ WALL := wl_in (i := 57) (by decide +kernel) (by decide +kernel)
theorem w_58 : Cond.selects RX13 yX13_isNumber yX13_isNumber ∈ WALL := wl_in (i := 58) (by decide +kernel) (by decide +kernel)
theorem w_59 : Cond.selects RX13 yX13_isTest yX13_isTest ∈ WALL := wl_in (i := 59) (by decide +kernel) (by decide +kernel)
theorem w_60 : Cond.selects RX13 yX13_isBoth yX13_isBoth ∈ WALL := wl_in (i := 60) (by decide +kernel) (by decide +kernel)
theorem w_61 : Cond.selects RX13 yX13_isSingle yX13_isSingle ∈ WALL := wl_in (i := 61) (by decide +kernel) (by decide +kernel)
theorem w_62 : Cond.selects RX13 yX13_goDown yX13_goDown ∈ WALL := wl_in (i := 62) (by decide +kernel) (by decide +kernel)
theorem w_63 : Cond.selects RX13 yX13_isSum yX13_isSum ∈ WALL := wl_in (i := 63) (by decide +kernel) (by decide +kernel)
theorem w_64 : Cond.selects RX13 yX13_isProduct yX13_isProduct ∈ WALL := wl_in (i := 64) (by decide +kernel) (by decide +kernel)
theorem w_65 : Cond.selects RX13 yX13_isValue yX13_isValue ∈ WALL := wl_in (i := 65) (by decide +kernel) (by decide +kernel)
theorem w_66 : Cond.selects RX13 yX13_eatIn yX13_eatIn ∈ WALL := wl_in (i := 66) (by decide +kernel) (by decide +kernel)
theorem w_1591 : Cond.methodLink RX13 111 yX13_isLine ∈ WALL := wl_in (i := 1591) (by decide +kernel) (by decide +kernel)
theorem w_1593 : Cond.instanceMethod yX13_isLine ∈ WALL := wl_in (i := 1593) (by decide +kernel) (by decide +kernel)
theorem w_1594 : Cond.code yX13_isLine cX13_isLine 2 (some .boolean) ∈ WALL := wl_in (i := 1594) (by decide +kernel) (by decide +kernel)
theorem w_1595 : Cond.methodLink RX13 119 yX13_isName ∈ WALL := wl_in (i := 1595) (by decide +kernel) (by decide +kernel)
theorem w_1597 : Cond.instanceMethod yX13_isName ∈ WALL := wl_in (i := 1597) (by decide +kernel) (by decide +kernel)
theorem w_1598 : Cond.code yX13_isName cX13_isName 3 (some .boolean) ∈ WALL := wl_in (i := 1598) (by decide +kernel) (by decide +kernel)
theorem w_1599 : Cond.methodLink RX13 115 yX13_eat ∈ WALL := wl_in (i := 1599) (by decide +kernel) (by decide +kernel)
theorem w_1601 : Cond.instanceMethod yX13_eat ∈ WALL := wl_in (i := 1601) (by decide +kernel) (by decide +kernel)
theorem w_1602 : Cond.code yX13_eat cX13_eat 3 (some .boolean) ∈ WALL := wl_in (i := 1602) (by decide +kernel) (by decide +kernel)
theorem w_1603 : Cond.methodLink RX13 122 yX13_isNumber ∈ WALL := wl_in (i := 1603) (by decide +kernel) (by decide +kernel)
theorem w_1605 : Cond.instanceMethod yX13_isNumber ∈ WALL := wl_in (i := 1605) (by decide +kernel) (by decide +kernel)
theorem w_1606 : Cond.code yX13_isNumber cX13_isNumber 3 (some .boolean) ∈ WALL := wl_in (i := 1606) (by decide +kernel) (by decide +kernel)
theorem w_1607 : Cond.methodLink RX13 125 yX13_isTest ∈ WALL := wl_in (i := 1607) (by decide +kernel) (by decide +kernel)
theorem w_1609 : Cond.instanceMethod yX13_isTest ∈ WALL := wl_in (i := 1609) (by decide +kernel) (by decide +kernel)
theorem w_1610 : Cond.code yX13_isTest cX13_isTest 2 (some .boolean) ∈ WALL := wl_in (i := 1610) (by decide +kernel) (by decide +kernel)
theorem w_1611 : Cond.methodLink RX13 128 yX13_isBoth ∈ WALL := wl_in (i := 1611) (by decide +kernel) (by decide +kernel)
theorem w_1613 : Cond.instanceMethod yX13_isBoth ∈ WALL := wl_in (i := 1613) (by decide +kernel) (by decide +kernel)
theorem w_1614 : Cond.code yX13_isBoth cX13_isBoth 2 (some .boolean) ∈ WALL := wl_in (i := 1614) (by decide +kernel) (by decide +kernel)
theorem w_1615 : Cond.methodLink RX13 131 yX13_isSingle ∈ WALL := wl_in (i := 1615) (by decide +kernel) (by decide +kernel)
theorem w_1617 : Cond.instanceMethod yX13_isSingle ∈ WALL := wl_in (i := 1617) (by decide +kernel) (by decide +kernel)
theorem w_1618 : Cond.code yX13_isSingle cX13_isSingle 2 (some .boolean) ∈ WALL := wl_in (i := 1618) (by decide +kernel) (by decide +kernel)
theorem w_1619 : Cond.methodLink RX13 134 yX13_goDown ∈ WALL := wl_in (i := 1619) (by decide +kernel) (by decide +kernel)
theorem w_1621 : Cond.instanceMethod yX13_goDown ∈ WALL := wl_in (i := 1621) (by decide +kernel) (by decide +kernel)
theorem w_1622 : Cond.code yX13_goDown cX13_goDown 3 (some .boolean) ∈ WALL := wl_in (i := 1622) (by decide +kernel) (by decide +kernel)
theorem w_1623 : Cond.methodLink RX13 137 yX13_isSum ∈ WALL := wl_in (i := 1623) (by decide +kernel) (by decide +kernel)
theorem w_1625 : Cond.instanceMethod yX13_isSum ∈ WALL := wl_in (i := 1625) (by decide +kernel) (by decide +kernel)
theorem w_1626 : Cond.code yX13_isSum cX13_isSum 2 (some .boolean) ∈ WALL := wl_in (i := 1626) (by decide +kernel) (by decide +kernel)
theorem w_1627 : Cond.methodLink RX13 144 yX13_isProduct ∈ WALL := wl_in (i := 1627) (by decide +kernel) (by decide +kernel)
theorem w_1629 : Cond.instanceMethod yX13_isProduct ∈ WALL := wl_in (i := 1629) (by decide +kernel) (by decide +kernel)
theorem w_1630 : Cond.code yX13_isProduct cX13_isProduct 2 (some .boolean) ∈ WALL := wl_in (i := 1630) (by decide +kernel) (by decide +kernel)
theorem w_1631 : Cond.methodLink RX13 147 yX13_isValue ∈ WALL := wl_in (i := 1631) (by decide +kernel) (by decide +kernel)
theorem w_1633 : Cond.instanceMethod yX13_isValue ∈ WALL := wl_in (i := 1633) (by decide +kernel) (by decide +kernel)
theorem w_1634 : Cond.code yX13_isValue cX13_isValue 3 (some .boolean) ∈ WALL := wl_in (i := 1634) (by decide +kernel) (by decide +kernel)
theorem w_1635 : Cond.methodLink RX13 140 yX13_eatIn ∈ WALL := wl_in (i := 1635) (by decide +kernel) (by decide +kernel)
theorem w_1637 : Cond.instanceMethod yX13_eatIn ∈ WALL := wl_in (i := 1637) (by decide +kernel) (by decide +kernel)
theorem w_1638 : Cond.code yX13_eatIn cX13_eatIn 4 (some .boolean) ∈ WALL := wl_in (i := 1638) (by decide +kernel) (by decide +kernel)
theorem gv_X13_111 : GoodIn WALL (wsV RX13 111 RX13 yX13_isLine (WS yX13_isLine cX13_isLine 2 (some .boolean))) := gw_V w_1591 w_1593 w_55 w_119 w_1594
theorem gv_X13_115 : GoodIn WALL (wsV RX13 115 RX13 yX13_eat (WS yX13_eat cX13_eat 3 (some .boolean))) := gw_V w_1599 w_1601 w_57 w_119 w_1602
theorem gv_X13_119 : GoodIn WALL (wsV RX13 119 RX13 yX13_isName (WS yX13_isName cX13_isName 3 (some .boolean))) := gw_V w_1595 w_1597 w_56 w_119 w_1598
theorem gv_X13_122 : GoodIn WALL (wsV RX13 122 RX13 yX13_isNumber (WS yX13_isNumber cX13_isNumber 3 (some .boolean))) := gw_V w_1603 w_1605 w_58 w_119 w_1606
theorem gv_X13_125 : GoodIn WALL (wsV RX13 125 RX13 yX13_isTest (WS yX13_isTest cX13_isTest 2 (some .boolean))) := gw_V w_1607 w_1609 w_59 w_119 w_1610
theorem gv_X13_128 : GoodIn WALL (wsV RX13 128 RX13 yX13_isBoth (WS yX13_isBoth cX13_isBoth 2 (some .boolean))) := gw_V w_1611 w_1613 w_60 w_119 w_1614
theorem gv_X13_131 : GoodIn WALL (wsV RX13 131 RX13 yX13_isSingle (WS yX13_isSingle cX13_isSingle 2 (some .boolean))) := gw_V w_1615 w_1617 w_61 w_119 w_1618
theorem gv_X13_134 : GoodIn WALL (wsV RX13 134 RX13 yX13_goDown (WS yX13_goDown cX13_goDown 3 (some .boolean))) := gw_V w_1619 w_1621 w_62 w_119 w_1622
theorem gv_X13_137 : GoodIn WALL (wsV RX13 137 RX13 yX13_isSum (WS yX13_isSum cX13_isSum 2 (some .boolean))) := gw_V w_1623 w_1625 w_63 w_119 w_1626
theorem gv_X13_140 : GoodIn WALL (wsV RX13 140 RX13 yX13_eatIn (WS yX13_eatIn cX13_eatIn 4 (some .boolean))) := gw_V w_1635 w_1637 w_66 w_119 w_1638
theorem gv_X13_144 : GoodIn WALL (wsV RX13 144 RX13 yX13_isProduct (WS yX13_isProduct cX13_isProduct 2 (some .boolean))) := gw_V w_1627 w_1629 w_64 w_119 w_1630
theorem gv_X13_147 : GoodIn WALL (wsV RX13 147 RX13 yX13_isValue (WS yX13_isValue cX13_isValue 3 (some .boolean))) := gw_V w_1631 w_1633 w_65 w_119 w_1634
