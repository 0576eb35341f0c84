theorem w_130 : Cond.initialized RJ0 ∈ WALL := wl_in (i := 130) (by decide +kernel) (by decide +kernel)
theorem w_131 : Cond.initialized RJ1 ∈ WALL := wl_in (i := 131) (by decide +kernel) (by decide +kernel)
theorem w_132 : Cond.initialized RJ3 ∈ WALL := wl_in (i := 132) (by decide +kernel) (by decide +kernel)
theorem w_1481 : Cond.fieldLink RX13 78 RX13 "WORDS" "[Ljava/lang/String;" ∈ WALL := wl_in (i := 1481) (by decide +kernel) (by decide +kernel)
theorem w_1483 : Cond.methodLink RX13 82 yJ0_length_8abf5 ∈ WALL := wl_in (i := 1483) (by decide +kernel) (by decide +kernel)
theorem w_1484 : Cond.instanceMethod yJ0_length_8abf5 ∈ WALL := wl_in (i := 1484) (by decide +kernel) (by decide +kernel)
theorem w_1485 : Cond.selects RJ0 yJ0_length_8abf5 yJ0_length_8abf5 ∈ WALL := wl_in (i := 1485) (by decide +kernel) (by decide +kernel)
theorem w_1486 : Cond.code yJ0_length_8abf5 cJ0_length_8abf5 1 (some .int) ∈ WALL := wl_in (i := 1486) (by decide +kernel) (by decide +kernel)
theorem w_1487 : Cond.methodLink RJ0 335 yJ0_coder_7d493 ∈ WALL := wl_in (i := 1487) (by decide +kernel) (by decide +kernel)
theorem w_1488 : Cond.instanceMethod yJ0_coder_7d493 ∈ WALL := wl_in (i := 1488) (by decide +kernel) (by decide +kernel)
theorem w_1489 : Cond.selects RJ0 yJ0_coder_7d493 yJ0_coder_7d493 ∈ WALL := wl_in (i := 1489) (by decide +kernel) (by decide +kernel)
theorem w_1490 : Cond.code yJ0_coder_7d493 cJ0_coder_7d493 1 (some .byte) ∈ WALL := wl_in (i := 1490) (by decide +kernel) (by decide +kernel)
theorem w_1491 : Cond.fieldLink RJ0 38 RJ0 "COMPACT_STRINGS" "Z" ∈ WALL := wl_in (i := 1491) (by decide +kernel) (by decide +kernel)
theorem w_1493 : Cond.methodLink RX13 86 yJ0_charAt_5068e ∈ WALL := wl_in (i := 1493) (by decide +kernel) (by decide +kernel)
theorem w_1494 : Cond.instanceMethod yJ0_charAt_5068e ∈ WALL := wl_in (i := 1494) (by decide +kernel) (by decide +kernel)
theorem w_1495 : Cond.selects RJ0 yJ0_charAt_5068e yJ0_charAt_5068e ∈ WALL := wl_in (i := 1495) (by decide +kernel) (by decide +kernel)
theorem w_1496 : Cond.code yJ0_charAt_5068e cJ0_charAt_5068e 2 (some .char) ∈ WALL := wl_in (i := 1496) (by decide +kernel) (by decide +kernel)
theorem w_1497 : Cond.methodLink RJ0 492 yJ0_isLatin1_aae02 ∈ WALL := wl_in (i := 1497) (by decide +kernel) (by decide +kernel)
theorem w_1498 : Cond.instanceMethod yJ0_isLatin1_aae02 ∈ WALL := wl_in (i := 1498) (by decide +kernel) (by decide +kernel)
theorem w_1499 : Cond.selects RJ0 yJ0_isLatin1_aae02 yJ0_isLatin1_aae02 ∈ WALL := wl_in (i := 1499) (by decide +kernel) (by decide +kernel)
theorem w_1500 : Cond.code yJ0_isLatin1_aae02 cJ0_isLatin1_aae02 1 (some .boolean) ∈ WALL := wl_in (i := 1500) (by decide +kernel) (by decide +kernel)
theorem w_1501 : Cond.methodLink RJ0 495 yJ1_charAt_3b067 ∈ WALL := wl_in (i := 1501) (by decide +kernel) (by decide +kernel)
theorem w_1502 : Cond.static yJ1_charAt_3b067 ∈ WALL := wl_in (i := 1502) (by decide +kernel) (by decide +kernel)
theorem w_1503 : Cond.code yJ1_charAt_3b067 cJ1_charAt_3b067 2 (some .char) ∈ WALL := wl_in (i := 1503) (by decide +kernel) (by decide +kernel)
theorem w_1504 : Cond.methodLink RJ1 9 yJ0_checkIndex_df160 ∈ WALL := wl_in (i := 1504) (by decide +kernel) (by decide +kernel)
theorem w_1505 : Cond.static yJ0_checkIndex_df160 ∈ WALL := wl_in (i := 1505) (by decide +kernel) (by decide +kernel)
theorem w_1506 : Cond.code yJ0_checkIndex_df160 cJ0_checkIndex_df160 2 none ∈ WALL := wl_in (i := 1506) (by decide +kernel) (by decide +kernel)
theorem w_1507 : Cond.fieldLink RJ0 1053 RJ3 "SIOOBE_FORMATTER" "Ljava/util/function/BiFunction;" ∈ WALL := wl_in (i := 1507) (by decide +kernel) (by decide +kernel)
theorem w_1509 : Cond.methodLink RJ0 1059 yJ3_checkIndex_8e157 ∈ WALL := wl_in (i := 1509) (by decide +kernel) (by decide +kernel)
theorem w_1510 : Cond.static yJ3_checkIndex_8e157 ∈ WALL := wl_in (i := 1510) (by decide +kernel) (by decide +kernel)
theorem w_1511 : Cond.code yJ3_checkIndex_8e157 cJ3_checkIndex_8e157 3 (some .int) ∈ WALL := wl_in (i := 1511) (by decide +kernel) (by decide +kernel)
theorem w_1536 : Cond.methodLink RJ0 633 yJ0_indexOf_7cf53 ∈ WALL := wl_in (i := 1536) (by decide +kernel) (by decide +kernel)
theorem w_1537 : Cond.instanceMethod yJ0_indexOf_7cf53 ∈ WALL := wl_in (i := 1537) (by decide +kernel) (by decide +kernel)
theorem w_1538 : Cond.selects RJ0 yJ0_indexOf_7cf53 yJ0_indexOf_7cf53 ∈ WALL := wl_in (i := 1538) (by decide +kernel) (by decide +kernel)
theorem w_1539 : Cond.code yJ0_indexOf_7cf53 cJ0_indexOf_7cf53 3 (some .int) ∈ WALL := wl_in (i := 1539) (by decide +kernel) (by decide +kernel)
theorem w_1540 : Cond.methodLink RJ0 505 yJ0_length_8abf5 ∈ WALL := wl_in (i := 1540) (by decide +kernel) (by decide +kernel)
theorem w_1541 : Cond.methodLink RJ0 637 yJ1_indexOf_4cfef ∈ WALL := wl_in (i := 1541) (by decide +kernel) (by decide +kernel)
theorem w_1542 : Cond.static yJ1_indexOf_4cfef ∈ WALL := wl_in (i := 1542) (by decide +kernel) (by decide +kernel)
theorem w_1543 : Cond.code yJ1_indexOf_4cfef cJ1_indexOf_4cfef 4 (some .int) ∈ WALL := wl_in (i := 1543) (by decide +kernel) (by decide +kernel)
theorem w_1544 : Cond.methodLink RJ1 88 yJ1_canEncode_9a6ad ∈ WALL := wl_in (i := 1544) (by decide +kernel) (by decide +kernel)
theorem w_1545 : Cond.static yJ1_canEncode_9a6ad ∈ WALL := wl_in (i := 1545) (by decide +kernel) (by decide +kernel)
theorem w_1546 : Cond.code yJ1_canEncode_9a6ad cJ1_canEncode_9a6ad 1 (some .boolean) ∈ WALL := wl_in (i := 1546) (by decide +kernel) (by decide +kernel)
theorem w_1547 : Cond.methodLink RJ1 92 yJ9_max_7cf53 ∈ WALL := wl_in (i := 1547) (by decide +kernel) (by decide +kernel)
theorem w_1548 : Cond.methodLink RJ1 38 yJ9_min_7cf53 ∈ WALL := wl_in (i := 1548) (by decide +kernel) (by decide +kernel)
theorem w_1549 : Cond.methodLink RJ1 95 yJ1_indexOfChar_4cfef ∈ WALL := wl_in (i := 1549) (by decide +kernel) (by decide +kernel)
theorem w_1550 : Cond.static yJ1_indexOfChar_4cfef ∈ WALL := wl_in (i := 1550) (by decide +kernel) (by decide +kernel)
theorem w_1551 : Cond.code yJ1_indexOfChar_4cfef cJ1_indexOfChar_4cfef 6 (some .int) ∈ WALL := wl_in (i := 1551) (by decide +kernel) (by decide +kernel)
theorem w_1906 : Cond.fieldLink RJ0 9 RJ0 "value" "[B" ∈ WALL := wl_in (i := 1906) (by decide +kernel) (by decide +kernel)
theorem w_1907 : Cond.fieldLink RJ0 15 RJ0 "coder" "B" ∈ WALL := wl_in (i := 1907) (by decide +kernel) (by decide +kernel)
theorem gs_J0_1059 : GoodIn WALL (va_wsS RJ0 1059 yJ3_checkIndex_8e157 (WS yJ3_checkIndex_8e157 cJ3_checkIndex_8e157 3 (some .int))) := gw_S w_1509 w_1510 w_132 w_1511
theorem gv_J0_335 : GoodIn WALL (wsV RJ0 335 RJ0 yJ0_coder_7d493 (WS yJ0_coder_7d493 cJ0_coder_7d493 1 (some .byte))) := gw_V w_1487 w_1488 w_1489 w_130 w_1490
theorem gv_J0_492 : GoodIn WALL (wsV RJ0 492 RJ0 yJ0_isLatin1_aae02 (WS yJ0_isLatin1_aae02 cJ0_isLatin1_aae02 1 (some .boolean))) := gw_V w_1497 w_1498 w_1499 w_130 w_1500
theorem gs_J0_495 : GoodIn WALL (va_wsS RJ0 495 yJ1_charAt_3b067 (WS yJ1_charAt_3b067 cJ1_charAt_3b067 2 (some .char))) := gw_S w_1501 w_1502 w_131 w_1503
theorem gv_J0_505 : GoodIn WALL (wsV RJ0 505 RJ0 yJ0_length_8abf5 (WS yJ0_length_8abf5 cJ0_length_8abf5 1 (some .int))) := gw_V w_1540 w_1484 w_1485 w_130 w_1486
theorem gv_J0_633 : GoodIn WALL (wsV RJ0 633 RJ0 yJ0_indexOf_7cf53 (WS yJ0_indexOf_7cf53 cJ0_indexOf_7cf53 3 (some .int))) := gw_V w_1536 w_1537 w_1538 w_130 w_1539
theorem gs_J0_637 : GoodIn WALL (va_wsS RJ0 637 yJ1_indexOf_4cfef (WS yJ1_indexOf_4cfef cJ1_indexOf_4cfef 4 (some .int))) := gw_S w_1541 w_1542 w_131 w_1543
theorem gs_J1_88 : GoodIn WALL (va_wsS RJ1 88 yJ1_canEncode_9a6ad (WS yJ1_canEncode_9a6ad cJ1_canEncode_9a6ad 1 (some .boolean))) := gw_S w_1544 w_1545 w_131 w_1546
theorem gs_J1_9 : GoodIn WALL (va_wsS RJ1 9 yJ0_checkIndex_df160 (WS yJ0_checkIndex_df160 cJ0_checkIndex_df160 2 none)) := gw_S w_1504 w_1505 w_130 w_1506
theorem gs_J1_95 : GoodIn WALL (va_wsS RJ1 95 yJ1_indexOfChar_4cfef (WS yJ1_indexOfChar_4cfef cJ1_indexOfChar_4cfef 6 (some .int))) := gw_S w_1549 w_1550 w_131 w_1551
theorem gv_X13_82 : GoodIn WALL (wsV RX13 82 RJ0 yJ0_length_8abf5 (WS yJ0_length_8abf5 cJ0_length_8abf5 1 (some .int))) := gw_V w_1483 w_1484 w_1485 w_130 w_1486
theorem gv_X13_86 : GoodIn WALL (wsV RX13 86 RJ0 yJ0_charAt_5068e (WS yJ0_charAt_5068e cJ0_charAt_5068e 2 (some .char))) := gw_V w_1493 w_1494 w_1495 w_130 w_1496
