theorem w_108 : Cond.initialized RL ∈ WALL := wl_in (i := 108) (by decide +kernel) (by decide +kernel)
theorem w_491 : Cond.methodLink RL 90 yX10_teach ∈ WALL := wl_in (i := 491) (by decide +kernel) (by decide +kernel)
theorem w_492 : Cond.instanceMethod yX10_teach ∈ WALL := wl_in (i := 492) (by decide +kernel) (by decide +kernel)
theorem w_493 : Cond.selects RX10 yX10_teach yX10_teach ∈ WALL := wl_in (i := 493) (by decide +kernel) (by decide +kernel)
theorem w_494 : Cond.code yX10_teach cX10_teach 3 (some .int) ∈ WALL := wl_in (i := 494) (by decide +kernel) (by decide +kernel)
theorem w_777 : Cond.methodLink RL 94 yX10_errorAt ∈ WALL := wl_in (i := 777) (by decide +kernel) (by decide +kernel)
theorem w_778 : Cond.instanceMethod yX10_errorAt ∈ WALL := wl_in (i := 778) (by decide +kernel) (by decide +kernel)
theorem w_779 : Cond.selects RX10 yX10_errorAt yX10_errorAt ∈ WALL := wl_in (i := 779) (by decide +kernel) (by decide +kernel)
theorem w_780 : Cond.code yX10_errorAt cX10_errorAt 1 (some .int) ∈ WALL := wl_in (i := 780) (by decide +kernel) (by decide +kernel)
theorem w_781 : Cond.methodLink RL 114 yX10_bishop ∈ WALL := wl_in (i := 781) (by decide +kernel) (by decide +kernel)
theorem w_782 : Cond.instanceMethod yX10_bishop ∈ WALL := wl_in (i := 782) (by decide +kernel) (by decide +kernel)
theorem w_783 : Cond.selects RX10 yX10_bishop yX10_bishop ∈ WALL := wl_in (i := 783) (by decide +kernel) (by decide +kernel)
theorem w_784 : Cond.code yX10_bishop cX10_bishop 1 (some .int) ∈ WALL := wl_in (i := 784) (by decide +kernel) (by decide +kernel)
theorem w_790 : Cond.methodLink RL 151 yX10_mean ∈ WALL := wl_in (i := 790) (by decide +kernel) (by decide +kernel)
theorem w_791 : Cond.instanceMethod yX10_mean ∈ WALL := wl_in (i := 791) (by decide +kernel) (by decide +kernel)
theorem w_792 : Cond.selects RX10 yX10_mean yX10_mean ∈ WALL := wl_in (i := 792) (by decide +kernel) (by decide +kernel)
theorem w_793 : Cond.code yX10_mean cX10_mean 2 (some .double) ∈ WALL := wl_in (i := 793) (by decide +kernel) (by decide +kernel)
theorem w_806 : Cond.methodLink RL 156 yX10_digest ∈ WALL := wl_in (i := 806) (by decide +kernel) (by decide +kernel)
theorem w_807 : Cond.instanceMethod yX10_digest ∈ WALL := wl_in (i := 807) (by decide +kernel) (by decide +kernel)
theorem w_808 : Cond.selects RX10 yX10_digest yX10_digest ∈ WALL := wl_in (i := 808) (by decide +kernel) (by decide +kernel)
theorem w_809 : Cond.code yX10_digest cX10_digest 4 (some .long) ∈ WALL := wl_in (i := 809) (by decide +kernel) (by decide +kernel)
theorem w_917 : Cond.methodLink RL 76 yL_feed ∈ WALL := wl_in (i := 917) (by decide +kernel) (by decide +kernel)
theorem w_918 : Cond.static yL_feed ∈ WALL := wl_in (i := 918) (by decide +kernel) (by decide +kernel)
theorem w_919 : Cond.codeWith yL_feed cL_feed 8 (some .int) [(0, 16, 19, 13)] ∈ WALL := wl_in (i := 919) (by decide +kernel) (by decide +kernel)
theorem w_998 : Cond.methodLink RL 86 yL_trim ∈ WALL := wl_in (i := 998) (by decide +kernel) (by decide +kernel)
theorem w_999 : Cond.static yL_trim ∈ WALL := wl_in (i := 999) (by decide +kernel) (by decide +kernel)
theorem w_1000 : Cond.codeWith yL_trim cL_trim 4 (some .int) [(0, 9, 12, 19)] ∈ WALL := wl_in (i := 1000) (by decide +kernel) (by decide +kernel)
theorem w_1022 : Cond.methodLink RL 98 yL_count ∈ WALL := wl_in (i := 1022) (by decide +kernel) (by decide +kernel)
theorem w_1023 : Cond.static yL_count ∈ WALL := wl_in (i := 1023) (by decide +kernel) (by decide +kernel)
theorem w_1024 : Cond.codeWith yL_count cL_count 4 (some .int) [(0, 9, 12, 24)] ∈ WALL := wl_in (i := 1024) (by decide +kernel) (by decide +kernel)
theorem w_1049 : Cond.methodLink RL 101 yL_beast ∈ WALL := wl_in (i := 1049) (by decide +kernel) (by decide +kernel)
theorem w_1050 : Cond.static yL_beast ∈ WALL := wl_in (i := 1050) (by decide +kernel) (by decide +kernel)
theorem w_1051 : Cond.codeWith yL_beast cL_beast 5 (some .int) [(0, 10, 13, 24)] ∈ WALL := wl_in (i := 1051) (by decide +kernel) (by decide +kernel)
theorem w_1056 : Cond.methodLink RL 105 yL_carver ∈ WALL := wl_in (i := 1056) (by decide +kernel) (by decide +kernel)
theorem w_1057 : Cond.static yL_carver ∈ WALL := wl_in (i := 1057) (by decide +kernel) (by decide +kernel)
theorem w_1058 : Cond.codeWith yL_carver cL_carver 5 (some .int) [(0, 10, 13, 24)] ∈ WALL := wl_in (i := 1058) (by decide +kernel) (by decide +kernel)
theorem w_1063 : Cond.methodLink RL 108 yL_stall ∈ WALL := wl_in (i := 1063) (by decide +kernel) (by decide +kernel)
theorem w_1064 : Cond.static yL_stall ∈ WALL := wl_in (i := 1064) (by decide +kernel) (by decide +kernel)
theorem w_1065 : Cond.codeWith yL_stall cL_stall 5 (some .int) [(0, 10, 13, 24)] ∈ WALL := wl_in (i := 1065) (by decide +kernel) (by decide +kernel)
theorem w_1070 : Cond.methodLink RL 111 yL_order ∈ WALL := wl_in (i := 1070) (by decide +kernel) (by decide +kernel)
theorem w_1071 : Cond.static yL_order ∈ WALL := wl_in (i := 1071) (by decide +kernel) (by decide +kernel)
theorem w_1072 : Cond.codeWith yL_order cL_order 5 (some .int) [(0, 10, 13, 24)] ∈ WALL := wl_in (i := 1072) (by decide +kernel) (by decide +kernel)
theorem w_1077 : Cond.methodLink RL 118 yL_pleasure ∈ WALL := wl_in (i := 1077) (by decide +kernel) (by decide +kernel)
theorem w_1078 : Cond.static yL_pleasure ∈ WALL := wl_in (i := 1078) (by decide +kernel) (by decide +kernel)
theorem w_1079 : Cond.codeWith yL_pleasure cL_pleasure 4 (some .int) [(0, 9, 12, 24)] ∈ WALL := wl_in (i := 1079) (by decide +kernel) (by decide +kernel)
theorem w_1084 : Cond.methodLink RL 121 yL_worst ∈ WALL := wl_in (i := 1084) (by decide +kernel) (by decide +kernel)
theorem w_1085 : Cond.static yL_worst ∈ WALL := wl_in (i := 1085) (by decide +kernel) (by decide +kernel)
theorem w_1086 : Cond.codeWith yL_worst cL_worst 4 (some .int) [(0, 9, 12, 24)] ∈ WALL := wl_in (i := 1086) (by decide +kernel) (by decide +kernel)
theorem w_1095 : Cond.methodLink RL 124 yL_setDamp ∈ WALL := wl_in (i := 1095) (by decide +kernel) (by decide +kernel)
theorem w_1096 : Cond.static yL_setDamp ∈ WALL := wl_in (i := 1096) (by decide +kernel) (by decide +kernel)
theorem w_1097 : Cond.codeWith yL_setDamp cL_setDamp 4 (some .int) [(0, 9, 12, 19)] ∈ WALL := wl_in (i := 1097) (by decide +kernel) (by decide +kernel)
theorem w_1103 : Cond.methodLink RL 127 yL_oil ∈ WALL := wl_in (i := 1103) (by decide +kernel) (by decide +kernel)
theorem w_1104 : Cond.static yL_oil ∈ WALL := wl_in (i := 1104) (by decide +kernel) (by decide +kernel)
theorem w_1105 : Cond.codeWith yL_oil cL_oil 4 (some .int) [(0, 9, 12, 24)] ∈ WALL := wl_in (i := 1105) (by decide +kernel) (by decide +kernel)
theorem w_1110 : Cond.methodLink RL 130 yL_smoke ∈ WALL := wl_in (i := 1110) (by decide +kernel) (by decide +kernel)
theorem w_1111 : Cond.static yL_smoke ∈ WALL := wl_in (i := 1111) (by decide +kernel) (by decide +kernel)
theorem w_1112 : Cond.codeWith yL_smoke cL_smoke 4 (some .int) [(0, 9, 12, 24), (0, 9, 15, 13)] ∈ WALL := wl_in (i := 1112) (by decide +kernel) (by decide +kernel)
theorem w_1118 : Cond.methodLink RL 133 yL_strip ∈ WALL := wl_in (i := 1118) (by decide +kernel) (by decide +kernel)
theorem w_1119 : Cond.static yL_strip ∈ WALL := wl_in (i := 1119) (by decide +kernel) (by decide +kernel)
theorem w_1120 : Cond.codeWith yL_strip cL_strip 4 (some .int) [(0, 9, 12, 24), (0, 9, 15, 13)] ∈ WALL := wl_in (i := 1120) (by decide +kernel) (by decide +kernel)
theorem w_1126 : Cond.methodLink RL 136 yL_pass ∈ WALL := wl_in (i := 1126) (by decide +kernel) (by decide +kernel)
theorem w_1127 : Cond.static yL_pass ∈ WALL := wl_in (i := 1127) (by decide +kernel) (by decide +kernel)
theorem w_1128 : Cond.codeWith yL_pass cL_pass 4 (some .int) [(0, 9, 12, 19)] ∈ WALL := wl_in (i := 1128) (by decide +kernel) (by decide +kernel)
theorem w_1193 : Cond.methodLink RL 139 yL_until ∈ WALL := wl_in (i := 1193) (by decide +kernel) (by decide +kernel)
theorem w_1194 : Cond.static yL_until ∈ WALL := wl_in (i := 1194) (by decide +kernel) (by decide +kernel)
theorem w_1195 : Cond.codeWith yL_until cL_until 5 (some .int) [(0, 10, 13, 24)] ∈ WALL := wl_in (i := 1195) (by decide +kernel) (by decide +kernel)
theorem w_1208 : Cond.methodLink RL 142 yL_foresee ∈ WALL := wl_in (i := 1208) (by decide +kernel) (by decide +kernel)
theorem w_1209 : Cond.static yL_foresee ∈ WALL := wl_in (i := 1209) (by decide +kernel) (by decide +kernel)
theorem w_1210 : Cond.codeWith yL_foresee cL_foresee 5 (some .int) [(0, 10, 13, 19), (0, 10, 17, 24)] ∈ WALL := wl_in (i := 1210) (by decide +kernel) (by decide +kernel)
theorem w_1215 : Cond.methodLink RL 145 yL_advise ∈ WALL := wl_in (i := 1215) (by decide +kernel) (by decide +kernel)
theorem w_1216 : Cond.static yL_advise ∈ WALL := wl_in (i := 1216) (by decide +kernel) (by decide +kernel)
theorem w_1217 : Cond.codeWith yL_advise cL_advise 4 (some .int) [(0, 9, 12, 19)] ∈ WALL := wl_in (i := 1217) (by decide +kernel) (by decide +kernel)
theorem w_1222 : Cond.methodLink RL 148 yL_spare ∈ WALL := wl_in (i := 1222) (by decide +kernel) (by decide +kernel)
theorem w_1223 : Cond.static yL_spare ∈ WALL := wl_in (i := 1223) (by decide +kernel) (by decide +kernel)
theorem w_1224 : Cond.codeWith yL_spare cL_spare 4 (some .int) [(0, 9, 12, 19)] ∈ WALL := wl_in (i := 1224) (by decide +kernel) (by decide +kernel)
theorem w_1428 : Cond.methodLink RL 82 yX13_thrown ∈ WALL := wl_in (i := 1428) (by decide +kernel) (by decide +kernel)
theorem w_1429 : Cond.instanceMethod yX13_thrown ∈ WALL := wl_in (i := 1429) (by decide +kernel) (by decide +kernel)
theorem w_1430 : Cond.selects RX13 yX13_thrown yX13_thrown ∈ WALL := wl_in (i := 1430) (by decide +kernel) (by decide +kernel)
theorem w_1431 : Cond.code yX13_thrown cX13_thrown 1 (some .int) ∈ WALL := wl_in (i := 1431) (by decide +kernel) (by decide +kernel)
theorem w_1432 : Cond.methodLink RL 81 yX13_feed ∈ WALL := wl_in (i := 1432) (by decide +kernel) (by decide +kernel)
theorem w_1433 : Cond.instanceMethod yX13_feed ∈ WALL := wl_in (i := 1433) (by decide +kernel) (by decide +kernel)
theorem w_1434 : Cond.selects RX13 yX13_feed yX13_feed ∈ WALL := wl_in (i := 1434) (by decide +kernel) (by decide +kernel)
theorem w_1435 : Cond.code yX13_feed cX13_feed 8 (some .int) ∈ WALL := wl_in (i := 1435) (by decide +kernel) (by decide +kernel)
theorem w_1440 : Cond.methodLink RL 89 yX13_trim ∈ WALL := wl_in (i := 1440) (by decide +kernel) (by decide +kernel)
theorem w_1441 : Cond.instanceMethod yX13_trim ∈ WALL := wl_in (i := 1441) (by decide +kernel) (by decide +kernel)
theorem w_1442 : Cond.selects RX13 yX13_trim yX13_trim ∈ WALL := wl_in (i := 1442) (by decide +kernel) (by decide +kernel)
theorem w_1443 : Cond.code yX13_trim cX13_trim 2 (some .int) ∈ WALL := wl_in (i := 1443) (by decide +kernel) (by decide +kernel)
theorem w_1447 : Cond.methodLink RL 93 yX13_teach ∈ WALL := wl_in (i := 1447) (by decide +kernel) (by decide +kernel)
theorem w_1448 : Cond.instanceMethod yX13_teach ∈ WALL := wl_in (i := 1448) (by decide +kernel) (by decide +kernel)
theorem w_1449 : Cond.selects RX13 yX13_teach yX13_teach ∈ WALL := wl_in (i := 1449) (by decide +kernel) (by decide +kernel)
theorem w_1450 : Cond.code yX13_teach cX13_teach 4 (some .int) ∈ WALL := wl_in (i := 1450) (by decide +kernel) (by decide +kernel)
theorem w_1685 : Cond.methodLink RL 97 yX13_errorAt ∈ WALL := wl_in (i := 1685) (by decide +kernel) (by decide +kernel)
theorem w_1686 : Cond.instanceMethod yX13_errorAt ∈ WALL := wl_in (i := 1686) (by decide +kernel) (by decide +kernel)
theorem w_1687 : Cond.selects RX13 yX13_errorAt yX13_errorAt ∈ WALL := wl_in (i := 1687) (by decide +kernel) (by decide +kernel)
theorem w_1688 : Cond.code yX13_errorAt cX13_errorAt 1 (some .int) ∈ WALL := wl_in (i := 1688) (by decide +kernel) (by decide +kernel)
theorem w_1689 : Cond.methodLink RL 100 yX13_count ∈ WALL := wl_in (i := 1689) (by decide +kernel) (by decide +kernel)
theorem w_1690 : Cond.instanceMethod yX13_count ∈ WALL := wl_in (i := 1690) (by decide +kernel) (by decide +kernel)
theorem w_1691 : Cond.selects RX13 yX13_count yX13_count ∈ WALL := wl_in (i := 1691) (by decide +kernel) (by decide +kernel)
theorem w_1692 : Cond.code yX13_count cX13_count 2 (some .int) ∈ WALL := wl_in (i := 1692) (by decide +kernel) (by decide +kernel)
theorem w_1720 : Cond.methodLink RL 104 yX13_beast ∈ WALL := wl_in (i := 1720) (by decide +kernel) (by decide +kernel)
theorem w_1721 : Cond.instanceMethod yX13_beast ∈ WALL := wl_in (i := 1721) (by decide +kernel) (by decide +kernel)
theorem w_1722 : Cond.selects RX13 yX13_beast yX13_beast ∈ WALL := wl_in (i := 1722) (by decide +kernel) (by decide +kernel)
theorem w_1723 : Cond.code yX13_beast cX13_beast 3 (some .int) ∈ WALL := wl_in (i := 1723) (by decide +kernel) (by decide +kernel)
theorem w_1728 : Cond.methodLink RL 107 yX13_carver ∈ WALL := wl_in (i := 1728) (by decide +kernel) (by decide +kernel)
theorem w_1729 : Cond.instanceMethod yX13_carver ∈ WALL := wl_in (i := 1729) (by decide +kernel) (by decide +kernel)
theorem w_1730 : Cond.selects RX13 yX13_carver yX13_carver ∈ WALL := wl_in (i := 1730) (by decide +kernel) (by decide +kernel)
theorem w_1731 : Cond.code yX13_carver cX13_carver 3 (some .int) ∈ WALL := wl_in (i := 1731) (by decide +kernel) (by decide +kernel)
theorem w_1774 : Cond.methodLink RL 110 yX13_stall ∈ WALL := wl_in (i := 1774) (by decide +kernel) (by decide +kernel)
theorem w_1775 : Cond.instanceMethod yX13_stall ∈ WALL := wl_in (i := 1775) (by decide +kernel) (by decide +kernel)
theorem w_1776 : Cond.selects RX13 yX13_stall yX13_stall ∈ WALL := wl_in (i := 1776) (by decide +kernel) (by decide +kernel)
theorem w_1777 : Cond.code yX13_stall cX13_stall 3 (some .int) ∈ WALL := wl_in (i := 1777) (by decide +kernel) (by decide +kernel)
theorem w_1795 : Cond.methodLink RL 113 yX13_order ∈ WALL := wl_in (i := 1795) (by decide +kernel) (by decide +kernel)
theorem w_1796 : Cond.instanceMethod yX13_order ∈ WALL := wl_in (i := 1796) (by decide +kernel) (by decide +kernel)
theorem w_1797 : Cond.selects RX13 yX13_order yX13_order ∈ WALL := wl_in (i := 1797) (by decide +kernel) (by decide +kernel)
theorem w_1798 : Cond.code yX13_order cX13_order 3 (some .int) ∈ WALL := wl_in (i := 1798) (by decide +kernel) (by decide +kernel)
theorem w_1803 : Cond.methodLink RL 117 yX13_bishop ∈ WALL := wl_in (i := 1803) (by decide +kernel) (by decide +kernel)
theorem w_1804 : Cond.instanceMethod yX13_bishop ∈ WALL := wl_in (i := 1804) (by decide +kernel) (by decide +kernel)
theorem w_1805 : Cond.selects RX13 yX13_bishop yX13_bishop ∈ WALL := wl_in (i := 1805) (by decide +kernel) (by decide +kernel)
theorem w_1806 : Cond.code yX13_bishop cX13_bishop 1 (some .int) ∈ WALL := wl_in (i := 1806) (by decide +kernel) (by decide +kernel)
theorem w_1807 : Cond.methodLink RL 120 yX13_pleasure ∈ WALL := wl_in (i := 1807) (by decide +kernel) (by decide +kernel)
theorem w_1808 : Cond.instanceMethod yX13_pleasure ∈ WALL := wl_in (i := 1808) (by decide +kernel) (by decide +kernel)
theorem w_1809 : Cond.selects RX13 yX13_pleasure yX13_pleasure ∈ WALL := wl_in (i := 1809) (by decide +kernel) (by decide +kernel)
theorem w_1810 : Cond.code yX13_pleasure cX13_pleasure 2 (some .int) ∈ WALL := wl_in (i := 1810) (by decide +kernel) (by decide +kernel)
theorem w_1819 : Cond.methodLink RL 123 yX13_worst ∈ WALL := wl_in (i := 1819) (by decide +kernel) (by decide +kernel)
theorem w_1820 : Cond.instanceMethod yX13_worst ∈ WALL := wl_in (i := 1820) (by decide +kernel) (by decide +kernel)
theorem w_1821 : Cond.selects RX13 yX13_worst yX13_worst ∈ WALL := wl_in (i := 1821) (by decide +kernel) (by decide +kernel)
theorem w_1822 : Cond.code yX13_worst cX13_worst 6 (some .int) ∈ WALL := wl_in (i := 1822) (by decide +kernel) (by decide +kernel)
theorem w_1823 : Cond.methodLink RL 126 yX13_setDamp ∈ WALL := wl_in (i := 1823) (by decide +kernel) (by decide +kernel)
theorem w_1824 : Cond.instanceMethod yX13_setDamp ∈ WALL := wl_in (i := 1824) (by decide +kernel) (by decide +kernel)
theorem w_1825 : Cond.selects RX13 yX13_setDamp yX13_setDamp ∈ WALL := wl_in (i := 1825) (by decide +kernel) (by decide +kernel)
theorem w_1826 : Cond.code yX13_setDamp cX13_setDamp 3 (some .int) ∈ WALL := wl_in (i := 1826) (by decide +kernel) (by decide +kernel)
theorem w_1827 : Cond.methodLink RL 129 yX13_oil ∈ WALL := wl_in (i := 1827) (by decide +kernel) (by decide +kernel)
theorem w_1828 : Cond.instanceMethod yX13_oil ∈ WALL := wl_in (i := 1828) (by decide +kernel) (by decide +kernel)
theorem w_1829 : Cond.selects RX13 yX13_oil yX13_oil ∈ WALL := wl_in (i := 1829) (by decide +kernel) (by decide +kernel)
theorem w_1830 : Cond.code yX13_oil cX13_oil 3 (some .int) ∈ WALL := wl_in (i := 1830) (by decide +kernel) (by decide +kernel)
theorem w_1831 : Cond.methodLink RL 132 yX13_smoke ∈ WALL := wl_in (i := 1831) (by decide +kernel) (by decide +kernel)
theorem w_1832 : Cond.instanceMethod yX13_smoke ∈ WALL := wl_in (i := 1832) (by decide +kernel) (by decide +kernel)
theorem w_1833 : Cond.selects RX13 yX13_smoke yX13_smoke ∈ WALL := wl_in (i := 1833) (by decide +kernel) (by decide +kernel)
theorem w_1834 : Cond.code yX13_smoke cX13_smoke 2 (some .int) ∈ WALL := wl_in (i := 1834) (by decide +kernel) (by decide +kernel)
theorem w_1835 : Cond.methodLink RL 135 yX13_strip ∈ WALL := wl_in (i := 1835) (by decide +kernel) (by decide +kernel)
theorem w_1836 : Cond.instanceMethod yX13_strip ∈ WALL := wl_in (i := 1836) (by decide +kernel) (by decide +kernel)
theorem w_1837 : Cond.selects RX13 yX13_strip yX13_strip ∈ WALL := wl_in (i := 1837) (by decide +kernel) (by decide +kernel)
theorem w_1838 : Cond.code yX13_strip cX13_strip 3 (some .int) ∈ WALL := wl_in (i := 1838) (by decide +kernel) (by decide +kernel)
theorem w_1839 : Cond.methodLink RL 138 yX13_pass ∈ WALL := wl_in (i := 1839) (by decide +kernel) (by decide +kernel)
theorem w_1840 : Cond.instanceMethod yX13_pass ∈ WALL := wl_in (i := 1840) (by decide +kernel) (by decide +kernel)
theorem w_1841 : Cond.selects RX13 yX13_pass yX13_pass ∈ WALL := wl_in (i := 1841) (by decide +kernel) (by decide +kernel)
theorem w_1842 : Cond.code yX13_pass cX13_pass 3 (some .int) ∈ WALL := wl_in (i := 1842) (by decide +kernel) (by decide +kernel)
theorem w_1868 : Cond.methodLink RL 141 yX13_until ∈ WALL := wl_in (i := 1868) (by decide +kernel) (by decide +kernel)
theorem w_1869 : Cond.instanceMethod yX13_until ∈ WALL := wl_in (i := 1869) (by decide +kernel) (by decide +kernel)
theorem w_1870 : Cond.selects RX13 yX13_until yX13_until ∈ WALL := wl_in (i := 1870) (by decide +kernel) (by decide +kernel)
theorem w_1871 : Cond.code yX13_until cX13_until 4 (some .int) ∈ WALL := wl_in (i := 1871) (by decide +kernel) (by decide +kernel)
theorem w_1881 : Cond.methodLink RL 144 yX13_foresee ∈ WALL := wl_in (i := 1881) (by decide +kernel) (by decide +kernel)
theorem w_1882 : Cond.instanceMethod yX13_foresee ∈ WALL := wl_in (i := 1882) (by decide +kernel) (by decide +kernel)
theorem w_1883 : Cond.selects RX13 yX13_foresee yX13_foresee ∈ WALL := wl_in (i := 1883) (by decide +kernel) (by decide +kernel)
theorem w_1884 : Cond.code yX13_foresee cX13_foresee 4 (some .int) ∈ WALL := wl_in (i := 1884) (by decide +kernel) (by decide +kernel)
theorem w_1885 : Cond.methodLink RL 147 yX13_advise ∈ WALL := wl_in (i := 1885) (by decide +kernel) (by decide +kernel)
theorem w_1886 : Cond.instanceMethod yX13_advise ∈ WALL := wl_in (i := 1886) (by decide +kernel) (by decide +kernel)
theorem w_1887 : Cond.selects RX13 yX13_advise yX13_advise ∈ WALL := wl_in (i := 1887) (by decide +kernel) (by decide +kernel)
theorem w_1888 : Cond.code yX13_advise cX13_advise 5 (some .int) ∈ WALL := wl_in (i := 1888) (by decide +kernel) (by decide +kernel)
theorem w_1889 : Cond.methodLink RL 150 yX13_spare ∈ WALL := wl_in (i := 1889) (by decide +kernel) (by decide +kernel)
theorem w_1890 : Cond.instanceMethod yX13_spare ∈ WALL := wl_in (i := 1890) (by decide +kernel) (by decide +kernel)
theorem w_1891 : Cond.selects RX13 yX13_spare yX13_spare ∈ WALL := wl_in (i := 1891) (by decide +kernel) (by decide +kernel)
theorem w_1892 : Cond.code yX13_spare cX13_spare 5 (some .int) ∈ WALL := wl_in (i := 1892) (by decide +kernel) (by decide +kernel)
theorem w_1893 : Cond.methodLink RL 155 yX13_mean ∈ WALL := wl_in (i := 1893) (by decide +kernel) (by decide +kernel)
theorem w_1894 : Cond.instanceMethod yX13_mean ∈ WALL := wl_in (i := 1894) (by decide +kernel) (by decide +kernel)
theorem w_1895 : Cond.selects RX13 yX13_mean yX13_mean ∈ WALL := wl_in (i := 1895) (by decide +kernel) (by decide +kernel)
theorem w_1896 : Cond.code yX13_mean cX13_mean 3 (some .double) ∈ WALL := wl_in (i := 1896) (by decide +kernel) (by decide +kernel)
theorem w_1897 : Cond.methodLink RL 160 yX13_digest ∈ WALL := wl_in (i := 1897) (by decide +kernel) (by decide +kernel)
theorem w_1898 : Cond.instanceMethod yX13_digest ∈ WALL := wl_in (i := 1898) (by decide +kernel) (by decide +kernel)
theorem w_1899 : Cond.selects RX13 yX13_digest yX13_digest ∈ WALL := wl_in (i := 1899) (by decide +kernel) (by decide +kernel)
theorem w_1900 : Cond.code yX13_digest cX13_digest 5 (some .long) ∈ WALL := wl_in (i := 1900) (by decide +kernel) (by decide +kernel)
theorem gv_L_100 : GoodIn WALL (wsV RL 100 RX13 yX13_count (WS yX13_count cX13_count 2 (some .int))) := gw_V w_1689 w_1690 w_1691 w_119 w_1692
theorem gh_L_101 : GoodIn WALL (va_wsS RL 101 yL_beast (WSH yL_beast cL_beast 5 (some .int) [(0, 10, 13, 24)])) := gw_SH w_1049 w_1050 w_108 w_1051
theorem gv_L_104 : GoodIn WALL (wsV RL 104 RX13 yX13_beast (WS yX13_beast cX13_beast 3 (some .int))) := gw_V w_1720 w_1721 w_1722 w_119 w_1723
theorem gh_L_105 : GoodIn WALL (va_wsS RL 105 yL_carver (WSH yL_carver cL_carver 5 (some .int) [(0, 10, 13, 24)])) := gw_SH w_1056 w_1057 w_108 w_1058
theorem gv_L_107 : GoodIn WALL (wsV RL 107 RX13 yX13_carver (WS yX13_carver cX13_carver 3 (some .int))) := gw_V w_1728 w_1729 w_1730 w_119 w_1731
theorem gh_L_108 : GoodIn WALL (va_wsS RL 108 yL_stall (WSH yL_stall cL_stall 5 (some .int) [(0, 10, 13, 24)])) := gw_SH w_1063 w_1064 w_108 w_1065
theorem gv_L_110 : GoodIn WALL (wsV RL 110 RX13 yX13_stall (WS yX13_stall cX13_stall 3 (some .int))) := gw_V w_1774 w_1775 w_1776 w_119 w_1777
theorem gh_L_111 : GoodIn WALL (va_wsS RL 111 yL_order (WSH yL_order cL_order 5 (some .int) [(0, 10, 13, 24)])) := gw_SH w_1070 w_1071 w_108 w_1072
theorem gv_L_113 : GoodIn WALL (wsV RL 113 RX13 yX13_order (WS yX13_order cX13_order 3 (some .int))) := gw_V w_1795 w_1796 w_1797 w_119 w_1798
theorem gv_L_114 : GoodIn WALL (wsV RL 114 RX10 yX10_bishop (WS yX10_bishop cX10_bishop 1 (some .int))) := gw_V w_781 w_782 w_783 w_109 w_784
theorem gv_L_117 : GoodIn WALL (wsV RL 117 RX13 yX13_bishop (WS yX13_bishop cX13_bishop 1 (some .int))) := gw_V w_1803 w_1804 w_1805 w_119 w_1806
theorem gh_L_118 : GoodIn WALL (va_wsS RL 118 yL_pleasure (WSH yL_pleasure cL_pleasure 4 (some .int) [(0, 9, 12, 24)])) := gw_SH w_1077 w_1078 w_108 w_1079
theorem gv_L_120 : GoodIn WALL (wsV RL 120 RX13 yX13_pleasure (WS yX13_pleasure cX13_pleasure 2 (some .int))) := gw_V w_1807 w_1808 w_1809 w_119 w_1810
theorem gh_L_121 : GoodIn WALL (va_wsS RL 121 yL_worst (WSH yL_worst cL_worst 4 (some .int) [(0, 9, 12, 24)])) := gw_SH w_1084 w_1085 w_108 w_1086
theorem gv_L_123 : GoodIn WALL (wsV RL 123 RX13 yX13_worst (WS yX13_worst cX13_worst 6 (some .int))) := gw_V w_1819 w_1820 w_1821 w_119 w_1822
theorem gh_L_124 : GoodIn WALL (va_wsS RL 124 yL_setDamp (WSH yL_setDamp cL_setDamp 4 (some .int) [(0, 9, 12, 19)])) := gw_SH w_1095 w_1096 w_108 w_1097
theorem gv_L_126 : GoodIn WALL (wsV RL 126 RX13 yX13_setDamp (WS yX13_setDamp cX13_setDamp 3 (some .int))) := gw_V w_1823 w_1824 w_1825 w_119 w_1826
theorem gh_L_127 : GoodIn WALL (va_wsS RL 127 yL_oil (WSH yL_oil cL_oil 4 (some .int) [(0, 9, 12, 24)])) := gw_SH w_1103 w_1104 w_108 w_1105
theorem gv_L_129 : GoodIn WALL (wsV RL 129 RX13 yX13_oil (WS yX13_oil cX13_oil 3 (some .int))) := gw_V w_1827 w_1828 w_1829 w_119 w_1830
theorem gh_L_130 : GoodIn WALL (va_wsS RL 130 yL_smoke (WSH yL_smoke cL_smoke 4 (some .int) [(0, 9, 12, 24), (0, 9, 15, 13)])) := gw_SH w_1110 w_1111 w_108 w_1112
theorem gv_L_132 : GoodIn WALL (wsV RL 132 RX13 yX13_smoke (WS yX13_smoke cX13_smoke 2 (some .int))) := gw_V w_1831 w_1832 w_1833 w_119 w_1834
theorem gh_L_133 : GoodIn WALL (va_wsS RL 133 yL_strip (WSH yL_strip cL_strip 4 (some .int) [(0, 9, 12, 24), (0, 9, 15, 13)])) := gw_SH w_1118 w_1119 w_108 w_1120
theorem gv_L_135 : GoodIn WALL (wsV RL 135 RX13 yX13_strip (WS yX13_strip cX13_strip 3 (some .int))) := gw_V w_1835 w_1836 w_1837 w_119 w_1838
theorem gh_L_136 : GoodIn WALL (va_wsS RL 136 yL_pass (WSH yL_pass cL_pass 4 (some .int) [(0, 9, 12, 19)])) := gw_SH w_1126 w_1127 w_108 w_1128
theorem gv_L_138 : GoodIn WALL (wsV RL 138 RX13 yX13_pass (WS yX13_pass cX13_pass 3 (some .int))) := gw_V w_1839 w_1840 w_1841 w_119 w_1842
theorem gh_L_139 : GoodIn WALL (va_wsS RL 139 yL_until (WSH yL_until cL_until 5 (some .int) [(0, 10, 13, 24)])) := gw_SH w_1193 w_1194 w_108 w_1195
theorem gv_L_141 : GoodIn WALL (wsV RL 141 RX13 yX13_until (WS yX13_until cX13_until 4 (some .int))) := gw_V w_1868 w_1869 w_1870 w_119 w_1871
theorem gh_L_142 : GoodIn WALL (va_wsS RL 142 yL_foresee (WSH yL_foresee cL_foresee 5 (some .int) [(0, 10, 13, 19), (0, 10, 17, 24)])) := gw_SH w_1208 w_1209 w_108 w_1210
theorem gv_L_144 : GoodIn WALL (wsV RL 144 RX13 yX13_foresee (WS yX13_foresee cX13_foresee 4 (some .int))) := gw_V w_1881 w_1882 w_1883 w_119 w_1884
theorem gh_L_145 : GoodIn WALL (va_wsS RL 145 yL_advise (WSH yL_advise cL_advise 4 (some .int) [(0, 9, 12, 19)])) := gw_SH w_1215 w_1216 w_108 w_1217
theorem gv_L_147 : GoodIn WALL (wsV RL 147 RX13 yX13_advise (WS yX13_advise cX13_advise 5 (some .int))) := gw_V w_1885 w_1886 w_1887 w_119 w_1888
theorem gh_L_148 : GoodIn WALL (va_wsS RL 148 yL_spare (WSH yL_spare cL_spare 4 (some .int) [(0, 9, 12, 19)])) := gw_SH w_1222 w_1223 w_108 w_1224
theorem gv_L_150 : GoodIn WALL (wsV RL 150 RX13 yX13_spare (WS yX13_spare cX13_spare 5 (some .int))) := gw_V w_1889 w_1890 w_1891 w_119 w_1892
theorem gv_L_151 : GoodIn WALL (wsV RL 151 RX10 yX10_mean (WS yX10_mean cX10_mean 2 (some .double))) := gw_V w_790 w_791 w_792 w_109 w_793
theorem gv_L_155 : GoodIn WALL (wsV RL 155 RX13 yX13_mean (WS yX13_mean cX13_mean 3 (some .double))) := gw_V w_1893 w_1894 w_1895 w_119 w_1896
theorem gv_L_156 : GoodIn WALL (wsV RL 156 RX10 yX10_digest (WS yX10_digest cX10_digest 4 (some .long))) := gw_V w_806 w_807 w_808 w_109 w_809
theorem gv_L_160 : GoodIn WALL (wsV RL 160 RX13 yX13_digest (WS yX13_digest cX13_digest 5 (some .long))) := gw_V w_1897 w_1898 w_1899 w_119 w_1900
theorem gh_L_76 : GoodIn WALL (va_wsS RL 76 yL_feed (WSH yL_feed cL_feed 8 (some .int) [(0, 16, 19, 13)])) := gw_SH w_917 w_918 w_108 w_919
theorem gv_L_81 : GoodIn WALL (wsV RL 81 RX13 yX13_feed (WS yX13_feed cX13_feed 8 (some .int))) := gw_V w_1432 w_1433 w_1434 w_119 w_1435
theorem gv_L_82 : GoodIn WALL (wsV RL 82 RX13 yX13_thrown (WS yX13_thrown cX13_thrown 1 (some .int))) := gw_V w_1428 w_1429 w_1430 w_119 w_1431
theorem gh_L_86 : GoodIn WALL (va_wsS RL 86 yL_trim (WSH yL_trim cL_trim 4 (some .int) [(0, 9, 12, 19)])) := gw_SH w_998 w_999 w_108 w_1000
theorem gv_L_89 : GoodIn WALL (wsV RL 89 RX13 yX13_trim (WS yX13_trim cX13_trim 2 (some .int))) := gw_V w_1440 w_1441 w_1442 w_119 w_1443
theorem gv_L_90 : GoodIn WALL (wsV RL 90 RX10 yX10_teach (WS yX10_teach cX10_teach 3 (some .int))) := gw_V w_491 w_492 w_493 w_109 w_494
theorem gv_L_93 : GoodIn WALL (wsV RL 93 RX13 yX13_teach (WS yX13_teach cX13_teach 4 (some .int))) := gw_V w_1447 w_1448 w_1449 w_119 w_1450
theorem gv_L_94 : GoodIn WALL (wsV RL 94 RX10 yX10_errorAt (WS yX10_errorAt cX10_errorAt 1 (some .int))) := gw_V w_777 w_778 w_779 w_109 w_780
theorem gv_L_97 : GoodIn WALL (wsV RL 97 RX13 yX13_errorAt (WS yX13_errorAt cX13_errorAt 1 (some .int))) := gw_V w_1685 w_1686 w_1687 w_119 w_1688
theorem gh_L_98 : GoodIn WALL (va_wsS RL 98 yL_count (WSH yL_count cL_count 4 (some .int) [(0, 9, 12, 24)])) := gw_SH w_1022 w_1023 w_108 w_1024
