theorem vm_448 : Cond.methodLink RL 90 yL_begin ∈ GW := gw_of (i := 448) (by decide +kernel) (by decide +kernel)
theorem vm_449 : Cond.static yL_begin ∈ GW := gw_of (i := 449) (by decide +kernel) (by decide +kernel)
theorem vm_59 : Cond.initialized RL ∈ GW := gw_of (i := 59) (by decide +kernel) (by decide +kernel)
theorem vm_450 : Cond.codeWith yL_begin cL_begin 4 (some .int) [(0, 6, 9, 13)] ∈ GW := gw_of (i := 450) (by decide +kernel) (by decide +kernel)
theorem vm_1006 : Cond.methodLink RL 95 yX8_begin ∈ GW := gw_of (i := 1006) (by decide +kernel) (by decide +kernel)
theorem vm_1007 : Cond.instanceMethod yX8_begin ∈ GW := gw_of (i := 1007) (by decide +kernel) (by decide +kernel)
theorem vm_1008 : Cond.selects RX8 yX8_begin yX8_begin ∈ GW := gw_of (i := 1008) (by decide +kernel) (by decide +kernel)
theorem vm_1009 : Cond.code yX8_begin cX8_begin 3 none ∈ GW := gw_of (i := 1009) (by decide +kernel) (by decide +kernel)
theorem vm_74 : Cond.initialized RX8 ∈ GW := gw_of (i := 74) (by decide +kernel) (by decide +kernel)
theorem vm_1002 : Cond.methodLink RL 96 yX8_thrown ∈ GW := gw_of (i := 1002) (by decide +kernel) (by decide +kernel)
theorem vm_1003 : Cond.instanceMethod yX8_thrown ∈ GW := gw_of (i := 1003) (by decide +kernel) (by decide +kernel)
theorem vm_1004 : Cond.selects RX8 yX8_thrown yX8_thrown ∈ GW := gw_of (i := 1004) (by decide +kernel) (by decide +kernel)
theorem vm_1005 : Cond.code yX8_thrown cX8_thrown 1 (some .int) ∈ GW := gw_of (i := 1005) (by decide +kernel) (by decide +kernel)
theorem vm_479 : Cond.methodLink RL 99 yL_setConflict ∈ GW := gw_of (i := 479) (by decide +kernel) (by decide +kernel)
theorem vm_480 : Cond.static yL_setConflict ∈ GW := gw_of (i := 480) (by decide +kernel) (by decide +kernel)
theorem vm_481 : Cond.codeWith yL_setConflict cL_setConflict 7 (some .int) [(0, 14, 17, 19), (0, 14, 21, 13), (0, 14, 25, 21)] ∈ GW := gw_of (i := 481) (by decide +kernel) (by decide +kernel)
theorem vm_1017 : Cond.methodLink RL 102 yX8_setConflict ∈ GW := gw_of (i := 1017) (by decide +kernel) (by decide +kernel)
theorem vm_1018 : Cond.instanceMethod yX8_setConflict ∈ GW := gw_of (i := 1018) (by decide +kernel) (by decide +kernel)
theorem vm_1019 : Cond.selects RX8 yX8_setConflict yX8_setConflict ∈ GW := gw_of (i := 1019) (by decide +kernel) (by decide +kernel)
theorem vm_1020 : Cond.code yX8_setConflict cX8_setConflict 6 (some .int) ∈ GW := gw_of (i := 1020) (by decide +kernel) (by decide +kernel)
theorem vm_526 : Cond.methodLink RL 103 yL_setPhases ∈ GW := gw_of (i := 526) (by decide +kernel) (by decide +kernel)
theorem vm_527 : Cond.static yL_setPhases ∈ GW := gw_of (i := 527) (by decide +kernel) (by decide +kernel)
theorem vm_528 : Cond.codeWith yL_setPhases cL_setPhases 8 (some .int) [(0, 16, 19, 19), (0, 16, 23, 13), (0, 16, 27, 21)] ∈ GW := gw_of (i := 528) (by decide +kernel) (by decide +kernel)
theorem vm_1038 : Cond.methodLink RL 106 yX8_setPhases ∈ GW := gw_of (i := 1038) (by decide +kernel) (by decide +kernel)
theorem vm_1039 : Cond.instanceMethod yX8_setPhases ∈ GW := gw_of (i := 1039) (by decide +kernel) (by decide +kernel)
theorem vm_1040 : Cond.selects RX8 yX8_setPhases yX8_setPhases ∈ GW := gw_of (i := 1040) (by decide +kernel) (by decide +kernel)
theorem vm_1041 : Cond.code yX8_setPhases cX8_setPhases 8 (some .int) ∈ GW := gw_of (i := 1041) (by decide +kernel) (by decide +kernel)
theorem vm_542 : Cond.methodLink RL 107 yL_setFlow ∈ GW := gw_of (i := 542) (by decide +kernel) (by decide +kernel)
theorem vm_543 : Cond.static yL_setFlow ∈ GW := gw_of (i := 543) (by decide +kernel) (by decide +kernel)
theorem vm_544 : Cond.codeWith yL_setFlow cL_setFlow 6 (some .int) [(0, 12, 15, 19), (0, 12, 19, 13), (0, 12, 23, 21)] ∈ GW := gw_of (i := 544) (by decide +kernel) (by decide +kernel)
theorem vm_1050 : Cond.methodLink RL 110 yX8_setFlow ∈ GW := gw_of (i := 1050) (by decide +kernel) (by decide +kernel)
theorem vm_1051 : Cond.instanceMethod yX8_setFlow ∈ GW := gw_of (i := 1051) (by decide +kernel) (by decide +kernel)
theorem vm_1052 : Cond.selects RX8 yX8_setFlow yX8_setFlow ∈ GW := gw_of (i := 1052) (by decide +kernel) (by decide +kernel)
theorem vm_1053 : Cond.code yX8_setFlow cX8_setFlow 6 (some .int) ∈ GW := gw_of (i := 1053) (by decide +kernel) (by decide +kernel)
theorem vm_558 : Cond.methodLink RL 111 yL_setLink ∈ GW := gw_of (i := 558) (by decide +kernel) (by decide +kernel)
theorem vm_559 : Cond.static yL_setLink ∈ GW := gw_of (i := 559) (by decide +kernel) (by decide +kernel)
theorem vm_560 : Cond.codeWith yL_setLink cL_setLink 5 (some .int) [(0, 7, 10, 19), (0, 7, 14, 13), (0, 7, 18, 21)] ∈ GW := gw_of (i := 560) (by decide +kernel) (by decide +kernel)
theorem vm_1054 : Cond.methodLink RL 114 yX8_setLink ∈ GW := gw_of (i := 1054) (by decide +kernel) (by decide +kernel)
theorem vm_1055 : Cond.instanceMethod yX8_setLink ∈ GW := gw_of (i := 1055) (by decide +kernel) (by decide +kernel)
theorem vm_1056 : Cond.selects RX8 yX8_setLink yX8_setLink ∈ GW := gw_of (i := 1056) (by decide +kernel) (by decide +kernel)
theorem vm_1057 : Cond.code yX8_setLink cX8_setLink 5 none ∈ GW := gw_of (i := 1057) (by decide +kernel) (by decide +kernel)
theorem vm_575 : Cond.methodLink RL 115 yL_setOffset ∈ GW := gw_of (i := 575) (by decide +kernel) (by decide +kernel)
theorem vm_576 : Cond.static yL_setOffset ∈ GW := gw_of (i := 576) (by decide +kernel) (by decide +kernel)
theorem vm_577 : Cond.codeWith yL_setOffset cL_setOffset 5 (some .int) [(0, 10, 13, 19), (0, 10, 17, 13), (0, 10, 21, 21)] ∈ GW := gw_of (i := 577) (by decide +kernel) (by decide +kernel)
theorem vm_1062 : Cond.methodLink RL 118 yX8_setOffset ∈ GW := gw_of (i := 1062) (by decide +kernel) (by decide +kernel)
theorem vm_1063 : Cond.instanceMethod yX8_setOffset ∈ GW := gw_of (i := 1063) (by decide +kernel) (by decide +kernel)
theorem vm_1064 : Cond.selects RX8 yX8_setOffset yX8_setOffset ∈ GW := gw_of (i := 1064) (by decide +kernel) (by decide +kernel)
theorem vm_1065 : Cond.code yX8_setOffset cX8_setOffset 4 (some .int) ∈ GW := gw_of (i := 1065) (by decide +kernel) (by decide +kernel)
theorem vm_583 : Cond.methodLink RL 119 yL_improve ∈ GW := gw_of (i := 583) (by decide +kernel) (by decide +kernel)
theorem vm_584 : Cond.static yL_improve ∈ GW := gw_of (i := 584) (by decide +kernel) (by decide +kernel)
theorem vm_585 : Cond.codeWith yL_improve cL_improve 3 (some .int) [(0, 8, 11, 21)] ∈ GW := gw_of (i := 585) (by decide +kernel) (by decide +kernel)
theorem vm_1066 : Cond.methodLink RL 122 yX8_improve ∈ GW := gw_of (i := 1066) (by decide +kernel) (by decide +kernel)
theorem vm_1067 : Cond.instanceMethod yX8_improve ∈ GW := gw_of (i := 1067) (by decide +kernel) (by decide +kernel)
theorem vm_1068 : Cond.selects RX8 yX8_improve yX8_improve ∈ GW := gw_of (i := 1068) (by decide +kernel) (by decide +kernel)
theorem vm_1069 : Cond.code yX8_improve cX8_improve 4 (some .int) ∈ GW := gw_of (i := 1069) (by decide +kernel) (by decide +kernel)
theorem vm_432 : Cond.methodLink RL 123 yX7_junctions ∈ GW := gw_of (i := 432) (by decide +kernel) (by decide +kernel)
theorem vm_433 : Cond.instanceMethod yX7_junctions ∈ GW := gw_of (i := 433) (by decide +kernel) (by decide +kernel)
theorem vm_434 : Cond.selects RX7 yX7_junctions yX7_junctions ∈ GW := gw_of (i := 434) (by decide +kernel) (by decide +kernel)
theorem vm_435 : Cond.code yX7_junctions cX7_junctions 1 (some .int) ∈ GW := gw_of (i := 435) (by decide +kernel) (by decide +kernel)
theorem vm_60 : Cond.initialized RX7 ∈ GW := gw_of (i := 60) (by decide +kernel) (by decide +kernel)
theorem vm_1122 : Cond.methodLink RL 126 yX8_junctions ∈ GW := gw_of (i := 1122) (by decide +kernel) (by decide +kernel)
theorem vm_1123 : Cond.instanceMethod yX8_junctions ∈ GW := gw_of (i := 1123) (by decide +kernel) (by decide +kernel)
theorem vm_1124 : Cond.selects RX8 yX8_junctions yX8_junctions ∈ GW := gw_of (i := 1124) (by decide +kernel) (by decide +kernel)
theorem vm_1125 : Cond.code yX8_junctions cX8_junctions 1 (some .int) ∈ GW := gw_of (i := 1125) (by decide +kernel) (by decide +kernel)
theorem vm_687 : Cond.methodLink RL 127 yL_hasPlan ∈ GW := gw_of (i := 687) (by decide +kernel) (by decide +kernel)
theorem vm_688 : Cond.static yL_hasPlan ∈ GW := gw_of (i := 688) (by decide +kernel) (by decide +kernel)
theorem vm_689 : Cond.codeWith yL_hasPlan cL_hasPlan 4 (some .int) [(0, 16, 19, 19)] ∈ GW := gw_of (i := 689) (by decide +kernel) (by decide +kernel)
theorem vm_1126 : Cond.methodLink RL 130 yX8_hasPlan ∈ GW := gw_of (i := 1126) (by decide +kernel) (by decide +kernel)
theorem vm_1127 : Cond.instanceMethod yX8_hasPlan ∈ GW := gw_of (i := 1127) (by decide +kernel) (by decide +kernel)
theorem vm_1128 : Cond.selects RX8 yX8_hasPlan yX8_hasPlan ∈ GW := gw_of (i := 1128) (by decide +kernel) (by decide +kernel)
theorem vm_1129 : Cond.code yX8_hasPlan cX8_hasPlan 2 (some .boolean) ∈ GW := gw_of (i := 1129) (by decide +kernel) (by decide +kernel)
theorem vm_694 : Cond.methodLink RL 131 yL_green ∈ GW := gw_of (i := 694) (by decide +kernel) (by decide +kernel)
theorem vm_695 : Cond.static yL_green ∈ GW := gw_of (i := 695) (by decide +kernel) (by decide +kernel)
theorem vm_696 : Cond.codeWith yL_green cL_green 5 (some .int) [(0, 10, 13, 19), (0, 10, 17, 21)] ∈ GW := gw_of (i := 696) (by decide +kernel) (by decide +kernel)
theorem vm_1134 : Cond.methodLink RL 133 yX8_green ∈ GW := gw_of (i := 1134) (by decide +kernel) (by decide +kernel)
theorem vm_1135 : Cond.instanceMethod yX8_green ∈ GW := gw_of (i := 1135) (by decide +kernel) (by decide +kernel)
theorem vm_1136 : Cond.selects RX8 yX8_green yX8_green ∈ GW := gw_of (i := 1136) (by decide +kernel) (by decide +kernel)
theorem vm_1137 : Cond.code yX8_green cX8_green 3 (some .int) ∈ GW := gw_of (i := 1137) (by decide +kernel) (by decide +kernel)
theorem vm_710 : Cond.methodLink RL 134 yL_clearing ∈ GW := gw_of (i := 710) (by decide +kernel) (by decide +kernel)
theorem vm_711 : Cond.static yL_clearing ∈ GW := gw_of (i := 711) (by decide +kernel) (by decide +kernel)
theorem vm_712 : Cond.codeWith yL_clearing cL_clearing 5 (some .int) [(0, 10, 13, 19)] ∈ GW := gw_of (i := 712) (by decide +kernel) (by decide +kernel)
theorem vm_1142 : Cond.methodLink RL 136 yX8_clearing ∈ GW := gw_of (i := 1142) (by decide +kernel) (by decide +kernel)
theorem vm_1143 : Cond.instanceMethod yX8_clearing ∈ GW := gw_of (i := 1143) (by decide +kernel) (by decide +kernel)
theorem vm_1144 : Cond.selects RX8 yX8_clearing yX8_clearing ∈ GW := gw_of (i := 1144) (by decide +kernel) (by decide +kernel)
theorem vm_1145 : Cond.code yX8_clearing cX8_clearing 3 (some .int) ∈ GW := gw_of (i := 1145) (by decide +kernel) (by decide +kernel)
theorem vm_717 : Cond.methodLink RL 137 yL_offset ∈ GW := gw_of (i := 717) (by decide +kernel) (by decide +kernel)
theorem vm_718 : Cond.static yL_offset ∈ GW := gw_of (i := 718) (by decide +kernel) (by decide +kernel)
theorem vm_719 : Cond.codeWith yL_offset cL_offset 4 (some .int) [(0, 9, 12, 19)] ∈ GW := gw_of (i := 719) (by decide +kernel) (by decide +kernel)
theorem vm_1146 : Cond.methodLink RL 139 yX8_offset ∈ GW := gw_of (i := 1146) (by decide +kernel) (by decide +kernel)
theorem vm_1147 : Cond.instanceMethod yX8_offset ∈ GW := gw_of (i := 1147) (by decide +kernel) (by decide +kernel)
theorem vm_1148 : Cond.selects RX8 yX8_offset yX8_offset ∈ GW := gw_of (i := 1148) (by decide +kernel) (by decide +kernel)
theorem vm_1149 : Cond.code yX8_offset cX8_offset 2 (some .int) ∈ GW := gw_of (i := 1149) (by decide +kernel) (by decide +kernel)
theorem vm_724 : Cond.methodLink RL 140 yL_isGreen ∈ GW := gw_of (i := 724) (by decide +kernel) (by decide +kernel)
theorem vm_725 : Cond.static yL_isGreen ∈ GW := gw_of (i := 725) (by decide +kernel) (by decide +kernel)
theorem vm_726 : Cond.codeWith yL_isGreen cL_isGreen 6 (some .int) [(0, 19, 22, 19), (0, 19, 26, 13), (0, 19, 30, 21)] ∈ GW := gw_of (i := 726) (by decide +kernel) (by decide +kernel)
theorem vm_1150 : Cond.methodLink RL 142 yX8_isGreen ∈ GW := gw_of (i := 1150) (by decide +kernel) (by decide +kernel)
theorem vm_1151 : Cond.instanceMethod yX8_isGreen ∈ GW := gw_of (i := 1151) (by decide +kernel) (by decide +kernel)
theorem vm_1152 : Cond.selects RX8 yX8_isGreen yX8_isGreen ∈ GW := gw_of (i := 1152) (by decide +kernel) (by decide +kernel)
theorem vm_1153 : Cond.code yX8_isGreen cX8_isGreen 5 (some .boolean) ∈ GW := gw_of (i := 1153) (by decide +kernel) (by decide +kernel)
theorem vm_738 : Cond.methodLink RL 143 yL_breaches ∈ GW := gw_of (i := 738) (by decide +kernel) (by decide +kernel)
theorem vm_739 : Cond.static yL_breaches ∈ GW := gw_of (i := 739) (by decide +kernel) (by decide +kernel)
theorem vm_740 : Cond.codeWith yL_breaches cL_breaches 4 (some .int) [(0, 9, 12, 19), (0, 9, 15, 21)] ∈ GW := gw_of (i := 740) (by decide +kernel) (by decide +kernel)
theorem vm_1155 : Cond.methodLink RL 145 yX8_breaches ∈ GW := gw_of (i := 1155) (by decide +kernel) (by decide +kernel)
theorem vm_1156 : Cond.instanceMethod yX8_breaches ∈ GW := gw_of (i := 1156) (by decide +kernel) (by decide +kernel)
theorem vm_1157 : Cond.selects RX8 yX8_breaches yX8_breaches ∈ GW := gw_of (i := 1157) (by decide +kernel) (by decide +kernel)
theorem vm_1158 : Cond.code yX8_breaches cX8_breaches 4 (some .int) ∈ GW := gw_of (i := 1158) (by decide +kernel) (by decide +kernel)
theorem vm_758 : Cond.methodLink RL 146 yL_band ∈ GW := gw_of (i := 758) (by decide +kernel) (by decide +kernel)
theorem vm_759 : Cond.static yL_band ∈ GW := gw_of (i := 759) (by decide +kernel) (by decide +kernel)
theorem vm_760 : Cond.codeWith yL_band cL_band 4 (some .int) [(0, 9, 12, 21)] ∈ GW := gw_of (i := 760) (by decide +kernel) (by decide +kernel)
theorem vm_1163 : Cond.methodLink RL 149 yX8_band ∈ GW := gw_of (i := 1163) (by decide +kernel) (by decide +kernel)
theorem vm_1164 : Cond.instanceMethod yX8_band ∈ GW := gw_of (i := 1164) (by decide +kernel) (by decide +kernel)
theorem vm_1165 : Cond.selects RX8 yX8_band yX8_band ∈ GW := gw_of (i := 1165) (by decide +kernel) (by decide +kernel)
theorem vm_1166 : Cond.code yX8_band cX8_band 2 (some .int) ∈ GW := gw_of (i := 1166) (by decide +kernel) (by decide +kernel)
theorem vm_770 : Cond.methodLink RL 150 yL_bestByAll ∈ GW := gw_of (i := 770) (by decide +kernel) (by decide +kernel)
theorem vm_771 : Cond.static yL_bestByAll ∈ GW := gw_of (i := 771) (by decide +kernel) (by decide +kernel)
theorem vm_772 : Cond.codeWith yL_bestByAll cL_bestByAll 3 (some .int) [(0, 8, 11, 21)] ∈ GW := gw_of (i := 772) (by decide +kernel) (by decide +kernel)
theorem vm_1167 : Cond.methodLink RL 152 yX8_bestByAll ∈ GW := gw_of (i := 1167) (by decide +kernel) (by decide +kernel)
theorem vm_1168 : Cond.instanceMethod yX8_bestByAll ∈ GW := gw_of (i := 1168) (by decide +kernel) (by decide +kernel)
theorem vm_1169 : Cond.selects RX8 yX8_bestByAll yX8_bestByAll ∈ GW := gw_of (i := 1169) (by decide +kernel) (by decide +kernel)
theorem vm_1170 : Cond.code yX8_bestByAll cX8_bestByAll 6 (some .int) ∈ GW := gw_of (i := 1170) (by decide +kernel) (by decide +kernel)
theorem vm_787 : Cond.methodLink RL 153 yL_run ∈ GW := gw_of (i := 787) (by decide +kernel) (by decide +kernel)
theorem vm_788 : Cond.static yL_run ∈ GW := gw_of (i := 788) (by decide +kernel) (by decide +kernel)
theorem vm_789 : Cond.codeWith yL_run cL_run 4 (some .int) [(0, 9, 12, 13), (0, 9, 15, 21)] ∈ GW := gw_of (i := 789) (by decide +kernel) (by decide +kernel)
theorem vm_1171 : Cond.methodLink RL 155 yX8_run ∈ GW := gw_of (i := 1171) (by decide +kernel) (by decide +kernel)
theorem vm_1172 : Cond.instanceMethod yX8_run ∈ GW := gw_of (i := 1172) (by decide +kernel) (by decide +kernel)
theorem vm_1173 : Cond.selects RX8 yX8_run yX8_run ∈ GW := gw_of (i := 1173) (by decide +kernel) (by decide +kernel)
theorem vm_1174 : Cond.code yX8_run cX8_run 5 (some .int) ∈ GW := gw_of (i := 1174) (by decide +kernel) (by decide +kernel)
theorem vm_859 : Cond.methodLink RL 156 yL_callBus ∈ GW := gw_of (i := 859) (by decide +kernel) (by decide +kernel)
theorem vm_860 : Cond.static yL_callBus ∈ GW := gw_of (i := 860) (by decide +kernel) (by decide +kernel)
theorem vm_861 : Cond.codeWith yL_callBus cL_callBus 5 (some .int) [(0, 10, 13, 19), (0, 10, 17, 21)] ∈ GW := gw_of (i := 861) (by decide +kernel) (by decide +kernel)
theorem vm_1191 : Cond.methodLink RL 158 yX8_callBus ∈ GW := gw_of (i := 1191) (by decide +kernel) (by decide +kernel)
theorem vm_1192 : Cond.instanceMethod yX8_callBus ∈ GW := gw_of (i := 1192) (by decide +kernel) (by decide +kernel)
theorem vm_1193 : Cond.selects RX8 yX8_callBus yX8_callBus ∈ GW := gw_of (i := 1193) (by decide +kernel) (by decide +kernel)
theorem vm_1194 : Cond.code yX8_callBus cX8_callBus 5 (some .int) ∈ GW := gw_of (i := 1194) (by decide +kernel) (by decide +kernel)
theorem vm_436 : Cond.methodLink RL 159 yX7_clock ∈ GW := gw_of (i := 436) (by decide +kernel) (by decide +kernel)
theorem vm_437 : Cond.instanceMethod yX7_clock ∈ GW := gw_of (i := 437) (by decide +kernel) (by decide +kernel)
theorem vm_438 : Cond.selects RX7 yX7_clock yX7_clock ∈ GW := gw_of (i := 438) (by decide +kernel) (by decide +kernel)
theorem vm_439 : Cond.code yX7_clock cX7_clock 1 (some .int) ∈ GW := gw_of (i := 439) (by decide +kernel) (by decide +kernel)
theorem vm_1214 : Cond.methodLink RL 162 yX8_clock ∈ GW := gw_of (i := 1214) (by decide +kernel) (by decide +kernel)
theorem vm_1215 : Cond.instanceMethod yX8_clock ∈ GW := gw_of (i := 1215) (by decide +kernel) (by decide +kernel)
theorem vm_1216 : Cond.selects RX8 yX8_clock yX8_clock ∈ GW := gw_of (i := 1216) (by decide +kernel) (by decide +kernel)
theorem vm_1217 : Cond.code yX8_clock cX8_clock 1 (some .int) ∈ GW := gw_of (i := 1217) (by decide +kernel) (by decide +kernel)
theorem vm_886 : Cond.methodLink RL 163 yL_phaseNow ∈ GW := gw_of (i := 886) (by decide +kernel) (by decide +kernel)
theorem vm_887 : Cond.static yL_phaseNow ∈ GW := gw_of (i := 887) (by decide +kernel) (by decide +kernel)
theorem vm_888 : Cond.codeWith yL_phaseNow cL_phaseNow 4 (some .int) [(0, 9, 12, 19), (0, 9, 15, 21)] ∈ GW := gw_of (i := 888) (by decide +kernel) (by decide +kernel)
theorem vm_1218 : Cond.methodLink RL 165 yX8_phaseNow ∈ GW := gw_of (i := 1218) (by decide +kernel) (by decide +kernel)
theorem vm_1219 : Cond.instanceMethod yX8_phaseNow ∈ GW := gw_of (i := 1219) (by decide +kernel) (by decide +kernel)
theorem vm_1220 : Cond.selects RX8 yX8_phaseNow yX8_phaseNow ∈ GW := gw_of (i := 1220) (by decide +kernel) (by decide +kernel)
theorem vm_1221 : Cond.code yX8_phaseNow cX8_phaseNow 2 (some .int) ∈ GW := gw_of (i := 1221) (by decide +kernel) (by decide +kernel)
theorem vm_894 : Cond.methodLink RL 166 yL_queue ∈ GW := gw_of (i := 894) (by decide +kernel) (by decide +kernel)
theorem vm_895 : Cond.static yL_queue ∈ GW := gw_of (i := 895) (by decide +kernel) (by decide +kernel)
theorem vm_896 : Cond.codeWith yL_queue cL_queue 4 (some .int) [(0, 9, 12, 19)] ∈ GW := gw_of (i := 896) (by decide +kernel) (by decide +kernel)
theorem vm_1222 : Cond.methodLink RL 168 yX8_queue ∈ GW := gw_of (i := 1222) (by decide +kernel) (by decide +kernel)
theorem vm_1223 : Cond.instanceMethod yX8_queue ∈ GW := gw_of (i := 1223) (by decide +kernel) (by decide +kernel)
theorem vm_1224 : Cond.selects RX8 yX8_queue yX8_queue ∈ GW := gw_of (i := 1224) (by decide +kernel) (by decide +kernel)
theorem vm_1225 : Cond.code yX8_queue cX8_queue 2 (some .int) ∈ GW := gw_of (i := 1225) (by decide +kernel) (by decide +kernel)
theorem vm_901 : Cond.methodLink RL 169 yL_held ∈ GW := gw_of (i := 901) (by decide +kernel) (by decide +kernel)
theorem vm_902 : Cond.static yL_held ∈ GW := gw_of (i := 902) (by decide +kernel) (by decide +kernel)
theorem vm_903 : Cond.codeWith yL_held cL_held 4 (some .int) [(0, 9, 12, 19)] ∈ GW := gw_of (i := 903) (by decide +kernel) (by decide +kernel)
theorem vm_1226 : Cond.methodLink RL 171 yX8_held ∈ GW := gw_of (i := 1226) (by decide +kernel) (by decide +kernel)
theorem vm_1227 : Cond.instanceMethod yX8_held ∈ GW := gw_of (i := 1227) (by decide +kernel) (by decide +kernel)
theorem vm_1228 : Cond.selects RX8 yX8_held yX8_held ∈ GW := gw_of (i := 1228) (by decide +kernel) (by decide +kernel)
theorem vm_1229 : Cond.code yX8_held cX8_held 2 (some .int) ∈ GW := gw_of (i := 1229) (by decide +kernel) (by decide +kernel)
theorem vm_440 : Cond.methodLink RL 172 yX7_come ∈ GW := gw_of (i := 440) (by decide +kernel) (by decide +kernel)
theorem vm_441 : Cond.instanceMethod yX7_come ∈ GW := gw_of (i := 441) (by decide +kernel) (by decide +kernel)
theorem vm_442 : Cond.selects RX7 yX7_come yX7_come ∈ GW := gw_of (i := 442) (by decide +kernel) (by decide +kernel)
theorem vm_443 : Cond.code yX7_come cX7_come 1 (some .int) ∈ GW := gw_of (i := 443) (by decide +kernel) (by decide +kernel)
theorem vm_1230 : Cond.methodLink RL 175 yX8_come ∈ GW := gw_of (i := 1230) (by decide +kernel) (by decide +kernel)
theorem vm_1231 : Cond.instanceMethod yX8_come ∈ GW := gw_of (i := 1231) (by decide +kernel) (by decide +kernel)
theorem vm_1232 : Cond.selects RX8 yX8_come yX8_come ∈ GW := gw_of (i := 1232) (by decide +kernel) (by decide +kernel)
theorem vm_1233 : Cond.code yX8_come cX8_come 1 (some .int) ∈ GW := gw_of (i := 1233) (by decide +kernel) (by decide +kernel)
theorem vm_444 : Cond.methodLink RL 176 yX7_through ∈ GW := gw_of (i := 444) (by decide +kernel) (by decide +kernel)
theorem vm_445 : Cond.instanceMethod yX7_through ∈ GW := gw_of (i := 445) (by decide +kernel) (by decide +kernel)
theorem vm_446 : Cond.selects RX7 yX7_through yX7_through ∈ GW := gw_of (i := 446) (by decide +kernel) (by decide +kernel)
theorem vm_447 : Cond.code yX7_through cX7_through 1 (some .int) ∈ GW := gw_of (i := 447) (by decide +kernel) (by decide +kernel)
theorem vm_1234 : Cond.methodLink RL 179 yX8_through ∈ GW := gw_of (i := 1234) (by decide +kernel) (by decide +kernel)
theorem vm_1235 : Cond.instanceMethod yX8_through ∈ GW := gw_of (i := 1235) (by decide +kernel) (by decide +kernel)
theorem vm_1236 : Cond.selects RX8 yX8_through yX8_through ∈ GW := gw_of (i := 1236) (by decide +kernel) (by decide +kernel)
theorem vm_1237 : Cond.code yX8_through cX8_through 1 (some .int) ∈ GW := gw_of (i := 1237) (by decide +kernel) (by decide +kernel)
theorem lcw (a b c : Nat) (h : b ≤ c) : a + b ≤ a + c := Nat.add_le_add_left h a
theorem lc_begin {X : MX} {g : GC} {g' : GR} {cJ : ClassId} {qo b Ln : Nat} {xs : Nat → Int32} {cn sn : Nat} {i : Int32} {S SR : Mem} {o : Nat → Int64} {fu : Nat} {R : Mem → Mem → Prop} (h0 : LX RL code 7 room_1 X) (hK : KL g g' cJ qo b Ln xs X) (hi : idxOK i Ln) (hcn : cn + 5 ≤ room_1.cells) (hsn : sn + 30 ≤ room_1.slots) (hS : Sim_begin fu R) (hR : R S SR) (k9 : ∀ (S' SR' : Mem) (o' : Nat → Int64), R S' SR' → LV X (AL X) 7 (cn + 5) (sn + 30) (hL g g' cJ qo S' SR' o') (LB g g' qo b i) 1506 []) : LV X (AL X) 7 cn sn (hL g g' cJ qo S SR o) (LB g g' qo b i) 152 [] := by
  obtain ⟨hi0, hi1, hi2, hi3, hi4, hi5⟩ := hi
  obtain ⟨z, S2, SR2, k, e1, e2, e3, e4, e6⟩ := hS S SR (xs (i + 1).toNatClampNeg) (xs (i + 2).toNatClampNeg) hR
  refine l_aload_n (pc' := 153) h0 1 dw_152 rfl rfl rfl ?_
  refine l_aload_n (pc' := 154) h0 0 dw_153 rfl rfl rfl ?_
  refine l_iload (pc' := 156) h0 4 dw_154 rfl rfl ?_
  refine l_iconst (pc' := 157) h0 dw_156 ki_1 rfl ?_
  refine l_iadd (pc' := 158) h0 dw_157 rfl ?_
  refine s_ld (pc' := 159) h0 hK hi1 dw_158 rfl ?_
  refine l_aload_n (pc' := 160) h0 0 dw_159 rfl rfl rfl ?_
  refine l_iload (pc' := 162) h0 4 dw_160 rfl rfl ?_
  refine l_iconst (pc' := 163) h0 dw_162 ki_2 rfl ?_
  refine l_iadd (pc' := 164) h0 dw_163 rfl ?_
  refine s_ld (pc' := 165) h0 hK hi2 dw_164 rfl ?_
  refine l_callW (pc' := 168) (n := 3) h0 hK vm_448 vm_449 vm_59 vm_450 ⟨by decide +kernel, by decide +kernel, by decide +kernel⟩ [.ref (wA (wC g) 7 0), .int (xs (i + 1).toNatClampNeg), .int (xs (i + 2).toNatClampNeg)] [] (cw_begin g cJ qo fu (xs (i + 1).toNatClampNeg) (xs (i + 2).toNatClampNeg) S o e1 e2) rfl rfl dw_165 rfl (Nat.le_of_ble_eq_true rfl) ⟨rfl, rfl, Nat.le_of_ble_eq_true rfl, Nat.le_of_ble_eq_true rfl⟩ ⟨lcb hcn 1 (by decide), lcb hsn 6 (by decide)⟩ ?_
  refine l_istore (pc' := 170) (L' := [(5, .int k), (0, .ref b), (1, .ref (wA (wC g) 7 0)), (2, .ref (wA (wR g') 8 0)), (3, .ref qo), (4, .int i)]) h0 dw_168 (Nat.le_of_ble_eq_true rfl) rfl rfl ?_
  refine l_aload_n (pc' := 171) h0 3 dw_170 rfl rfl rfl ?_
  refine l_aload_n (pc' := 172) h0 1 dw_171 rfl rfl rfl ?_
  refine l_iload (pc' := 174) h0 5 dw_172 rfl rfl ?_
  refine l_iconst (pc' := 175) h0 dw_174 ki_1 rfl ?_
  refine l_iadd (pc' := 176) h0 dw_175 rfl ?_
  refine s_ld (pc' := 177) h0 hK hi1 dw_176 rfl ?_
  refine l_aload_n (pc' := 178) h0 1 dw_177 rfl rfl rfl ?_
  refine l_iload (pc' := 180) h0 5 dw_178 rfl rfl ?_
  refine l_iconst (pc' := 181) h0 dw_180 ki_2 rfl ?_
  refine l_iadd (pc' := 182) h0 dw_181 rfl ?_
  refine s_ld (pc' := 183) h0 hK hi2 dw_182 rfl ?_
  refine l_callM (pc' := 186) (n := 2) h0 hK vm_1006 vm_1007 vm_1008 vm_1009 vm_74 ⟨by decide +kernel, by decide +kernel, by decide +kernel⟩ [.int (xs (i + 1).toNatClampNeg), .int (xs (i + 2).toNatClampNeg)] [] (c_X8_begin g' fu (xs (i + 1).toNatClampNeg) (xs (i + 2).toNatClampNeg) SR e3) rfl rfl dw_183 rfl (Nat.le_of_ble_eq_true rfl) ⟨rfl, rfl, Nat.le_of_ble_eq_true rfl, Nat.le_of_ble_eq_true rfl⟩ ⟨lcb hcn 1 (by decide), lcb hsn 6 (by decide)⟩ ?_
  refine l_aload_n (pc' := 187) h0 3 dw_186 rfl rfl rfl ?_
  refine l_callM (pc' := 190) (n := 0) h0 hK vm_1002 vm_1003 vm_1004 vm_1005 vm_74 ⟨by decide +kernel, by decide +kernel, by decide +kernel⟩ [] [] (c_X8_thrown g' fu SR2 rfl) rfl rfl dw_187 rfl (Nat.le_of_ble_eq_true rfl) ⟨rfl, rfl, Nat.le_of_ble_eq_true rfl, Nat.le_of_ble_eq_true rfl⟩ ⟨lcb hcn 1 (by decide), lcb hsn 6 (by decide)⟩ ?_
  refine l_iload (pc' := 192) h0 0 dw_190 rfl rfl ?_
  refine l_ic_eq (pt := 197) h0 dw_192 rfl e4 ?_
  refine l_goto (pc' := 1506) h0 dw_197 rfl ?_
  exact l_widen (lcw cn 1 5 (by decide)) (lcw sn 6 30 (by decide)) (l_sub [1, 2, 3, 4, 5] rfl (k9 S2 SR2 _ e6))
theorem lc_setConflict {X : MX} {g : GC} {g' : GR} {cJ : ClassId} {qo b Ln : Nat} {xs : Nat → Int32} {cn sn : Nat} {i : Int32} {S SR : Mem} {o : Nat → Int64} {fu : Nat} {R : Mem → Mem → Prop} (h0 : LX RL code 7 room_1 X) (hK : KL g g' cJ qo b Ln xs X) (hi : idxOK i Ln) (hcn : cn + 5 ≤ room_1.cells) (hsn : sn + 30 ≤ room_1.slots) (hS : Sim_setConflict fu R) (hR : R S SR) (k9 : ∀ (S' SR' : Mem) (o' : Nat → Int64), R S' SR' → LV X (AL X) 7 (cn + 5) (sn + 30) (hL g g' cJ qo S' SR' o') (LB g g' qo b i) 1506 []) : LV X (AL X) 7 cn sn (hL g g' cJ qo S SR o) (LB g g' qo b i) 200 [] := by
  obtain ⟨hi0, hi1, hi2, hi3, hi4, hi5⟩ := hi
  obtain ⟨z, S2, y, SR2, k, e1, e2, e3, e4, e5, e6⟩ := hS S SR (xs (i + 1).toNatClampNeg) (xs (i + 2).toNatClampNeg) (xs (i + 3).toNatClampNeg) (xs (i + 4).toNatClampNeg) hR
  refine l_aload_n (pc' := 201) h0 1 dw_200 rfl rfl rfl ?_
  refine l_aload_n (pc' := 202) h0 0 dw_201 rfl rfl rfl ?_
  refine l_iload (pc' := 204) h0 4 dw_202 rfl rfl ?_
  refine l_iconst (pc' := 205) h0 dw_204 ki_1 rfl ?_
  refine l_iadd (pc' := 206) h0 dw_205 rfl ?_
  refine s_ld (pc' := 207) h0 hK hi1 dw_206 rfl ?_
  refine l_aload_n (pc' := 208) h0 0 dw_207 rfl rfl rfl ?_
  refine l_iload (pc' := 210) h0 4 dw_208 rfl rfl ?_
  refine l_iconst (pc' := 211) h0 dw_210 ki_2 rfl ?_
  refine l_iadd (pc' := 212) h0 dw_211 rfl ?_
  refine s_ld (pc' := 213) h0 hK hi2 dw_212 rfl ?_
  refine l_aload_n (pc' := 214) h0 0 dw_213 rfl rfl rfl ?_
  refine l_iload (pc' := 216) h0 4 dw_214 rfl rfl ?_
  refine l_iconst (pc' := 217) h0 dw_216 ki_3 rfl ?_
  refine l_iadd (pc' := 218) h0 dw_217 rfl ?_
  refine s_ld (pc' := 219) h0 hK hi3 dw_218 rfl ?_
  refine l_aload_n (pc' := 220) h0 0 dw_219 rfl rfl rfl ?_
  refine l_iload (pc' := 222) h0 4 dw_220 rfl rfl ?_
  refine l_iconst (pc' := 223) h0 dw_222 ki_4 rfl ?_
  refine l_iadd (pc' := 224) h0 dw_223 rfl ?_
  refine s_ld (pc' := 225) h0 hK hi4 dw_224 rfl ?_
  refine l_aload_n (pc' := 226) h0 3 dw_225 rfl rfl rfl ?_
  refine l_callW (pc' := 229) (n := 6) h0 hK vm_479 vm_480 vm_59 vm_481 ⟨by decide +kernel, by decide +kernel, by decide +kernel⟩ [.ref (wA (wC g) 7 0), .int (xs (i + 1).toNatClampNeg), .int (xs (i + 2).toNatClampNeg), .int (xs (i + 3).toNatClampNeg), .int (xs (i + 4).toNatClampNeg), .ref qo] [] (cw_setConflict g cJ qo fu (xs (i + 1).toNatClampNeg) (xs (i + 2).toNatClampNeg) (xs (i + 3).toNatClampNeg) (xs (i + 4).toNatClampNeg) S o e1 e2) rfl rfl dw_226 rfl (Nat.le_of_ble_eq_true rfl) ⟨rfl, rfl, Nat.le_of_ble_eq_true rfl, Nat.le_of_ble_eq_true rfl⟩ ⟨lcb hcn 5 (by decide), lcb hsn 30 (by decide)⟩ ?_
  refine l_istore (pc' := 231) (L' := [(5, .int k), (0, .ref b), (1, .ref (wA (wC g) 7 0)), (2, .ref (wA (wR g') 8 0)), (3, .ref qo), (4, .int i)]) h0 dw_229 (Nat.le_of_ble_eq_true rfl) rfl rfl ?_
  refine l_aload_n (pc' := 232) h0 3 dw_231 rfl rfl rfl ?_
  refine l_aload_n (pc' := 233) h0 1 dw_232 rfl rfl rfl ?_
  refine l_iload (pc' := 235) h0 5 dw_233 rfl rfl ?_
  refine l_iconst (pc' := 236) h0 dw_235 ki_1 rfl ?_
  refine l_iadd (pc' := 237) h0 dw_236 rfl ?_
  refine s_ld (pc' := 238) h0 hK hi1 dw_237 rfl ?_
  refine l_aload_n (pc' := 239) h0 1 dw_238 rfl rfl rfl ?_
  refine l_iload (pc' := 241) h0 5 dw_239 rfl rfl ?_
  refine l_iconst (pc' := 242) h0 dw_241 ki_2 rfl ?_
  refine l_iadd (pc' := 243) h0 dw_242 rfl ?_
  refine s_ld (pc' := 244) h0 hK hi2 dw_243 rfl ?_
  refine l_aload_n (pc' := 245) h0 1 dw_244 rfl rfl rfl ?_
  refine l_iload (pc' := 247) h0 5 dw_245 rfl rfl ?_
  refine l_iconst (pc' := 248) h0 dw_247 ki_3 rfl ?_
  refine l_iadd (pc' := 249) h0 dw_248 rfl ?_
  refine s_ld (pc' := 250) h0 hK hi3 dw_249 rfl ?_
  refine l_aload_n (pc' := 251) h0 1 dw_250 rfl rfl rfl ?_
  refine l_iload (pc' := 253) h0 5 dw_251 rfl rfl ?_
  refine l_iconst (pc' := 254) h0 dw_253 ki_4 rfl ?_
  refine l_iadd (pc' := 255) h0 dw_254 rfl ?_
  refine s_ld (pc' := 256) h0 hK hi4 dw_255 rfl ?_
  refine l_callM (pc' := 259) (n := 4) h0 hK vm_1017 vm_1018 vm_1019 vm_1020 vm_74 ⟨by decide +kernel, by decide +kernel, by decide +kernel⟩ [.int (xs (i + 1).toNatClampNeg), .int (xs (i + 2).toNatClampNeg), .int (xs (i + 3).toNatClampNeg), .int (xs (i + 4).toNatClampNeg)] [] (c_X8_setConflict g' fu (xs (i + 1).toNatClampNeg) (xs (i + 2).toNatClampNeg) (xs (i + 3).toNatClampNeg) (xs (i + 4).toNatClampNeg) SR e3) rfl rfl dw_256 rfl (Nat.le_of_ble_eq_true rfl) ⟨rfl, rfl, Nat.le_of_ble_eq_true rfl, Nat.le_of_ble_eq_true rfl⟩ ⟨lcb hcn 5 (by decide), lcb hsn 30 (by decide)⟩ ?_
  refine l_istore (pc' := 261) (L' := [(6, .int y), (5, .int k), (0, .ref b), (1, .ref (wA (wC g) 7 0)), (2, .ref (wA (wR g') 8 0)), (3, .ref qo), (4, .int i)]) h0 dw_259 (Nat.le_of_ble_eq_true rfl) rfl rfl ?_
  refine l_aload_n (pc' := 262) h0 4 dw_261 rfl rfl rfl ?_
  refine l_callM (pc' := 265) (n := 0) h0 hK vm_1002 vm_1003 vm_1004 vm_1005 vm_74 ⟨by decide +kernel, by decide +kernel, by decide +kernel⟩ [] [] (c_X8_thrown g' fu SR2 rfl) rfl rfl dw_262 rfl (Nat.le_of_ble_eq_true rfl) ⟨rfl, rfl, Nat.le_of_ble_eq_true rfl, Nat.le_of_ble_eq_true rfl⟩ ⟨lcb hcn 5 (by decide), lcb hsn 30 (by decide)⟩ ?_
  refine l_iload (pc' := 267) h0 1 dw_265 rfl rfl ?_
  refine l_ic_eq (pt := 272) h0 dw_267 rfl e4 ?_
  refine l_iload (pc' := 274) h0 1 dw_272 rfl rfl ?_
  refine l_if_ne (pt := 289) (pf := 277) h0 dw_274 rfl rfl (fun _ => ?_) (fun c => ?_)
  · exact l_goto (pc' := 1506) h0 dw_289 rfl (l_widen (lcw cn 5 5 (by decide)) (lcw sn 30 30 (by decide)) (l_sub [2, 3, 4, 5, 6] rfl (k9 S2 SR2 _ e6)))
  · subst c
    obtain ⟨v, rfl⟩ := hc3_zero e2
    obtain rfl := e5 v rfl
    refine l_aload_n (pc' := 278) h0 5 dw_277 rfl rfl rfl ?_
    refine l_iconst (pc' := 279) h0 dw_278 ki_0 rfl ?_
    refine s_out (pc' := 280) h0 hK dw_279 rfl ?_
    refine l_iload (pc' := 282) h0 0 dw_280 rfl rfl ?_
    refine l_i2l (pc' := 283) h0 dw_282 rfl ?_
    refine l_lcmp (pc' := 284) h0 dw_283 rfl ?_
    refine t_eqT (pc' := 289) h0 dw_284 rfl (by exact lg_self _) ?_
    exact l_goto (pc' := 1506) h0 dw_289 rfl (l_widen (lcw cn 5 5 (by decide)) (lcw sn 30 30 (by decide)) (l_sub [2, 3, 4, 5, 6] rfl (k9 S2 SR2 _ e6)))
theorem lc_setPhases {X : MX} {g : GC} {g' : GR} {cJ : ClassId} {qo b Ln : Nat} {xs : Nat → Int32} {cn sn : Nat} {i : Int32} {S SR : Mem} {o : Nat → Int64} {fu : Nat} {R : Mem → Mem → Prop} (h0 : LX RL code 7 room_1 X) (hK : KL g g' cJ qo b Ln xs X) (hi : idxOK i Ln) (hcn : cn + 5 ≤ room_1.cells) (hsn : sn + 30 ≤ room_1.slots) (hS : Sim_setPhases fu R) (hR : R S SR) (k9 : ∀ (S' SR' : Mem) (o' : Nat → Int64), R S' SR' → LV X (AL X) 7 (cn + 5) (sn + 30) (hL g g' cJ qo S' SR' o') (LB g g' qo b i) 1506 []) : LV X (AL X) 7 cn sn (hL g g' cJ qo S SR o) (LB g g' qo b i) 292 [] := by
  obtain ⟨hi0, hi1, hi2, hi3, hi4, hi5⟩ := hi
  obtain ⟨z, S2, y, SR2, k, e1, e2, e3, e4, e5, e6⟩ := hS S SR (xs (i + 1).toNatClampNeg) (xs (i + 2).toNatClampNeg) (xs (i + 3).toNatClampNeg) (xs (i + 4).toNatClampNeg) (xs (i + 5).toNatClampNeg) hR
  refine l_aload_n (pc' := 293) h0 1 dw_292 rfl rfl rfl ?_
  refine l_aload_n (pc' := 294) h0 0 dw_293 rfl rfl rfl ?_
  refine l_iload (pc' := 296) h0 4 dw_294 rfl rfl ?_
  refine l_iconst (pc' := 297) h0 dw_296 ki_1 rfl ?_
  refine l_iadd (pc' := 298) h0 dw_297 rfl ?_
  refine s_ld (pc' := 299) h0 hK hi1 dw_298 rfl ?_
  refine l_aload_n (pc' := 300) h0 0 dw_299 rfl rfl rfl ?_
  refine l_iload (pc' := 302) h0 4 dw_300 rfl rfl ?_
  refine l_iconst (pc' := 303) h0 dw_302 ki_2 rfl ?_
  refine l_iadd (pc' := 304) h0 dw_303 rfl ?_
  refine s_ld (pc' := 305) h0 hK hi2 dw_304 rfl ?_
  refine l_aload_n (pc' := 306) h0 0 dw_305 rfl rfl rfl ?_
  refine l_iload (pc' := 308) h0 4 dw_306 rfl rfl ?_
  refine l_iconst (pc' := 309) h0 dw_308 ki_3 rfl ?_
  refine l_iadd (pc' := 310) h0 dw_309 rfl ?_
  refine s_ld (pc' := 311) h0 hK hi3 dw_310 rfl ?_
  refine l_aload_n (pc' := 312) h0 0 dw_311 rfl rfl rfl ?_
  refine l_iload (pc' := 314) h0 4 dw_312 rfl rfl ?_
  refine l_iconst (pc' := 315) h0 dw_314 ki_4 rfl ?_
  refine l_iadd (pc' := 316) h0 dw_315 rfl ?_
  refine s_ld (pc' := 317) h0 hK hi4 dw_316 rfl ?_
  refine l_aload_n (pc' := 318) h0 0 dw_317 rfl rfl rfl ?_
  refine l_iload (pc' := 320) h0 4 dw_318 rfl rfl ?_
  refine l_iconst (pc' := 321) h0 dw_320 ki_5 rfl ?_
  refine l_iadd (pc' := 322) h0 dw_321 rfl ?_
  refine s_ld (pc' := 323) h0 hK hi5 dw_322 rfl ?_
  refine l_aload_n (pc' := 324) h0 3 dw_323 rfl rfl rfl ?_
  refine l_callW (pc' := 327) (n := 7) h0 hK vm_526 vm_527 vm_59 vm_528 ⟨by decide +kernel, by decide +kernel, by decide +kernel⟩ [.ref (wA (wC g) 7 0), .int (xs (i + 1).toNatClampNeg), .int (xs (i + 2).toNatClampNeg), .int (xs (i + 3).toNatClampNeg), .int (xs (i + 4).toNatClampNeg), .int (xs (i + 5).toNatClampNeg), .ref qo] [] (cw_setPhases g cJ qo fu (xs (i + 1).toNatClampNeg) (xs (i + 2).toNatClampNeg) (xs (i + 3).toNatClampNeg) (xs (i + 4).toNatClampNeg) (xs (i + 5).toNatClampNeg) S o e1 e2) rfl rfl dw_324 rfl (Nat.le_of_ble_eq_true rfl) ⟨rfl, rfl, Nat.le_of_ble_eq_true rfl, Nat.le_of_ble_eq_true rfl⟩ ⟨lcb hcn 3 (by decide), lcb hsn 18 (by decide)⟩ ?_
  refine l_istore (pc' := 329) (L' := [(5, .int k), (0, .ref b), (1, .ref (wA (wC g) 7 0)), (2, .ref (wA (wR g') 8 0)), (3, .ref qo), (4, .int i)]) h0 dw_327 (Nat.le_of_ble_eq_true rfl) rfl rfl ?_
  refine l_aload_n (pc' := 330) h0 3 dw_329 rfl rfl rfl ?_
  refine l_aload_n (pc' := 331) h0 1 dw_330 rfl rfl rfl ?_
  refine l_iload (pc' := 333) h0 5 dw_331 rfl rfl ?_
  refine l_iconst (pc' := 334) h0 dw_333 ki_1 rfl ?_
  refine l_iadd (pc' := 335) h0 dw_334 rfl ?_
  refine s_ld (pc' := 336) h0 hK hi1 dw_335 rfl ?_
  refine l_aload_n (pc' := 337) h0 1 dw_336 rfl rfl rfl ?_
  refine l_iload (pc' := 339) h0 5 dw_337 rfl rfl ?_
  refine l_iconst (pc' := 340) h0 dw_339 ki_2 rfl ?_
  refine l_iadd (pc' := 341) h0 dw_340 rfl ?_
  refine s_ld (pc' := 342) h0 hK hi2 dw_341 rfl ?_
  refine l_aload_n (pc' := 343) h0 1 dw_342 rfl rfl rfl ?_
  refine l_iload (pc' := 345) h0 5 dw_343 rfl rfl ?_
  refine l_iconst (pc' := 346) h0 dw_345 ki_3 rfl ?_
  refine l_iadd (pc' := 347) h0 dw_346 rfl ?_
  refine s_ld (pc' := 348) h0 hK hi3 dw_347 rfl ?_
  refine l_aload_n (pc' := 349) h0 1 dw_348 rfl rfl rfl ?_
  refine l_iload (pc' := 351) h0 5 dw_349 rfl rfl ?_
  refine l_iconst (pc' := 352) h0 dw_351 ki_4 rfl ?_
  refine l_iadd (pc' := 353) h0 dw_352 rfl ?_
  refine s_ld (pc' := 354) h0 hK hi4 dw_353 rfl ?_
  refine l_aload_n (pc' := 355) h0 1 dw_354 rfl rfl rfl ?_
  refine l_iload (pc' := 357) h0 5 dw_355 rfl rfl ?_
  refine l_iconst (pc' := 358) h0 dw_357 ki_5 rfl ?_
  refine l_iadd (pc' := 359) h0 dw_358 rfl ?_
  refine s_ld (pc' := 360) h0 hK hi5 dw_359 rfl ?_
  refine l_callM (pc' := 363) (n := 5) h0 hK vm_1038 vm_1039 vm_1040 vm_1041 vm_74 ⟨by decide +kernel, by decide +kernel, by decide +kernel⟩ [.int (xs (i + 1).toNatClampNeg), .int (xs (i + 2).toNatClampNeg), .int (xs (i + 3).toNatClampNeg), .int (xs (i + 4).toNatClampNeg), .int (xs (i + 5).toNatClampNeg)] [] (c_X8_setPhases g' fu (xs (i + 1).toNatClampNeg) (xs (i + 2).toNatClampNeg) (xs (i + 3).toNatClampNeg) (xs (i + 4).toNatClampNeg) (xs (i + 5).toNatClampNeg) SR e3) rfl rfl dw_360 rfl (Nat.le_of_ble_eq_true rfl) ⟨rfl, rfl, Nat.le_of_ble_eq_true rfl, Nat.le_of_ble_eq_true rfl⟩ ⟨lcb hcn 3 (by decide), lcb hsn 18 (by decide)⟩ ?_
  refine l_istore (pc' := 365) (L' := [(6, .int y), (5, .int k), (0, .ref b), (1, .ref (wA (wC g) 7 0)), (2, .ref (wA (wR g') 8 0)), (3, .ref qo), (4, .int i)]) h0 dw_363 (Nat.le_of_ble_eq_true rfl) rfl rfl ?_
  refine l_aload_n (pc' := 366) h0 4 dw_365 rfl rfl rfl ?_
  refine l_callM (pc' := 369) (n := 0) h0 hK vm_1002 vm_1003 vm_1004 vm_1005 vm_74 ⟨by decide +kernel, by decide +kernel, by decide +kernel⟩ [] [] (c_X8_thrown g' fu SR2 rfl) rfl rfl dw_366 rfl (Nat.le_of_ble_eq_true rfl) ⟨rfl, rfl, Nat.le_of_ble_eq_true rfl, Nat.le_of_ble_eq_true rfl⟩ ⟨lcb hcn 3 (by decide), lcb hsn 18 (by decide)⟩ ?_
  refine l_iload (pc' := 371) h0 1 dw_369 rfl rfl ?_
  refine l_ic_eq (pt := 376) h0 dw_371 rfl e4 ?_
  refine l_iload (pc' := 378) h0 1 dw_376 rfl rfl ?_
  refine l_if_ne (pt := 393) (pf := 381) h0 dw_378 rfl rfl (fun _ => ?_) (fun c => ?_)
  · exact l_goto (pc' := 1506) h0 dw_393 rfl (l_widen (lcw cn 3 5 (by decide)) (lcw sn 18 30 (by decide)) (l_sub [2, 3, 4, 5, 6] rfl (k9 S2 SR2 _ e6)))
  · subst c
    obtain ⟨v, rfl⟩ := hc3_zero e2
    obtain rfl := e5 v rfl
    refine l_aload_n (pc' := 382) h0 5 dw_381 rfl rfl rfl ?_
    refine l_iconst (pc' := 383) h0 dw_382 ki_0 rfl ?_
    refine s_out (pc' := 384) h0 hK dw_383 rfl ?_
    refine l_iload (pc' := 386) h0 0 dw_384 rfl rfl ?_
    refine l_i2l (pc' := 387) h0 dw_386 rfl ?_
    refine l_lcmp (pc' := 388) h0 dw_387 rfl ?_
    refine t_eqT (pc' := 393) h0 dw_388 rfl (by exact lg_self _) ?_
    exact l_goto (pc' := 1506) h0 dw_393 rfl (l_widen (lcw cn 3 5 (by decide)) (lcw sn 18 30 (by decide)) (l_sub [2, 3, 4, 5, 6] rfl (k9 S2 SR2 _ e6)))
theorem lc_setFlow {X : MX} {g : GC} {g' : GR} {cJ : ClassId} {qo b Ln : Nat} {xs : Nat → Int32} {cn sn : Nat} {i : Int32} {S SR : Mem} {o : Nat → Int64} {fu : Nat} {R : Mem → Mem → Prop} (h0 : LX RL code 7 room_1 X) (hK : KL g g' cJ qo b Ln xs X) (hi : idxOK i Ln) (hcn : cn + 5 ≤ room_1.cells) (hsn : sn + 30 ≤ room_1.slots) (hS : Sim_setFlow fu R) (hR : R S SR) (k9 : ∀ (S' SR' : Mem) (o' : Nat → Int64), R S' SR' → LV X (AL X) 7 (cn + 5) (sn + 30) (hL g g' cJ qo S' SR' o') (LB g g' qo b i) 1506 []) : LV X (AL X) 7 cn sn (hL g g' cJ qo S SR o) (LB g g' qo b i) 396 [] := by
  obtain ⟨hi0, hi1, hi2, hi3, hi4, hi5⟩ := hi
  obtain ⟨z, S2, y, SR2, k, e1, e2, e3, e4, e5, e6⟩ := hS S SR (xs (i + 1).toNatClampNeg) (xs (i + 2).toNatClampNeg) (xs (i + 3).toNatClampNeg) hR
  refine l_aload_n (pc' := 397) h0 1 dw_396 rfl rfl rfl ?_
  refine l_aload_n (pc' := 398) h0 0 dw_397 rfl rfl rfl ?_
  refine l_iload (pc' := 400) h0 4 dw_398 rfl rfl ?_
  refine l_iconst (pc' := 401) h0 dw_400 ki_1 rfl ?_
  refine l_iadd (pc' := 402) h0 dw_401 rfl ?_
  refine s_ld (pc' := 403) h0 hK hi1 dw_402 rfl ?_
  refine l_aload_n (pc' := 404) h0 0 dw_403 rfl rfl rfl ?_
  refine l_iload (pc' := 406) h0 4 dw_404 rfl rfl ?_
  refine l_iconst (pc' := 407) h0 dw_406 ki_2 rfl ?_
  refine l_iadd (pc' := 408) h0 dw_407 rfl ?_
  refine s_ld (pc' := 409) h0 hK hi2 dw_408 rfl ?_
  refine l_aload_n (pc' := 410) h0 0 dw_409 rfl rfl rfl ?_
  refine l_iload (pc' := 412) h0 4 dw_410 rfl rfl ?_
  refine l_iconst (pc' := 413) h0 dw_412 ki_3 rfl ?_
  refine l_iadd (pc' := 414) h0 dw_413 rfl ?_
  refine s_ld (pc' := 415) h0 hK hi3 dw_414 rfl ?_
  refine l_aload_n (pc' := 416) h0 3 dw_415 rfl rfl rfl ?_
  refine l_callW (pc' := 419) (n := 5) h0 hK vm_542 vm_543 vm_59 vm_544 ⟨by decide +kernel, by decide +kernel, by decide +kernel⟩ [.ref (wA (wC g) 7 0), .int (xs (i + 1).toNatClampNeg), .int (xs (i + 2).toNatClampNeg), .int (xs (i + 3).toNatClampNeg), .ref qo] [] (cw_setFlow g cJ qo fu (xs (i + 1).toNatClampNeg) (xs (i + 2).toNatClampNeg) (xs (i + 3).toNatClampNeg) S o e1 e2) rfl rfl dw_416 rfl (Nat.le_of_ble_eq_true rfl) ⟨rfl, rfl, Nat.le_of_ble_eq_true rfl, Nat.le_of_ble_eq_true rfl⟩ ⟨lcb hcn 3 (by decide), lcb hsn 18 (by decide)⟩ ?_
  refine l_istore (pc' := 421) (L' := [(5, .int k), (0, .ref b), (1, .ref (wA (wC g) 7 0)), (2, .ref (wA (wR g') 8 0)), (3, .ref qo), (4, .int i)]) h0 dw_419 (Nat.le_of_ble_eq_true rfl) rfl rfl ?_
  refine l_aload_n (pc' := 422) h0 3 dw_421 rfl rfl rfl ?_
  refine l_aload_n (pc' := 423) h0 1 dw_422 rfl rfl rfl ?_
  refine l_iload (pc' := 425) h0 5 dw_423 rfl rfl ?_
  refine l_iconst (pc' := 426) h0 dw_425 ki_1 rfl ?_
  refine l_iadd (pc' := 427) h0 dw_426 rfl ?_
  refine s_ld (pc' := 428) h0 hK hi1 dw_427 rfl ?_
  refine l_aload_n (pc' := 429) h0 1 dw_428 rfl rfl rfl ?_
  refine l_iload (pc' := 431) h0 5 dw_429 rfl rfl ?_
  refine l_iconst (pc' := 432) h0 dw_431 ki_2 rfl ?_
  refine l_iadd (pc' := 433) h0 dw_432 rfl ?_
  refine s_ld (pc' := 434) h0 hK hi2 dw_433 rfl ?_
  refine l_aload_n (pc' := 435) h0 1 dw_434 rfl rfl rfl ?_
  refine l_iload (pc' := 437) h0 5 dw_435 rfl rfl ?_
  refine l_iconst (pc' := 438) h0 dw_437 ki_3 rfl ?_
  refine l_iadd (pc' := 439) h0 dw_438 rfl ?_
  refine s_ld (pc' := 440) h0 hK hi3 dw_439 rfl ?_
  refine l_callM (pc' := 443) (n := 3) h0 hK vm_1050 vm_1051 vm_1052 vm_1053 vm_74 ⟨by decide +kernel, by decide +kernel, by decide +kernel⟩ [.int (xs (i + 1).toNatClampNeg), .int (xs (i + 2).toNatClampNeg), .int (xs (i + 3).toNatClampNeg)] [] (c_X8_setFlow g' fu (xs (i + 1).toNatClampNeg) (xs (i + 2).toNatClampNeg) (xs (i + 3).toNatClampNeg) SR e3) rfl rfl dw_440 rfl (Nat.le_of_ble_eq_true rfl) ⟨rfl, rfl, Nat.le_of_ble_eq_true rfl, Nat.le_of_ble_eq_true rfl⟩ ⟨lcb hcn 3 (by decide), lcb hsn 18 (by decide)⟩ ?_
  refine l_istore (pc' := 445) (L' := [(6, .int y), (5, .int k), (0, .ref b), (1, .ref (wA (wC g) 7 0)), (2, .ref (wA (wR g') 8 0)), (3, .ref qo), (4, .int i)]) h0 dw_443 (Nat.le_of_ble_eq_true rfl) rfl rfl ?_
  refine l_aload_n (pc' := 446) h0 4 dw_445 rfl rfl rfl ?_
  refine l_callM (pc' := 449) (n := 0) h0 hK vm_1002 vm_1003 vm_1004 vm_1005 vm_74 ⟨by decide +kernel, by decide +kernel, by decide +kernel⟩ [] [] (c_X8_thrown g' fu SR2 rfl) rfl rfl dw_446 rfl (Nat.le_of_ble_eq_true rfl) ⟨rfl, rfl, Nat.le_of_ble_eq_true rfl, Nat.le_of_ble_eq_true rfl⟩ ⟨lcb hcn 3 (by decide), lcb hsn 18 (by decide)⟩ ?_
  refine l_iload (pc' := 451) h0 1 dw_449 rfl rfl ?_
  refine l_ic_eq (pt := 456) h0 dw_451 rfl e4 ?_
  refine l_iload (pc' := 458) h0 1 dw_456 rfl rfl ?_
  refine l_if_ne (pt := 473) (pf := 461) h0 dw_458 rfl rfl (fun _ => ?_) (fun c => ?_)
  · exact l_goto (pc' := 1506) h0 dw_473 rfl (l_widen (lcw cn 3 5 (by decide)) (lcw sn 18 30 (by decide)) (l_sub [2, 3, 4, 5, 6] rfl (k9 S2 SR2 _ e6)))
  · subst c
    obtain ⟨v, rfl⟩ := hc3_zero e2
    obtain rfl := e5 v rfl
    refine l_aload_n (pc' := 462) h0 5 dw_461 rfl rfl rfl ?_
    refine l_iconst (pc' := 463) h0 dw_462 ki_0 rfl ?_
    refine s_out (pc' := 464) h0 hK dw_463 rfl ?_
    refine l_iload (pc' := 466) h0 0 dw_464 rfl rfl ?_
    refine l_i2l (pc' := 467) h0 dw_466 rfl ?_
    refine l_lcmp (pc' := 468) h0 dw_467 rfl ?_
    refine t_eqT (pc' := 473) h0 dw_468 rfl (by exact lg_self _) ?_
    exact l_goto (pc' := 1506) h0 dw_473 rfl (l_widen (lcw cn 3 5 (by decide)) (lcw sn 18 30 (by decide)) (l_sub [2, 3, 4, 5, 6] rfl (k9 S2 SR2 _ e6)))
theorem lc_setLink {X : MX} {g : GC} {g' : GR} {cJ : ClassId} {qo b Ln : Nat} {xs : Nat → Int32} {cn sn : Nat} {i : Int32} {S SR : Mem} {o : Nat → Int64} {fu : Nat} {R : Mem → Mem → Prop} (h0 : LX RL code 7 room_1 X) (hK : KL g g' cJ qo b Ln xs X) (hi : idxOK i Ln) (hcn : cn + 5 ≤ room_1.cells) (hsn : sn + 30 ≤ room_1.slots) (hS : Sim_setLink fu R) (hR : R S SR) (k9 : ∀ (S' SR' : Mem) (o' : Nat → Int64), R S' SR' → LV X (AL X) 7 (cn + 5) (sn + 30) (hL g g' cJ qo S' SR' o') (LB g g' qo b i) 1506 []) : LV X (AL X) 7 cn sn (hL g g' cJ qo S SR o) (LB g g' qo b i) 476 [] := by
  obtain ⟨hi0, hi1, hi2, hi3, hi4, hi5⟩ := hi
  obtain ⟨z, S2, SR2, k, e1, e2, e3, e4, e6⟩ := hS S SR (xs (i + 1).toNatClampNeg) (xs (i + 2).toNatClampNeg) (xs (i + 3).toNatClampNeg) hR
  refine l_aload_n (pc' := 477) h0 1 dw_476 rfl rfl rfl ?_
  refine l_aload_n (pc' := 478) h0 0 dw_477 rfl rfl rfl ?_
  refine l_iload (pc' := 480) h0 4 dw_478 rfl rfl ?_
  refine l_iconst (pc' := 481) h0 dw_480 ki_1 rfl ?_
  refine l_iadd (pc' := 482) h0 dw_481 rfl ?_
  refine s_ld (pc' := 483) h0 hK hi1 dw_482 rfl ?_
  refine l_aload_n (pc' := 484) h0 0 dw_483 rfl rfl rfl ?_
  refine l_iload (pc' := 486) h0 4 dw_484 rfl rfl ?_
  refine l_iconst (pc' := 487) h0 dw_486 ki_2 rfl ?_
  refine l_iadd (pc' := 488) h0 dw_487 rfl ?_
  refine s_ld (pc' := 489) h0 hK hi2 dw_488 rfl ?_
  refine l_aload_n (pc' := 490) h0 0 dw_489 rfl rfl rfl ?_
  refine l_iload (pc' := 492) h0 4 dw_490 rfl rfl ?_
  refine l_iconst (pc' := 493) h0 dw_492 ki_3 rfl ?_
  refine l_iadd (pc' := 494) h0 dw_493 rfl ?_
  refine s_ld (pc' := 495) h0 hK hi3 dw_494 rfl ?_
  refine l_callW (pc' := 498) (n := 4) h0 hK vm_558 vm_559 vm_59 vm_560 ⟨by decide +kernel, by decide +kernel, by decide +kernel⟩ [.ref (wA (wC g) 7 0), .int (xs (i + 1).toNatClampNeg), .int (xs (i + 2).toNatClampNeg), .int (xs (i + 3).toNatClampNeg)] [] (cw_setLink g cJ qo fu (xs (i + 1).toNatClampNeg) (xs (i + 2).toNatClampNeg) (xs (i + 3).toNatClampNeg) S o e1 e2) rfl rfl dw_495 rfl (Nat.le_of_ble_eq_true rfl) ⟨rfl, rfl, Nat.le_of_ble_eq_true rfl, Nat.le_of_ble_eq_true rfl⟩ ⟨lcb hcn 3 (by decide), lcb hsn 18 (by decide)⟩ ?_
  refine l_istore (pc' := 500) (L' := [(5, .int k), (0, .ref b), (1, .ref (wA (wC g) 7 0)), (2, .ref (wA (wR g') 8 0)), (3, .ref qo), (4, .int i)]) h0 dw_498 (Nat.le_of_ble_eq_true rfl) rfl rfl ?_
  refine l_aload_n (pc' := 501) h0 3 dw_500 rfl rfl rfl ?_
  refine l_aload_n (pc' := 502) h0 1 dw_501 rfl rfl rfl ?_
  refine l_iload (pc' := 504) h0 5 dw_502 rfl rfl ?_
  refine l_iconst (pc' := 505) h0 dw_504 ki_1 rfl ?_
  refine l_iadd (pc' := 506) h0 dw_505 rfl ?_
  refine s_ld (pc' := 507) h0 hK hi1 dw_506 rfl ?_
  refine l_aload_n (pc' := 508) h0 1 dw_507 rfl rfl rfl ?_
  refine l_iload (pc' := 510) h0 5 dw_508 rfl rfl ?_
  refine l_iconst (pc' := 511) h0 dw_510 ki_2 rfl ?_
  refine l_iadd (pc' := 512) h0 dw_511 rfl ?_
  refine s_ld (pc' := 513) h0 hK hi2 dw_512 rfl ?_
  refine l_aload_n (pc' := 514) h0 1 dw_513 rfl rfl rfl ?_
  refine l_iload (pc' := 516) h0 5 dw_514 rfl rfl ?_
  refine l_iconst (pc' := 517) h0 dw_516 ki_3 rfl ?_
  refine l_iadd (pc' := 518) h0 dw_517 rfl ?_
  refine s_ld (pc' := 519) h0 hK hi3 dw_518 rfl ?_
  refine l_callM (pc' := 522) (n := 3) h0 hK vm_1054 vm_1055 vm_1056 vm_1057 vm_74 ⟨by decide +kernel, by decide +kernel, by decide +kernel⟩ [.int (xs (i + 1).toNatClampNeg), .int (xs (i + 2).toNatClampNeg), .int (xs (i + 3).toNatClampNeg)] [] (c_X8_setLink g' fu (xs (i + 1).toNatClampNeg) (xs (i + 2).toNatClampNeg) (xs (i + 3).toNatClampNeg) SR e3) rfl rfl dw_519 rfl (Nat.le_of_ble_eq_true rfl) ⟨rfl, rfl, Nat.le_of_ble_eq_true rfl, Nat.le_of_ble_eq_true rfl⟩ ⟨lcb hcn 3 (by decide), lcb hsn 18 (by decide)⟩ ?_
  refine l_aload_n (pc' := 523) h0 3 dw_522 rfl rfl rfl ?_
  refine l_callM (pc' := 526) (n := 0) h0 hK vm_1002 vm_1003 vm_1004 vm_1005 vm_74 ⟨by decide +kernel, by decide +kernel, by decide +kernel⟩ [] [] (c_X8_thrown g' fu SR2 rfl) rfl rfl dw_523 rfl (Nat.le_of_ble_eq_true rfl) ⟨rfl, rfl, Nat.le_of_ble_eq_true rfl, Nat.le_of_ble_eq_true rfl⟩ ⟨lcb hcn 3 (by decide), lcb hsn 18 (by decide)⟩ ?_
  refine l_iload (pc' := 528) h0 0 dw_526 rfl rfl ?_
  refine l_ic_eq (pt := 533) h0 dw_528 rfl e4 ?_
  refine l_goto (pc' := 1506) h0 dw_533 rfl ?_
  exact l_widen (lcw cn 3 5 (by decide)) (lcw sn 18 30 (by decide)) (l_sub [1, 2, 3, 4, 5] rfl (k9 S2 SR2 _ e6))
theorem lc_setOffset {X : MX} {g : GC} {g' : GR} {cJ : ClassId} {qo b Ln : Nat} {xs : Nat → Int32} {cn sn : Nat} {i : Int32} {S SR : Mem} {o : Nat → Int64} {fu : Nat} {R : Mem → Mem → Prop} (h0 : LX RL code 7 room_1 X) (hK : KL g g' cJ qo b Ln xs X) (hi : idxOK i Ln) (hcn : cn + 5 ≤ room_1.cells) (hsn : sn + 30 ≤ room_1.slots) (hS : Sim_setOffset fu R) (hR : R S SR) (k9 : ∀ (S' SR' : Mem) (o' : Nat → Int64), R S' SR' → LV X (AL X) 7 (cn + 5) (sn + 30) (hL g g' cJ qo S' SR' o') (LB g g' qo b i) 1506 []) : LV X (AL X) 7 cn sn (hL g g' cJ qo S SR o) (LB g g' qo b i) 536 [] := by
  obtain ⟨hi0, hi1, hi2, hi3, hi4, hi5⟩ := hi
  obtain ⟨z, S2, y, SR2, k, e1, e2, e3, e4, e5, e6⟩ := hS S SR (xs (i + 1).toNatClampNeg) (xs (i + 2).toNatClampNeg) hR
  refine l_aload_n (pc' := 537) h0 1 dw_536 rfl rfl rfl ?_
  refine l_aload_n (pc' := 538) h0 0 dw_537 rfl rfl rfl ?_
  refine l_iload (pc' := 540) h0 4 dw_538 rfl rfl ?_
  refine l_iconst (pc' := 541) h0 dw_540 ki_1 rfl ?_
  refine l_iadd (pc' := 542) h0 dw_541 rfl ?_
  refine s_ld (pc' := 543) h0 hK hi1 dw_542 rfl ?_
  refine l_aload_n (pc' := 544) h0 0 dw_543 rfl rfl rfl ?_
  refine l_iload (pc' := 546) h0 4 dw_544 rfl rfl ?_
  refine l_iconst (pc' := 547) h0 dw_546 ki_2 rfl ?_
  refine l_iadd (pc' := 548) h0 dw_547 rfl ?_
  refine s_ld (pc' := 549) h0 hK hi2 dw_548 rfl ?_
  refine l_aload_n (pc' := 550) h0 3 dw_549 rfl rfl rfl ?_
  refine l_callW (pc' := 553) (n := 4) h0 hK vm_575 vm_576 vm_59 vm_577 ⟨by decide +kernel, by decide +kernel, by decide +kernel⟩ [.ref (wA (wC g) 7 0), .int (xs (i + 1).toNatClampNeg), .int (xs (i + 2).toNatClampNeg), .ref qo] [] (cw_setOffset g cJ qo fu (xs (i + 1).toNatClampNeg) (xs (i + 2).toNatClampNeg) S o e1 e2) rfl rfl dw_550 rfl (Nat.le_of_ble_eq_true rfl) ⟨rfl, rfl, Nat.le_of_ble_eq_true rfl, Nat.le_of_ble_eq_true rfl⟩ ⟨lcb hcn 2 (by decide), lcb hsn 12 (by decide)⟩ ?_
  refine l_istore (pc' := 555) (L' := [(5, .int k), (0, .ref b), (1, .ref (wA (wC g) 7 0)), (2, .ref (wA (wR g') 8 0)), (3, .ref qo), (4, .int i)]) h0 dw_553 (Nat.le_of_ble_eq_true rfl) rfl rfl ?_
  refine l_aload_n (pc' := 556) h0 3 dw_555 rfl rfl rfl ?_
  refine l_aload_n (pc' := 557) h0 1 dw_556 rfl rfl rfl ?_
  refine l_iload (pc' := 559) h0 5 dw_557 rfl rfl ?_
  refine l_iconst (pc' := 560) h0 dw_559 ki_1 rfl ?_
  refine l_iadd (pc' := 561) h0 dw_560 rfl ?_
  refine s_ld (pc' := 562) h0 hK hi1 dw_561 rfl ?_
  refine l_aload_n (pc' := 563) h0 1 dw_562 rfl rfl rfl ?_
  refine l_iload (pc' := 565) h0 5 dw_563 rfl rfl ?_
  refine l_iconst (pc' := 566) h0 dw_565 ki_2 rfl ?_
  refine l_iadd (pc' := 567) h0 dw_566 rfl ?_
  refine s_ld (pc' := 568) h0 hK hi2 dw_567 rfl ?_
  refine l_callM (pc' := 571) (n := 2) h0 hK vm_1062 vm_1063 vm_1064 vm_1065 vm_74 ⟨by decide +kernel, by decide +kernel, by decide +kernel⟩ [.int (xs (i + 1).toNatClampNeg), .int (xs (i + 2).toNatClampNeg)] [] (c_X8_setOffset g' fu (xs (i + 1).toNatClampNeg) (xs (i + 2).toNatClampNeg) SR e3) rfl rfl dw_568 rfl (Nat.le_of_ble_eq_true rfl) ⟨rfl, rfl, Nat.le_of_ble_eq_true rfl, Nat.le_of_ble_eq_true rfl⟩ ⟨lcb hcn 2 (by decide), lcb hsn 12 (by decide)⟩ ?_
  refine l_istore (pc' := 573) (L' := [(6, .int y), (5, .int k), (0, .ref b), (1, .ref (wA (wC g) 7 0)), (2, .ref (wA (wR g') 8 0)), (3, .ref qo), (4, .int i)]) h0 dw_571 (Nat.le_of_ble_eq_true rfl) rfl rfl ?_
  refine l_aload_n (pc' := 574) h0 4 dw_573 rfl rfl rfl ?_
  refine l_callM (pc' := 577) (n := 0) h0 hK vm_1002 vm_1003 vm_1004 vm_1005 vm_74 ⟨by decide +kernel, by decide +kernel, by decide +kernel⟩ [] [] (c_X8_thrown g' fu SR2 rfl) rfl rfl dw_574 rfl (Nat.le_of_ble_eq_true rfl) ⟨rfl, rfl, Nat.le_of_ble_eq_true rfl, Nat.le_of_ble_eq_true rfl⟩ ⟨lcb hcn 2 (by decide), lcb hsn 12 (by decide)⟩ ?_
  refine l_iload (pc' := 579) h0 1 dw_577 rfl rfl ?_
  refine l_ic_eq (pt := 584) h0 dw_579 rfl e4 ?_
  refine l_iload (pc' := 586) h0 1 dw_584 rfl rfl ?_
  refine l_if_ne (pt := 601) (pf := 589) h0 dw_586 rfl rfl (fun _ => ?_) (fun c => ?_)
  · exact l_goto (pc' := 1506) h0 dw_601 rfl (l_widen (lcw cn 2 5 (by decide)) (lcw sn 12 30 (by decide)) (l_sub [2, 3, 4, 5, 6] rfl (k9 S2 SR2 _ e6)))
  · subst c
    obtain ⟨v, rfl⟩ := hc3_zero e2
    obtain rfl := e5 v rfl
    refine l_aload_n (pc' := 590) h0 5 dw_589 rfl rfl rfl ?_
    refine l_iconst (pc' := 591) h0 dw_590 ki_0 rfl ?_
    refine s_out (pc' := 592) h0 hK dw_591 rfl ?_
    refine l_iload (pc' := 594) h0 0 dw_592 rfl rfl ?_
    refine l_i2l (pc' := 595) h0 dw_594 rfl ?_
    refine l_lcmp (pc' := 596) h0 dw_595 rfl ?_
    refine t_eqT (pc' := 601) h0 dw_596 rfl (by exact lg_self _) ?_
    exact l_goto (pc' := 1506) h0 dw_601 rfl (l_widen (lcw cn 2 5 (by decide)) (lcw sn 12 30 (by decide)) (l_sub [2, 3, 4, 5, 6] rfl (k9 S2 SR2 _ e6)))
theorem lc_improve {X : MX} {g : GC} {g' : GR} {cJ : ClassId} {qo b Ln : Nat} {xs : Nat → Int32} {cn sn : Nat} {i : Int32} {S SR : Mem} {o : Nat → Int64} {fu : Nat} {R : Mem → Mem → Prop} (h0 : LX RL code 7 room_1 X) (hK : KL g g' cJ qo b Ln xs X) (hi : idxOK i Ln) (hcn : cn + 5 ≤ room_1.cells) (hsn : sn + 30 ≤ room_1.slots) (hS : Sim_improve fu R) (hR : R S SR) (k9 : ∀ (S' SR' : Mem) (o' : Nat → Int64), R S' SR' → LV X (AL X) 7 (cn + 5) (sn + 30) (hL g g' cJ qo S' SR' o') (LB g g' qo b i) 1506 []) : LV X (AL X) 7 cn sn (hL g g' cJ qo S SR o) (LB g g' qo b i) 604 [] := by
  obtain ⟨hi0, hi1, hi2, hi3, hi4, hi5⟩ := hi
  obtain ⟨z, S2, y, SR2, k, e1, e2, e3, e4, e5, e6⟩ := hS S SR  hR
  refine l_aload_n (pc' := 605) h0 1 dw_604 rfl rfl rfl ?_
  refine l_aload_n (pc' := 606) h0 3 dw_605 rfl rfl rfl ?_
  refine l_callW (pc' := 609) (n := 2) h0 hK vm_583 vm_584 vm_59 vm_585 ⟨by decide +kernel, by decide +kernel, by decide +kernel⟩ [.ref (wA (wC g) 7 0), .ref qo] [] (cw_improve g cJ qo fu  S o e1 e2) rfl rfl dw_606 rfl (Nat.le_of_ble_eq_true rfl) ⟨rfl, rfl, Nat.le_of_ble_eq_true rfl, Nat.le_of_ble_eq_true rfl⟩ ⟨lcb hcn 2 (by decide), lcb hsn 12 (by decide)⟩ ?_
  refine l_istore (pc' := 611) (L' := [(5, .int k), (0, .ref b), (1, .ref (wA (wC g) 7 0)), (2, .ref (wA (wR g') 8 0)), (3, .ref qo), (4, .int i)]) h0 dw_609 (Nat.le_of_ble_eq_true rfl) rfl rfl ?_
  refine l_aload_n (pc' := 612) h0 3 dw_611 rfl rfl rfl ?_
  refine l_callM (pc' := 615) (n := 0) h0 hK vm_1066 vm_1067 vm_1068 vm_1069 vm_74 ⟨by decide +kernel, by decide +kernel, by decide +kernel⟩ [] [] (c_X8_improve g' fu  SR e3) rfl rfl dw_612 rfl (Nat.le_of_ble_eq_true rfl) ⟨rfl, rfl, Nat.le_of_ble_eq_true rfl, Nat.le_of_ble_eq_true rfl⟩ ⟨lcb hcn 2 (by decide), lcb hsn 12 (by decide)⟩ ?_
  refine l_istore (pc' := 617) (L' := [(6, .int y), (5, .int k), (0, .ref b), (1, .ref (wA (wC g) 7 0)), (2, .ref (wA (wR g') 8 0)), (3, .ref qo), (4, .int i)]) h0 dw_615 (Nat.le_of_ble_eq_true rfl) rfl rfl ?_
  refine l_aload_n (pc' := 618) h0 4 dw_617 rfl rfl rfl ?_
  refine l_callM (pc' := 621) (n := 0) h0 hK vm_1002 vm_1003 vm_1004 vm_1005 vm_74 ⟨by decide +kernel, by decide +kernel, by decide +kernel⟩ [] [] (c_X8_thrown g' fu SR2 rfl) rfl rfl dw_618 rfl (Nat.le_of_ble_eq_true rfl) ⟨rfl, rfl, Nat.le_of_ble_eq_true rfl, Nat.le_of_ble_eq_true rfl⟩ ⟨lcb hcn 2 (by decide), lcb hsn 12 (by decide)⟩ ?_
  refine l_iload (pc' := 623) h0 1 dw_621 rfl rfl ?_
  refine l_ic_eq (pt := 628) h0 dw_623 rfl e4 ?_
  refine l_iload (pc' := 630) h0 1 dw_628 rfl rfl ?_
  refine l_if_ne (pt := 645) (pf := 633) h0 dw_630 rfl rfl (fun _ => ?_) (fun c => ?_)
  · exact l_goto (pc' := 1506) h0 dw_645 rfl (l_widen (lcw cn 2 5 (by decide)) (lcw sn 12 30 (by decide)) (l_sub [2, 3, 4, 5, 6] rfl (k9 S2 SR2 _ e6)))
  · subst c
    obtain ⟨v, rfl⟩ := hc1_zero e2
    obtain rfl := e5 v rfl
    refine l_aload_n (pc' := 634) h0 5 dw_633 rfl rfl rfl ?_
    refine l_iconst (pc' := 635) h0 dw_634 ki_0 rfl ?_
    refine s_out (pc' := 636) h0 hK dw_635 rfl ?_
    refine l_iload (pc' := 638) h0 0 dw_636 rfl rfl ?_
    refine l_i2l (pc' := 639) h0 dw_638 rfl ?_
    refine l_lcmp (pc' := 640) h0 dw_639 rfl ?_
    refine t_eqT (pc' := 645) h0 dw_640 rfl (by exact lg_self _) ?_
    exact l_goto (pc' := 1506) h0 dw_645 rfl (l_widen (lcw cn 2 5 (by decide)) (lcw sn 12 30 (by decide)) (l_sub [2, 3, 4, 5, 6] rfl (k9 S2 SR2 _ e6)))
theorem lc_junctions {X : MX} {g : GC} {g' : GR} {cJ : ClassId} {qo b Ln : Nat} {xs : Nat → Int32} {cn sn : Nat} {i : Int32} {S SR : Mem} {o : Nat → Int64} {fu : Nat} {R : Mem → Mem → Prop} (h0 : LX RL code 7 room_1 X) (hK : KL g g' cJ qo b Ln xs X) (hi : idxOK i Ln) (hcn : cn + 5 ≤ room_1.cells) (hsn : sn + 30 ≤ room_1.slots) (hS : Sim_junctions fu R) (hR : R S SR) (k9 : ∀ (S' SR' : Mem) (o' : Nat → Int64), R S' SR' → LV X (AL X) 7 (cn + 5) (sn + 30) (hL g g' cJ qo S' SR' o') (LB g g' qo b i) 1506 []) : LV X (AL X) 7 cn sn (hL g g' cJ qo S SR o) (LB g g' qo b i) 648 [] := by
  obtain ⟨hi0, hi1, hi2, hi3, hi4, hi5⟩ := hi
  obtain ⟨v, SR2, e1, e2, e6⟩ := hS S SR hR
  refine l_aload_n (pc' := 649) h0 1 dw_648 rfl rfl rfl ?_
  refine l_callG (pc' := 652) (n := 0) h0 hK vm_432 vm_433 vm_434 vm_435 vm_60 ⟨by decide +kernel, by decide +kernel, by decide +kernel⟩ [] [] (c_X7_junctions g fu S e1) rfl rfl dw_649 rfl (Nat.le_of_ble_eq_true rfl) ⟨rfl, rfl, Nat.le_of_ble_eq_true rfl, Nat.le_of_ble_eq_true rfl⟩ ⟨lcb hcn 0 (by decide), lcb hsn 0 (by decide)⟩ ?_
  refine l_aload_n (pc' := 653) h0 2 dw_652 rfl rfl rfl ?_
  refine l_callM (pc' := 656) (n := 0) h0 hK vm_1122 vm_1123 vm_1124 vm_1125 vm_74 ⟨by decide +kernel, by decide +kernel, by decide +kernel⟩ [] [.int v] (c_X8_junctions g' fu  SR e2) rfl rfl dw_653 rfl (Nat.le_of_ble_eq_true rfl) ⟨rfl, rfl, Nat.le_of_ble_eq_true rfl, Nat.le_of_ble_eq_true rfl⟩ ⟨lcb hcn 0 (by decide), lcb hsn 0 (by decide)⟩ ?_
  refine l_ic_eq (pt := 1506) h0 dw_656 rfl rfl ?_
  exact l_widen (lcw cn 0 5 (by decide)) (lcw sn 0 30 (by decide)) (l_sub [0, 1, 2, 3, 4] rfl (k9 S SR2 _ e6))
