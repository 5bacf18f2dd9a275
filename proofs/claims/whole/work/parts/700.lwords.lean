
section
set_option maxRecDepth 100000 in
theorem wd499 : Cond.methodLink RL 13 yX11_land ∈ lw_g := in_g (t2_in (List.mem_of_getElem? (i := 132) rfl)) rfl
set_option maxRecDepth 100000 in
theorem wd507 : Cond.methodLink RL 18 yX11_road ∈ lw_g := in_g (t2_in (List.mem_of_getElem? (i := 140) rfl)) rfl
set_option maxRecDepth 100000 in
theorem wd523 : Cond.methodLink RL 23 yX11_person ∈ lw_g := in_g (t2_in (List.mem_of_getElem? (i := 156) rfl)) rfl
set_option maxRecDepth 100000 in
theorem wd548 : Cond.methodLink RL 28 yX11_feed ∈ lw_g := in_g (t2_in (List.mem_of_getElem? (i := 181) rfl)) rfl
set_option maxRecDepth 100000 in
theorem wd549 : Cond.instanceMethod yX11_feed ∈ lw_g := in_g (t2_in (List.mem_of_getElem? (i := 182) rfl)) rfl
set_option maxRecDepth 100000 in
theorem wd550 : Cond.selects RX11 yX11_feed yX11_feed ∈ lw_g := in_g (t2_in (List.mem_of_getElem? (i := 183) rfl)) rfl
set_option maxRecDepth 100000 in
theorem wd551 : Cond.code yX11_feed cX11_feed 6 (some .int) ∈ lw_g := in_g (t2_in (List.mem_of_getElem? (i := 184) rfl)) rfl
set_option maxRecDepth 100000 in
theorem wd560 : Cond.methodLink RL 33 yX11_end ∈ lw_g := in_g (t2_in (List.mem_of_getElem? (i := 193) rfl)) rfl
set_option maxRecDepth 100000 in
theorem wd561 : Cond.instanceMethod yX11_end ∈ lw_g := in_g (t2_in (List.mem_of_getElem? (i := 194) rfl)) rfl
set_option maxRecDepth 100000 in
theorem wd562 : Cond.selects RX11 yX11_end yX11_end ∈ lw_g := in_g (t2_in (List.mem_of_getElem? (i := 195) rfl)) rfl
set_option maxRecDepth 100000 in
theorem wd563 : Cond.code yX11_end cX11_end 2 (some .int) ∈ lw_g := in_g (t2_in (List.mem_of_getElem? (i := 196) rfl)) rfl
set_option maxRecDepth 100000 in
theorem wd564 : Cond.methodLink RL 37 yX11_text ∈ lw_g := in_g (t2_in (List.mem_of_getElem? (i := 197) rfl)) rfl
set_option maxRecDepth 100000 in
theorem wd565 : Cond.instanceMethod yX11_text ∈ lw_g := in_g (t2_in (List.mem_of_getElem? (i := 198) rfl)) rfl
set_option maxRecDepth 100000 in
theorem wd566 : Cond.selects RX11 yX11_text yX11_text ∈ lw_g := in_g (t2_in (List.mem_of_getElem? (i := 199) rfl)) rfl
set_option maxRecDepth 100000 in
theorem wd567 : Cond.code yX11_text cX11_text 3 (some .int) ∈ lw_g := in_g (t2_in (List.mem_of_getElem? (i := 200) rfl)) rfl
set_option maxRecDepth 100000 in
theorem wd773 : Cond.methodLink RL 42 yX11_fault ∈ lw_g := in_g (t3_in (List.mem_of_getElem? (i := 166) rfl)) rfl
set_option maxRecDepth 100000 in
theorem wd774 : Cond.instanceMethod yX11_fault ∈ lw_g := in_g (t3_in (List.mem_of_getElem? (i := 167) rfl)) rfl
set_option maxRecDepth 100000 in
theorem wd775 : Cond.selects RX11 yX11_fault yX11_fault ∈ lw_g := in_g (t3_in (List.mem_of_getElem? (i := 168) rfl)) rfl
set_option maxRecDepth 100000 in
theorem wd776 : Cond.code yX11_fault cX11_fault 2 (some .int) ∈ lw_g := in_g (t3_in (List.mem_of_getElem? (i := 169) rfl)) rfl
set_option maxRecDepth 100000 in
theorem wd777 : Cond.methodLink RL 46 yX11_by ∈ lw_g := in_g (t3_in (List.mem_of_getElem? (i := 170) rfl)) rfl
set_option maxRecDepth 100000 in
theorem wd778 : Cond.instanceMethod yX11_by ∈ lw_g := in_g (t3_in (List.mem_of_getElem? (i := 171) rfl)) rfl
set_option maxRecDepth 100000 in
theorem wd779 : Cond.selects RX11 yX11_by yX11_by ∈ lw_g := in_g (t3_in (List.mem_of_getElem? (i := 172) rfl)) rfl
set_option maxRecDepth 100000 in
theorem wd780 : Cond.code yX11_by cX11_by 2 (some .boolean) ∈ lw_g := in_g (t3_in (List.mem_of_getElem? (i := 173) rfl)) rfl
set_option maxRecDepth 100000 in
theorem wd785 : Cond.methodLink RL 51 yX11_call ∈ lw_g := in_g (t3_in (List.mem_of_getElem? (i := 178) rfl)) rfl
set_option maxRecDepth 100000 in
theorem wd832 : Cond.methodLink RL 56 yX11_move ∈ lw_g := in_g (t3_in (List.mem_of_getElem? (i := 225) rfl)) rfl
set_option maxRecDepth 100000 in
theorem wd841 : Cond.methodLink RL 60 yX11_feeds ∈ lw_g := in_g (t3_in (List.mem_of_getElem? (i := 234) rfl)) rfl
set_option maxRecDepth 100000 in
theorem wd932 : Cond.methodLink RL 64 yX11_kill ∈ lw_g := in_g (t4_in (List.mem_of_getElem? (i := 85) rfl)) rfl
set_option maxRecDepth 100000 in
theorem wd944 : Cond.methodLink RL 68 yX11_pardon ∈ lw_g := in_g (t4_in (List.mem_of_getElem? (i := 97) rfl)) rfl
set_option maxRecDepth 100000 in
theorem wd956 : Cond.methodLink RL 72 yX11_month ∈ lw_g := in_g (t4_in (List.mem_of_getElem? (i := 109) rfl)) rfl
set_option maxRecDepth 100000 in
theorem wd957 : Cond.instanceMethod yX11_month ∈ lw_g := in_g (t4_in (List.mem_of_getElem? (i := 110) rfl)) rfl
set_option maxRecDepth 100000 in
theorem wd958 : Cond.selects RX11 yX11_month yX11_month ∈ lw_g := in_g (t4_in (List.mem_of_getElem? (i := 111) rfl)) rfl
set_option maxRecDepth 100000 in
theorem wd959 : Cond.code yX11_month cX11_month 4 (some .int) ∈ lw_g := in_g (t4_in (List.mem_of_getElem? (i := 112) rfl)) rfl
set_option maxRecDepth 100000 in
theorem wd980 : Cond.methodLink RL 76 yX11_played ∈ lw_g := in_g (t4_in (List.mem_of_getElem? (i := 133) rfl)) rfl
set_option maxRecDepth 100000 in
theorem wd981 : Cond.instanceMethod yX11_played ∈ lw_g := in_g (t4_in (List.mem_of_getElem? (i := 134) rfl)) rfl
set_option maxRecDepth 100000 in
theorem wd982 : Cond.selects RX11 yX11_played yX11_played ∈ lw_g := in_g (t4_in (List.mem_of_getElem? (i := 135) rfl)) rfl
set_option maxRecDepth 100000 in
theorem wd983 : Cond.code yX11_played cX11_played 4 (some .int) ∈ lw_g := in_g (t4_in (List.mem_of_getElem? (i := 136) rfl)) rfl
set_option maxRecDepth 100000 in
theorem wd1004 : Cond.methodLink RL 80 yX11_reigns ∈ lw_g := in_g (t4_in (List.mem_of_getElem? (i := 157) rfl)) rfl
set_option maxRecDepth 100000 in
theorem wd1005 : Cond.instanceMethod yX11_reigns ∈ lw_g := in_g (t4_in (List.mem_of_getElem? (i := 158) rfl)) rfl
set_option maxRecDepth 100000 in
theorem wd1006 : Cond.selects RX11 yX11_reigns yX11_reigns ∈ lw_g := in_g (t4_in (List.mem_of_getElem? (i := 159) rfl)) rfl
set_option maxRecDepth 100000 in
theorem wd1007 : Cond.code yX11_reigns cX11_reigns 4 (some .int) ∈ lw_g := in_g (t4_in (List.mem_of_getElem? (i := 160) rfl)) rfl
set_option maxRecDepth 100000 in
theorem wd1022 : Cond.methodLink RL 84 yX11_undo ∈ lw_g := in_g (t4_in (List.mem_of_getElem? (i := 175) rfl)) rfl
set_option maxRecDepth 100000 in
theorem wd1023 : Cond.instanceMethod yX11_undo ∈ lw_g := in_g (t4_in (List.mem_of_getElem? (i := 176) rfl)) rfl
set_option maxRecDepth 100000 in
theorem wd1024 : Cond.selects RX11 yX11_undo yX11_undo ∈ lw_g := in_g (t4_in (List.mem_of_getElem? (i := 177) rfl)) rfl
set_option maxRecDepth 100000 in
theorem wd1025 : Cond.code yX11_undo cX11_undo 1 (some .int) ∈ lw_g := in_g (t4_in (List.mem_of_getElem? (i := 178) rfl)) rfl
set_option maxRecDepth 100000 in
theorem wd1035 : Cond.methodLink RL 88 yX11_of ∈ lw_g := in_g (t4_in (List.mem_of_getElem? (i := 188) rfl)) rfl
set_option maxRecDepth 100000 in
theorem wd1036 : Cond.instanceMethod yX11_of ∈ lw_g := in_g (t4_in (List.mem_of_getElem? (i := 189) rfl)) rfl
set_option maxRecDepth 100000 in
theorem wd1037 : Cond.selects RX11 yX11_of yX11_of ∈ lw_g := in_g (t4_in (List.mem_of_getElem? (i := 190) rfl)) rfl
set_option maxRecDepth 100000 in
theorem wd1038 : Cond.code yX11_of cX11_of 4 (some .int) ∈ lw_g := in_g (t4_in (List.mem_of_getElem? (i := 191) rfl)) rfl
set_option maxRecDepth 100000 in
theorem wd1045 : Cond.methodLink RL 92 yX11_ofLand ∈ lw_g := in_g (t4_in (List.mem_of_getElem? (i := 198) rfl)) rfl
set_option maxRecDepth 100000 in
theorem wd1046 : Cond.instanceMethod yX11_ofLand ∈ lw_g := in_g (t4_in (List.mem_of_getElem? (i := 199) rfl)) rfl
set_option maxRecDepth 100000 in
theorem wd1047 : Cond.selects RX11 yX11_ofLand yX11_ofLand ∈ lw_g := in_g (t4_in (List.mem_of_getElem? (i := 200) rfl)) rfl
set_option maxRecDepth 100000 in
theorem wd1048 : Cond.code yX11_ofLand cX11_ofLand 3 (some .int) ∈ lw_g := in_g (t4_in (List.mem_of_getElem? (i := 201) rfl)) rfl
set_option maxRecDepth 100000 in
theorem wd1054 : Cond.methodLink RL 96 yX11_is ∈ lw_g := in_g (t4_in (List.mem_of_getElem? (i := 207) rfl)) rfl
set_option maxRecDepth 100000 in
theorem wd1055 : Cond.instanceMethod yX11_is ∈ lw_g := in_g (t4_in (List.mem_of_getElem? (i := 208) rfl)) rfl
set_option maxRecDepth 100000 in
theorem wd1056 : Cond.selects RX11 yX11_is yX11_is ∈ lw_g := in_g (t4_in (List.mem_of_getElem? (i := 209) rfl)) rfl
set_option maxRecDepth 100000 in
theorem wd1057 : Cond.code yX11_is cX11_is 2 (some .int) ∈ lw_g := in_g (t4_in (List.mem_of_getElem? (i := 210) rfl)) rfl
set_option maxRecDepth 100000 in
theorem wd1058 : Cond.methodLink RL 100 yX11_book ∈ lw_g := in_g (t4_in (List.mem_of_getElem? (i := 211) rfl)) rfl
set_option maxRecDepth 100000 in
theorem wd1059 : Cond.instanceMethod yX11_book ∈ lw_g := in_g (t4_in (List.mem_of_getElem? (i := 212) rfl)) rfl
set_option maxRecDepth 100000 in
theorem wd1060 : Cond.selects RX11 yX11_book yX11_book ∈ lw_g := in_g (t4_in (List.mem_of_getElem? (i := 213) rfl)) rfl
set_option maxRecDepth 100000 in
theorem wd1061 : Cond.code yX11_book cX11_book 3 (some .int) ∈ lw_g := in_g (t4_in (List.mem_of_getElem? (i := 214) rfl)) rfl
set_option maxRecDepth 100000 in
theorem wd1082 : Cond.methodLink RL 104 yX11_foretold ∈ lw_g := in_g (t4_in (List.mem_of_getElem? (i := 235) rfl)) rfl
set_option maxRecDepth 100000 in
theorem wd1083 : Cond.instanceMethod yX11_foretold ∈ lw_g := in_g (t4_in (List.mem_of_getElem? (i := 236) rfl)) rfl
set_option maxRecDepth 100000 in
theorem wd1084 : Cond.selects RX11 yX11_foretold yX11_foretold ∈ lw_g := in_g (t4_in (List.mem_of_getElem? (i := 237) rfl)) rfl
set_option maxRecDepth 100000 in
theorem wd1085 : Cond.code yX11_foretold cX11_foretold 5 (some .int) ∈ lw_g := in_g (t4_in (List.mem_of_getElem? (i := 238) rfl)) rfl
set_option maxRecDepth 100000 in
theorem wd1090 : Cond.methodLink RL 109 yX11_toPay ∈ lw_g := in_g (t5_in (List.mem_of_getElem? (i := 3) rfl)) rfl
set_option maxRecDepth 100000 in
theorem wd1091 : Cond.instanceMethod yX11_toPay ∈ lw_g := in_g (t5_in (List.mem_of_getElem? (i := 4) rfl)) rfl
set_option maxRecDepth 100000 in
theorem wd1092 : Cond.selects RX11 yX11_toPay yX11_toPay ∈ lw_g := in_g (t5_in (List.mem_of_getElem? (i := 5) rfl)) rfl
set_option maxRecDepth 100000 in
theorem wd1093 : Cond.code yX11_toPay cX11_toPay 4 (some .int) ∈ lw_g := in_g (t5_in (List.mem_of_getElem? (i := 6) rfl)) rfl
set_option maxRecDepth 100000 in
theorem wd1095 : Cond.methodLink RL 113 yX11_surest ∈ lw_g := in_g (t5_in (List.mem_of_getElem? (i := 8) rfl)) rfl
set_option maxRecDepth 100000 in
theorem wd1096 : Cond.instanceMethod yX11_surest ∈ lw_g := in_g (t5_in (List.mem_of_getElem? (i := 9) rfl)) rfl
set_option maxRecDepth 100000 in
theorem wd1097 : Cond.selects RX11 yX11_surest yX11_surest ∈ lw_g := in_g (t5_in (List.mem_of_getElem? (i := 10) rfl)) rfl
set_option maxRecDepth 100000 in
theorem wd1098 : Cond.code yX11_surest cX11_surest 4 (some .int) ∈ lw_g := in_g (t5_in (List.mem_of_getElem? (i := 11) rfl)) rfl
set_option maxRecDepth 100000 in
theorem wd1127 : Cond.methodLink RL 118 yX11_steps ∈ lw_g := in_g (t5_in (List.mem_of_getElem? (i := 40) rfl)) rfl
set_option maxRecDepth 100000 in
theorem wd1128 : Cond.instanceMethod yX11_steps ∈ lw_g := in_g (t5_in (List.mem_of_getElem? (i := 41) rfl)) rfl
set_option maxRecDepth 100000 in
theorem wd1129 : Cond.selects RX11 yX11_steps yX11_steps ∈ lw_g := in_g (t5_in (List.mem_of_getElem? (i := 42) rfl)) rfl
set_option maxRecDepth 100000 in
theorem wd1130 : Cond.code yX11_steps cX11_steps 3 (some .int) ∈ lw_g := in_g (t5_in (List.mem_of_getElem? (i := 43) rfl)) rfl
set_option maxRecDepth 100000 in
theorem wd1139 : Cond.methodLink RL 122 yX11_unheard ∈ lw_g := in_g (t5_in (List.mem_of_getElem? (i := 52) rfl)) rfl
set_option maxRecDepth 100000 in
theorem wd1140 : Cond.instanceMethod yX11_unheard ∈ lw_g := in_g (t5_in (List.mem_of_getElem? (i := 53) rfl)) rfl
set_option maxRecDepth 100000 in
theorem wd1141 : Cond.selects RX11 yX11_unheard yX11_unheard ∈ lw_g := in_g (t5_in (List.mem_of_getElem? (i := 54) rfl)) rfl
set_option maxRecDepth 100000 in
theorem wd1142 : Cond.code yX11_unheard cX11_unheard 5 (some .int) ∈ lw_g := in_g (t5_in (List.mem_of_getElem? (i := 55) rfl)) rfl
set_option maxRecDepth 100000 in
theorem wd1148 : Cond.methodLink RL 126 yX11_crowd ∈ lw_g := in_g (t5_in (List.mem_of_getElem? (i := 61) rfl)) rfl
set_option maxRecDepth 100000 in
theorem wd1149 : Cond.instanceMethod yX11_crowd ∈ lw_g := in_g (t5_in (List.mem_of_getElem? (i := 62) rfl)) rfl
set_option maxRecDepth 100000 in
theorem wd1150 : Cond.selects RX11 yX11_crowd yX11_crowd ∈ lw_g := in_g (t5_in (List.mem_of_getElem? (i := 63) rfl)) rfl
set_option maxRecDepth 100000 in
theorem wd1151 : Cond.code yX11_crowd cX11_crowd 2 (some .int) ∈ lw_g := in_g (t5_in (List.mem_of_getElem? (i := 64) rfl)) rfl
set_option maxRecDepth 100000 in
theorem wd1160 : Cond.methodLink RL 130 yX11_inCrowd ∈ lw_g := in_g (t5_in (List.mem_of_getElem? (i := 73) rfl)) rfl
set_option maxRecDepth 100000 in
theorem wd1161 : Cond.instanceMethod yX11_inCrowd ∈ lw_g := in_g (t5_in (List.mem_of_getElem? (i := 74) rfl)) rfl
set_option maxRecDepth 100000 in
theorem wd1162 : Cond.selects RX11 yX11_inCrowd yX11_inCrowd ∈ lw_g := in_g (t5_in (List.mem_of_getElem? (i := 75) rfl)) rfl
set_option maxRecDepth 100000 in
theorem wd1163 : Cond.code yX11_inCrowd cX11_inCrowd 4 (some .int) ∈ lw_g := in_g (t5_in (List.mem_of_getElem? (i := 76) rfl)) rfl
set_option maxRecDepth 100000 in
theorem wd1185 : Cond.methodLink RL 134 yX11_helpers ∈ lw_g := in_g (t5_in (List.mem_of_getElem? (i := 98) rfl)) rfl
set_option maxRecDepth 100000 in
theorem wd1186 : Cond.instanceMethod yX11_helpers ∈ lw_g := in_g (t5_in (List.mem_of_getElem? (i := 99) rfl)) rfl
set_option maxRecDepth 100000 in
theorem wd1187 : Cond.selects RX11 yX11_helpers yX11_helpers ∈ lw_g := in_g (t5_in (List.mem_of_getElem? (i := 100) rfl)) rfl
set_option maxRecDepth 100000 in
theorem wd1188 : Cond.code yX11_helpers cX11_helpers 1 (some .int) ∈ lw_g := in_g (t5_in (List.mem_of_getElem? (i := 101) rfl)) rfl
set_option maxRecDepth 100000 in
theorem wd1195 : Cond.methodLink RL 138 yX11_watch ∈ lw_g := in_g (t5_in (List.mem_of_getElem? (i := 108) rfl)) rfl
set_option maxRecDepth 100000 in
theorem wd1196 : Cond.instanceMethod yX11_watch ∈ lw_g := in_g (t5_in (List.mem_of_getElem? (i := 109) rfl)) rfl
set_option maxRecDepth 100000 in
theorem wd1197 : Cond.selects RX11 yX11_watch yX11_watch ∈ lw_g := in_g (t5_in (List.mem_of_getElem? (i := 110) rfl)) rfl
set_option maxRecDepth 100000 in
theorem wd1198 : Cond.code yX11_watch cX11_watch 3 (some .int) ∈ lw_g := in_g (t5_in (List.mem_of_getElem? (i := 111) rfl)) rfl
set_option maxRecDepth 100000 in
theorem wd1207 : Cond.methodLink RL 142 yX11_borders ∈ lw_g := in_g (t5_in (List.mem_of_getElem? (i := 120) rfl)) rfl
set_option maxRecDepth 100000 in
theorem wd1208 : Cond.instanceMethod yX11_borders ∈ lw_g := in_g (t5_in (List.mem_of_getElem? (i := 121) rfl)) rfl
set_option maxRecDepth 100000 in
theorem wd1209 : Cond.selects RX11 yX11_borders yX11_borders ∈ lw_g := in_g (t5_in (List.mem_of_getElem? (i := 122) rfl)) rfl
set_option maxRecDepth 100000 in
theorem wd1210 : Cond.code yX11_borders cX11_borders 2 (some .boolean) ∈ lw_g := in_g (t5_in (List.mem_of_getElem? (i := 123) rfl)) rfl
set_option maxRecDepth 100000 in
theorem wd1211 : Cond.methodLink RL 146 yX11_toBorder ∈ lw_g := in_g (t5_in (List.mem_of_getElem? (i := 124) rfl)) rfl
set_option maxRecDepth 100000 in
theorem wd1212 : Cond.instanceMethod yX11_toBorder ∈ lw_g := in_g (t5_in (List.mem_of_getElem? (i := 125) rfl)) rfl
set_option maxRecDepth 100000 in
theorem wd1213 : Cond.selects RX11 yX11_toBorder yX11_toBorder ∈ lw_g := in_g (t5_in (List.mem_of_getElem? (i := 126) rfl)) rfl
set_option maxRecDepth 100000 in
theorem wd1214 : Cond.code yX11_toBorder cX11_toBorder 2 (some .int) ∈ lw_g := in_g (t5_in (List.mem_of_getElem? (i := 127) rfl)) rfl
set_option maxRecDepth 100000 in
theorem wd1215 : Cond.methodLink RL 150 yX11_reports ∈ lw_g := in_g (t5_in (List.mem_of_getElem? (i := 128) rfl)) rfl
set_option maxRecDepth 100000 in
theorem wd1216 : Cond.instanceMethod yX11_reports ∈ lw_g := in_g (t5_in (List.mem_of_getElem? (i := 129) rfl)) rfl
set_option maxRecDepth 100000 in
theorem wd1217 : Cond.selects RX11 yX11_reports yX11_reports ∈ lw_g := in_g (t5_in (List.mem_of_getElem? (i := 130) rfl)) rfl
set_option maxRecDepth 100000 in
theorem wd1218 : Cond.code yX11_reports cX11_reports 2 (some .boolean) ∈ lw_g := in_g (t5_in (List.mem_of_getElem? (i := 131) rfl)) rfl
set_option maxRecDepth 100000 in
theorem wd1223 : Cond.methodLink RL 154 yX11_unlike ∈ lw_g := in_g (t5_in (List.mem_of_getElem? (i := 136) rfl)) rfl
set_option maxRecDepth 100000 in
theorem wd1224 : Cond.instanceMethod yX11_unlike ∈ lw_g := in_g (t5_in (List.mem_of_getElem? (i := 137) rfl)) rfl
set_option maxRecDepth 100000 in
theorem wd1225 : Cond.selects RX11 yX11_unlike yX11_unlike ∈ lw_g := in_g (t5_in (List.mem_of_getElem? (i := 138) rfl)) rfl
set_option maxRecDepth 100000 in
theorem wd1226 : Cond.code yX11_unlike cX11_unlike 3 (some .int) ∈ lw_g := in_g (t5_in (List.mem_of_getElem? (i := 139) rfl)) rfl
set_option maxRecDepth 100000 in
theorem wd1235 : Cond.methodLink RL 158 yX11_heads ∈ lw_g := in_g (t5_in (List.mem_of_getElem? (i := 148) rfl)) rfl
set_option maxRecDepth 100000 in
theorem wd1236 : Cond.instanceMethod yX11_heads ∈ lw_g := in_g (t5_in (List.mem_of_getElem? (i := 149) rfl)) rfl
set_option maxRecDepth 100000 in
theorem wd1237 : Cond.selects RX11 yX11_heads yX11_heads ∈ lw_g := in_g (t5_in (List.mem_of_getElem? (i := 150) rfl)) rfl
set_option maxRecDepth 100000 in
theorem wd1238 : Cond.code yX11_heads cX11_heads 3 (some .int) ∈ lw_g := in_g (t5_in (List.mem_of_getElem? (i := 151) rfl)) rfl
set_option maxRecDepth 100000 in
theorem wd1257 : Cond.methodLink RL 162 yX11_has ∈ lw_g := in_g (t5_in (List.mem_of_getElem? (i := 170) rfl)) rfl
set_option maxRecDepth 100000 in
theorem wd1258 : Cond.instanceMethod yX11_has ∈ lw_g := in_g (t5_in (List.mem_of_getElem? (i := 171) rfl)) rfl
set_option maxRecDepth 100000 in
theorem wd1259 : Cond.selects RX11 yX11_has yX11_has ∈ lw_g := in_g (t5_in (List.mem_of_getElem? (i := 172) rfl)) rfl
set_option maxRecDepth 100000 in
theorem wd1260 : Cond.code yX11_has cX11_has 5 (some .boolean) ∈ lw_g := in_g (t5_in (List.mem_of_getElem? (i := 173) rfl)) rfl
set_option maxRecDepth 100000 in
theorem wd1265 : Cond.methodLink RL 167 yX11_rests ∈ lw_g := in_g (t5_in (List.mem_of_getElem? (i := 178) rfl)) rfl
set_option maxRecDepth 100000 in
theorem wd1266 : Cond.instanceMethod yX11_rests ∈ lw_g := in_g (t5_in (List.mem_of_getElem? (i := 179) rfl)) rfl
set_option maxRecDepth 100000 in
theorem wd1267 : Cond.selects RX11 yX11_rests yX11_rests ∈ lw_g := in_g (t5_in (List.mem_of_getElem? (i := 180) rfl)) rfl
set_option maxRecDepth 100000 in
theorem wd1268 : Cond.code yX11_rests cX11_rests 1 (some .int) ∈ lw_g := in_g (t5_in (List.mem_of_getElem? (i := 181) rfl)) rfl
set_option maxRecDepth 100000 in
theorem wd1277 : Cond.methodLink RL 171 yX11_mixed ∈ lw_g := in_g (t5_in (List.mem_of_getElem? (i := 190) rfl)) rfl
set_option maxRecDepth 100000 in
theorem wd1278 : Cond.instanceMethod yX11_mixed ∈ lw_g := in_g (t5_in (List.mem_of_getElem? (i := 191) rfl)) rfl
set_option maxRecDepth 100000 in
theorem wd1279 : Cond.selects RX11 yX11_mixed yX11_mixed ∈ lw_g := in_g (t5_in (List.mem_of_getElem? (i := 192) rfl)) rfl
set_option maxRecDepth 100000 in
theorem wd1280 : Cond.code yX11_mixed cX11_mixed 2 (some .int) ∈ lw_g := in_g (t5_in (List.mem_of_getElem? (i := 193) rfl)) rfl
set_option maxRecDepth 100000 in
theorem wd1286 : Cond.methodLink RL 176 yX11_befell ∈ lw_g := in_g (t5_in (List.mem_of_getElem? (i := 199) rfl)) rfl
set_option maxRecDepth 100000 in
theorem wd1287 : Cond.instanceMethod yX11_befell ∈ lw_g := in_g (t5_in (List.mem_of_getElem? (i := 200) rfl)) rfl
set_option maxRecDepth 100000 in
theorem wd1288 : Cond.selects RX11 yX11_befell yX11_befell ∈ lw_g := in_g (t5_in (List.mem_of_getElem? (i := 201) rfl)) rfl
set_option maxRecDepth 100000 in
theorem wd1289 : Cond.code yX11_befell cX11_befell 6 (some .int) ∈ lw_g := in_g (t5_in (List.mem_of_getElem? (i := 202) rfl)) rfl
set_option maxRecDepth 100000 in
theorem wd1290 : Cond.methodLink RL 180 yX11_heirs ∈ lw_g := in_g (t5_in (List.mem_of_getElem? (i := 203) rfl)) rfl
set_option maxRecDepth 100000 in
theorem wd1291 : Cond.instanceMethod yX11_heirs ∈ lw_g := in_g (t5_in (List.mem_of_getElem? (i := 204) rfl)) rfl
set_option maxRecDepth 100000 in
theorem wd1292 : Cond.selects RX11 yX11_heirs yX11_heirs ∈ lw_g := in_g (t5_in (List.mem_of_getElem? (i := 205) rfl)) rfl
set_option maxRecDepth 100000 in
theorem wd1293 : Cond.code yX11_heirs cX11_heirs 2 (some .int) ∈ lw_g := in_g (t5_in (List.mem_of_getElem? (i := 206) rfl)) rfl
set_option maxRecDepth 100000 in
theorem wd1294 : Cond.methodLink RL 184 yX11_feared ∈ lw_g := in_g (t5_in (List.mem_of_getElem? (i := 207) rfl)) rfl
set_option maxRecDepth 100000 in
theorem wd1295 : Cond.instanceMethod yX11_feared ∈ lw_g := in_g (t5_in (List.mem_of_getElem? (i := 208) rfl)) rfl
set_option maxRecDepth 100000 in
theorem wd1296 : Cond.selects RX11 yX11_feared yX11_feared ∈ lw_g := in_g (t5_in (List.mem_of_getElem? (i := 209) rfl)) rfl
set_option maxRecDepth 100000 in
theorem wd1297 : Cond.code yX11_feared cX11_feared 7 (some .int) ∈ lw_g := in_g (t5_in (List.mem_of_getElem? (i := 210) rfl)) rfl
set_option maxRecDepth 100000 in
theorem wd1303 : Cond.methodLink RL 188 yX11_wolves ∈ lw_g := in_g (t5_in (List.mem_of_getElem? (i := 216) rfl)) rfl
set_option maxRecDepth 100000 in
theorem wd1304 : Cond.instanceMethod yX11_wolves ∈ lw_g := in_g (t5_in (List.mem_of_getElem? (i := 217) rfl)) rfl
set_option maxRecDepth 100000 in
theorem wd1305 : Cond.selects RX11 yX11_wolves yX11_wolves ∈ lw_g := in_g (t5_in (List.mem_of_getElem? (i := 218) rfl)) rfl
set_option maxRecDepth 100000 in
theorem wd1306 : Cond.code yX11_wolves cX11_wolves 1 (some .int) ∈ lw_g := in_g (t5_in (List.mem_of_getElem? (i := 219) rfl)) rfl
set_option maxRecDepth 100000 in
theorem wd1307 : Cond.methodLink RL 192 yX11_paid ∈ lw_g := in_g (t5_in (List.mem_of_getElem? (i := 220) rfl)) rfl
set_option maxRecDepth 100000 in
theorem wd1308 : Cond.instanceMethod yX11_paid ∈ lw_g := in_g (t5_in (List.mem_of_getElem? (i := 221) rfl)) rfl
set_option maxRecDepth 100000 in
theorem wd1309 : Cond.selects RX11 yX11_paid yX11_paid ∈ lw_g := in_g (t5_in (List.mem_of_getElem? (i := 222) rfl)) rfl
set_option maxRecDepth 100000 in
theorem wd1310 : Cond.code yX11_paid cX11_paid 3 (some .int) ∈ lw_g := in_g (t5_in (List.mem_of_getElem? (i := 223) rfl)) rfl
set_option maxRecDepth 100000 in
theorem wd1319 : Cond.methodLink RL 196 yX11_whose ∈ lw_g := in_g (t5_in (List.mem_of_getElem? (i := 232) rfl)) rfl
set_option maxRecDepth 100000 in
theorem wd1320 : Cond.instanceMethod yX11_whose ∈ lw_g := in_g (t5_in (List.mem_of_getElem? (i := 233) rfl)) rfl
set_option maxRecDepth 100000 in
theorem wd1321 : Cond.selects RX11 yX11_whose yX11_whose ∈ lw_g := in_g (t5_in (List.mem_of_getElem? (i := 234) rfl)) rfl
set_option maxRecDepth 100000 in
theorem wd1322 : Cond.code yX11_whose cX11_whose 3 (some .int) ∈ lw_g := in_g (t5_in (List.mem_of_getElem? (i := 235) rfl)) rfl
set_option maxRecDepth 100000 in
theorem wd1335 : Cond.methodLink RL 200 yX11_image ∈ lw_g := in_g (t6_in (List.mem_of_getElem? (i := 8) rfl)) rfl
set_option maxRecDepth 100000 in
theorem wd1336 : Cond.instanceMethod yX11_image ∈ lw_g := in_g (t6_in (List.mem_of_getElem? (i := 9) rfl)) rfl
set_option maxRecDepth 100000 in
theorem wd1337 : Cond.selects RX11 yX11_image yX11_image ∈ lw_g := in_g (t6_in (List.mem_of_getElem? (i := 10) rfl)) rfl
set_option maxRecDepth 100000 in
theorem wd1338 : Cond.code yX11_image cX11_image 1 (some .int) ∈ lw_g := in_g (t6_in (List.mem_of_getElem? (i := 11) rfl)) rfl
set_option maxRecDepth 100000 in
theorem wd1359 : Cond.methodLink RL 204 yX11_back ∈ lw_g := in_g (t6_in (List.mem_of_getElem? (i := 32) rfl)) rfl
set_option maxRecDepth 100000 in
theorem wd1360 : Cond.instanceMethod yX11_back ∈ lw_g := in_g (t6_in (List.mem_of_getElem? (i := 33) rfl)) rfl
set_option maxRecDepth 100000 in
theorem wd1361 : Cond.selects RX11 yX11_back yX11_back ∈ lw_g := in_g (t6_in (List.mem_of_getElem? (i := 34) rfl)) rfl
set_option maxRecDepth 100000 in
theorem wd1362 : Cond.code yX11_back cX11_back 1 (some .int) ∈ lw_g := in_g (t6_in (List.mem_of_getElem? (i := 35) rfl)) rfl
set_option maxRecDepth 100000 in
theorem wd1363 : Cond.methodLink RL 208 yX11_about ∈ lw_g := in_g (t6_in (List.mem_of_getElem? (i := 36) rfl)) rfl
set_option maxRecDepth 100000 in
theorem wd1364 : Cond.instanceMethod yX11_about ∈ lw_g := in_g (t6_in (List.mem_of_getElem? (i := 37) rfl)) rfl
set_option maxRecDepth 100000 in
theorem wd1365 : Cond.selects RX11 yX11_about yX11_about ∈ lw_g := in_g (t6_in (List.mem_of_getElem? (i := 38) rfl)) rfl
set_option maxRecDepth 100000 in
theorem wd1366 : Cond.code yX11_about cX11_about 2 (some .int) ∈ lw_g := in_g (t6_in (List.mem_of_getElem? (i := 39) rfl)) rfl
set_option maxRecDepth 100000 in
theorem wd1466 : Cond.methodLink RL 17 yX12_land ∈ lw_g := in_g (t6_in (List.mem_of_getElem? (i := 139) rfl)) rfl
set_option maxRecDepth 100000 in
theorem wd1473 : Cond.methodLink RL 22 yX12_road ∈ lw_g := in_g (t6_in (List.mem_of_getElem? (i := 146) rfl)) rfl
set_option maxRecDepth 100000 in
theorem wd1484 : Cond.methodLink RL 27 yX12_person ∈ lw_g := in_g (t6_in (List.mem_of_getElem? (i := 157) rfl)) rfl
set_option maxRecDepth 100000 in
theorem wd1500 : Cond.methodLink RL 32 yX12_feed ∈ lw_g := in_g (t6_in (List.mem_of_getElem? (i := 173) rfl)) rfl
set_option maxRecDepth 100000 in
theorem wd1501 : Cond.instanceMethod yX12_feed ∈ lw_g := in_g (t6_in (List.mem_of_getElem? (i := 174) rfl)) rfl
set_option maxRecDepth 100000 in
theorem wd1502 : Cond.selects RX12 yX12_feed yX12_feed ∈ lw_g := in_g (t6_in (List.mem_of_getElem? (i := 175) rfl)) rfl
set_option maxRecDepth 100000 in
theorem wd1503 : Cond.code yX12_feed cX12_feed 6 (some .int) ∈ lw_g := in_g (t6_in (List.mem_of_getElem? (i := 176) rfl)) rfl
set_option maxRecDepth 100000 in
theorem wd1508 : Cond.methodLink RL 36 yX12_end ∈ lw_g := in_g (t6_in (List.mem_of_getElem? (i := 181) rfl)) rfl
set_option maxRecDepth 100000 in
theorem wd1509 : Cond.instanceMethod yX12_end ∈ lw_g := in_g (t6_in (List.mem_of_getElem? (i := 182) rfl)) rfl
set_option maxRecDepth 100000 in
theorem wd1510 : Cond.selects RX12 yX12_end yX12_end ∈ lw_g := in_g (t6_in (List.mem_of_getElem? (i := 183) rfl)) rfl
set_option maxRecDepth 100000 in
theorem wd1511 : Cond.code yX12_end cX12_end 2 (some .int) ∈ lw_g := in_g (t6_in (List.mem_of_getElem? (i := 184) rfl)) rfl
set_option maxRecDepth 100000 in
theorem wd1512 : Cond.methodLink RL 41 yX12_text ∈ lw_g := in_g (t6_in (List.mem_of_getElem? (i := 185) rfl)) rfl
set_option maxRecDepth 100000 in
theorem wd1513 : Cond.instanceMethod yX12_text ∈ lw_g := in_g (t6_in (List.mem_of_getElem? (i := 186) rfl)) rfl
set_option maxRecDepth 100000 in
theorem wd1514 : Cond.selects RX12 yX12_text yX12_text ∈ lw_g := in_g (t6_in (List.mem_of_getElem? (i := 187) rfl)) rfl
set_option maxRecDepth 100000 in
theorem wd1515 : Cond.code yX12_text cX12_text 1 (some .int) ∈ lw_g := in_g (t6_in (List.mem_of_getElem? (i := 188) rfl)) rfl
set_option maxRecDepth 100000 in
theorem wd1657 : Cond.methodLink RL 45 yX12_fault ∈ lw_g := in_g (t7_in (List.mem_of_getElem? (i := 90) rfl)) rfl
set_option maxRecDepth 100000 in
theorem wd1658 : Cond.instanceMethod yX12_fault ∈ lw_g := in_g (t7_in (List.mem_of_getElem? (i := 91) rfl)) rfl
set_option maxRecDepth 100000 in
theorem wd1659 : Cond.selects RX12 yX12_fault yX12_fault ∈ lw_g := in_g (t7_in (List.mem_of_getElem? (i := 92) rfl)) rfl
set_option maxRecDepth 100000 in
theorem wd1660 : Cond.code yX12_fault cX12_fault 2 (some .int) ∈ lw_g := in_g (t7_in (List.mem_of_getElem? (i := 93) rfl)) rfl
set_option maxRecDepth 100000 in
theorem wd1661 : Cond.methodLink RL 50 yX12_by ∈ lw_g := in_g (t7_in (List.mem_of_getElem? (i := 94) rfl)) rfl
set_option maxRecDepth 100000 in
theorem wd1662 : Cond.instanceMethod yX12_by ∈ lw_g := in_g (t7_in (List.mem_of_getElem? (i := 95) rfl)) rfl
set_option maxRecDepth 100000 in
theorem wd1663 : Cond.selects RX12 yX12_by yX12_by ∈ lw_g := in_g (t7_in (List.mem_of_getElem? (i := 96) rfl)) rfl
set_option maxRecDepth 100000 in
theorem wd1664 : Cond.code yX12_by cX12_by 2 (some .boolean) ∈ lw_g := in_g (t7_in (List.mem_of_getElem? (i := 97) rfl)) rfl
set_option maxRecDepth 100000 in
theorem wd1665 : Cond.methodLink RL 87 yX12_undo ∈ lw_g := in_g (t7_in (List.mem_of_getElem? (i := 98) rfl)) rfl
set_option maxRecDepth 100000 in
theorem wd1666 : Cond.instanceMethod yX12_undo ∈ lw_g := in_g (t7_in (List.mem_of_getElem? (i := 99) rfl)) rfl
set_option maxRecDepth 100000 in
theorem wd1667 : Cond.selects RX12 yX12_undo yX12_undo ∈ lw_g := in_g (t7_in (List.mem_of_getElem? (i := 100) rfl)) rfl
set_option maxRecDepth 100000 in
theorem wd1668 : Cond.code yX12_undo cX12_undo 4 (some .int) ∈ lw_g := in_g (t7_in (List.mem_of_getElem? (i := 101) rfl)) rfl
set_option maxRecDepth 100000 in
theorem wd1669 : Cond.methodLink RL 55 yX12_call ∈ lw_g := in_g (t7_in (List.mem_of_getElem? (i := 102) rfl)) rfl
set_option maxRecDepth 100000 in
theorem wd1697 : Cond.methodLink RL 59 yX12_move ∈ lw_g := in_g (t7_in (List.mem_of_getElem? (i := 130) rfl)) rfl
set_option maxRecDepth 100000 in
theorem wd1705 : Cond.methodLink RL 63 yX12_feeds ∈ lw_g := in_g (t7_in (List.mem_of_getElem? (i := 138) rfl)) rfl
set_option maxRecDepth 100000 in
theorem wd1784 : Cond.methodLink RL 67 yX12_kill ∈ lw_g := in_g (t7_in (List.mem_of_getElem? (i := 217) rfl)) rfl
set_option maxRecDepth 100000 in
theorem wd1800 : Cond.methodLink RL 71 yX12_pardon ∈ lw_g := in_g (t7_in (List.mem_of_getElem? (i := 233) rfl)) rfl
set_option maxRecDepth 100000 in
theorem wd1816 : Cond.methodLink RL 75 yX12_month ∈ lw_g := in_g (t8_in (List.mem_of_getElem? (i := 9) rfl)) rfl
set_option maxRecDepth 100000 in
theorem wd1817 : Cond.instanceMethod yX12_month ∈ lw_g := in_g (t8_in (List.mem_of_getElem? (i := 10) rfl)) rfl
set_option maxRecDepth 100000 in
theorem wd1818 : Cond.selects RX12 yX12_month yX12_month ∈ lw_g := in_g (t8_in (List.mem_of_getElem? (i := 11) rfl)) rfl
set_option maxRecDepth 100000 in
theorem wd1819 : Cond.code yX12_month cX12_month 2 (some .int) ∈ lw_g := in_g (t8_in (List.mem_of_getElem? (i := 12) rfl)) rfl
set_option maxRecDepth 100000 in
theorem wd1840 : Cond.methodLink RL 79 yX12_played ∈ lw_g := in_g (t8_in (List.mem_of_getElem? (i := 33) rfl)) rfl
set_option maxRecDepth 100000 in
theorem wd1841 : Cond.instanceMethod yX12_played ∈ lw_g := in_g (t8_in (List.mem_of_getElem? (i := 34) rfl)) rfl
set_option maxRecDepth 100000 in
theorem wd1842 : Cond.selects RX12 yX12_played yX12_played ∈ lw_g := in_g (t8_in (List.mem_of_getElem? (i := 35) rfl)) rfl
set_option maxRecDepth 100000 in
theorem wd1843 : Cond.code yX12_played cX12_played 3 (some .int) ∈ lw_g := in_g (t8_in (List.mem_of_getElem? (i := 36) rfl)) rfl
set_option maxRecDepth 100000 in
theorem wd1856 : Cond.methodLink RL 83 yX12_reigns ∈ lw_g := in_g (t8_in (List.mem_of_getElem? (i := 49) rfl)) rfl
set_option maxRecDepth 100000 in
theorem wd1857 : Cond.instanceMethod yX12_reigns ∈ lw_g := in_g (t8_in (List.mem_of_getElem? (i := 50) rfl)) rfl
set_option maxRecDepth 100000 in
theorem wd1858 : Cond.selects RX12 yX12_reigns yX12_reigns ∈ lw_g := in_g (t8_in (List.mem_of_getElem? (i := 51) rfl)) rfl
set_option maxRecDepth 100000 in
theorem wd1859 : Cond.code yX12_reigns cX12_reigns 5 (some .int) ∈ lw_g := in_g (t8_in (List.mem_of_getElem? (i := 52) rfl)) rfl
set_option maxRecDepth 100000 in
theorem wd1864 : Cond.methodLink RL 91 yX12_of ∈ lw_g := in_g (t8_in (List.mem_of_getElem? (i := 57) rfl)) rfl
set_option maxRecDepth 100000 in
theorem wd1865 : Cond.instanceMethod yX12_of ∈ lw_g := in_g (t8_in (List.mem_of_getElem? (i := 58) rfl)) rfl
set_option maxRecDepth 100000 in
theorem wd1866 : Cond.selects RX12 yX12_of yX12_of ∈ lw_g := in_g (t8_in (List.mem_of_getElem? (i := 59) rfl)) rfl
set_option maxRecDepth 100000 in
theorem wd1867 : Cond.code yX12_of cX12_of 3 (some .int) ∈ lw_g := in_g (t8_in (List.mem_of_getElem? (i := 60) rfl)) rfl
set_option maxRecDepth 100000 in
theorem wd1868 : Cond.methodLink RL 95 yX12_ofLand ∈ lw_g := in_g (t8_in (List.mem_of_getElem? (i := 61) rfl)) rfl
set_option maxRecDepth 100000 in
theorem wd1869 : Cond.instanceMethod yX12_ofLand ∈ lw_g := in_g (t8_in (List.mem_of_getElem? (i := 62) rfl)) rfl
set_option maxRecDepth 100000 in
theorem wd1870 : Cond.selects RX12 yX12_ofLand yX12_ofLand ∈ lw_g := in_g (t8_in (List.mem_of_getElem? (i := 63) rfl)) rfl
set_option maxRecDepth 100000 in
theorem wd1871 : Cond.code yX12_ofLand cX12_ofLand 3 (some .int) ∈ lw_g := in_g (t8_in (List.mem_of_getElem? (i := 64) rfl)) rfl
set_option maxRecDepth 100000 in
theorem wd1876 : Cond.methodLink RL 99 yX12_is ∈ lw_g := in_g (t8_in (List.mem_of_getElem? (i := 69) rfl)) rfl
set_option maxRecDepth 100000 in
theorem wd1877 : Cond.instanceMethod yX12_is ∈ lw_g := in_g (t8_in (List.mem_of_getElem? (i := 70) rfl)) rfl
set_option maxRecDepth 100000 in
theorem wd1878 : Cond.selects RX12 yX12_is yX12_is ∈ lw_g := in_g (t8_in (List.mem_of_getElem? (i := 71) rfl)) rfl
set_option maxRecDepth 100000 in
theorem wd1879 : Cond.code yX12_is cX12_is 2 (some .int) ∈ lw_g := in_g (t8_in (List.mem_of_getElem? (i := 72) rfl)) rfl
set_option maxRecDepth 100000 in
theorem wd1880 : Cond.methodLink RL 103 yX12_book ∈ lw_g := in_g (t8_in (List.mem_of_getElem? (i := 73) rfl)) rfl
set_option maxRecDepth 100000 in
theorem wd1881 : Cond.instanceMethod yX12_book ∈ lw_g := in_g (t8_in (List.mem_of_getElem? (i := 74) rfl)) rfl
set_option maxRecDepth 100000 in
theorem wd1882 : Cond.selects RX12 yX12_book yX12_book ∈ lw_g := in_g (t8_in (List.mem_of_getElem? (i := 75) rfl)) rfl
set_option maxRecDepth 100000 in
theorem wd1883 : Cond.code yX12_book cX12_book 3 (some .int) ∈ lw_g := in_g (t8_in (List.mem_of_getElem? (i := 76) rfl)) rfl
set_option maxRecDepth 100000 in
theorem wd1892 : Cond.methodLink RL 179 yX12_befell ∈ lw_g := in_g (t8_in (List.mem_of_getElem? (i := 85) rfl)) rfl
set_option maxRecDepth 100000 in
theorem wd1893 : Cond.instanceMethod yX12_befell ∈ lw_g := in_g (t8_in (List.mem_of_getElem? (i := 86) rfl)) rfl
set_option maxRecDepth 100000 in
theorem wd1894 : Cond.selects RX12 yX12_befell yX12_befell ∈ lw_g := in_g (t8_in (List.mem_of_getElem? (i := 87) rfl)) rfl
set_option maxRecDepth 100000 in
theorem wd1895 : Cond.code yX12_befell cX12_befell 5 (some .int) ∈ lw_g := in_g (t8_in (List.mem_of_getElem? (i := 88) rfl)) rfl
set_option maxRecDepth 100000 in
theorem wd1896 : Cond.methodLink RL 183 yX12_heirs ∈ lw_g := in_g (t8_in (List.mem_of_getElem? (i := 89) rfl)) rfl
set_option maxRecDepth 100000 in
theorem wd1897 : Cond.instanceMethod yX12_heirs ∈ lw_g := in_g (t8_in (List.mem_of_getElem? (i := 90) rfl)) rfl
set_option maxRecDepth 100000 in
theorem wd1898 : Cond.selects RX12 yX12_heirs yX12_heirs ∈ lw_g := in_g (t8_in (List.mem_of_getElem? (i := 91) rfl)) rfl
set_option maxRecDepth 100000 in
theorem wd1899 : Cond.code yX12_heirs cX12_heirs 2 (some .int) ∈ lw_g := in_g (t8_in (List.mem_of_getElem? (i := 92) rfl)) rfl
set_option maxRecDepth 100000 in
theorem wd1900 : Cond.methodLink RL 191 yX12_wolves ∈ lw_g := in_g (t8_in (List.mem_of_getElem? (i := 93) rfl)) rfl
set_option maxRecDepth 100000 in
theorem wd1904 : Cond.methodLink RL 187 yX12_feared ∈ lw_g := in_g (t8_in (List.mem_of_getElem? (i := 97) rfl)) rfl
set_option maxRecDepth 100000 in
theorem wd1905 : Cond.instanceMethod yX12_feared ∈ lw_g := in_g (t8_in (List.mem_of_getElem? (i := 98) rfl)) rfl
set_option maxRecDepth 100000 in
theorem wd1906 : Cond.selects RX12 yX12_feared yX12_feared ∈ lw_g := in_g (t8_in (List.mem_of_getElem? (i := 99) rfl)) rfl
set_option maxRecDepth 100000 in
theorem wd1907 : Cond.code yX12_feared cX12_feared 5 (some .int) ∈ lw_g := in_g (t8_in (List.mem_of_getElem? (i := 100) rfl)) rfl
set_option maxRecDepth 100000 in
theorem wd1909 : Cond.methodLink RL 108 yX12_foretold ∈ lw_g := in_g (t8_in (List.mem_of_getElem? (i := 102) rfl)) rfl
set_option maxRecDepth 100000 in
theorem wd1910 : Cond.instanceMethod yX12_foretold ∈ lw_g := in_g (t8_in (List.mem_of_getElem? (i := 103) rfl)) rfl
set_option maxRecDepth 100000 in
theorem wd1911 : Cond.selects RX12 yX12_foretold yX12_foretold ∈ lw_g := in_g (t8_in (List.mem_of_getElem? (i := 104) rfl)) rfl
set_option maxRecDepth 100000 in
theorem wd1912 : Cond.code yX12_foretold cX12_foretold 5 (some .int) ∈ lw_g := in_g (t8_in (List.mem_of_getElem? (i := 105) rfl)) rfl
set_option maxRecDepth 100000 in
theorem wd1921 : Cond.methodLink RL 112 yX12_toPay ∈ lw_g := in_g (t8_in (List.mem_of_getElem? (i := 114) rfl)) rfl
set_option maxRecDepth 100000 in
theorem wd1922 : Cond.instanceMethod yX12_toPay ∈ lw_g := in_g (t8_in (List.mem_of_getElem? (i := 115) rfl)) rfl
set_option maxRecDepth 100000 in
theorem wd1923 : Cond.selects RX12 yX12_toPay yX12_toPay ∈ lw_g := in_g (t8_in (List.mem_of_getElem? (i := 116) rfl)) rfl
set_option maxRecDepth 100000 in
theorem wd1924 : Cond.code yX12_toPay cX12_toPay 5 (some .int) ∈ lw_g := in_g (t8_in (List.mem_of_getElem? (i := 117) rfl)) rfl
set_option maxRecDepth 100000 in
theorem wd1925 : Cond.methodLink RL 117 yX12_surest ∈ lw_g := in_g (t8_in (List.mem_of_getElem? (i := 118) rfl)) rfl
set_option maxRecDepth 100000 in
theorem wd1926 : Cond.instanceMethod yX12_surest ∈ lw_g := in_g (t8_in (List.mem_of_getElem? (i := 119) rfl)) rfl
set_option maxRecDepth 100000 in
theorem wd1927 : Cond.selects RX12 yX12_surest yX12_surest ∈ lw_g := in_g (t8_in (List.mem_of_getElem? (i := 120) rfl)) rfl
set_option maxRecDepth 100000 in
theorem wd1928 : Cond.code yX12_surest cX12_surest 8 (some .int) ∈ lw_g := in_g (t8_in (List.mem_of_getElem? (i := 121) rfl)) rfl
set_option maxRecDepth 100000 in
theorem wd1948 : Cond.methodLink RL 121 yX12_steps ∈ lw_g := in_g (t8_in (List.mem_of_getElem? (i := 141) rfl)) rfl
set_option maxRecDepth 100000 in
theorem wd1949 : Cond.instanceMethod yX12_steps ∈ lw_g := in_g (t8_in (List.mem_of_getElem? (i := 142) rfl)) rfl
set_option maxRecDepth 100000 in
theorem wd1950 : Cond.selects RX12 yX12_steps yX12_steps ∈ lw_g := in_g (t8_in (List.mem_of_getElem? (i := 143) rfl)) rfl
set_option maxRecDepth 100000 in
theorem wd1951 : Cond.code yX12_steps cX12_steps 5 (some .int) ∈ lw_g := in_g (t8_in (List.mem_of_getElem? (i := 144) rfl)) rfl
set_option maxRecDepth 100000 in
theorem wd1956 : Cond.methodLink RL 125 yX12_unheard ∈ lw_g := in_g (t8_in (List.mem_of_getElem? (i := 149) rfl)) rfl
set_option maxRecDepth 100000 in
theorem wd1957 : Cond.instanceMethod yX12_unheard ∈ lw_g := in_g (t8_in (List.mem_of_getElem? (i := 150) rfl)) rfl
set_option maxRecDepth 100000 in
theorem wd1958 : Cond.selects RX12 yX12_unheard yX12_unheard ∈ lw_g := in_g (t8_in (List.mem_of_getElem? (i := 151) rfl)) rfl
set_option maxRecDepth 100000 in
theorem wd1959 : Cond.code yX12_unheard cX12_unheard 5 (some .int) ∈ lw_g := in_g (t8_in (List.mem_of_getElem? (i := 152) rfl)) rfl
set_option maxRecDepth 100000 in
theorem wd1960 : Cond.methodLink RL 145 yX12_borders ∈ lw_g := in_g (t8_in (List.mem_of_getElem? (i := 153) rfl)) rfl
set_option maxRecDepth 100000 in
theorem wd1961 : Cond.instanceMethod yX12_borders ∈ lw_g := in_g (t8_in (List.mem_of_getElem? (i := 154) rfl)) rfl
set_option maxRecDepth 100000 in
theorem wd1962 : Cond.selects RX12 yX12_borders yX12_borders ∈ lw_g := in_g (t8_in (List.mem_of_getElem? (i := 155) rfl)) rfl
set_option maxRecDepth 100000 in
theorem wd1963 : Cond.code yX12_borders cX12_borders 2 (some .boolean) ∈ lw_g := in_g (t8_in (List.mem_of_getElem? (i := 156) rfl)) rfl
set_option maxRecDepth 100000 in
theorem wd1964 : Cond.methodLink RL 149 yX12_toBorder ∈ lw_g := in_g (t8_in (List.mem_of_getElem? (i := 157) rfl)) rfl
set_option maxRecDepth 100000 in
theorem wd1965 : Cond.instanceMethod yX12_toBorder ∈ lw_g := in_g (t8_in (List.mem_of_getElem? (i := 158) rfl)) rfl
set_option maxRecDepth 100000 in
theorem wd1966 : Cond.selects RX12 yX12_toBorder yX12_toBorder ∈ lw_g := in_g (t8_in (List.mem_of_getElem? (i := 159) rfl)) rfl
set_option maxRecDepth 100000 in
theorem wd1967 : Cond.code yX12_toBorder cX12_toBorder 4 (some .int) ∈ lw_g := in_g (t8_in (List.mem_of_getElem? (i := 160) rfl)) rfl
set_option maxRecDepth 100000 in
theorem wd1968 : Cond.methodLink RL 137 yX12_helpers ∈ lw_g := in_g (t8_in (List.mem_of_getElem? (i := 161) rfl)) rfl
set_option maxRecDepth 100000 in
theorem wd1969 : Cond.instanceMethod yX12_helpers ∈ lw_g := in_g (t8_in (List.mem_of_getElem? (i := 162) rfl)) rfl
set_option maxRecDepth 100000 in
theorem wd1970 : Cond.selects RX12 yX12_helpers yX12_helpers ∈ lw_g := in_g (t8_in (List.mem_of_getElem? (i := 163) rfl)) rfl
set_option maxRecDepth 100000 in
theorem wd1971 : Cond.code yX12_helpers cX12_helpers 4 (some .int) ∈ lw_g := in_g (t8_in (List.mem_of_getElem? (i := 164) rfl)) rfl
set_option maxRecDepth 100000 in
theorem wd1972 : Cond.methodLink RL 141 yX12_watch ∈ lw_g := in_g (t8_in (List.mem_of_getElem? (i := 165) rfl)) rfl
set_option maxRecDepth 100000 in
theorem wd1973 : Cond.instanceMethod yX12_watch ∈ lw_g := in_g (t8_in (List.mem_of_getElem? (i := 166) rfl)) rfl
set_option maxRecDepth 100000 in
theorem wd1974 : Cond.selects RX12 yX12_watch yX12_watch ∈ lw_g := in_g (t8_in (List.mem_of_getElem? (i := 167) rfl)) rfl
set_option maxRecDepth 100000 in
theorem wd1975 : Cond.code yX12_watch cX12_watch 5 (some .int) ∈ lw_g := in_g (t8_in (List.mem_of_getElem? (i := 168) rfl)) rfl
set_option maxRecDepth 100000 in
theorem wd1980 : Cond.methodLink RL 129 yX12_crowd ∈ lw_g := in_g (t8_in (List.mem_of_getElem? (i := 173) rfl)) rfl
set_option maxRecDepth 100000 in
theorem wd1981 : Cond.instanceMethod yX12_crowd ∈ lw_g := in_g (t8_in (List.mem_of_getElem? (i := 174) rfl)) rfl
set_option maxRecDepth 100000 in
theorem wd1982 : Cond.selects RX12 yX12_crowd yX12_crowd ∈ lw_g := in_g (t8_in (List.mem_of_getElem? (i := 175) rfl)) rfl
set_option maxRecDepth 100000 in
theorem wd1983 : Cond.code yX12_crowd cX12_crowd 2 (some .int) ∈ lw_g := in_g (t8_in (List.mem_of_getElem? (i := 176) rfl)) rfl
set_option maxRecDepth 100000 in
theorem wd1984 : Cond.methodLink RL 133 yX12_inCrowd ∈ lw_g := in_g (t8_in (List.mem_of_getElem? (i := 177) rfl)) rfl
set_option maxRecDepth 100000 in
theorem wd1985 : Cond.instanceMethod yX12_inCrowd ∈ lw_g := in_g (t8_in (List.mem_of_getElem? (i := 178) rfl)) rfl
set_option maxRecDepth 100000 in
theorem wd1986 : Cond.selects RX12 yX12_inCrowd yX12_inCrowd ∈ lw_g := in_g (t8_in (List.mem_of_getElem? (i := 179) rfl)) rfl
set_option maxRecDepth 100000 in
theorem wd1987 : Cond.code yX12_inCrowd cX12_inCrowd 10 (some .int) ∈ lw_g := in_g (t8_in (List.mem_of_getElem? (i := 180) rfl)) rfl
set_option maxRecDepth 100000 in
theorem wd1992 : Cond.methodLink RL 153 yX12_reports ∈ lw_g := in_g (t8_in (List.mem_of_getElem? (i := 185) rfl)) rfl
set_option maxRecDepth 100000 in
theorem wd1993 : Cond.instanceMethod yX12_reports ∈ lw_g := in_g (t8_in (List.mem_of_getElem? (i := 186) rfl)) rfl
set_option maxRecDepth 100000 in
theorem wd1994 : Cond.selects RX12 yX12_reports yX12_reports ∈ lw_g := in_g (t8_in (List.mem_of_getElem? (i := 187) rfl)) rfl
set_option maxRecDepth 100000 in
theorem wd1995 : Cond.code yX12_reports cX12_reports 2 (some .boolean) ∈ lw_g := in_g (t8_in (List.mem_of_getElem? (i := 188) rfl)) rfl
set_option maxRecDepth 100000 in
theorem wd1996 : Cond.methodLink RL 157 yX12_unlike ∈ lw_g := in_g (t8_in (List.mem_of_getElem? (i := 189) rfl)) rfl
set_option maxRecDepth 100000 in
theorem wd1997 : Cond.instanceMethod yX12_unlike ∈ lw_g := in_g (t8_in (List.mem_of_getElem? (i := 190) rfl)) rfl
set_option maxRecDepth 100000 in
theorem wd1998 : Cond.selects RX12 yX12_unlike yX12_unlike ∈ lw_g := in_g (t8_in (List.mem_of_getElem? (i := 191) rfl)) rfl
set_option maxRecDepth 100000 in
theorem wd1999 : Cond.code yX12_unlike cX12_unlike 3 (some .int) ∈ lw_g := in_g (t8_in (List.mem_of_getElem? (i := 192) rfl)) rfl
set_option maxRecDepth 100000 in
theorem wd2000 : Cond.methodLink RL 161 yX12_heads ∈ lw_g := in_g (t8_in (List.mem_of_getElem? (i := 193) rfl)) rfl
set_option maxRecDepth 100000 in
theorem wd2001 : Cond.instanceMethod yX12_heads ∈ lw_g := in_g (t8_in (List.mem_of_getElem? (i := 194) rfl)) rfl
set_option maxRecDepth 100000 in
theorem wd2002 : Cond.selects RX12 yX12_heads yX12_heads ∈ lw_g := in_g (t8_in (List.mem_of_getElem? (i := 195) rfl)) rfl
set_option maxRecDepth 100000 in
theorem wd2003 : Cond.code yX12_heads cX12_heads 3 (some .int) ∈ lw_g := in_g (t8_in (List.mem_of_getElem? (i := 196) rfl)) rfl
set_option maxRecDepth 100000 in
theorem wd2012 : Cond.methodLink RL 166 yX12_has ∈ lw_g := in_g (t8_in (List.mem_of_getElem? (i := 205) rfl)) rfl
set_option maxRecDepth 100000 in
theorem wd2013 : Cond.instanceMethod yX12_has ∈ lw_g := in_g (t8_in (List.mem_of_getElem? (i := 206) rfl)) rfl
set_option maxRecDepth 100000 in
theorem wd2014 : Cond.selects RX12 yX12_has yX12_has ∈ lw_g := in_g (t8_in (List.mem_of_getElem? (i := 207) rfl)) rfl
set_option maxRecDepth 100000 in
theorem wd2015 : Cond.code yX12_has cX12_has 5 (some .boolean) ∈ lw_g := in_g (t8_in (List.mem_of_getElem? (i := 208) rfl)) rfl
set_option maxRecDepth 100000 in
theorem wd2016 : Cond.methodLink RL 170 yX12_rests ∈ lw_g := in_g (t8_in (List.mem_of_getElem? (i := 209) rfl)) rfl
set_option maxRecDepth 100000 in
theorem wd2017 : Cond.instanceMethod yX12_rests ∈ lw_g := in_g (t8_in (List.mem_of_getElem? (i := 210) rfl)) rfl
set_option maxRecDepth 100000 in
theorem wd2018 : Cond.selects RX12 yX12_rests yX12_rests ∈ lw_g := in_g (t8_in (List.mem_of_getElem? (i := 211) rfl)) rfl
set_option maxRecDepth 100000 in
theorem wd2019 : Cond.code yX12_rests cX12_rests 5 (some .int) ∈ lw_g := in_g (t8_in (List.mem_of_getElem? (i := 212) rfl)) rfl
set_option maxRecDepth 100000 in
theorem wd2020 : Cond.methodLink RL 175 yX12_mixed ∈ lw_g := in_g (t8_in (List.mem_of_getElem? (i := 213) rfl)) rfl
set_option maxRecDepth 100000 in
theorem wd2021 : Cond.instanceMethod yX12_mixed ∈ lw_g := in_g (t8_in (List.mem_of_getElem? (i := 214) rfl)) rfl
set_option maxRecDepth 100000 in
theorem wd2022 : Cond.selects RX12 yX12_mixed yX12_mixed ∈ lw_g := in_g (t8_in (List.mem_of_getElem? (i := 215) rfl)) rfl
set_option maxRecDepth 100000 in
theorem wd2023 : Cond.code yX12_mixed cX12_mixed 4 (some .int) ∈ lw_g := in_g (t8_in (List.mem_of_getElem? (i := 216) rfl)) rfl
set_option maxRecDepth 100000 in
theorem wd2024 : Cond.methodLink RL 195 yX12_paid ∈ lw_g := in_g (t8_in (List.mem_of_getElem? (i := 217) rfl)) rfl
set_option maxRecDepth 100000 in
theorem wd2025 : Cond.instanceMethod yX12_paid ∈ lw_g := in_g (t8_in (List.mem_of_getElem? (i := 218) rfl)) rfl
set_option maxRecDepth 100000 in
theorem wd2026 : Cond.selects RX12 yX12_paid yX12_paid ∈ lw_g := in_g (t8_in (List.mem_of_getElem? (i := 219) rfl)) rfl
set_option maxRecDepth 100000 in
theorem wd2027 : Cond.code yX12_paid cX12_paid 3 (some .int) ∈ lw_g := in_g (t8_in (List.mem_of_getElem? (i := 220) rfl)) rfl
set_option maxRecDepth 100000 in
theorem wd2028 : Cond.methodLink RL 199 yX12_whose ∈ lw_g := in_g (t8_in (List.mem_of_getElem? (i := 221) rfl)) rfl
set_option maxRecDepth 100000 in
theorem wd2029 : Cond.instanceMethod yX12_whose ∈ lw_g := in_g (t8_in (List.mem_of_getElem? (i := 222) rfl)) rfl
set_option maxRecDepth 100000 in
theorem wd2030 : Cond.selects RX12 yX12_whose yX12_whose ∈ lw_g := in_g (t8_in (List.mem_of_getElem? (i := 223) rfl)) rfl
set_option maxRecDepth 100000 in
theorem wd2031 : Cond.code yX12_whose cX12_whose 5 (some .int) ∈ lw_g := in_g (t8_in (List.mem_of_getElem? (i := 224) rfl)) rfl
set_option maxRecDepth 100000 in
theorem wd2032 : Cond.methodLink RL 203 yX12_image ∈ lw_g := in_g (t8_in (List.mem_of_getElem? (i := 225) rfl)) rfl
set_option maxRecDepth 100000 in
theorem wd2033 : Cond.instanceMethod yX12_image ∈ lw_g := in_g (t8_in (List.mem_of_getElem? (i := 226) rfl)) rfl
set_option maxRecDepth 100000 in
theorem wd2034 : Cond.selects RX12 yX12_image yX12_image ∈ lw_g := in_g (t8_in (List.mem_of_getElem? (i := 227) rfl)) rfl
set_option maxRecDepth 100000 in
theorem wd2035 : Cond.code yX12_image cX12_image 1 (some .int) ∈ lw_g := in_g (t8_in (List.mem_of_getElem? (i := 228) rfl)) rfl
set_option maxRecDepth 100000 in
theorem wd2036 : Cond.methodLink RL 207 yX12_back ∈ lw_g := in_g (t8_in (List.mem_of_getElem? (i := 229) rfl)) rfl
set_option maxRecDepth 100000 in
theorem wd2037 : Cond.instanceMethod yX12_back ∈ lw_g := in_g (t8_in (List.mem_of_getElem? (i := 230) rfl)) rfl
set_option maxRecDepth 100000 in
theorem wd2038 : Cond.selects RX12 yX12_back yX12_back ∈ lw_g := in_g (t8_in (List.mem_of_getElem? (i := 231) rfl)) rfl
set_option maxRecDepth 100000 in
theorem wd2039 : Cond.code yX12_back cX12_back 1 (some .int) ∈ lw_g := in_g (t8_in (List.mem_of_getElem? (i := 232) rfl)) rfl
set_option maxRecDepth 100000 in
theorem wd2040 : Cond.methodLink RL 211 yX12_about ∈ lw_g := in_g (t8_in (List.mem_of_getElem? (i := 233) rfl)) rfl
set_option maxRecDepth 100000 in
theorem wd2041 : Cond.instanceMethod yX12_about ∈ lw_g := in_g (t8_in (List.mem_of_getElem? (i := 234) rfl)) rfl
set_option maxRecDepth 100000 in
theorem wd2042 : Cond.selects RX12 yX12_about yX12_about ∈ lw_g := in_g (t8_in (List.mem_of_getElem? (i := 235) rfl)) rfl
set_option maxRecDepth 100000 in
theorem wd2043 : Cond.code yX12_about cX12_about 2 (some .int) ∈ lw_g := in_g (t8_in (List.mem_of_getElem? (i := 236) rfl)) rfl
variable {p : Program} {l : Launch} {e : Env} {R : Room} {s : State} {m : MethodId} {args : Array Value} {below : List Frame} {meth : Method} {c : Code} {H : Heap} {locs : List Loc} {cells slots : Nat} {Q : State → Prop}
variable {cc bytes : ByteArray} {pc nL maxL index n : Nat} {ls : Array Slot} {rest st : List Value} {A : Nat → Prop} {H0 : Heap} {D : va_G} {tys : List (ClassId × FieldType)} {ws wc wr w1 : va_W} {rm : Room} {b : Addr}
theorem kwL_13 (ht : ∀ w ∈ lw_g, w.before args s = true) (hrc : rm.cells = 0) (hrs : rm.slots = 0) (hR : rm.frames + 1 ≤ R.frames ∧ 8 + (2 + 11) + rm.locals ≤ R.locals) : CallW R s args RL RX11 13 yX11_land cX11_land 2 (some .int) (mw yX11_land cX11_land 2 (some .int)) rm 0 0 1 :=
  mcw_V 1 ht wd499 wd128 wd502 wd500 wd501 ⟨by decide, by decide, by decide +kernel⟩ hrc hrs hR
theorem kwL_17 (ht : ∀ w ∈ lw_g, w.before args s = true) (hrc : rm.cells = 0) (hrs : rm.slots = 0) (hR : rm.frames + 1 ≤ R.frames ∧ 8 + (2 + 11) + rm.locals ≤ R.locals) : CallW R s args RL RX12 17 yX12_land cX12_land 2 (some .int) (mw yX12_land cX12_land 2 (some .int)) rm 0 0 1 :=
  mcw_V 1 ht wd1466 wd140 wd1469 wd1467 wd1468 ⟨by decide, by decide, by decide +kernel⟩ hrc hrs hR
theorem kwL_18 (ht : ∀ w ∈ lw_g, w.before args s = true) (hrc : rm.cells = 0) (hrs : rm.slots = 0) (hR : rm.frames + 1 ≤ R.frames ∧ 8 + (3 + 11) + rm.locals ≤ R.locals) : CallW R s args RL RX11 18 yX11_road cX11_road 3 (some .boolean) (mw yX11_road cX11_road 3 (some .boolean)) rm 0 0 2 :=
  mcw_V 2 ht wd507 wd128 wd510 wd508 wd509 ⟨by decide, by decide, by decide +kernel⟩ hrc hrs hR
theorem kwL_22 (ht : ∀ w ∈ lw_g, w.before args s = true) (hrc : rm.cells = 0) (hrs : rm.slots = 0) (hR : rm.frames + 1 ≤ R.frames ∧ 8 + (3 + 11) + rm.locals ≤ R.locals) : CallW R s args RL RX12 22 yX12_road cX12_road 3 (some .boolean) (mw yX12_road cX12_road 3 (some .boolean)) rm 0 0 2 :=
  mcw_V 2 ht wd1473 wd140 wd1476 wd1474 wd1475 ⟨by decide, by decide, by decide +kernel⟩ hrc hrs hR
theorem kwL_23 (ht : ∀ w ∈ lw_g, w.before args s = true) (hrc : rm.cells = 0) (hrs : rm.slots = 0) (hR : rm.frames + 1 ≤ R.frames ∧ 8 + (5 + 11) + rm.locals ≤ R.locals) : CallW R s args RL RX11 23 yX11_person cX11_person 5 (some .int) (mw yX11_person cX11_person 5 (some .int)) rm 0 0 4 :=
  mcw_V 4 ht wd523 wd128 wd526 wd524 wd525 ⟨by decide, by decide, by decide +kernel⟩ hrc hrs hR
theorem kwL_27 (ht : ∀ w ∈ lw_g, w.before args s = true) (hrc : rm.cells = 0) (hrs : rm.slots = 0) (hR : rm.frames + 1 ≤ R.frames ∧ 8 + (6 + 11) + rm.locals ≤ R.locals) : CallW R s args RL RX12 27 yX12_person cX12_person 6 (some .int) (mw yX12_person cX12_person 6 (some .int)) rm 0 0 4 :=
  mcw_V 4 ht wd1484 wd140 wd1487 wd1485 wd1486 ⟨by decide, by decide, by decide +kernel⟩ hrc hrs hR
theorem kwL_28 (ht : ∀ w ∈ lw_g, w.before args s = true) (hrc : rm.cells = 0) (hrs : rm.slots = 0) (hR : rm.frames + 1 ≤ R.frames ∧ 8 + (6 + 11) + rm.locals ≤ R.locals) : CallW R s args RL RX11 28 yX11_feed cX11_feed 6 (some .int) (mw yX11_feed cX11_feed 6 (some .int)) rm 0 0 5 :=
  mcw_V 5 ht wd548 wd128 wd551 wd549 wd550 ⟨by decide, by decide, by decide +kernel⟩ hrc hrs hR
theorem kwL_32 (ht : ∀ w ∈ lw_g, w.before args s = true) (hrc : rm.cells = 0) (hrs : rm.slots = 0) (hR : rm.frames + 1 ≤ R.frames ∧ 8 + (6 + 11) + rm.locals ≤ R.locals) : CallW R s args RL RX12 32 yX12_feed cX12_feed 6 (some .int) (mw yX12_feed cX12_feed 6 (some .int)) rm 0 0 5 :=
  mcw_V 5 ht wd1500 wd140 wd1503 wd1501 wd1502 ⟨by decide, by decide, by decide +kernel⟩ hrc hrs hR
theorem kwL_33 (ht : ∀ w ∈ lw_g, w.before args s = true) (hrc : rm.cells = 0) (hrs : rm.slots = 0) (hR : rm.frames + 1 ≤ R.frames ∧ 8 + (2 + 11) + rm.locals ≤ R.locals) : CallW R s args RL RX11 33 yX11_end cX11_end 2 (some .int) (mw yX11_end cX11_end 2 (some .int)) rm 0 0 1 :=
  mcw_V 1 ht wd560 wd128 wd563 wd561 wd562 ⟨by decide, by decide, by decide +kernel⟩ hrc hrs hR
theorem kwL_36 (ht : ∀ w ∈ lw_g, w.before args s = true) (hrc : rm.cells = 0) (hrs : rm.slots = 0) (hR : rm.frames + 1 ≤ R.frames ∧ 8 + (2 + 11) + rm.locals ≤ R.locals) : CallW R s args RL RX12 36 yX12_end cX12_end 2 (some .int) (mw yX12_end cX12_end 2 (some .int)) rm 0 0 1 :=
  mcw_V 1 ht wd1508 wd140 wd1511 wd1509 wd1510 ⟨by decide, by decide, by decide +kernel⟩ hrc hrs hR
theorem kwL_37 (ht : ∀ w ∈ lw_g, w.before args s = true) (hrc : rm.cells = 0) (hrs : rm.slots = 0) (hR : rm.frames + 1 ≤ R.frames ∧ 8 + (3 + 11) + rm.locals ≤ R.locals) : CallW R s args RL RX11 37 yX11_text cX11_text 3 (some .int) (mw yX11_text cX11_text 3 (some .int)) rm 0 0 0 :=
  mcw_V 0 ht wd564 wd128 wd567 wd565 wd566 ⟨by decide, by decide, by decide +kernel⟩ hrc hrs hR
theorem kwL_41 (ht : ∀ w ∈ lw_g, w.before args s = true) (hrc : rm.cells = 0) (hrs : rm.slots = 0) (hR : rm.frames + 1 ≤ R.frames ∧ 8 + (1 + 11) + rm.locals ≤ R.locals) : CallW R s args RL RX12 41 yX12_text cX12_text 1 (some .int) (mw yX12_text cX12_text 1 (some .int)) rm 0 0 0 :=
  mcw_V 0 ht wd1512 wd140 wd1515 wd1513 wd1514 ⟨by decide, by decide, by decide +kernel⟩ hrc hrs hR
theorem kwL_42 (ht : ∀ w ∈ lw_g, w.before args s = true) (hrc : rm.cells = 0) (hrs : rm.slots = 0) (hR : rm.frames + 1 ≤ R.frames ∧ 8 + (2 + 11) + rm.locals ≤ R.locals) : CallW R s args RL RX11 42 yX11_fault cX11_fault 2 (some .int) (mw yX11_fault cX11_fault 2 (some .int)) rm 0 0 1 :=
  mcw_V 1 ht wd773 wd128 wd776 wd774 wd775 ⟨by decide, by decide, by decide +kernel⟩ hrc hrs hR
theorem kwL_45 (ht : ∀ w ∈ lw_g, w.before args s = true) (hrc : rm.cells = 0) (hrs : rm.slots = 0) (hR : rm.frames + 1 ≤ R.frames ∧ 8 + (2 + 11) + rm.locals ≤ R.locals) : CallW R s args RL RX12 45 yX12_fault cX12_fault 2 (some .int) (mw yX12_fault cX12_fault 2 (some .int)) rm 0 0 1 :=
  mcw_V 1 ht wd1657 wd140 wd1660 wd1658 wd1659 ⟨by decide, by decide, by decide +kernel⟩ hrc hrs hR
theorem kwL_46 (ht : ∀ w ∈ lw_g, w.before args s = true) (hrc : rm.cells = 0) (hrs : rm.slots = 0) (hR : rm.frames + 1 ≤ R.frames ∧ 8 + (2 + 11) + rm.locals ≤ R.locals) : CallW R s args RL RX11 46 yX11_by cX11_by 2 (some .boolean) (mw yX11_by cX11_by 2 (some .boolean)) rm 0 0 1 :=
  mcw_V 1 ht wd777 wd128 wd780 wd778 wd779 ⟨by decide, by decide, by decide +kernel⟩ hrc hrs hR
theorem kwL_50 (ht : ∀ w ∈ lw_g, w.before args s = true) (hrc : rm.cells = 0) (hrs : rm.slots = 0) (hR : rm.frames + 1 ≤ R.frames ∧ 8 + (2 + 11) + rm.locals ≤ R.locals) : CallW R s args RL RX12 50 yX12_by cX12_by 2 (some .boolean) (mw yX12_by cX12_by 2 (some .boolean)) rm 0 0 1 :=
  mcw_V 1 ht wd1661 wd140 wd1664 wd1662 wd1663 ⟨by decide, by decide, by decide +kernel⟩ hrc hrs hR
theorem kwL_51 (ht : ∀ w ∈ lw_g, w.before args s = true) (hrc : rm.cells = 0) (hrs : rm.slots = 0) (hR : rm.frames + 1 ≤ R.frames ∧ 8 + (4 + 11) + rm.locals ≤ R.locals) : CallW R s args RL RX11 51 yX11_call cX11_call 4 (some .int) (mw yX11_call cX11_call 4 (some .int)) rm 0 0 2 :=
  mcw_V 2 ht wd785 wd128 wd788 wd786 wd787 ⟨by decide, by decide, by decide +kernel⟩ hrc hrs hR
theorem kwL_55 (ht : ∀ w ∈ lw_g, w.before args s = true) (hrc : rm.cells = 0) (hrs : rm.slots = 0) (hR : rm.frames + 1 ≤ R.frames ∧ 8 + (3 + 11) + rm.locals ≤ R.locals) : CallW R s args RL RX12 55 yX12_call cX12_call 3 (some .int) (mw yX12_call cX12_call 3 (some .int)) rm 0 0 2 :=
  mcw_V 2 ht wd1669 wd140 wd1672 wd1670 wd1671 ⟨by decide, by decide, by decide +kernel⟩ hrc hrs hR
theorem kwL_56 (ht : ∀ w ∈ lw_g, w.before args s = true) (hrc : rm.cells = 0) (hrs : rm.slots = 0) (hR : rm.frames + 1 ≤ R.frames ∧ 8 + (4 + 11) + rm.locals ≤ R.locals) : CallW R s args RL RX11 56 yX11_move cX11_move 4 (some .boolean) (mw yX11_move cX11_move 4 (some .boolean)) rm 0 0 2 :=
  mcw_V 2 ht wd832 wd128 wd835 wd833 wd834 ⟨by decide, by decide, by decide +kernel⟩ hrc hrs hR
theorem kwL_59 (ht : ∀ w ∈ lw_g, w.before args s = true) (hrc : rm.cells = 0) (hrs : rm.slots = 0) (hR : rm.frames + 1 ≤ R.frames ∧ 8 + (3 + 11) + rm.locals ≤ R.locals) : CallW R s args RL RX12 59 yX12_move cX12_move 3 (some .boolean) (mw yX12_move cX12_move 3 (some .boolean)) rm 0 0 2 :=
  mcw_V 2 ht wd1697 wd140 wd1700 wd1698 wd1699 ⟨by decide, by decide, by decide +kernel⟩ hrc hrs hR
theorem kwL_60 (ht : ∀ w ∈ lw_g, w.before args s = true) (hrc : rm.cells = 0) (hrs : rm.slots = 0) (hR : rm.frames + 1 ≤ R.frames ∧ 8 + (4 + 11) + rm.locals ≤ R.locals) : CallW R s args RL RX11 60 yX11_feeds cX11_feeds 4 (some .int) (mw yX11_feeds cX11_feeds 4 (some .int)) rm 0 0 2 :=
  mcw_V 2 ht wd841 wd128 wd844 wd842 wd843 ⟨by decide, by decide, by decide +kernel⟩ hrc hrs hR
theorem kwL_63 (ht : ∀ w ∈ lw_g, w.before args s = true) (hrc : rm.cells = 0) (hrs : rm.slots = 0) (hR : rm.frames + 1 ≤ R.frames ∧ 8 + (3 + 11) + rm.locals ≤ R.locals) : CallW R s args RL RX12 63 yX12_feeds cX12_feeds 3 (some .int) (mw yX12_feeds cX12_feeds 3 (some .int)) rm 0 0 2 :=
  mcw_V 2 ht wd1705 wd140 wd1708 wd1706 wd1707 ⟨by decide, by decide, by decide +kernel⟩ hrc hrs hR
theorem kwL_64 (ht : ∀ w ∈ lw_g, w.before args s = true) (hrc : rm.cells = 0) (hrs : rm.slots = 0) (hR : rm.frames + 1 ≤ R.frames ∧ 8 + (4 + 11) + rm.locals ≤ R.locals) : CallW R s args RL RX11 64 yX11_kill cX11_kill 4 (some .boolean) (mw yX11_kill cX11_kill 4 (some .boolean)) rm 0 0 2 :=
  mcw_V 2 ht wd932 wd128 wd935 wd933 wd934 ⟨by decide, by decide, by decide +kernel⟩ hrc hrs hR
theorem kwL_67 (ht : ∀ w ∈ lw_g, w.before args s = true) (hrc : rm.cells = 0) (hrs : rm.slots = 0) (hR : rm.frames + 1 ≤ R.frames ∧ 8 + (3 + 11) + rm.locals ≤ R.locals) : CallW R s args RL RX12 67 yX12_kill cX12_kill 3 (some .boolean) (mw yX12_kill cX12_kill 3 (some .boolean)) rm 0 0 2 :=
  mcw_V 2 ht wd1784 wd140 wd1787 wd1785 wd1786 ⟨by decide, by decide, by decide +kernel⟩ hrc hrs hR
theorem kwL_68 (ht : ∀ w ∈ lw_g, w.before args s = true) (hrc : rm.cells = 0) (hrs : rm.slots = 0) (hR : rm.frames + 1 ≤ R.frames ∧ 8 + (4 + 11) + rm.locals ≤ R.locals) : CallW R s args RL RX11 68 yX11_pardon cX11_pardon 4 (some .int) (mw yX11_pardon cX11_pardon 4 (some .int)) rm 0 0 2 :=
  mcw_V 2 ht wd944 wd128 wd947 wd945 wd946 ⟨by decide, by decide, by decide +kernel⟩ hrc hrs hR
theorem kwL_71 (ht : ∀ w ∈ lw_g, w.before args s = true) (hrc : rm.cells = 0) (hrs : rm.slots = 0) (hR : rm.frames + 1 ≤ R.frames ∧ 8 + (3 + 11) + rm.locals ≤ R.locals) : CallW R s args RL RX12 71 yX12_pardon cX12_pardon 3 (some .int) (mw yX12_pardon cX12_pardon 3 (some .int)) rm 0 0 2 :=
  mcw_V 2 ht wd1800 wd140 wd1803 wd1801 wd1802 ⟨by decide, by decide, by decide +kernel⟩ hrc hrs hR
theorem kwL_72 (ht : ∀ w ∈ lw_g, w.before args s = true) (hrc : rm.cells = 0) (hrs : rm.slots = 0) (hR : rm.frames + 1 ≤ R.frames ∧ 8 + (4 + 11) + rm.locals ≤ R.locals) : CallW R s args RL RX11 72 yX11_month cX11_month 4 (some .int) (mw yX11_month cX11_month 4 (some .int)) rm 0 0 1 :=
  mcw_V 1 ht wd956 wd128 wd959 wd957 wd958 ⟨by decide, by decide, by decide +kernel⟩ hrc hrs hR
theorem kwL_75 (ht : ∀ w ∈ lw_g, w.before args s = true) (hrc : rm.cells = 0) (hrs : rm.slots = 0) (hR : rm.frames + 1 ≤ R.frames ∧ 8 + (2 + 11) + rm.locals ≤ R.locals) : CallW R s args RL RX12 75 yX12_month cX12_month 2 (some .int) (mw yX12_month cX12_month 2 (some .int)) rm 0 0 1 :=
  mcw_V 1 ht wd1816 wd140 wd1819 wd1817 wd1818 ⟨by decide, by decide, by decide +kernel⟩ hrc hrs hR
theorem kwL_76 (ht : ∀ w ∈ lw_g, w.before args s = true) (hrc : rm.cells = 0) (hrs : rm.slots = 0) (hR : rm.frames + 1 ≤ R.frames ∧ 8 + (4 + 11) + rm.locals ≤ R.locals) : CallW R s args RL RX11 76 yX11_played cX11_played 4 (some .int) (mw yX11_played cX11_played 4 (some .int)) rm 0 0 1 :=
  mcw_V 1 ht wd980 wd128 wd983 wd981 wd982 ⟨by decide, by decide, by decide +kernel⟩ hrc hrs hR
theorem kwL_79 (ht : ∀ w ∈ lw_g, w.before args s = true) (hrc : rm.cells = 0) (hrs : rm.slots = 0) (hR : rm.frames + 1 ≤ R.frames ∧ 8 + (3 + 11) + rm.locals ≤ R.locals) : CallW R s args RL RX12 79 yX12_played cX12_played 3 (some .int) (mw yX12_played cX12_played 3 (some .int)) rm 0 0 1 :=
  mcw_V 1 ht wd1840 wd140 wd1843 wd1841 wd1842 ⟨by decide, by decide, by decide +kernel⟩ hrc hrs hR
theorem kwL_80 (ht : ∀ w ∈ lw_g, w.before args s = true) (hrc : rm.cells = 0) (hrs : rm.slots = 0) (hR : rm.frames + 1 ≤ R.frames ∧ 8 + (4 + 11) + rm.locals ≤ R.locals) : CallW R s args RL RX11 80 yX11_reigns cX11_reigns 4 (some .int) (mw yX11_reigns cX11_reigns 4 (some .int)) rm 0 0 2 :=
  mcw_V 2 ht wd1004 wd128 wd1007 wd1005 wd1006 ⟨by decide, by decide, by decide +kernel⟩ hrc hrs hR
theorem kwL_83 (ht : ∀ w ∈ lw_g, w.before args s = true) (hrc : rm.cells = 0) (hrs : rm.slots = 0) (hR : rm.frames + 1 ≤ R.frames ∧ 8 + (5 + 11) + rm.locals ≤ R.locals) : CallW R s args RL RX12 83 yX12_reigns cX12_reigns 5 (some .int) (mw yX12_reigns cX12_reigns 5 (some .int)) rm 0 0 2 :=
  mcw_V 2 ht wd1856 wd140 wd1859 wd1857 wd1858 ⟨by decide, by decide, by decide +kernel⟩ hrc hrs hR
theorem kwL_84 (ht : ∀ w ∈ lw_g, w.before args s = true) (hrc : rm.cells = 0) (hrs : rm.slots = 0) (hR : rm.frames + 1 ≤ R.frames ∧ 8 + (1 + 11) + rm.locals ≤ R.locals) : CallW R s args RL RX11 84 yX11_undo cX11_undo 1 (some .int) (mw yX11_undo cX11_undo 1 (some .int)) rm 0 0 0 :=
  mcw_V 0 ht wd1022 wd128 wd1025 wd1023 wd1024 ⟨by decide, by decide, by decide +kernel⟩ hrc hrs hR
theorem kwL_87 (ht : ∀ w ∈ lw_g, w.before args s = true) (hrc : rm.cells = 0) (hrs : rm.slots = 0) (hR : rm.frames + 1 ≤ R.frames ∧ 8 + (4 + 11) + rm.locals ≤ R.locals) : CallW R s args RL RX12 87 yX12_undo cX12_undo 4 (some .int) (mw yX12_undo cX12_undo 4 (some .int)) rm 0 0 0 :=
  mcw_V 0 ht wd1665 wd140 wd1668 wd1666 wd1667 ⟨by decide, by decide, by decide +kernel⟩ hrc hrs hR
theorem kwL_88 (ht : ∀ w ∈ lw_g, w.before args s = true) (hrc : rm.cells = 0) (hrs : rm.slots = 0) (hR : rm.frames + 1 ≤ R.frames ∧ 8 + (4 + 11) + rm.locals ≤ R.locals) : CallW R s args RL RX11 88 yX11_of cX11_of 4 (some .int) (mw yX11_of cX11_of 4 (some .int)) rm 0 0 2 :=
  mcw_V 2 ht wd1035 wd128 wd1038 wd1036 wd1037 ⟨by decide, by decide, by decide +kernel⟩ hrc hrs hR
theorem kwL_91 (ht : ∀ w ∈ lw_g, w.before args s = true) (hrc : rm.cells = 0) (hrs : rm.slots = 0) (hR : rm.frames + 1 ≤ R.frames ∧ 8 + (3 + 11) + rm.locals ≤ R.locals) : CallW R s args RL RX12 91 yX12_of cX12_of 3 (some .int) (mw yX12_of cX12_of 3 (some .int)) rm 0 0 2 :=
  mcw_V 2 ht wd1864 wd140 wd1867 wd1865 wd1866 ⟨by decide, by decide, by decide +kernel⟩ hrc hrs hR
theorem kwL_92 (ht : ∀ w ∈ lw_g, w.before args s = true) (hrc : rm.cells = 0) (hrs : rm.slots = 0) (hR : rm.frames + 1 ≤ R.frames ∧ 8 + (3 + 11) + rm.locals ≤ R.locals) : CallW R s args RL RX11 92 yX11_ofLand cX11_ofLand 3 (some .int) (mw yX11_ofLand cX11_ofLand 3 (some .int)) rm 0 0 2 :=
  mcw_V 2 ht wd1045 wd128 wd1048 wd1046 wd1047 ⟨by decide, by decide, by decide +kernel⟩ hrc hrs hR
theorem kwL_95 (ht : ∀ w ∈ lw_g, w.before args s = true) (hrc : rm.cells = 0) (hrs : rm.slots = 0) (hR : rm.frames + 1 ≤ R.frames ∧ 8 + (3 + 11) + rm.locals ≤ R.locals) : CallW R s args RL RX12 95 yX12_ofLand cX12_ofLand 3 (some .int) (mw yX12_ofLand cX12_ofLand 3 (some .int)) rm 0 0 2 :=
  mcw_V 2 ht wd1868 wd140 wd1871 wd1869 wd1870 ⟨by decide, by decide, by decide +kernel⟩ hrc hrs hR
theorem kwL_96 (ht : ∀ w ∈ lw_g, w.before args s = true) (hrc : rm.cells = 0) (hrs : rm.slots = 0) (hR : rm.frames + 1 ≤ R.frames ∧ 8 + (2 + 11) + rm.locals ≤ R.locals) : CallW R s args RL RX11 96 yX11_is cX11_is 2 (some .int) (mw yX11_is cX11_is 2 (some .int)) rm 0 0 1 :=
  mcw_V 1 ht wd1054 wd128 wd1057 wd1055 wd1056 ⟨by decide, by decide, by decide +kernel⟩ hrc hrs hR
theorem kwL_99 (ht : ∀ w ∈ lw_g, w.before args s = true) (hrc : rm.cells = 0) (hrs : rm.slots = 0) (hR : rm.frames + 1 ≤ R.frames ∧ 8 + (2 + 11) + rm.locals ≤ R.locals) : CallW R s args RL RX12 99 yX12_is cX12_is 2 (some .int) (mw yX12_is cX12_is 2 (some .int)) rm 0 0 1 :=
  mcw_V 1 ht wd1876 wd140 wd1879 wd1877 wd1878 ⟨by decide, by decide, by decide +kernel⟩ hrc hrs hR
theorem kwL_100 (ht : ∀ w ∈ lw_g, w.before args s = true) (hrc : rm.cells = 0) (hrs : rm.slots = 0) (hR : rm.frames + 1 ≤ R.frames ∧ 8 + (3 + 11) + rm.locals ≤ R.locals) : CallW R s args RL RX11 100 yX11_book cX11_book 3 (some .int) (mw yX11_book cX11_book 3 (some .int)) rm 0 0 2 :=
  mcw_V 2 ht wd1058 wd128 wd1061 wd1059 wd1060 ⟨by decide, by decide, by decide +kernel⟩ hrc hrs hR
theorem kwL_103 (ht : ∀ w ∈ lw_g, w.before args s = true) (hrc : rm.cells = 0) (hrs : rm.slots = 0) (hR : rm.frames + 1 ≤ R.frames ∧ 8 + (3 + 11) + rm.locals ≤ R.locals) : CallW R s args RL RX12 103 yX12_book cX12_book 3 (some .int) (mw yX12_book cX12_book 3 (some .int)) rm 0 0 2 :=
  mcw_V 2 ht wd1880 wd140 wd1883 wd1881 wd1882 ⟨by decide, by decide, by decide +kernel⟩ hrc hrs hR
theorem kwL_104 (ht : ∀ w ∈ lw_g, w.before args s = true) (hrc : rm.cells = 0) (hrs : rm.slots = 0) (hR : rm.frames + 1 ≤ R.frames ∧ 8 + (5 + 11) + rm.locals ≤ R.locals) : CallW R s args RL RX11 104 yX11_foretold cX11_foretold 5 (some .int) (mw yX11_foretold cX11_foretold 5 (some .int)) rm 0 0 3 :=
  mcw_V 3 ht wd1082 wd128 wd1085 wd1083 wd1084 ⟨by decide, by decide, by decide +kernel⟩ hrc hrs hR
theorem kwL_108 (ht : ∀ w ∈ lw_g, w.before args s = true) (hrc : rm.cells = 0) (hrs : rm.slots = 0) (hR : rm.frames + 1 ≤ R.frames ∧ 8 + (5 + 11) + rm.locals ≤ R.locals) : CallW R s args RL RX12 108 yX12_foretold cX12_foretold 5 (some .int) (mw yX12_foretold cX12_foretold 5 (some .int)) rm 0 0 3 :=
  mcw_V 3 ht wd1909 wd140 wd1912 wd1910 wd1911 ⟨by decide, by decide, by decide +kernel⟩ hrc hrs hR
theorem kwL_109 (ht : ∀ w ∈ lw_g, w.before args s = true) (hrc : rm.cells = 0) (hrs : rm.slots = 0) (hR : rm.frames + 1 ≤ R.frames ∧ 8 + (4 + 11) + rm.locals ≤ R.locals) : CallW R s args RL RX11 109 yX11_toPay cX11_toPay 4 (some .int) (mw yX11_toPay cX11_toPay 4 (some .int)) rm 0 0 2 :=
  mcw_V 2 ht wd1090 wd128 wd1093 wd1091 wd1092 ⟨by decide, by decide, by decide +kernel⟩ hrc hrs hR
theorem kwL_112 (ht : ∀ w ∈ lw_g, w.before args s = true) (hrc : rm.cells = 0) (hrs : rm.slots = 0) (hR : rm.frames + 1 ≤ R.frames ∧ 8 + (5 + 11) + rm.locals ≤ R.locals) : CallW R s args RL RX12 112 yX12_toPay cX12_toPay 5 (some .int) (mw yX12_toPay cX12_toPay 5 (some .int)) rm 0 0 2 :=
  mcw_V 2 ht wd1921 wd140 wd1924 wd1922 wd1923 ⟨by decide, by decide, by decide +kernel⟩ hrc hrs hR
theorem kwL_113 (ht : ∀ w ∈ lw_g, w.before args s = true) (hrc : rm.cells = 0) (hrs : rm.slots = 0) (hR : rm.frames + 1 ≤ R.frames ∧ 8 + (4 + 11) + rm.locals ≤ R.locals) : CallW R s args RL RX11 113 yX11_surest cX11_surest 4 (some .int) (mw yX11_surest cX11_surest 4 (some .int)) rm 0 0 3 :=
  mcw_V 3 ht wd1095 wd128 wd1098 wd1096 wd1097 ⟨by decide, by decide, by decide +kernel⟩ hrc hrs hR
theorem kwL_117 (ht : ∀ w ∈ lw_g, w.before args s = true) (hrc : rm.cells = 0) (hrs : rm.slots = 0) (hR : rm.frames + 1 ≤ R.frames ∧ 8 + (8 + 11) + rm.locals ≤ R.locals) : CallW R s args RL RX12 117 yX12_surest cX12_surest 8 (some .int) (mw yX12_surest cX12_surest 8 (some .int)) rm 0 0 3 :=
  mcw_V 3 ht wd1925 wd140 wd1928 wd1926 wd1927 ⟨by decide, by decide, by decide +kernel⟩ hrc hrs hR
theorem kwL_118 (ht : ∀ w ∈ lw_g, w.before args s = true) (hrc : rm.cells = 0) (hrs : rm.slots = 0) (hR : rm.frames + 1 ≤ R.frames ∧ 8 + (3 + 11) + rm.locals ≤ R.locals) : CallW R s args RL RX11 118 yX11_steps cX11_steps 3 (some .int) (mw yX11_steps cX11_steps 3 (some .int)) rm 0 0 2 :=
  mcw_V 2 ht wd1127 wd128 wd1130 wd1128 wd1129 ⟨by decide, by decide, by decide +kernel⟩ hrc hrs hR
theorem kwL_121 (ht : ∀ w ∈ lw_g, w.before args s = true) (hrc : rm.cells = 0) (hrs : rm.slots = 0) (hR : rm.frames + 1 ≤ R.frames ∧ 8 + (5 + 11) + rm.locals ≤ R.locals) : CallW R s args RL RX12 121 yX12_steps cX12_steps 5 (some .int) (mw yX12_steps cX12_steps 5 (some .int)) rm 0 0 2 :=
  mcw_V 2 ht wd1948 wd140 wd1951 wd1949 wd1950 ⟨by decide, by decide, by decide +kernel⟩ hrc hrs hR
theorem kwL_122 (ht : ∀ w ∈ lw_g, w.before args s = true) (hrc : rm.cells = 0) (hrs : rm.slots = 0) (hR : rm.frames + 1 ≤ R.frames ∧ 8 + (5 + 11) + rm.locals ≤ R.locals) : CallW R s args RL RX11 122 yX11_unheard cX11_unheard 5 (some .int) (mw yX11_unheard cX11_unheard 5 (some .int)) rm 0 0 2 :=
  mcw_V 2 ht wd1139 wd128 wd1142 wd1140 wd1141 ⟨by decide, by decide, by decide +kernel⟩ hrc hrs hR
theorem kwL_125 (ht : ∀ w ∈ lw_g, w.before args s = true) (hrc : rm.cells = 0) (hrs : rm.slots = 0) (hR : rm.frames + 1 ≤ R.frames ∧ 8 + (5 + 11) + rm.locals ≤ R.locals) : CallW R s args RL RX12 125 yX12_unheard cX12_unheard 5 (some .int) (mw yX12_unheard cX12_unheard 5 (some .int)) rm 0 0 2 :=
  mcw_V 2 ht wd1956 wd140 wd1959 wd1957 wd1958 ⟨by decide, by decide, by decide +kernel⟩ hrc hrs hR
theorem kwL_126 (ht : ∀ w ∈ lw_g, w.before args s = true) (hrc : rm.cells = 0) (hrs : rm.slots = 0) (hR : rm.frames + 1 ≤ R.frames ∧ 8 + (2 + 11) + rm.locals ≤ R.locals) : CallW R s args RL RX11 126 yX11_crowd cX11_crowd 2 (some .int) (mw yX11_crowd cX11_crowd 2 (some .int)) rm 0 0 1 :=
  mcw_V 1 ht wd1148 wd128 wd1151 wd1149 wd1150 ⟨by decide, by decide, by decide +kernel⟩ hrc hrs hR
theorem kwL_129 (ht : ∀ w ∈ lw_g, w.before args s = true) (hrc : rm.cells = 0) (hrs : rm.slots = 0) (hR : rm.frames + 1 ≤ R.frames ∧ 8 + (2 + 11) + rm.locals ≤ R.locals) : CallW R s args RL RX12 129 yX12_crowd cX12_crowd 2 (some .int) (mw yX12_crowd cX12_crowd 2 (some .int)) rm 0 0 1 :=
  mcw_V 1 ht wd1980 wd140 wd1983 wd1981 wd1982 ⟨by decide, by decide, by decide +kernel⟩ hrc hrs hR
theorem kwL_130 (ht : ∀ w ∈ lw_g, w.before args s = true) (hrc : rm.cells = 0) (hrs : rm.slots = 0) (hR : rm.frames + 1 ≤ R.frames ∧ 8 + (4 + 11) + rm.locals ≤ R.locals) : CallW R s args RL RX11 130 yX11_inCrowd cX11_inCrowd 4 (some .int) (mw yX11_inCrowd cX11_inCrowd 4 (some .int)) rm 0 0 3 :=
  mcw_V 3 ht wd1160 wd128 wd1163 wd1161 wd1162 ⟨by decide, by decide, by decide +kernel⟩ hrc hrs hR
theorem kwL_133 (ht : ∀ w ∈ lw_g, w.before args s = true) (hrc : rm.cells = 0) (hrs : rm.slots = 0) (hR : rm.frames + 1 ≤ R.frames ∧ 8 + (10 + 11) + rm.locals ≤ R.locals) : CallW R s args RL RX12 133 yX12_inCrowd cX12_inCrowd 10 (some .int) (mw yX12_inCrowd cX12_inCrowd 10 (some .int)) rm 0 0 3 :=
  mcw_V 3 ht wd1984 wd140 wd1987 wd1985 wd1986 ⟨by decide, by decide, by decide +kernel⟩ hrc hrs hR
theorem kwL_134 (ht : ∀ w ∈ lw_g, w.before args s = true) (hrc : rm.cells = 0) (hrs : rm.slots = 0) (hR : rm.frames + 1 ≤ R.frames ∧ 8 + (1 + 11) + rm.locals ≤ R.locals) : CallW R s args RL RX11 134 yX11_helpers cX11_helpers 1 (some .int) (mw yX11_helpers cX11_helpers 1 (some .int)) rm 0 0 0 :=
  mcw_V 0 ht wd1185 wd128 wd1188 wd1186 wd1187 ⟨by decide, by decide, by decide +kernel⟩ hrc hrs hR
theorem kwL_137 (ht : ∀ w ∈ lw_g, w.before args s = true) (hrc : rm.cells = 0) (hrs : rm.slots = 0) (hR : rm.frames + 1 ≤ R.frames ∧ 8 + (4 + 11) + rm.locals ≤ R.locals) : CallW R s args RL RX12 137 yX12_helpers cX12_helpers 4 (some .int) (mw yX12_helpers cX12_helpers 4 (some .int)) rm 0 0 0 :=
  mcw_V 0 ht wd1968 wd140 wd1971 wd1969 wd1970 ⟨by decide, by decide, by decide +kernel⟩ hrc hrs hR
theorem kwL_138 (ht : ∀ w ∈ lw_g, w.before args s = true) (hrc : rm.cells = 0) (hrs : rm.slots = 0) (hR : rm.frames + 1 ≤ R.frames ∧ 8 + (3 + 11) + rm.locals ≤ R.locals) : CallW R s args RL RX11 138 yX11_watch cX11_watch 3 (some .int) (mw yX11_watch cX11_watch 3 (some .int)) rm 0 0 2 :=
  mcw_V 2 ht wd1195 wd128 wd1198 wd1196 wd1197 ⟨by decide, by decide, by decide +kernel⟩ hrc hrs hR
theorem kwL_141 (ht : ∀ w ∈ lw_g, w.before args s = true) (hrc : rm.cells = 0) (hrs : rm.slots = 0) (hR : rm.frames + 1 ≤ R.frames ∧ 8 + (5 + 11) + rm.locals ≤ R.locals) : CallW R s args RL RX12 141 yX12_watch cX12_watch 5 (some .int) (mw yX12_watch cX12_watch 5 (some .int)) rm 0 0 2 :=
  mcw_V 2 ht wd1972 wd140 wd1975 wd1973 wd1974 ⟨by decide, by decide, by decide +kernel⟩ hrc hrs hR
theorem kwL_142 (ht : ∀ w ∈ lw_g, w.before args s = true) (hrc : rm.cells = 0) (hrs : rm.slots = 0) (hR : rm.frames + 1 ≤ R.frames ∧ 8 + (2 + 11) + rm.locals ≤ R.locals) : CallW R s args RL RX11 142 yX11_borders cX11_borders 2 (some .boolean) (mw yX11_borders cX11_borders 2 (some .boolean)) rm 0 0 1 :=
  mcw_V 1 ht wd1207 wd128 wd1210 wd1208 wd1209 ⟨by decide, by decide, by decide +kernel⟩ hrc hrs hR
theorem kwL_145 (ht : ∀ w ∈ lw_g, w.before args s = true) (hrc : rm.cells = 0) (hrs : rm.slots = 0) (hR : rm.frames + 1 ≤ R.frames ∧ 8 + (2 + 11) + rm.locals ≤ R.locals) : CallW R s args RL RX12 145 yX12_borders cX12_borders 2 (some .boolean) (mw yX12_borders cX12_borders 2 (some .boolean)) rm 0 0 1 :=
  mcw_V 1 ht wd1960 wd140 wd1963 wd1961 wd1962 ⟨by decide, by decide, by decide +kernel⟩ hrc hrs hR
theorem kwL_146 (ht : ∀ w ∈ lw_g, w.before args s = true) (hrc : rm.cells = 0) (hrs : rm.slots = 0) (hR : rm.frames + 1 ≤ R.frames ∧ 8 + (2 + 11) + rm.locals ≤ R.locals) : CallW R s args RL RX11 146 yX11_toBorder cX11_toBorder 2 (some .int) (mw yX11_toBorder cX11_toBorder 2 (some .int)) rm 0 0 1 :=
  mcw_V 1 ht wd1211 wd128 wd1214 wd1212 wd1213 ⟨by decide, by decide, by decide +kernel⟩ hrc hrs hR
theorem kwL_149 (ht : ∀ w ∈ lw_g, w.before args s = true) (hrc : rm.cells = 0) (hrs : rm.slots = 0) (hR : rm.frames + 1 ≤ R.frames ∧ 8 + (4 + 11) + rm.locals ≤ R.locals) : CallW R s args RL RX12 149 yX12_toBorder cX12_toBorder 4 (some .int) (mw yX12_toBorder cX12_toBorder 4 (some .int)) rm 0 0 1 :=
  mcw_V 1 ht wd1964 wd140 wd1967 wd1965 wd1966 ⟨by decide, by decide, by decide +kernel⟩ hrc hrs hR
theorem kwL_150 (ht : ∀ w ∈ lw_g, w.before args s = true) (hrc : rm.cells = 0) (hrs : rm.slots = 0) (hR : rm.frames + 1 ≤ R.frames ∧ 8 + (2 + 11) + rm.locals ≤ R.locals) : CallW R s args RL RX11 150 yX11_reports cX11_reports 2 (some .boolean) (mw yX11_reports cX11_reports 2 (some .boolean)) rm 0 0 1 :=
  mcw_V 1 ht wd1215 wd128 wd1218 wd1216 wd1217 ⟨by decide, by decide, by decide +kernel⟩ hrc hrs hR
theorem kwL_153 (ht : ∀ w ∈ lw_g, w.before args s = true) (hrc : rm.cells = 0) (hrs : rm.slots = 0) (hR : rm.frames + 1 ≤ R.frames ∧ 8 + (2 + 11) + rm.locals ≤ R.locals) : CallW R s args RL RX12 153 yX12_reports cX12_reports 2 (some .boolean) (mw yX12_reports cX12_reports 2 (some .boolean)) rm 0 0 1 :=
  mcw_V 1 ht wd1992 wd140 wd1995 wd1993 wd1994 ⟨by decide, by decide, by decide +kernel⟩ hrc hrs hR
theorem kwL_154 (ht : ∀ w ∈ lw_g, w.before args s = true) (hrc : rm.cells = 0) (hrs : rm.slots = 0) (hR : rm.frames + 1 ≤ R.frames ∧ 8 + (3 + 11) + rm.locals ≤ R.locals) : CallW R s args RL RX11 154 yX11_unlike cX11_unlike 3 (some .int) (mw yX11_unlike cX11_unlike 3 (some .int)) rm 0 0 2 :=
  mcw_V 2 ht wd1223 wd128 wd1226 wd1224 wd1225 ⟨by decide, by decide, by decide +kernel⟩ hrc hrs hR
theorem kwL_157 (ht : ∀ w ∈ lw_g, w.before args s = true) (hrc : rm.cells = 0) (hrs : rm.slots = 0) (hR : rm.frames + 1 ≤ R.frames ∧ 8 + (3 + 11) + rm.locals ≤ R.locals) : CallW R s args RL RX12 157 yX12_unlike cX12_unlike 3 (some .int) (mw yX12_unlike cX12_unlike 3 (some .int)) rm 0 0 2 :=
  mcw_V 2 ht wd1996 wd140 wd1999 wd1997 wd1998 ⟨by decide, by decide, by decide +kernel⟩ hrc hrs hR
theorem kwL_158 (ht : ∀ w ∈ lw_g, w.before args s = true) (hrc : rm.cells = 0) (hrs : rm.slots = 0) (hR : rm.frames + 1 ≤ R.frames ∧ 8 + (3 + 11) + rm.locals ≤ R.locals) : CallW R s args RL RX11 158 yX11_heads cX11_heads 3 (some .int) (mw yX11_heads cX11_heads 3 (some .int)) rm 0 0 1 :=
  mcw_V 1 ht wd1235 wd128 wd1238 wd1236 wd1237 ⟨by decide, by decide, by decide +kernel⟩ hrc hrs hR
theorem kwL_161 (ht : ∀ w ∈ lw_g, w.before args s = true) (hrc : rm.cells = 0) (hrs : rm.slots = 0) (hR : rm.frames + 1 ≤ R.frames ∧ 8 + (3 + 11) + rm.locals ≤ R.locals) : CallW R s args RL RX12 161 yX12_heads cX12_heads 3 (some .int) (mw yX12_heads cX12_heads 3 (some .int)) rm 0 0 1 :=
  mcw_V 1 ht wd2000 wd140 wd2003 wd2001 wd2002 ⟨by decide, by decide, by decide +kernel⟩ hrc hrs hR
theorem kwL_162 (ht : ∀ w ∈ lw_g, w.before args s = true) (hrc : rm.cells = 0) (hrs : rm.slots = 0) (hR : rm.frames + 1 ≤ R.frames ∧ 8 + (5 + 11) + rm.locals ≤ R.locals) : CallW R s args RL RX11 162 yX11_has cX11_has 5 (some .boolean) (mw yX11_has cX11_has 5 (some .boolean)) rm 0 0 4 :=
  mcw_V 4 ht wd1257 wd128 wd1260 wd1258 wd1259 ⟨by decide, by decide, by decide +kernel⟩ hrc hrs hR
theorem kwL_166 (ht : ∀ w ∈ lw_g, w.before args s = true) (hrc : rm.cells = 0) (hrs : rm.slots = 0) (hR : rm.frames + 1 ≤ R.frames ∧ 8 + (5 + 11) + rm.locals ≤ R.locals) : CallW R s args RL RX12 166 yX12_has cX12_has 5 (some .boolean) (mw yX12_has cX12_has 5 (some .boolean)) rm 0 0 4 :=
  mcw_V 4 ht wd2012 wd140 wd2015 wd2013 wd2014 ⟨by decide, by decide, by decide +kernel⟩ hrc hrs hR
theorem kwL_167 (ht : ∀ w ∈ lw_g, w.before args s = true) (hrc : rm.cells = 0) (hrs : rm.slots = 0) (hR : rm.frames + 1 ≤ R.frames ∧ 8 + (1 + 11) + rm.locals ≤ R.locals) : CallW R s args RL RX11 167 yX11_rests cX11_rests 1 (some .int) (mw yX11_rests cX11_rests 1 (some .int)) rm 0 0 0 :=
  mcw_V 0 ht wd1265 wd128 wd1268 wd1266 wd1267 ⟨by decide, by decide, by decide +kernel⟩ hrc hrs hR
theorem kwL_170 (ht : ∀ w ∈ lw_g, w.before args s = true) (hrc : rm.cells = 0) (hrs : rm.slots = 0) (hR : rm.frames + 1 ≤ R.frames ∧ 8 + (5 + 11) + rm.locals ≤ R.locals) : CallW R s args RL RX12 170 yX12_rests cX12_rests 5 (some .int) (mw yX12_rests cX12_rests 5 (some .int)) rm 0 0 0 :=
  mcw_V 0 ht wd2016 wd140 wd2019 wd2017 wd2018 ⟨by decide, by decide, by decide +kernel⟩ hrc hrs hR
theorem kwL_171 (ht : ∀ w ∈ lw_g, w.before args s = true) (hrc : rm.cells = 0) (hrs : rm.slots = 0) (hR : rm.frames + 1 ≤ R.frames ∧ 8 + (2 + 11) + rm.locals ≤ R.locals) : CallW R s args RL RX11 171 yX11_mixed cX11_mixed 2 (some .int) (mw yX11_mixed cX11_mixed 2 (some .int)) rm 0 0 1 :=
  mcw_V 1 ht wd1277 wd128 wd1280 wd1278 wd1279 ⟨by decide, by decide, by decide +kernel⟩ hrc hrs hR
theorem kwL_175 (ht : ∀ w ∈ lw_g, w.before args s = true) (hrc : rm.cells = 0) (hrs : rm.slots = 0) (hR : rm.frames + 1 ≤ R.frames ∧ 8 + (4 + 11) + rm.locals ≤ R.locals) : CallW R s args RL RX12 175 yX12_mixed cX12_mixed 4 (some .int) (mw yX12_mixed cX12_mixed 4 (some .int)) rm 0 0 1 :=
  mcw_V 1 ht wd2020 wd140 wd2023 wd2021 wd2022 ⟨by decide, by decide, by decide +kernel⟩ hrc hrs hR
theorem kwL_176 (ht : ∀ w ∈ lw_g, w.before args s = true) (hrc : rm.cells = 0) (hrs : rm.slots = 0) (hR : rm.frames + 1 ≤ R.frames ∧ 8 + (6 + 11) + rm.locals ≤ R.locals) : CallW R s args RL RX11 176 yX11_befell cX11_befell 6 (some .int) (mw yX11_befell cX11_befell 6 (some .int)) rm 0 0 2 :=
  mcw_V 2 ht wd1286 wd128 wd1289 wd1287 wd1288 ⟨by decide, by decide, by decide +kernel⟩ hrc hrs hR
theorem kwL_179 (ht : ∀ w ∈ lw_g, w.before args s = true) (hrc : rm.cells = 0) (hrs : rm.slots = 0) (hR : rm.frames + 1 ≤ R.frames ∧ 8 + (5 + 11) + rm.locals ≤ R.locals) : CallW R s args RL RX12 179 yX12_befell cX12_befell 5 (some .int) (mw yX12_befell cX12_befell 5 (some .int)) rm 0 0 2 :=
  mcw_V 2 ht wd1892 wd140 wd1895 wd1893 wd1894 ⟨by decide, by decide, by decide +kernel⟩ hrc hrs hR
theorem kwL_180 (ht : ∀ w ∈ lw_g, w.before args s = true) (hrc : rm.cells = 0) (hrs : rm.slots = 0) (hR : rm.frames + 1 ≤ R.frames ∧ 8 + (2 + 11) + rm.locals ≤ R.locals) : CallW R s args RL RX11 180 yX11_heirs cX11_heirs 2 (some .int) (mw yX11_heirs cX11_heirs 2 (some .int)) rm 0 0 1 :=
  mcw_V 1 ht wd1290 wd128 wd1293 wd1291 wd1292 ⟨by decide, by decide, by decide +kernel⟩ hrc hrs hR
theorem kwL_183 (ht : ∀ w ∈ lw_g, w.before args s = true) (hrc : rm.cells = 0) (hrs : rm.slots = 0) (hR : rm.frames + 1 ≤ R.frames ∧ 8 + (2 + 11) + rm.locals ≤ R.locals) : CallW R s args RL RX12 183 yX12_heirs cX12_heirs 2 (some .int) (mw yX12_heirs cX12_heirs 2 (some .int)) rm 0 0 1 :=
  mcw_V 1 ht wd1896 wd140 wd1899 wd1897 wd1898 ⟨by decide, by decide, by decide +kernel⟩ hrc hrs hR
theorem kwL_184 (ht : ∀ w ∈ lw_g, w.before args s = true) (hrc : rm.cells = 0) (hrs : rm.slots = 0) (hR : rm.frames + 1 ≤ R.frames ∧ 8 + (7 + 11) + rm.locals ≤ R.locals) : CallW R s args RL RX11 184 yX11_feared cX11_feared 7 (some .int) (mw yX11_feared cX11_feared 7 (some .int)) rm 0 0 0 :=
  mcw_V 0 ht wd1294 wd128 wd1297 wd1295 wd1296 ⟨by decide, by decide, by decide +kernel⟩ hrc hrs hR
theorem kwL_187 (ht : ∀ w ∈ lw_g, w.before args s = true) (hrc : rm.cells = 0) (hrs : rm.slots = 0) (hR : rm.frames + 1 ≤ R.frames ∧ 8 + (5 + 11) + rm.locals ≤ R.locals) : CallW R s args RL RX12 187 yX12_feared cX12_feared 5 (some .int) (mw yX12_feared cX12_feared 5 (some .int)) rm 0 0 0 :=
  mcw_V 0 ht wd1904 wd140 wd1907 wd1905 wd1906 ⟨by decide, by decide, by decide +kernel⟩ hrc hrs hR
theorem kwL_188 (ht : ∀ w ∈ lw_g, w.before args s = true) (hrc : rm.cells = 0) (hrs : rm.slots = 0) (hR : rm.frames + 1 ≤ R.frames ∧ 8 + (1 + 11) + rm.locals ≤ R.locals) : CallW R s args RL RX11 188 yX11_wolves cX11_wolves 1 (some .int) (mw yX11_wolves cX11_wolves 1 (some .int)) rm 0 0 0 :=
  mcw_V 0 ht wd1303 wd128 wd1306 wd1304 wd1305 ⟨by decide, by decide, by decide +kernel⟩ hrc hrs hR
theorem kwL_191 (ht : ∀ w ∈ lw_g, w.before args s = true) (hrc : rm.cells = 0) (hrs : rm.slots = 0) (hR : rm.frames + 1 ≤ R.frames ∧ 8 + (3 + 11) + rm.locals ≤ R.locals) : CallW R s args RL RX12 191 yX12_wolves cX12_wolves 3 (some .int) (mw yX12_wolves cX12_wolves 3 (some .int)) rm 0 0 0 :=
  mcw_V 0 ht wd1900 wd140 wd1903 wd1901 wd1902 ⟨by decide, by decide, by decide +kernel⟩ hrc hrs hR
theorem kwL_192 (ht : ∀ w ∈ lw_g, w.before args s = true) (hrc : rm.cells = 0) (hrs : rm.slots = 0) (hR : rm.frames + 1 ≤ R.frames ∧ 8 + (3 + 11) + rm.locals ≤ R.locals) : CallW R s args RL RX11 192 yX11_paid cX11_paid 3 (some .int) (mw yX11_paid cX11_paid 3 (some .int)) rm 0 0 2 :=
  mcw_V 2 ht wd1307 wd128 wd1310 wd1308 wd1309 ⟨by decide, by decide, by decide +kernel⟩ hrc hrs hR
theorem kwL_195 (ht : ∀ w ∈ lw_g, w.before args s = true) (hrc : rm.cells = 0) (hrs : rm.slots = 0) (hR : rm.frames + 1 ≤ R.frames ∧ 8 + (3 + 11) + rm.locals ≤ R.locals) : CallW R s args RL RX12 195 yX12_paid cX12_paid 3 (some .int) (mw yX12_paid cX12_paid 3 (some .int)) rm 0 0 2 :=
  mcw_V 2 ht wd2024 wd140 wd2027 wd2025 wd2026 ⟨by decide, by decide, by decide +kernel⟩ hrc hrs hR
theorem kwL_196 (ht : ∀ w ∈ lw_g, w.before args s = true) (hrc : rm.cells = 0) (hrs : rm.slots = 0) (hR : rm.frames + 1 ≤ R.frames ∧ 8 + (3 + 11) + rm.locals ≤ R.locals) : CallW R s args RL RX11 196 yX11_whose cX11_whose 3 (some .int) (mw yX11_whose cX11_whose 3 (some .int)) rm 0 0 0 :=
  mcw_V 0 ht wd1319 wd128 wd1322 wd1320 wd1321 ⟨by decide, by decide, by decide +kernel⟩ hrc hrs hR
theorem kwL_199 (ht : ∀ w ∈ lw_g, w.before args s = true) (hrc : rm.cells = 0) (hrs : rm.slots = 0) (hR : rm.frames + 1 ≤ R.frames ∧ 8 + (5 + 11) + rm.locals ≤ R.locals) : CallW R s args RL RX12 199 yX12_whose cX12_whose 5 (some .int) (mw yX12_whose cX12_whose 5 (some .int)) rm 0 0 0 :=
  mcw_V 0 ht wd2028 wd140 wd2031 wd2029 wd2030 ⟨by decide, by decide, by decide +kernel⟩ hrc hrs hR
theorem kwL_200 (ht : ∀ w ∈ lw_g, w.before args s = true) (hrc : rm.cells = 0) (hrs : rm.slots = 0) (hR : rm.frames + 1 ≤ R.frames ∧ 8 + (1 + 11) + rm.locals ≤ R.locals) : CallW R s args RL RX11 200 yX11_image cX11_image 1 (some .int) (mw yX11_image cX11_image 1 (some .int)) rm 0 0 0 :=
  mcw_V 0 ht wd1335 wd128 wd1338 wd1336 wd1337 ⟨by decide, by decide, by decide +kernel⟩ hrc hrs hR
theorem kwL_203 (ht : ∀ w ∈ lw_g, w.before args s = true) (hrc : rm.cells = 0) (hrs : rm.slots = 0) (hR : rm.frames + 1 ≤ R.frames ∧ 8 + (1 + 11) + rm.locals ≤ R.locals) : CallW R s args RL RX12 203 yX12_image cX12_image 1 (some .int) (mw yX12_image cX12_image 1 (some .int)) rm 0 0 0 :=
  mcw_V 0 ht wd2032 wd140 wd2035 wd2033 wd2034 ⟨by decide, by decide, by decide +kernel⟩ hrc hrs hR
theorem kwL_204 (ht : ∀ w ∈ lw_g, w.before args s = true) (hrc : rm.cells = 0) (hrs : rm.slots = 0) (hR : rm.frames + 1 ≤ R.frames ∧ 8 + (1 + 11) + rm.locals ≤ R.locals) : CallW R s args RL RX11 204 yX11_back cX11_back 1 (some .int) (mw yX11_back cX11_back 1 (some .int)) rm 0 0 0 :=
  mcw_V 0 ht wd1359 wd128 wd1362 wd1360 wd1361 ⟨by decide, by decide, by decide +kernel⟩ hrc hrs hR
theorem kwL_207 (ht : ∀ w ∈ lw_g, w.before args s = true) (hrc : rm.cells = 0) (hrs : rm.slots = 0) (hR : rm.frames + 1 ≤ R.frames ∧ 8 + (1 + 11) + rm.locals ≤ R.locals) : CallW R s args RL RX12 207 yX12_back cX12_back 1 (some .int) (mw yX12_back cX12_back 1 (some .int)) rm 0 0 0 :=
  mcw_V 0 ht wd2036 wd140 wd2039 wd2037 wd2038 ⟨by decide, by decide, by decide +kernel⟩ hrc hrs hR
theorem kwL_208 (ht : ∀ w ∈ lw_g, w.before args s = true) (hrc : rm.cells = 0) (hrs : rm.slots = 0) (hR : rm.frames + 1 ≤ R.frames ∧ 8 + (2 + 11) + rm.locals ≤ R.locals) : CallW R s args RL RX11 208 yX11_about cX11_about 2 (some .int) (mw yX11_about cX11_about 2 (some .int)) rm 0 0 1 :=
  mcw_V 1 ht wd1363 wd128 wd1366 wd1364 wd1365 ⟨by decide, by decide, by decide +kernel⟩ hrc hrs hR
theorem kwL_211 (ht : ∀ w ∈ lw_g, w.before args s = true) (hrc : rm.cells = 0) (hrs : rm.slots = 0) (hR : rm.frames + 1 ≤ R.frames ∧ 8 + (2 + 11) + rm.locals ≤ R.locals) : CallW R s args RL RX12 211 yX12_about cX12_about 2 (some .int) (mw yX12_about cX12_about 2 (some .int)) rm 0 0 1 :=
  mcw_V 1 ht wd2040 wd140 wd2043 wd2041 wd2042 ⟨by decide, by decide, by decide +kernel⟩ hrc hrs hR
end

