
section
set_option maxRecDepth 100000 in
theorem wd499 : Cond.methodLink RL 13 yX11_land ∈ lw_g := in_g (t2_in (List.mem_of_getElem? (i := 132) rfl)) rfl
set_option maxRecDepth 100000 in
theorem wd507 : Cond.methodLink RL 18 yX11_road ∈ lw_g := in_g (t2_in (List.mem_of_getElem? (i := 140) rfl)) rfl
set_option maxRecDepth 100000 in
theorem wd523 : Cond.methodLink RL 23 yX11_person ∈ lw_g := in_g (t2_in (List.mem_of_getElem? (i := 156) rfl)) rfl
set_option maxRecDepth 100000 in
theorem wd548 : Cond.methodLink RL 28 yX11_feed ∈ lw_g := in_g (t2_in (List.mem_of_getElem? (i := 181) rfl)) rfl
set_option maxRecDepth 100000 in
theorem wd549 : Cond.instanceMethod yX11_feed ∈ lw_g := in_g (t2_in (List.mem_of_getElem? (i := 182) rfl)) rfl
set_option maxRecDepth 100000 in
theorem wd550 : Cond.selects RX11 yX11_feed yX11_feed ∈ lw_g := in_g (t2_in (List.mem_of_getElem? (i := 183) rfl)) rfl
set_option maxRecDepth 100000 in
theorem wd551 : Cond.code yX11_feed cX11_feed 6 (some .int) ∈ lw_g := in_g (t2_in (List.mem_of_getElem? (i := 184) rfl)) rfl
set_option maxRecDepth 100000 in
theorem wd560 : Cond.methodLink RL 33 yX11_end ∈ lw_g := in_g (t2_in (List.mem_of_getElem? (i := 193) rfl)) rfl
set_option maxRecDepth 100000 in
theorem wd561 : Cond.instanceMethod yX11_end ∈ lw_g := in_g (t2_in (List.mem_of_getElem? (i := 194) rfl)) rfl
set_option maxRecDepth 100000 in
theorem wd562 : Cond.selects RX11 yX11_end yX11_end ∈ lw_g := in_g (t2_in (List.mem_of_getElem? (i := 195) rfl)) rfl
set_option maxRecDepth 100000 in
theorem wd563 : Cond.code yX11_end cX11_end 2 (some .int) ∈ lw_g := in_g (t2_in (List.mem_of_getElem? (i := 196) rfl)) rfl
set_option maxRecDepth 100000 in
theorem wd564 : Cond.methodLink RL 37 yX11_text ∈ lw_g := in_g (t2_in (List.mem_of_getElem? (i := 197) rfl)) rfl
set_option maxRecDepth 100000 in
theorem wd565 : Cond.instanceMethod yX11_text ∈ lw_g := in_g (t2_in (List.mem_of_getElem? (i := 198) rfl)) rfl
set_option maxRecDepth 100000 in
theorem wd566 : Cond.selects RX11 yX11_text yX11_text ∈ lw_g := in_g (t2_in (List.mem_of_getElem? (i := 199) rfl)) rfl
set_option maxRecDepth 100000 in
theorem wd567 : Cond.code yX11_text cX11_text 3 (some .int) ∈ lw_g := in_g (t2_in (List.mem_of_getElem? (i := 200) rfl)) rfl
set_option maxRecDepth 100000 in
theorem wd773 : Cond.methodLink RL 42 yX11_fault ∈ lw_g := in_g (t3_in (List.mem_of_getElem? (i := 166) rfl)) rfl
set_option maxRecDepth 100000 in
theorem wd774 : Cond.instanceMethod yX11_fault ∈ lw_g := in_g (t3_in (List.mem_of_getElem? (i := 167) rfl)) rfl
set_option maxRecDepth 100000 in
theorem wd775 : Cond.selects RX11 yX11_fault yX11_fault ∈ lw_g := in_g (t3_in (List.mem_of_getElem? (i := 168) rfl)) rfl
set_option maxRecDepth 100000 in
theorem wd776 : Cond.code yX11_fault cX11_fault 2 (some .int) ∈ lw_g := in_g (t3_in (List.mem_of_getElem? (i := 169) rfl)) rfl
set_option maxRecDepth 100000 in
theorem wd777 : Cond.methodLink RL 46 yX11_by ∈ lw_g := in_g (t3_in (List.mem_of_getElem? (i := 170) rfl)) rfl
set_option maxRecDepth 100000 in
theorem wd778 : Cond.instanceMethod yX11_by ∈ lw_g := in_g (t3_in (List.mem_of_getElem? (i := 171) rfl)) rfl
set_option maxRecDepth 100000 in
theorem wd779 : Cond.selects RX11 yX11_by yX11_by ∈ lw_g := in_g (t3_in (List.mem_of_getElem? (i := 172) rfl)) rfl
set_option maxRecDepth 100000 in
theorem wd780 : Cond.code yX11_by cX11_by 2 (some .boolean) ∈ lw_g := in_g (t3_in (List.mem_of_getElem? (i := 173) rfl)) rfl
set_option maxRecDepth 100000 in
theorem wd785 : Cond.methodLink RL 51 yX11_call ∈ lw_g := in_g (t3_in (List.mem_of_getElem? (i := 178) rfl)) rfl
set_option maxRecDepth 100000 in
theorem wd832 : Cond.methodLink RL 56 yX11_move ∈ lw_g := in_g (t3_in (List.mem_of_getElem? (i := 225) rfl)) rfl
set_option maxRecDepth 100000 in
theorem wd841 : Cond.methodLink RL 60 yX11_feeds ∈ lw_g := in_g (t3_in (List.mem_of_getElem? (i := 234) rfl)) rfl
set_option maxRecDepth 100000 in
theorem wd926 : Cond.methodLink RL 64 yX11_kill ∈ lw_g := in_g (t4_in (List.mem_of_getElem? (i := 79) rfl)) rfl
set_option maxRecDepth 100000 in
theorem wd938 : Cond.methodLink RL 68 yX11_pardon ∈ lw_g := in_g (t4_in (List.mem_of_getElem? (i := 91) rfl)) rfl
set_option maxRecDepth 100000 in
theorem wd950 : Cond.methodLink RL 72 yX11_month ∈ lw_g := in_g (t4_in (List.mem_of_getElem? (i := 103) rfl)) rfl
set_option maxRecDepth 100000 in
theorem wd951 : Cond.instanceMethod yX11_month ∈ lw_g := in_g (t4_in (List.mem_of_getElem? (i := 104) rfl)) rfl
set_option maxRecDepth 100000 in
theorem wd952 : Cond.selects RX11 yX11_month yX11_month ∈ lw_g := in_g (t4_in (List.mem_of_getElem? (i := 105) rfl)) rfl
set_option maxRecDepth 100000 in
theorem wd953 : Cond.code yX11_month cX11_month 4 (some .int) ∈ lw_g := in_g (t4_in (List.mem_of_getElem? (i := 106) rfl)) rfl
set_option maxRecDepth 100000 in
theorem wd974 : Cond.methodLink RL 76 yX11_played ∈ lw_g := in_g (t4_in (List.mem_of_getElem? (i := 127) rfl)) rfl
set_option maxRecDepth 100000 in
theorem wd975 : Cond.instanceMethod yX11_played ∈ lw_g := in_g (t4_in (List.mem_of_getElem? (i := 128) rfl)) rfl
set_option maxRecDepth 100000 in
theorem wd976 : Cond.selects RX11 yX11_played yX11_played ∈ lw_g := in_g (t4_in (List.mem_of_getElem? (i := 129) rfl)) rfl
set_option maxRecDepth 100000 in
theorem wd977 : Cond.code yX11_played cX11_played 4 (some .int) ∈ lw_g := in_g (t4_in (List.mem_of_getElem? (i := 130) rfl)) rfl
set_option maxRecDepth 100000 in
theorem wd998 : Cond.methodLink RL 80 yX11_reigns ∈ lw_g := in_g (t4_in (List.mem_of_getElem? (i := 151) rfl)) rfl
set_option maxRecDepth 100000 in
theorem wd999 : Cond.instanceMethod yX11_reigns ∈ lw_g := in_g (t4_in (List.mem_of_getElem? (i := 152) rfl)) rfl
set_option maxRecDepth 100000 in
theorem wd1000 : Cond.selects RX11 yX11_reigns yX11_reigns ∈ lw_g := in_g (t4_in (List.mem_of_getElem? (i := 153) rfl)) rfl
set_option maxRecDepth 100000 in
theorem wd1001 : Cond.code yX11_reigns cX11_reigns 4 (some .int) ∈ lw_g := in_g (t4_in (List.mem_of_getElem? (i := 154) rfl)) rfl
set_option maxRecDepth 100000 in
theorem wd1016 : Cond.methodLink RL 84 yX11_undo ∈ lw_g := in_g (t4_in (List.mem_of_getElem? (i := 169) rfl)) rfl
set_option maxRecDepth 100000 in
theorem wd1017 : Cond.instanceMethod yX11_undo ∈ lw_g := in_g (t4_in (List.mem_of_getElem? (i := 170) rfl)) rfl
set_option maxRecDepth 100000 in
theorem wd1018 : Cond.selects RX11 yX11_undo yX11_undo ∈ lw_g := in_g (t4_in (List.mem_of_getElem? (i := 171) rfl)) rfl
set_option maxRecDepth 100000 in
theorem wd1019 : Cond.code yX11_undo cX11_undo 1 (some .int) ∈ lw_g := in_g (t4_in (List.mem_of_getElem? (i := 172) rfl)) rfl
set_option maxRecDepth 100000 in
theorem wd1029 : Cond.methodLink RL 88 yX11_of ∈ lw_g := in_g (t4_in (List.mem_of_getElem? (i := 182) rfl)) rfl
set_option maxRecDepth 100000 in
theorem wd1030 : Cond.instanceMethod yX11_of ∈ lw_g := in_g (t4_in (List.mem_of_getElem? (i := 183) rfl)) rfl
set_option maxRecDepth 100000 in
theorem wd1031 : Cond.selects RX11 yX11_of yX11_of ∈ lw_g := in_g (t4_in (List.mem_of_getElem? (i := 184) rfl)) rfl
set_option maxRecDepth 100000 in
theorem wd1032 : Cond.code yX11_of cX11_of 4 (some .int) ∈ lw_g := in_g (t4_in (List.mem_of_getElem? (i := 185) rfl)) rfl
set_option maxRecDepth 100000 in
theorem wd1039 : Cond.methodLink RL 92 yX11_ofLand ∈ lw_g := in_g (t4_in (List.mem_of_getElem? (i := 192) rfl)) rfl
set_option maxRecDepth 100000 in
theorem wd1040 : Cond.instanceMethod yX11_ofLand ∈ lw_g := in_g (t4_in (List.mem_of_getElem? (i := 193) rfl)) rfl
set_option maxRecDepth 100000 in
theorem wd1041 : Cond.selects RX11 yX11_ofLand yX11_ofLand ∈ lw_g := in_g (t4_in (List.mem_of_getElem? (i := 194) rfl)) rfl
set_option maxRecDepth 100000 in
theorem wd1042 : Cond.code yX11_ofLand cX11_ofLand 3 (some .int) ∈ lw_g := in_g (t4_in (List.mem_of_getElem? (i := 195) rfl)) rfl
set_option maxRecDepth 100000 in
theorem wd1048 : Cond.methodLink RL 96 yX11_is ∈ lw_g := in_g (t4_in (List.mem_of_getElem? (i := 201) rfl)) rfl
set_option maxRecDepth 100000 in
theorem wd1049 : Cond.instanceMethod yX11_is ∈ lw_g := in_g (t4_in (List.mem_of_getElem? (i := 202) rfl)) rfl
set_option maxRecDepth 100000 in
theorem wd1050 : Cond.selects RX11 yX11_is yX11_is ∈ lw_g := in_g (t4_in (List.mem_of_getElem? (i := 203) rfl)) rfl
set_option maxRecDepth 100000 in
theorem wd1051 : Cond.code yX11_is cX11_is 2 (some .int) ∈ lw_g := in_g (t4_in (List.mem_of_getElem? (i := 204) rfl)) rfl
set_option maxRecDepth 100000 in
theorem wd1052 : Cond.methodLink RL 100 yX11_book ∈ lw_g := in_g (t4_in (List.mem_of_getElem? (i := 205) rfl)) rfl
set_option maxRecDepth 100000 in
theorem wd1053 : Cond.instanceMethod yX11_book ∈ lw_g := in_g (t4_in (List.mem_of_getElem? (i := 206) rfl)) rfl
set_option maxRecDepth 100000 in
theorem wd1054 : Cond.selects RX11 yX11_book yX11_book ∈ lw_g := in_g (t4_in (List.mem_of_getElem? (i := 207) rfl)) rfl
set_option maxRecDepth 100000 in
theorem wd1055 : Cond.code yX11_book cX11_book 3 (some .int) ∈ lw_g := in_g (t4_in (List.mem_of_getElem? (i := 208) rfl)) rfl
set_option maxRecDepth 100000 in
theorem wd1076 : Cond.methodLink RL 104 yX11_foretold ∈ lw_g := in_g (t4_in (List.mem_of_getElem? (i := 229) rfl)) rfl
set_option maxRecDepth 100000 in
theorem wd1077 : Cond.instanceMethod yX11_foretold ∈ lw_g := in_g (t4_in (List.mem_of_getElem? (i := 230) rfl)) rfl
set_option maxRecDepth 100000 in
theorem wd1078 : Cond.selects RX11 yX11_foretold yX11_foretold ∈ lw_g := in_g (t4_in (List.mem_of_getElem? (i := 231) rfl)) rfl
set_option maxRecDepth 100000 in
theorem wd1079 : Cond.code yX11_foretold cX11_foretold 5 (some .int) ∈ lw_g := in_g (t4_in (List.mem_of_getElem? (i := 232) rfl)) rfl
set_option maxRecDepth 100000 in
theorem wd1084 : Cond.methodLink RL 109 yX11_toPay ∈ lw_g := in_g (t4_in (List.mem_of_getElem? (i := 237) rfl)) rfl
set_option maxRecDepth 100000 in
theorem wd1085 : Cond.instanceMethod yX11_toPay ∈ lw_g := in_g (t4_in (List.mem_of_getElem? (i := 238) rfl)) rfl
set_option maxRecDepth 100000 in
theorem wd1086 : Cond.selects RX11 yX11_toPay yX11_toPay ∈ lw_g := in_g (t4_in (List.mem_of_getElem? (i := 239) rfl)) rfl
set_option maxRecDepth 100000 in
theorem wd1087 : Cond.code yX11_toPay cX11_toPay 4 (some .int) ∈ lw_g := in_g (t5_in (List.mem_of_getElem? (i := 0) rfl)) rfl
set_option maxRecDepth 100000 in
theorem wd1089 : Cond.methodLink RL 113 yX11_surest ∈ lw_g := in_g (t5_in (List.mem_of_getElem? (i := 2) rfl)) rfl
set_option maxRecDepth 100000 in
theorem wd1090 : Cond.instanceMethod yX11_surest ∈ lw_g := in_g (t5_in (List.mem_of_getElem? (i := 3) rfl)) rfl
set_option maxRecDepth 100000 in
theorem wd1091 : Cond.selects RX11 yX11_surest yX11_surest ∈ lw_g := in_g (t5_in (List.mem_of_getElem? (i := 4) rfl)) rfl
set_option maxRecDepth 100000 in
theorem wd1092 : Cond.code yX11_surest cX11_surest 4 (some .int) ∈ lw_g := in_g (t5_in (List.mem_of_getElem? (i := 5) rfl)) rfl
set_option maxRecDepth 100000 in
theorem wd1121 : Cond.methodLink RL 118 yX11_steps ∈ lw_g := in_g (t5_in (List.mem_of_getElem? (i := 34) rfl)) rfl
set_option maxRecDepth 100000 in
theorem wd1122 : Cond.instanceMethod yX11_steps ∈ lw_g := in_g (t5_in (List.mem_of_getElem? (i := 35) rfl)) rfl
set_option maxRecDepth 100000 in
theorem wd1123 : Cond.selects RX11 yX11_steps yX11_steps ∈ lw_g := in_g (t5_in (List.mem_of_getElem? (i := 36) rfl)) rfl
set_option maxRecDepth 100000 in
theorem wd1124 : Cond.code yX11_steps cX11_steps 3 (some .int) ∈ lw_g := in_g (t5_in (List.mem_of_getElem? (i := 37) rfl)) rfl
set_option maxRecDepth 100000 in
theorem wd1133 : Cond.methodLink RL 122 yX11_unheard ∈ lw_g := in_g (t5_in (List.mem_of_getElem? (i := 46) rfl)) rfl
set_option maxRecDepth 100000 in
theorem wd1134 : Cond.instanceMethod yX11_unheard ∈ lw_g := in_g (t5_in (List.mem_of_getElem? (i := 47) rfl)) rfl
set_option maxRecDepth 100000 in
theorem wd1135 : Cond.selects RX11 yX11_unheard yX11_unheard ∈ lw_g := in_g (t5_in (List.mem_of_getElem? (i := 48) rfl)) rfl
set_option maxRecDepth 100000 in
theorem wd1136 : Cond.code yX11_unheard cX11_unheard 5 (some .int) ∈ lw_g := in_g (t5_in (List.mem_of_getElem? (i := 49) rfl)) rfl
set_option maxRecDepth 100000 in
theorem wd1142 : Cond.methodLink RL 126 yX11_crowd ∈ lw_g := in_g (t5_in (List.mem_of_getElem? (i := 55) rfl)) rfl
set_option maxRecDepth 100000 in
theorem wd1143 : Cond.instanceMethod yX11_crowd ∈ lw_g := in_g (t5_in (List.mem_of_getElem? (i := 56) rfl)) rfl
set_option maxRecDepth 100000 in
theorem wd1144 : Cond.selects RX11 yX11_crowd yX11_crowd ∈ lw_g := in_g (t5_in (List.mem_of_getElem? (i := 57) rfl)) rfl
set_option maxRecDepth 100000 in
theorem wd1145 : Cond.code yX11_crowd cX11_crowd 2 (some .int) ∈ lw_g := in_g (t5_in (List.mem_of_getElem? (i := 58) rfl)) rfl
set_option maxRecDepth 100000 in
theorem wd1154 : Cond.methodLink RL 130 yX11_inCrowd ∈ lw_g := in_g (t5_in (List.mem_of_getElem? (i := 67) rfl)) rfl
set_option maxRecDepth 100000 in
theorem wd1155 : Cond.instanceMethod yX11_inCrowd ∈ lw_g := in_g (t5_in (List.mem_of_getElem? (i := 68) rfl)) rfl
set_option maxRecDepth 100000 in
theorem wd1156 : Cond.selects RX11 yX11_inCrowd yX11_inCrowd ∈ lw_g := in_g (t5_in (List.mem_of_getElem? (i := 69) rfl)) rfl
set_option maxRecDepth 100000 in
theorem wd1157 : Cond.code yX11_inCrowd cX11_inCrowd 4 (some .int) ∈ lw_g := in_g (t5_in (List.mem_of_getElem? (i := 70) rfl)) rfl
set_option maxRecDepth 100000 in
theorem wd1179 : Cond.methodLink RL 134 yX11_helpers ∈ lw_g := in_g (t5_in (List.mem_of_getElem? (i := 92) rfl)) rfl
set_option maxRecDepth 100000 in
theorem wd1180 : Cond.instanceMethod yX11_helpers ∈ lw_g := in_g (t5_in (List.mem_of_getElem? (i := 93) rfl)) rfl
set_option maxRecDepth 100000 in
theorem wd1181 : Cond.selects RX11 yX11_helpers yX11_helpers ∈ lw_g := in_g (t5_in (List.mem_of_getElem? (i := 94) rfl)) rfl
set_option maxRecDepth 100000 in
theorem wd1182 : Cond.code yX11_helpers cX11_helpers 1 (some .int) ∈ lw_g := in_g (t5_in (List.mem_of_getElem? (i := 95) rfl)) rfl
set_option maxRecDepth 100000 in
theorem wd1189 : Cond.methodLink RL 138 yX11_watch ∈ lw_g := in_g (t5_in (List.mem_of_getElem? (i := 102) rfl)) rfl
set_option maxRecDepth 100000 in
theorem wd1190 : Cond.instanceMethod yX11_watch ∈ lw_g := in_g (t5_in (List.mem_of_getElem? (i := 103) rfl)) rfl
set_option maxRecDepth 100000 in
theorem wd1191 : Cond.selects RX11 yX11_watch yX11_watch ∈ lw_g := in_g (t5_in (List.mem_of_getElem? (i := 104) rfl)) rfl
set_option maxRecDepth 100000 in
theorem wd1192 : Cond.code yX11_watch cX11_watch 3 (some .int) ∈ lw_g := in_g (t5_in (List.mem_of_getElem? (i := 105) rfl)) rfl
set_option maxRecDepth 100000 in
theorem wd1201 : Cond.methodLink RL 142 yX11_borders ∈ lw_g := in_g (t5_in (List.mem_of_getElem? (i := 114) rfl)) rfl
set_option maxRecDepth 100000 in
theorem wd1202 : Cond.instanceMethod yX11_borders ∈ lw_g := in_g (t5_in (List.mem_of_getElem? (i := 115) rfl)) rfl
set_option maxRecDepth 100000 in
theorem wd1203 : Cond.selects RX11 yX11_borders yX11_borders ∈ lw_g := in_g (t5_in (List.mem_of_getElem? (i := 116) rfl)) rfl
set_option maxRecDepth 100000 in
theorem wd1204 : Cond.code yX11_borders cX11_borders 2 (some .boolean) ∈ lw_g := in_g (t5_in (List.mem_of_getElem? (i := 117) rfl)) rfl
set_option maxRecDepth 100000 in
theorem wd1205 : Cond.methodLink RL 146 yX11_toBorder ∈ lw_g := in_g (t5_in (List.mem_of_getElem? (i := 118) rfl)) rfl
set_option maxRecDepth 100000 in
theorem wd1206 : Cond.instanceMethod yX11_toBorder ∈ lw_g := in_g (t5_in (List.mem_of_getElem? (i := 119) rfl)) rfl
set_option maxRecDepth 100000 in
theorem wd1207 : Cond.selects RX11 yX11_toBorder yX11_toBorder ∈ lw_g := in_g (t5_in (List.mem_of_getElem? (i := 120) rfl)) rfl
set_option maxRecDepth 100000 in
theorem wd1208 : Cond.code yX11_toBorder cX11_toBorder 2 (some .int) ∈ lw_g := in_g (t5_in (List.mem_of_getElem? (i := 121) rfl)) rfl
set_option maxRecDepth 100000 in
theorem wd1209 : Cond.methodLink RL 150 yX11_reports ∈ lw_g := in_g (t5_in (List.mem_of_getElem? (i := 122) rfl)) rfl
set_option maxRecDepth 100000 in
theorem wd1210 : Cond.instanceMethod yX11_reports ∈ lw_g := in_g (t5_in (List.mem_of_getElem? (i := 123) rfl)) rfl
set_option maxRecDepth 100000 in
theorem wd1211 : Cond.selects RX11 yX11_reports yX11_reports ∈ lw_g := in_g (t5_in (List.mem_of_getElem? (i := 124) rfl)) rfl
set_option maxRecDepth 100000 in
theorem wd1212 : Cond.code yX11_reports cX11_reports 2 (some .boolean) ∈ lw_g := in_g (t5_in (List.mem_of_getElem? (i := 125) rfl)) rfl
set_option maxRecDepth 100000 in
theorem wd1217 : Cond.methodLink RL 154 yX11_unlike ∈ lw_g := in_g (t5_in (List.mem_of_getElem? (i := 130) rfl)) rfl
set_option maxRecDepth 100000 in
theorem wd1218 : Cond.instanceMethod yX11_unlike ∈ lw_g := in_g (t5_in (List.mem_of_getElem? (i := 131) rfl)) rfl
set_option maxRecDepth 100000 in
theorem wd1219 : Cond.selects RX11 yX11_unlike yX11_unlike ∈ lw_g := in_g (t5_in (List.mem_of_getElem? (i := 132) rfl)) rfl
set_option maxRecDepth 100000 in
theorem wd1220 : Cond.code yX11_unlike cX11_unlike 3 (some .int) ∈ lw_g := in_g (t5_in (List.mem_of_getElem? (i := 133) rfl)) rfl
set_option maxRecDepth 100000 in
theorem wd1229 : Cond.methodLink RL 158 yX11_heads ∈ lw_g := in_g (t5_in (List.mem_of_getElem? (i := 142) rfl)) rfl
set_option maxRecDepth 100000 in
theorem wd1230 : Cond.instanceMethod yX11_heads ∈ lw_g := in_g (t5_in (List.mem_of_getElem? (i := 143) rfl)) rfl
set_option maxRecDepth 100000 in
theorem wd1231 : Cond.selects RX11 yX11_heads yX11_heads ∈ lw_g := in_g (t5_in (List.mem_of_getElem? (i := 144) rfl)) rfl
set_option maxRecDepth 100000 in
theorem wd1232 : Cond.code yX11_heads cX11_heads 3 (some .int) ∈ lw_g := in_g (t5_in (List.mem_of_getElem? (i := 145) rfl)) rfl
set_option maxRecDepth 100000 in
theorem wd1251 : Cond.methodLink RL 162 yX11_has ∈ lw_g := in_g (t5_in (List.mem_of_getElem? (i := 164) rfl)) rfl
set_option maxRecDepth 100000 in
theorem wd1252 : Cond.instanceMethod yX11_has ∈ lw_g := in_g (t5_in (List.mem_of_getElem? (i := 165) rfl)) rfl
set_option maxRecDepth 100000 in
theorem wd1253 : Cond.selects RX11 yX11_has yX11_has ∈ lw_g := in_g (t5_in (List.mem_of_getElem? (i := 166) rfl)) rfl
set_option maxRecDepth 100000 in
theorem wd1254 : Cond.code yX11_has cX11_has 5 (some .boolean) ∈ lw_g := in_g (t5_in (List.mem_of_getElem? (i := 167) rfl)) rfl
set_option maxRecDepth 100000 in
theorem wd1259 : Cond.methodLink RL 167 yX11_rests ∈ lw_g := in_g (t5_in (List.mem_of_getElem? (i := 172) rfl)) rfl
set_option maxRecDepth 100000 in
theorem wd1260 : Cond.instanceMethod yX11_rests ∈ lw_g := in_g (t5_in (List.mem_of_getElem? (i := 173) rfl)) rfl
set_option maxRecDepth 100000 in
theorem wd1261 : Cond.selects RX11 yX11_rests yX11_rests ∈ lw_g := in_g (t5_in (List.mem_of_getElem? (i := 174) rfl)) rfl
set_option maxRecDepth 100000 in
theorem wd1262 : Cond.code yX11_rests cX11_rests 1 (some .int) ∈ lw_g := in_g (t5_in (List.mem_of_getElem? (i := 175) rfl)) rfl
set_option maxRecDepth 100000 in
theorem wd1271 : Cond.methodLink RL 171 yX11_mixed ∈ lw_g := in_g (t5_in (List.mem_of_getElem? (i := 184) rfl)) rfl
set_option maxRecDepth 100000 in
theorem wd1272 : Cond.instanceMethod yX11_mixed ∈ lw_g := in_g (t5_in (List.mem_of_getElem? (i := 185) rfl)) rfl
set_option maxRecDepth 100000 in
theorem wd1273 : Cond.selects RX11 yX11_mixed yX11_mixed ∈ lw_g := in_g (t5_in (List.mem_of_getElem? (i := 186) rfl)) rfl
set_option maxRecDepth 100000 in
theorem wd1274 : Cond.code yX11_mixed cX11_mixed 2 (some .int) ∈ lw_g := in_g (t5_in (List.mem_of_getElem? (i := 187) rfl)) rfl
set_option maxRecDepth 100000 in
theorem wd1280 : Cond.methodLink RL 176 yX11_befell ∈ lw_g := in_g (t5_in (List.mem_of_getElem? (i := 193) rfl)) rfl
set_option maxRecDepth 100000 in
theorem wd1281 : Cond.instanceMethod yX11_befell ∈ lw_g := in_g (t5_in (List.mem_of_getElem? (i := 194) rfl)) rfl
set_option maxRecDepth 100000 in
theorem wd1282 : Cond.selects RX11 yX11_befell yX11_befell ∈ lw_g := in_g (t5_in (List.mem_of_getElem? (i := 195) rfl)) rfl
set_option maxRecDepth 100000 in
theorem wd1283 : Cond.code yX11_befell cX11_befell 6 (some .int) ∈ lw_g := in_g (t5_in (List.mem_of_getElem? (i := 196) rfl)) rfl
set_option maxRecDepth 100000 in
theorem wd1284 : Cond.methodLink RL 180 yX11_heirs ∈ lw_g := in_g (t5_in (List.mem_of_getElem? (i := 197) rfl)) rfl
set_option maxRecDepth 100000 in
theorem wd1285 : Cond.instanceMethod yX11_heirs ∈ lw_g := in_g (t5_in (List.mem_of_getElem? (i := 198) rfl)) rfl
set_option maxRecDepth 100000 in
theorem wd1286 : Cond.selects RX11 yX11_heirs yX11_heirs ∈ lw_g := in_g (t5_in (List.mem_of_getElem? (i := 199) rfl)) rfl
set_option maxRecDepth 100000 in
theorem wd1287 : Cond.code yX11_heirs cX11_heirs 2 (some .int) ∈ lw_g := in_g (t5_in (List.mem_of_getElem? (i := 200) rfl)) rfl
set_option maxRecDepth 100000 in
theorem wd1288 : Cond.methodLink RL 184 yX11_feared ∈ lw_g := in_g (t5_in (List.mem_of_getElem? (i := 201) rfl)) rfl
set_option maxRecDepth 100000 in
theorem wd1289 : Cond.instanceMethod yX11_feared ∈ lw_g := in_g (t5_in (List.mem_of_getElem? (i := 202) rfl)) rfl
set_option maxRecDepth 100000 in
theorem wd1290 : Cond.selects RX11 yX11_feared yX11_feared ∈ lw_g := in_g (t5_in (List.mem_of_getElem? (i := 203) rfl)) rfl
set_option maxRecDepth 100000 in
theorem wd1291 : Cond.code yX11_feared cX11_feared 7 (some .int) ∈ lw_g := in_g (t5_in (List.mem_of_getElem? (i := 204) rfl)) rfl
set_option maxRecDepth 100000 in
theorem wd1297 : Cond.methodLink RL 188 yX11_wolves ∈ lw_g := in_g (t5_in (List.mem_of_getElem? (i := 210) rfl)) rfl
set_option maxRecDepth 100000 in
theorem wd1298 : Cond.instanceMethod yX11_wolves ∈ lw_g := in_g (t5_in (List.mem_of_getElem? (i := 211) rfl)) rfl
set_option maxRecDepth 100000 in
theorem wd1299 : Cond.selects RX11 yX11_wolves yX11_wolves ∈ lw_g := in_g (t5_in (List.mem_of_getElem? (i := 212) rfl)) rfl
set_option maxRecDepth 100000 in
theorem wd1300 : Cond.code yX11_wolves cX11_wolves 1 (some .int) ∈ lw_g := in_g (t5_in (List.mem_of_getElem? (i := 213) rfl)) rfl
set_option maxRecDepth 100000 in
theorem wd1301 : Cond.methodLink RL 192 yX11_paid ∈ lw_g := in_g (t5_in (List.mem_of_getElem? (i := 214) rfl)) rfl
set_option maxRecDepth 100000 in
theorem wd1302 : Cond.instanceMethod yX11_paid ∈ lw_g := in_g (t5_in (List.mem_of_getElem? (i := 215) rfl)) rfl
set_option maxRecDepth 100000 in
theorem wd1303 : Cond.selects RX11 yX11_paid yX11_paid ∈ lw_g := in_g (t5_in (List.mem_of_getElem? (i := 216) rfl)) rfl
set_option maxRecDepth 100000 in
theorem wd1304 : Cond.code yX11_paid cX11_paid 3 (some .int) ∈ lw_g := in_g (t5_in (List.mem_of_getElem? (i := 217) rfl)) rfl
set_option maxRecDepth 100000 in
theorem wd1313 : Cond.methodLink RL 196 yX11_whose ∈ lw_g := in_g (t5_in (List.mem_of_getElem? (i := 226) rfl)) rfl
set_option maxRecDepth 100000 in
theorem wd1314 : Cond.instanceMethod yX11_whose ∈ lw_g := in_g (t5_in (List.mem_of_getElem? (i := 227) rfl)) rfl
set_option maxRecDepth 100000 in
theorem wd1315 : Cond.selects RX11 yX11_whose yX11_whose ∈ lw_g := in_g (t5_in (List.mem_of_getElem? (i := 228) rfl)) rfl
set_option maxRecDepth 100000 in
theorem wd1316 : Cond.code yX11_whose cX11_whose 3 (some .int) ∈ lw_g := in_g (t5_in (List.mem_of_getElem? (i := 229) rfl)) rfl
set_option maxRecDepth 100000 in
theorem wd1329 : Cond.methodLink RL 200 yX11_image ∈ lw_g := in_g (t6_in (List.mem_of_getElem? (i := 2) rfl)) rfl
set_option maxRecDepth 100000 in
theorem wd1330 : Cond.instanceMethod yX11_image ∈ lw_g := in_g (t6_in (List.mem_of_getElem? (i := 3) rfl)) rfl
set_option maxRecDepth 100000 in
theorem wd1331 : Cond.selects RX11 yX11_image yX11_image ∈ lw_g := in_g (t6_in (List.mem_of_getElem? (i := 4) rfl)) rfl
set_option maxRecDepth 100000 in
theorem wd1332 : Cond.code yX11_image cX11_image 1 (some .int) ∈ lw_g := in_g (t6_in (List.mem_of_getElem? (i := 5) rfl)) rfl
set_option maxRecDepth 100000 in
theorem wd1353 : Cond.methodLink RL 204 yX11_back ∈ lw_g := in_g (t6_in (List.mem_of_getElem? (i := 26) rfl)) rfl
set_option maxRecDepth 100000 in
theorem wd1354 : Cond.instanceMethod yX11_back ∈ lw_g := in_g (t6_in (List.mem_of_getElem? (i := 27) rfl)) rfl
set_option maxRecDepth 100000 in
theorem wd1355 : Cond.selects RX11 yX11_back yX11_back ∈ lw_g := in_g (t6_in (List.mem_of_getElem? (i := 28) rfl)) rfl
set_option maxRecDepth 100000 in
theorem wd1356 : Cond.code yX11_back cX11_back 1 (some .int) ∈ lw_g := in_g (t6_in (List.mem_of_getElem? (i := 29) rfl)) rfl
set_option maxRecDepth 100000 in
theorem wd1357 : Cond.methodLink RL 208 yX11_about ∈ lw_g := in_g (t6_in (List.mem_of_getElem? (i := 30) rfl)) rfl
set_option maxRecDepth 100000 in
theorem wd1358 : Cond.instanceMethod yX11_about ∈ lw_g := in_g (t6_in (List.mem_of_getElem? (i := 31) rfl)) rfl
set_option maxRecDepth 100000 in
theorem wd1359 : Cond.selects RX11 yX11_about yX11_about ∈ lw_g := in_g (t6_in (List.mem_of_getElem? (i := 32) rfl)) rfl
set_option maxRecDepth 100000 in
theorem wd1360 : Cond.code yX11_about cX11_about 2 (some .int) ∈ lw_g := in_g (t6_in (List.mem_of_getElem? (i := 33) rfl)) rfl
set_option maxRecDepth 100000 in
theorem wd1460 : Cond.methodLink RL 17 yX12_land ∈ lw_g := in_g (t6_in (List.mem_of_getElem? (i := 133) rfl)) rfl
set_option maxRecDepth 100000 in
theorem wd1467 : Cond.methodLink RL 22 yX12_road ∈ lw_g := in_g (t6_in (List.mem_of_getElem? (i := 140) rfl)) rfl
set_option maxRecDepth 100000 in
theorem wd1478 : Cond.methodLink RL 27 yX12_person ∈ lw_g := in_g (t6_in (List.mem_of_getElem? (i := 151) rfl)) rfl
set_option maxRecDepth 100000 in
theorem wd1494 : Cond.methodLink RL 32 yX12_feed ∈ lw_g := in_g (t6_in (List.mem_of_getElem? (i := 167) rfl)) rfl
set_option maxRecDepth 100000 in
theorem wd1495 : Cond.instanceMethod yX12_feed ∈ lw_g := in_g (t6_in (List.mem_of_getElem? (i := 168) rfl)) rfl
set_option maxRecDepth 100000 in
theorem wd1496 : Cond.selects RX12 yX12_feed yX12_feed ∈ lw_g := in_g (t6_in (List.mem_of_getElem? (i := 169) rfl)) rfl
set_option maxRecDepth 100000 in
theorem wd1497 : Cond.code yX12_feed cX12_feed 6 (some .int) ∈ lw_g := in_g (t6_in (List.mem_of_getElem? (i := 170) rfl)) rfl
set_option maxRecDepth 100000 in
theorem wd1502 : Cond.methodLink RL 36 yX12_end ∈ lw_g := in_g (t6_in (List.mem_of_getElem? (i := 175) rfl)) rfl
set_option maxRecDepth 100000 in
theorem wd1503 : Cond.instanceMethod yX12_end ∈ lw_g := in_g (t6_in (List.mem_of_getElem? (i := 176) rfl)) rfl
set_option maxRecDepth 100000 in
theorem wd1504 : Cond.selects RX12 yX12_end yX12_end ∈ lw_g := in_g (t6_in (List.mem_of_getElem? (i := 177) rfl)) rfl
set_option maxRecDepth 100000 in
theorem wd1505 : Cond.code yX12_end cX12_end 2 (some .int) ∈ lw_g := in_g (t6_in (List.mem_of_getElem? (i := 178) rfl)) rfl
set_option maxRecDepth 100000 in
theorem wd1506 : Cond.methodLink RL 41 yX12_text ∈ lw_g := in_g (t6_in (List.mem_of_getElem? (i := 179) rfl)) rfl
set_option maxRecDepth 100000 in
theorem wd1507 : Cond.instanceMethod yX12_text ∈ lw_g := in_g (t6_in (List.mem_of_getElem? (i := 180) rfl)) rfl
set_option maxRecDepth 100000 in
theorem wd1508 : Cond.selects RX12 yX12_text yX12_text ∈ lw_g := in_g (t6_in (List.mem_of_getElem? (i := 181) rfl)) rfl
set_option maxRecDepth 100000 in
theorem wd1509 : Cond.code yX12_text cX12_text 1 (some .int) ∈ lw_g := in_g (t6_in (List.mem_of_getElem? (i := 182) rfl)) rfl
set_option maxRecDepth 100000 in
theorem wd1651 : Cond.methodLink RL 45 yX12_fault ∈ lw_g := in_g (t7_in (List.mem_of_getElem? (i := 84) rfl)) rfl
set_option maxRecDepth 100000 in
theorem wd1652 : Cond.instanceMethod yX12_fault ∈ lw_g := in_g (t7_in (List.mem_of_getElem? (i := 85) rfl)) rfl
set_option maxRecDepth 100000 in
theorem wd1653 : Cond.selects RX12 yX12_fault yX12_fault ∈ lw_g := in_g (t7_in (List.mem_of_getElem? (i := 86) rfl)) rfl
set_option maxRecDepth 100000 in
theorem wd1654 : Cond.code yX12_fault cX12_fault 2 (some .int) ∈ lw_g := in_g (t7_in (List.mem_of_getElem? (i := 87) rfl)) rfl
set_option maxRecDepth 100000 in
theorem wd1655 : Cond.methodLink RL 50 yX12_by ∈ lw_g := in_g (t7_in (List.mem_of_getElem? (i := 88) rfl)) rfl
set_option maxRecDepth 100000 in
theorem wd1656 : Cond.instanceMethod yX12_by ∈ lw_g := in_g (t7_in (List.mem_of_getElem? (i := 89) rfl)) rfl
set_option maxRecDepth 100000 in
theorem wd1657 : Cond.selects RX12 yX12_by yX12_by ∈ lw_g := in_g (t7_in (List.mem_of_getElem? (i := 90) rfl)) rfl
set_option maxRecDepth 100000 in
theorem wd1658 : Cond.code yX12_by cX12_by 2 (some .boolean) ∈ lw_g := in_g (t7_in (List.mem_of_getElem? (i := 91) rfl)) rfl
set_option maxRecDepth 100000 in
theorem wd1659 : Cond.methodLink RL 87 yX12_undo ∈ lw_g := in_g (t7_in (List.mem_of_getElem? (i := 92) rfl)) rfl
set_option maxRecDepth 100000 in
theorem wd1660 : Cond.instanceMethod yX12_undo ∈ lw_g := in_g (t7_in (List.mem_of_getElem? (i := 93) rfl)) rfl
set_option maxRecDepth 100000 in
theorem wd1661 : Cond.selects RX12 yX12_undo yX12_undo ∈ lw_g := in_g (t7_in (List.mem_of_getElem? (i := 94) rfl)) rfl
set_option maxRecDepth 100000 in
theorem wd1662 : Cond.code yX12_undo cX12_undo 4 (some .int) ∈ lw_g := in_g (t7_in (List.mem_of_getElem? (i := 95) rfl)) rfl
set_option maxRecDepth 100000 in
theorem wd1663 : Cond.methodLink RL 55 yX12_call ∈ lw_g := in_g (t7_in (List.mem_of_getElem? (i := 96) rfl)) rfl
set_option maxRecDepth 100000 in
theorem wd1691 : Cond.methodLink RL 59 yX12_move ∈ lw_g := in_g (t7_in (List.mem_of_getElem? (i := 124) rfl)) rfl
set_option maxRecDepth 100000 in
theorem wd1699 : Cond.methodLink RL 63 yX12_feeds ∈ lw_g := in_g (t7_in (List.mem_of_getElem? (i := 132) rfl)) rfl
set_option maxRecDepth 100000 in
theorem wd1778 : Cond.methodLink RL 67 yX12_kill ∈ lw_g := in_g (t7_in (List.mem_of_getElem? (i := 211) rfl)) rfl
set_option maxRecDepth 100000 in
theorem wd1794 : Cond.methodLink RL 71 yX12_pardon ∈ lw_g := in_g (t7_in (List.mem_of_getElem? (i := 227) rfl)) rfl
set_option maxRecDepth 100000 in
theorem wd1810 : Cond.methodLink RL 75 yX12_month ∈ lw_g := in_g (t8_in (List.mem_of_getElem? (i := 3) rfl)) rfl
set_option maxRecDepth 100000 in
theorem wd1811 : Cond.instanceMethod yX12_month ∈ lw_g := in_g (t8_in (List.mem_of_getElem? (i := 4) rfl)) rfl
set_option maxRecDepth 100000 in
theorem wd1812 : Cond.selects RX12 yX12_month yX12_month ∈ lw_g := in_g (t8_in (List.mem_of_getElem? (i := 5) rfl)) rfl
set_option maxRecDepth 100000 in
theorem wd1813 : Cond.code yX12_month cX12_month 2 (some .int) ∈ lw_g := in_g (t8_in (List.mem_of_getElem? (i := 6) rfl)) rfl
set_option maxRecDepth 100000 in
theorem wd1834 : Cond.methodLink RL 79 yX12_played ∈ lw_g := in_g (t8_in (List.mem_of_getElem? (i := 27) rfl)) rfl
set_option maxRecDepth 100000 in
theorem wd1835 : Cond.instanceMethod yX12_played ∈ lw_g := in_g (t8_in (List.mem_of_getElem? (i := 28) rfl)) rfl
set_option maxRecDepth 100000 in
theorem wd1836 : Cond.selects RX12 yX12_played yX12_played ∈ lw_g := in_g (t8_in (List.mem_of_getElem? (i := 29) rfl)) rfl
set_option maxRecDepth 100000 in
theorem wd1837 : Cond.code yX12_played cX12_played 3 (some .int) ∈ lw_g := in_g (t8_in (List.mem_of_getElem? (i := 30) rfl)) rfl
set_option maxRecDepth 100000 in
theorem wd1850 : Cond.methodLink RL 83 yX12_reigns ∈ lw_g := in_g (t8_in (List.mem_of_getElem? (i := 43) rfl)) rfl
set_option maxRecDepth 100000 in
theorem wd1851 : Cond.instanceMethod yX12_reigns ∈ lw_g := in_g (t8_in (List.mem_of_getElem? (i := 44) rfl)) rfl
set_option maxRecDepth 100000 in
theorem wd1852 : Cond.selects RX12 yX12_reigns yX12_reigns ∈ lw_g := in_g (t8_in (List.mem_of_getElem? (i := 45) rfl)) rfl
set_option maxRecDepth 100000 in
theorem wd1853 : Cond.code yX12_reigns cX12_reigns 5 (some .int) ∈ lw_g := in_g (t8_in (List.mem_of_getElem? (i := 46) rfl)) rfl
set_option maxRecDepth 100000 in
theorem wd1858 : Cond.methodLink RL 91 yX12_of ∈ lw_g := in_g (t8_in (List.mem_of_getElem? (i := 51) rfl)) rfl
set_option maxRecDepth 100000 in
theorem wd1859 : Cond.instanceMethod yX12_of ∈ lw_g := in_g (t8_in (List.mem_of_getElem? (i := 52) rfl)) rfl
set_option maxRecDepth 100000 in
theorem wd1860 : Cond.selects RX12 yX12_of yX12_of ∈ lw_g := in_g (t8_in (List.mem_of_getElem? (i := 53) rfl)) rfl
set_option maxRecDepth 100000 in
theorem wd1861 : Cond.code yX12_of cX12_of 3 (some .int) ∈ lw_g := in_g (t8_in (List.mem_of_getElem? (i := 54) rfl)) rfl
set_option maxRecDepth 100000 in
theorem wd1862 : Cond.methodLink RL 95 yX12_ofLand ∈ lw_g := in_g (t8_in (List.mem_of_getElem? (i := 55) rfl)) rfl
set_option maxRecDepth 100000 in
theorem wd1863 : Cond.instanceMethod yX12_ofLand ∈ lw_g := in_g (t8_in (List.mem_of_getElem? (i := 56) rfl)) rfl
set_option maxRecDepth 100000 in
theorem wd1864 : Cond.selects RX12 yX12_ofLand yX12_ofLand ∈ lw_g := in_g (t8_in (List.mem_of_getElem? (i := 57) rfl)) rfl
set_option maxRecDepth 100000 in
theorem wd1865 : Cond.code yX12_ofLand cX12_ofLand 3 (some .int) ∈ lw_g := in_g (t8_in (List.mem_of_getElem? (i := 58) rfl)) rfl
set_option maxRecDepth 100000 in
theorem wd1870 : Cond.methodLink RL 99 yX12_is ∈ lw_g := in_g (t8_in (List.mem_of_getElem? (i := 63) rfl)) rfl
set_option maxRecDepth 100000 in
theorem wd1871 : Cond.instanceMethod yX12_is ∈ lw_g := in_g (t8_in (List.mem_of_getElem? (i := 64) rfl)) rfl
set_option maxRecDepth 100000 in
theorem wd1872 : Cond.selects RX12 yX12_is yX12_is ∈ lw_g := in_g (t8_in (List.mem_of_getElem? (i := 65) rfl)) rfl
set_option maxRecDepth 100000 in
theorem wd1873 : Cond.code yX12_is cX12_is 2 (some .int) ∈ lw_g := in_g (t8_in (List.mem_of_getElem? (i := 66) rfl)) rfl
set_option maxRecDepth 100000 in
theorem wd1874 : Cond.methodLink RL 103 yX12_book ∈ lw_g := in_g (t8_in (List.mem_of_getElem? (i := 67) rfl)) rfl
set_option maxRecDepth 100000 in
theorem wd1875 : Cond.instanceMethod yX12_book ∈ lw_g := in_g (t8_in (List.mem_of_getElem? (i := 68) rfl)) rfl
set_option maxRecDepth 100000 in
theorem wd1876 : Cond.selects RX12 yX12_book yX12_book ∈ lw_g := in_g (t8_in (List.mem_of_getElem? (i := 69) rfl)) rfl
set_option maxRecDepth 100000 in
theorem wd1877 : Cond.code yX12_book cX12_book 3 (some .int) ∈ lw_g := in_g (t8_in (List.mem_of_getElem? (i := 70) rfl)) rfl
set_option maxRecDepth 100000 in
theorem wd1886 : Cond.methodLink RL 179 yX12_befell ∈ lw_g := in_g (t8_in (List.mem_of_getElem? (i := 79) rfl)) rfl
set_option maxRecDepth 100000 in
theorem wd1887 : Cond.instanceMethod yX12_befell ∈ lw_g := in_g (t8_in (List.mem_of_getElem? (i := 80) rfl)) rfl
set_option maxRecDepth 100000 in
theorem wd1888 : Cond.selects RX12 yX12_befell yX12_befell ∈ lw_g := in_g (t8_in (List.mem_of_getElem? (i := 81) rfl)) rfl
set_option maxRecDepth 100000 in
theorem wd1889 : Cond.code yX12_befell cX12_befell 5 (some .int) ∈ lw_g := in_g (t8_in (List.mem_of_getElem? (i := 82) rfl)) rfl
set_option maxRecDepth 100000 in
theorem wd1890 : Cond.methodLink RL 183 yX12_heirs ∈ lw_g := in_g (t8_in (List.mem_of_getElem? (i := 83) rfl)) rfl
set_option maxRecDepth 100000 in
theorem wd1891 : Cond.instanceMethod yX12_heirs ∈ lw_g := in_g (t8_in (List.mem_of_getElem? (i := 84) rfl)) rfl
set_option maxRecDepth 100000 in
theorem wd1892 : Cond.selects RX12 yX12_heirs yX12_heirs ∈ lw_g := in_g (t8_in (List.mem_of_getElem? (i := 85) rfl)) rfl
set_option maxRecDepth 100000 in
theorem wd1893 : Cond.code yX12_heirs cX12_heirs 2 (some .int) ∈ lw_g := in_g (t8_in (List.mem_of_getElem? (i := 86) rfl)) rfl
set_option maxRecDepth 100000 in
theorem wd1894 : Cond.methodLink RL 191 yX12_wolves ∈ lw_g := in_g (t8_in (List.mem_of_getElem? (i := 87) rfl)) rfl
set_option maxRecDepth 100000 in
theorem wd1898 : Cond.methodLink RL 187 yX12_feared ∈ lw_g := in_g (t8_in (List.mem_of_getElem? (i := 91) rfl)) rfl
set_option maxRecDepth 100000 in
theorem wd1899 : Cond.instanceMethod yX12_feared ∈ lw_g := in_g (t8_in (List.mem_of_getElem? (i := 92) rfl)) rfl
set_option maxRecDepth 100000 in
theorem wd1900 : Cond.selects RX12 yX12_feared yX12_feared ∈ lw_g := in_g (t8_in (List.mem_of_getElem? (i := 93) rfl)) rfl
set_option maxRecDepth 100000 in
theorem wd1901 : Cond.code yX12_feared cX12_feared 5 (some .int) ∈ lw_g := in_g (t8_in (List.mem_of_getElem? (i := 94) rfl)) rfl
set_option maxRecDepth 100000 in
theorem wd1903 : Cond.methodLink RL 108 yX12_foretold ∈ lw_g := in_g (t8_in (List.mem_of_getElem? (i := 96) rfl)) rfl
set_option maxRecDepth 100000 in
theorem wd1904 : Cond.instanceMethod yX12_foretold ∈ lw_g := in_g (t8_in (List.mem_of_getElem? (i := 97) rfl)) rfl
set_option maxRecDepth 100000 in
theorem wd1905 : Cond.selects RX12 yX12_foretold yX12_foretold ∈ lw_g := in_g (t8_in (List.mem_of_getElem? (i := 98) rfl)) rfl
set_option maxRecDepth 100000 in
theorem wd1906 : Cond.code yX12_foretold cX12_foretold 5 (some .int) ∈ lw_g := in_g (t8_in (List.mem_of_getElem? (i := 99) rfl)) rfl
set_option maxRecDepth 100000 in
theorem wd1915 : Cond.methodLink RL 112 yX12_toPay ∈ lw_g := in_g (t8_in (List.mem_of_getElem? (i := 108) rfl)) rfl
set_option maxRecDepth 100000 in
theorem wd1916 : Cond.instanceMethod yX12_toPay ∈ lw_g := in_g (t8_in (List.mem_of_getElem? (i := 109) rfl)) rfl
set_option maxRecDepth 100000 in
theorem wd1917 : Cond.selects RX12 yX12_toPay yX12_toPay ∈ lw_g := in_g (t8_in (List.mem_of_getElem? (i := 110) rfl)) rfl
set_option maxRecDepth 100000 in
theorem wd1918 : Cond.code yX12_toPay cX12_toPay 5 (some .int) ∈ lw_g := in_g (t8_in (List.mem_of_getElem? (i := 111) rfl)) rfl
set_option maxRecDepth 100000 in
theorem wd1919 : Cond.methodLink RL 117 yX12_surest ∈ lw_g := in_g (t8_in (List.mem_of_getElem? (i := 112) rfl)) rfl
set_option maxRecDepth 100000 in
theorem wd1920 : Cond.instanceMethod yX12_surest ∈ lw_g := in_g (t8_in (List.mem_of_getElem? (i := 113) rfl)) rfl
set_option maxRecDepth 100000 in
theorem wd1921 : Cond.selects RX12 yX12_surest yX12_surest ∈ lw_g := in_g (t8_in (List.mem_of_getElem? (i := 114) rfl)) rfl
set_option maxRecDepth 100000 in
theorem wd1922 : Cond.code yX12_surest cX12_surest 8 (some .int) ∈ lw_g := in_g (t8_in (List.mem_of_getElem? (i := 115) rfl)) rfl
set_option maxRecDepth 100000 in
theorem wd1942 : Cond.methodLink RL 121 yX12_steps ∈ lw_g := in_g (t8_in (List.mem_of_getElem? (i := 135) rfl)) rfl
set_option maxRecDepth 100000 in
theorem wd1943 : Cond.instanceMethod yX12_steps ∈ lw_g := in_g (t8_in (List.mem_of_getElem? (i := 136) rfl)) rfl
set_option maxRecDepth 100000 in
theorem wd1944 : Cond.selects RX12 yX12_steps yX12_steps ∈ lw_g := in_g (t8_in (List.mem_of_getElem? (i := 137) rfl)) rfl
set_option maxRecDepth 100000 in
theorem wd1945 : Cond.code yX12_steps cX12_steps 5 (some .int) ∈ lw_g := in_g (t8_in (List.mem_of_getElem? (i := 138) rfl)) rfl
set_option maxRecDepth 100000 in
theorem wd1950 : Cond.methodLink RL 125 yX12_unheard ∈ lw_g := in_g (t8_in (List.mem_of_getElem? (i := 143) rfl)) rfl
set_option maxRecDepth 100000 in
theorem wd1951 : Cond.instanceMethod yX12_unheard ∈ lw_g := in_g (t8_in (List.mem_of_getElem? (i := 144) rfl)) rfl
set_option maxRecDepth 100000 in
theorem wd1952 : Cond.selects RX12 yX12_unheard yX12_unheard ∈ lw_g := in_g (t8_in (List.mem_of_getElem? (i := 145) rfl)) rfl
set_option maxRecDepth 100000 in
theorem wd1953 : Cond.code yX12_unheard cX12_unheard 5 (some .int) ∈ lw_g := in_g (t8_in (List.mem_of_getElem? (i := 146) rfl)) rfl
set_option maxRecDepth 100000 in
theorem wd1954 : Cond.methodLink RL 145 yX12_borders ∈ lw_g := in_g (t8_in (List.mem_of_getElem? (i := 147) rfl)) rfl
set_option maxRecDepth 100000 in
theorem wd1955 : Cond.instanceMethod yX12_borders ∈ lw_g := in_g (t8_in (List.mem_of_getElem? (i := 148) rfl)) rfl
set_option maxRecDepth 100000 in
theorem wd1956 : Cond.selects RX12 yX12_borders yX12_borders ∈ lw_g := in_g (t8_in (List.mem_of_getElem? (i := 149) rfl)) rfl
set_option maxRecDepth 100000 in
theorem wd1957 : Cond.code yX12_borders cX12_borders 2 (some .boolean) ∈ lw_g := in_g (t8_in (List.mem_of_getElem? (i := 150) rfl)) rfl
set_option maxRecDepth 100000 in
theorem wd1958 : Cond.methodLink RL 149 yX12_toBorder ∈ lw_g := in_g (t8_in (List.mem_of_getElem? (i := 151) rfl)) rfl
set_option maxRecDepth 100000 in
theorem wd1959 : Cond.instanceMethod yX12_toBorder ∈ lw_g := in_g (t8_in (List.mem_of_getElem? (i := 152) rfl)) rfl
set_option maxRecDepth 100000 in
theorem wd1960 : Cond.selects RX12 yX12_toBorder yX12_toBorder ∈ lw_g := in_g (t8_in (List.mem_of_getElem? (i := 153) rfl)) rfl
set_option maxRecDepth 100000 in
theorem wd1961 : Cond.code yX12_toBorder cX12_toBorder 4 (some .int) ∈ lw_g := in_g (t8_in (List.mem_of_getElem? (i := 154) rfl)) rfl
set_option maxRecDepth 100000 in
theorem wd1962 : Cond.methodLink RL 137 yX12_helpers ∈ lw_g := in_g (t8_in (List.mem_of_getElem? (i := 155) rfl)) rfl
set_option maxRecDepth 100000 in
theorem wd1963 : Cond.instanceMethod yX12_helpers ∈ lw_g := in_g (t8_in (List.mem_of_getElem? (i := 156) rfl)) rfl
set_option maxRecDepth 100000 in
theorem wd1964 : Cond.selects RX12 yX12_helpers yX12_helpers ∈ lw_g := in_g (t8_in (List.mem_of_getElem? (i := 157) rfl)) rfl
set_option maxRecDepth 100000 in
theorem wd1965 : Cond.code yX12_helpers cX12_helpers 4 (some .int) ∈ lw_g := in_g (t8_in (List.mem_of_getElem? (i := 158) rfl)) rfl
set_option maxRecDepth 100000 in
theorem wd1966 : Cond.methodLink RL 141 yX12_watch ∈ lw_g := in_g (t8_in (List.mem_of_getElem? (i := 159) rfl)) rfl
set_option maxRecDepth 100000 in
theorem wd1967 : Cond.instanceMethod yX12_watch ∈ lw_g := in_g (t8_in (List.mem_of_getElem? (i := 160) rfl)) rfl
set_option maxRecDepth 100000 in
theorem wd1968 : Cond.selects RX12 yX12_watch yX12_watch ∈ lw_g := in_g (t8_in (List.mem_of_getElem? (i := 161) rfl)) rfl
set_option maxRecDepth 100000 in
theorem wd1969 : Cond.code yX12_watch cX12_watch 5 (some .int) ∈ lw_g := in_g (t8_in (List.mem_of_getElem? (i := 162) rfl)) rfl
set_option maxRecDepth 100000 in
theorem wd1974 : Cond.methodLink RL 129 yX12_crowd ∈ lw_g := in_g (t8_in (List.mem_of_getElem? (i := 167) rfl)) rfl
set_option maxRecDepth 100000 in
theorem wd1975 : Cond.instanceMethod yX12_crowd ∈ lw_g := in_g (t8_in (List.mem_of_getElem? (i := 168) rfl)) rfl
set_option maxRecDepth 100000 in
theorem wd1976 : Cond.selects RX12 yX12_crowd yX12_crowd ∈ lw_g := in_g (t8_in (List.mem_of_getElem? (i := 169) rfl)) rfl
set_option maxRecDepth 100000 in
theorem wd1977 : Cond.code yX12_crowd cX12_crowd 2 (some .int) ∈ lw_g := in_g (t8_in (List.mem_of_getElem? (i := 170) rfl)) rfl
set_option maxRecDepth 100000 in
theorem wd1978 : Cond.methodLink RL 133 yX12_inCrowd ∈ lw_g := in_g (t8_in (List.mem_of_getElem? (i := 171) rfl)) rfl
set_option maxRecDepth 100000 in
theorem wd1979 : Cond.instanceMethod yX12_inCrowd ∈ lw_g := in_g (t8_in (List.mem_of_getElem? (i := 172) rfl)) rfl
set_option maxRecDepth 100000 in
theorem wd1980 : Cond.selects RX12 yX12_inCrowd yX12_inCrowd ∈ lw_g := in_g (t8_in (List.mem_of_getElem? (i := 173) rfl)) rfl
set_option maxRecDepth 100000 in
theorem wd1981 : Cond.code yX12_inCrowd cX12_inCrowd 10 (some .int) ∈ lw_g := in_g (t8_in (List.mem_of_getElem? (i := 174) rfl)) rfl
set_option maxRecDepth 100000 in
theorem wd1986 : Cond.methodLink RL 153 yX12_reports ∈ lw_g := in_g (t8_in (List.mem_of_getElem? (i := 179) rfl)) rfl
set_option maxRecDepth 100000 in
theorem wd1987 : Cond.instanceMethod yX12_reports ∈ lw_g := in_g (t8_in (List.mem_of_getElem? (i := 180) rfl)) rfl
set_option maxRecDepth 100000 in
theorem wd1988 : Cond.selects RX12 yX12_reports yX12_reports ∈ lw_g := in_g (t8_in (List.mem_of_getElem? (i := 181) rfl)) rfl
set_option maxRecDepth 100000 in
theorem wd1989 : Cond.code yX12_reports cX12_reports 2 (some .boolean) ∈ lw_g := in_g (t8_in (List.mem_of_getElem? (i := 182) rfl)) rfl
set_option maxRecDepth 100000 in
theorem wd1990 : Cond.methodLink RL 157 yX12_unlike ∈ lw_g := in_g (t8_in (List.mem_of_getElem? (i := 183) rfl)) rfl
set_option maxRecDepth 100000 in
theorem wd1991 : Cond.instanceMethod yX12_unlike ∈ lw_g := in_g (t8_in (List.mem_of_getElem? (i := 184) rfl)) rfl
set_option maxRecDepth 100000 in
theorem wd1992 : Cond.selects RX12 yX12_unlike yX12_unlike ∈ lw_g := in_g (t8_in (List.mem_of_getElem? (i := 185) rfl)) rfl
set_option maxRecDepth 100000 in
theorem wd1993 : Cond.code yX12_unlike cX12_unlike 3 (some .int) ∈ lw_g := in_g (t8_in (List.mem_of_getElem? (i := 186) rfl)) rfl
set_option maxRecDepth 100000 in
theorem wd1994 : Cond.methodLink RL 161 yX12_heads ∈ lw_g := in_g (t8_in (List.mem_of_getElem? (i := 187) rfl)) rfl
set_option maxRecDepth 100000 in
theorem wd1995 : Cond.instanceMethod yX12_heads ∈ lw_g := in_g (t8_in (List.mem_of_getElem? (i := 188) rfl)) rfl
set_option maxRecDepth 100000 in
theorem wd1996 : Cond.selects RX12 yX12_heads yX12_heads ∈ lw_g := in_g (t8_in (List.mem_of_getElem? (i := 189) rfl)) rfl
set_option maxRecDepth 100000 in
theorem wd1997 : Cond.code yX12_heads cX12_heads 3 (some .int) ∈ lw_g := in_g (t8_in (List.mem_of_getElem? (i := 190) rfl)) rfl
set_option maxRecDepth 100000 in
theorem wd2006 : Cond.methodLink RL 166 yX12_has ∈ lw_g := in_g (t8_in (List.mem_of_getElem? (i := 199) rfl)) rfl
set_option maxRecDepth 100000 in
theorem wd2007 : Cond.instanceMethod yX12_has ∈ lw_g := in_g (t8_in (List.mem_of_getElem? (i := 200) rfl)) rfl
set_option maxRecDepth 100000 in
theorem wd2008 : Cond.selects RX12 yX12_has yX12_has ∈ lw_g := in_g (t8_in (List.mem_of_getElem? (i := 201) rfl)) rfl
set_option maxRecDepth 100000 in
theorem wd2009 : Cond.code yX12_has cX12_has 5 (some .boolean) ∈ lw_g := in_g (t8_in (List.mem_of_getElem? (i := 202) rfl)) rfl
set_option maxRecDepth 100000 in
theorem wd2010 : Cond.methodLink RL 170 yX12_rests ∈ lw_g := in_g (t8_in (List.mem_of_getElem? (i := 203) rfl)) rfl
set_option maxRecDepth 100000 in
theorem wd2011 : Cond.instanceMethod yX12_rests ∈ lw_g := in_g (t8_in (List.mem_of_getElem? (i := 204) rfl)) rfl
set_option maxRecDepth 100000 in
theorem wd2012 : Cond.selects RX12 yX12_rests yX12_rests ∈ lw_g := in_g (t8_in (List.mem_of_getElem? (i := 205) rfl)) rfl
set_option maxRecDepth 100000 in
theorem wd2013 : Cond.code yX12_rests cX12_rests 5 (some .int) ∈ lw_g := in_g (t8_in (List.mem_of_getElem? (i := 206) rfl)) rfl
set_option maxRecDepth 100000 in
theorem wd2014 : Cond.methodLink RL 175 yX12_mixed ∈ lw_g := in_g (t8_in (List.mem_of_getElem? (i := 207) rfl)) rfl
set_option maxRecDepth 100000 in
theorem wd2015 : Cond.instanceMethod yX12_mixed ∈ lw_g := in_g (t8_in (List.mem_of_getElem? (i := 208) rfl)) rfl
set_option maxRecDepth 100000 in
theorem wd2016 : Cond.selects RX12 yX12_mixed yX12_mixed ∈ lw_g := in_g (t8_in (List.mem_of_getElem? (i := 209) rfl)) rfl
set_option maxRecDepth 100000 in
theorem wd2017 : Cond.code yX12_mixed cX12_mixed 4 (some .int) ∈ lw_g := in_g (t8_in (List.mem_of_getElem? (i := 210) rfl)) rfl
set_option maxRecDepth 100000 in
theorem wd2018 : Cond.methodLink RL 195 yX12_paid ∈ lw_g := in_g (t8_in (List.mem_of_getElem? (i := 211) rfl)) rfl
set_option maxRecDepth 100000 in
theorem wd2019 : Cond.instanceMethod yX12_paid ∈ lw_g := in_g (t8_in (List.mem_of_getElem? (i := 212) rfl)) rfl
set_option maxRecDepth 100000 in
theorem wd2020 : Cond.selects RX12 yX12_paid yX12_paid ∈ lw_g := in_g (t8_in (List.mem_of_getElem? (i := 213) rfl)) rfl
set_option maxRecDepth 100000 in
theorem wd2021 : Cond.code yX12_paid cX12_paid 3 (some .int) ∈ lw_g := in_g (t8_in (List.mem_of_getElem? (i := 214) rfl)) rfl
set_option maxRecDepth 100000 in
theorem wd2022 : Cond.methodLink RL 199 yX12_whose ∈ lw_g := in_g (t8_in (List.mem_of_getElem? (i := 215) rfl)) rfl
set_option maxRecDepth 100000 in
theorem wd2023 : Cond.instanceMethod yX12_whose ∈ lw_g := in_g (t8_in (List.mem_of_getElem? (i := 216) rfl)) rfl
set_option maxRecDepth 100000 in
theorem wd2024 : Cond.selects RX12 yX12_whose yX12_whose ∈ lw_g := in_g (t8_in (List.mem_of_getElem? (i := 217) rfl)) rfl
set_option maxRecDepth 100000 in
theorem wd2025 : Cond.code yX12_whose cX12_whose 5 (some .int) ∈ lw_g := in_g (t8_in (List.mem_of_getElem? (i := 218) rfl)) rfl
set_option maxRecDepth 100000 in
theorem wd2026 : Cond.methodLink RL 203 yX12_image ∈ lw_g := in_g (t8_in (List.mem_of_getElem? (i := 219) rfl)) rfl
set_option maxRecDepth 100000 in
theorem wd2027 : Cond.instanceMethod yX12_image ∈ lw_g := in_g (t8_in (List.mem_of_getElem? (i := 220) rfl)) rfl
set_option maxRecDepth 100000 in
theorem wd2028 : Cond.selects RX12 yX12_image yX12_image ∈ lw_g := in_g (t8_in (List.mem_of_getElem? (i := 221) rfl)) rfl
set_option maxRecDepth 100000 in
theorem wd2029 : Cond.code yX12_image cX12_image 1 (some .int) ∈ lw_g := in_g (t8_in (List.mem_of_getElem? (i := 222) rfl)) rfl
set_option maxRecDepth 100000 in
theorem wd2030 : Cond.methodLink RL 207 yX12_back ∈ lw_g := in_g (t8_in (List.mem_of_getElem? (i := 223) rfl)) rfl
set_option maxRecDepth 100000 in
theorem wd2031 : Cond.instanceMethod yX12_back ∈ lw_g := in_g (t8_in (List.mem_of_getElem? (i := 224) rfl)) rfl
set_option maxRecDepth 100000 in
theorem wd2032 : Cond.selects RX12 yX12_back yX12_back ∈ lw_g := in_g (t8_in (List.mem_of_getElem? (i := 225) rfl)) rfl
set_option maxRecDepth 100000 in
theorem wd2033 : Cond.code yX12_back cX12_back 1 (some .int) ∈ lw_g := in_g (t8_in (List.mem_of_getElem? (i := 226) rfl)) rfl
set_option maxRecDepth 100000 in
theorem wd2034 : Cond.methodLink RL 211 yX12_about ∈ lw_g := in_g (t8_in (List.mem_of_getElem? (i := 227) rfl)) rfl
set_option maxRecDepth 100000 in
theorem wd2035 : Cond.instanceMethod yX12_about ∈ lw_g := in_g (t8_in (List.mem_of_getElem? (i := 228) rfl)) rfl
set_option maxRecDepth 100000 in
theorem wd2036 : Cond.selects RX12 yX12_about yX12_about ∈ lw_g := in_g (t8_in (List.mem_of_getElem? (i := 229) rfl)) rfl
set_option maxRecDepth 100000 in
theorem wd2037 : Cond.code yX12_about cX12_about 2 (some .int) ∈ lw_g := in_g (t8_in (List.mem_of_getElem? (i := 230) rfl)) rfl
variable {p : Program} {l : Launch} {e : Env} {R : Room} {s : State} {m : MethodId} {args : Array Value} {below : List Frame} {meth : Method} {c : Code} {H : Heap} {locs : List Loc} {cells slots : Nat} {Q : State → Prop}
variable {cc bytes : ByteArray} {pc nL maxL index n : Nat} {ls : Array Slot} {rest st : List Value} {A : Nat → Prop} {H0 : Heap} {D : va_G} {tys : List (ClassId × FieldType)} {ws wc wr w1 : va_W} {rm : Room} {b : Addr}
theorem kwL_13 (ht : ∀ w ∈ lw_g, w.before args s = true) (hrc : rm.cells = 0) (hrs : rm.slots = 0) (hR : rm.frames + 1 ≤ R.frames ∧ 8 + (2 + 11) + rm.locals ≤ R.locals) : CallW R s args RL RX11 13 yX11_land cX11_land 2 (some .int) (mw yX11_land cX11_land 2 (some .int)) rm 0 0 1 :=
  mcw_V 1 ht wd499 wd128 wd502 wd500 wd501 ⟨by decide, by decide, by decide +kernel⟩ hrc hrs hR
theorem kwL_17 (ht : ∀ w ∈ lw_g, w.before args s = true) (hrc : rm.cells = 0) (hrs : rm.slots = 0) (hR : rm.frames + 1 ≤ R.frames ∧ 8 + (2 + 11) + rm.locals ≤ R.locals) : CallW R s args RL RX12 17 yX12_land cX12_land 2 (some .int) (mw yX12_land cX12_land 2 (some .int)) rm 0 0 1 :=
  mcw_V 1 ht wd1460 wd140 wd1463 wd1461 wd1462 ⟨by decide, by decide, by decide +kernel⟩ hrc hrs hR
theorem kwL_18 (ht : ∀ w ∈ lw_g, w.before args s = true) (hrc : rm.cells = 0) (hrs : rm.slots = 0) (hR : rm.frames + 1 ≤ R.frames ∧ 8 + (3 + 11) + rm.locals ≤ R.locals) : CallW R s args RL RX11 18 yX11_road cX11_road 3 (some .boolean) (mw yX11_road cX11_road 3 (some .boolean)) rm 0 0 2 :=
  mcw_V 2 ht wd507 wd128 wd510 wd508 wd509 ⟨by decide, by decide, by decide +kernel⟩ hrc hrs hR
theorem kwL_22 (ht : ∀ w ∈ lw_g, w.before args s = true) (hrc : rm.cells = 0) (hrs : rm.slots = 0) (hR : rm.frames + 1 ≤ R.frames ∧ 8 + (3 + 11) + rm.locals ≤ R.locals) : CallW R s args RL RX12 22 yX12_road cX12_road 3 (some .boolean) (mw yX12_road cX12_road 3 (some .boolean)) rm 0 0 2 :=
  mcw_V 2 ht wd1467 wd140 wd1470 wd1468 wd1469 ⟨by decide, by decide, by decide +kernel⟩ hrc hrs hR
theorem kwL_23 (ht : ∀ w ∈ lw_g, w.before args s = true) (hrc : rm.cells = 0) (hrs : rm.slots = 0) (hR : rm.frames + 1 ≤ R.frames ∧ 8 + (5 + 11) + rm.locals ≤ R.locals) : CallW R s args RL RX11 23 yX11_person cX11_person 5 (some .int) (mw yX11_person cX11_person 5 (some .int)) rm 0 0 4 :=
  mcw_V 4 ht wd523 wd128 wd526 wd524 wd525 ⟨by decide, by decide, by decide +kernel⟩ hrc hrs hR
theorem kwL_27 (ht : ∀ w ∈ lw_g, w.before args s = true) (hrc : rm.cells = 0) (hrs : rm.slots = 0) (hR : rm.frames + 1 ≤ R.frames ∧ 8 + (6 + 11) + rm.locals ≤ R.locals) : CallW R s args RL RX12 27 yX12_person cX12_person 6 (some .int) (mw yX12_person cX12_person 6 (some .int)) rm 0 0 4 :=
  mcw_V 4 ht wd1478 wd140 wd1481 wd1479 wd1480 ⟨by decide, by decide, by decide +kernel⟩ hrc hrs hR
theorem kwL_28 (ht : ∀ w ∈ lw_g, w.before args s = true) (hrc : rm.cells = 0) (hrs : rm.slots = 0) (hR : rm.frames + 1 ≤ R.frames ∧ 8 + (6 + 11) + rm.locals ≤ R.locals) : CallW R s args RL RX11 28 yX11_feed cX11_feed 6 (some .int) (mw yX11_feed cX11_feed 6 (some .int)) rm 0 0 5 :=
  mcw_V 5 ht wd548 wd128 wd551 wd549 wd550 ⟨by decide, by decide, by decide +kernel⟩ hrc hrs hR
theorem kwL_32 (ht : ∀ w ∈ lw_g, w.before args s = true) (hrc : rm.cells = 0) (hrs : rm.slots = 0) (hR : rm.frames + 1 ≤ R.frames ∧ 8 + (6 + 11) + rm.locals ≤ R.locals) : CallW R s args RL RX12 32 yX12_feed cX12_feed 6 (some .int) (mw yX12_feed cX12_feed 6 (some .int)) rm 0 0 5 :=
  mcw_V 5 ht wd1494 wd140 wd1497 wd1495 wd1496 ⟨by decide, by decide, by decide +kernel⟩ hrc hrs hR
theorem kwL_33 (ht : ∀ w ∈ lw_g, w.before args s = true) (hrc : rm.cells = 0) (hrs : rm.slots = 0) (hR : rm.frames + 1 ≤ R.frames ∧ 8 + (2 + 11) + rm.locals ≤ R.locals) : CallW R s args RL RX11 33 yX11_end cX11_end 2 (some .int) (mw yX11_end cX11_end 2 (some .int)) rm 0 0 1 :=
  mcw_V 1 ht wd560 wd128 wd563 wd561 wd562 ⟨by decide, by decide, by decide +kernel⟩ hrc hrs hR
theorem kwL_36 (ht : ∀ w ∈ lw_g, w.before args s = true) (hrc : rm.cells = 0) (hrs : rm.slots = 0) (hR : rm.frames + 1 ≤ R.frames ∧ 8 + (2 + 11) + rm.locals ≤ R.locals) : CallW R s args RL RX12 36 yX12_end cX12_end 2 (some .int) (mw yX12_end cX12_end 2 (some .int)) rm 0 0 1 :=
  mcw_V 1 ht wd1502 wd140 wd1505 wd1503 wd1504 ⟨by decide, by decide, by decide +kernel⟩ hrc hrs hR
theorem kwL_37 (ht : ∀ w ∈ lw_g, w.before args s = true) (hrc : rm.cells = 0) (hrs : rm.slots = 0) (hR : rm.frames + 1 ≤ R.frames ∧ 8 + (3 + 11) + rm.locals ≤ R.locals) : CallW R s args RL RX11 37 yX11_text cX11_text 3 (some .int) (mw yX11_text cX11_text 3 (some .int)) rm 0 0 0 :=
  mcw_V 0 ht wd564 wd128 wd567 wd565 wd566 ⟨by decide, by decide, by decide +kernel⟩ hrc hrs hR
theorem kwL_41 (ht : ∀ w ∈ lw_g, w.before args s = true) (hrc : rm.cells = 0) (hrs : rm.slots = 0) (hR : rm.frames + 1 ≤ R.frames ∧ 8 + (1 + 11) + rm.locals ≤ R.locals) : CallW R s args RL RX12 41 yX12_text cX12_text 1 (some .int) (mw yX12_text cX12_text 1 (some .int)) rm 0 0 0 :=
  mcw_V 0 ht wd1506 wd140 wd1509 wd1507 wd1508 ⟨by decide, by decide, by decide +kernel⟩ hrc hrs hR
theorem kwL_42 (ht : ∀ w ∈ lw_g, w.before args s = true) (hrc : rm.cells = 0) (hrs : rm.slots = 0) (hR : rm.frames + 1 ≤ R.frames ∧ 8 + (2 + 11) + rm.locals ≤ R.locals) : CallW R s args RL RX11 42 yX11_fault cX11_fault 2 (some .int) (mw yX11_fault cX11_fault 2 (some .int)) rm 0 0 1 :=
  mcw_V 1 ht wd773 wd128 wd776 wd774 wd775 ⟨by decide, by decide, by decide +kernel⟩ hrc hrs hR
theorem kwL_45 (ht : ∀ w ∈ lw_g, w.before args s = true) (hrc : rm.cells = 0) (hrs : rm.slots = 0) (hR : rm.frames + 1 ≤ R.frames ∧ 8 + (2 + 11) + rm.locals ≤ R.locals) : CallW R s args RL RX12 45 yX12_fault cX12_fault 2 (some .int) (mw yX12_fault cX12_fault 2 (some .int)) rm 0 0 1 :=
  mcw_V 1 ht wd1651 wd140 wd1654 wd1652 wd1653 ⟨by decide, by decide, by decide +kernel⟩ hrc hrs hR
theorem kwL_46 (ht : ∀ w ∈ lw_g, w.before args s = true) (hrc : rm.cells = 0) (hrs : rm.slots = 0) (hR : rm.frames + 1 ≤ R.frames ∧ 8 + (2 + 11) + rm.locals ≤ R.locals) : CallW R s args RL RX11 46 yX11_by cX11_by 2 (some .boolean) (mw yX11_by cX11_by 2 (some .boolean)) rm 0 0 1 :=
  mcw_V 1 ht wd777 wd128 wd780 wd778 wd779 ⟨by decide, by decide, by decide +kernel⟩ hrc hrs hR
theorem kwL_50 (ht : ∀ w ∈ lw_g, w.before args s = true) (hrc : rm.cells = 0) (hrs : rm.slots = 0) (hR : rm.frames + 1 ≤ R.frames ∧ 8 + (2 + 11) + rm.locals ≤ R.locals) : CallW R s args RL RX12 50 yX12_by cX12_by 2 (some .boolean) (mw yX12_by cX12_by 2 (some .boolean)) rm 0 0 1 :=
  mcw_V 1 ht wd1655 wd140 wd1658 wd1656 wd1657 ⟨by decide, by decide, by decide +kernel⟩ hrc hrs hR
theorem kwL_51 (ht : ∀ w ∈ lw_g, w.before args s = true) (hrc : rm.cells = 0) (hrs : rm.slots = 0) (hR : rm.frames + 1 ≤ R.frames ∧ 8 + (4 + 11) + rm.locals ≤ R.locals) : CallW R s args RL RX11 51 yX11_call cX11_call 4 (some .int) (mw yX11_call cX11_call 4 (some .int)) rm 0 0 2 :=
  mcw_V 2 ht wd785 wd128 wd788 wd786 wd787 ⟨by decide, by decide, by decide +kernel⟩ hrc hrs hR
theorem kwL_55 (ht : ∀ w ∈ lw_g, w.before args s = true) (hrc : rm.cells = 0) (hrs : rm.slots = 0) (hR : rm.frames + 1 ≤ R.frames ∧ 8 + (3 + 11) + rm.locals ≤ R.locals) : CallW R s args RL RX12 55 yX12_call cX12_call 3 (some .int) (mw yX12_call cX12_call 3 (some .int)) rm 0 0 2 :=
  mcw_V 2 ht wd1663 wd140 wd1666 wd1664 wd1665 ⟨by decide, by decide, by decide +kernel⟩ hrc hrs hR
theorem kwL_56 (ht : ∀ w ∈ lw_g, w.before args s = true) (hrc : rm.cells = 0) (hrs : rm.slots = 0) (hR : rm.frames + 1 ≤ R.frames ∧ 8 + (4 + 11) + rm.locals ≤ R.locals) : CallW R s args RL RX11 56 yX11_move cX11_move 4 (some .boolean) (mw yX11_move cX11_move 4 (some .boolean)) rm 0 0 2 :=
  mcw_V 2 ht wd832 wd128 wd835 wd833 wd834 ⟨by decide, by decide, by decide +kernel⟩ hrc hrs hR
theorem kwL_59 (ht : ∀ w ∈ lw_g, w.before args s = true) (hrc : rm.cells = 0) (hrs : rm.slots = 0) (hR : rm.frames + 1 ≤ R.frames ∧ 8 + (3 + 11) + rm.locals ≤ R.locals) : CallW R s args RL RX12 59 yX12_move cX12_move 3 (some .boolean) (mw yX12_move cX12_move 3 (some .boolean)) rm 0 0 2 :=
  mcw_V 2 ht wd1691 wd140 wd1694 wd1692 wd1693 ⟨by decide, by decide, by decide +kernel⟩ hrc hrs hR
theorem kwL_60 (ht : ∀ w ∈ lw_g, w.before args s = true) (hrc : rm.cells = 0) (hrs : rm.slots = 0) (hR : rm.frames + 1 ≤ R.frames ∧ 8 + (4 + 11) + rm.locals ≤ R.locals) : CallW R s args RL RX11 60 yX11_feeds cX11_feeds 4 (some .int) (mw yX11_feeds cX11_feeds 4 (some .int)) rm 0 0 2 :=
  mcw_V 2 ht wd841 wd128 wd844 wd842 wd843 ⟨by decide, by decide, by decide +kernel⟩ hrc hrs hR
theorem kwL_63 (ht : ∀ w ∈ lw_g, w.before args s = true) (hrc : rm.cells = 0) (hrs : rm.slots = 0) (hR : rm.frames + 1 ≤ R.frames ∧ 8 + (3 + 11) + rm.locals ≤ R.locals) : CallW R s args RL RX12 63 yX12_feeds cX12_feeds 3 (some .int) (mw yX12_feeds cX12_feeds 3 (some .int)) rm 0 0 2 :=
  mcw_V 2 ht wd1699 wd140 wd1702 wd1700 wd1701 ⟨by decide, by decide, by decide +kernel⟩ hrc hrs hR
theorem kwL_64 (ht : ∀ w ∈ lw_g, w.before args s = true) (hrc : rm.cells = 0) (hrs : rm.slots = 0) (hR : rm.frames + 1 ≤ R.frames ∧ 8 + (4 + 11) + rm.locals ≤ R.locals) : CallW R s args RL RX11 64 yX11_kill cX11_kill 4 (some .boolean) (mw yX11_kill cX11_kill 4 (some .boolean)) rm 0 0 2 :=
  mcw_V 2 ht wd926 wd128 wd929 wd927 wd928 ⟨by decide, by decide, by decide +kernel⟩ hrc hrs hR
theorem kwL_67 (ht : ∀ w ∈ lw_g, w.before args s = true) (hrc : rm.cells = 0) (hrs : rm.slots = 0) (hR : rm.frames + 1 ≤ R.frames ∧ 8 + (3 + 11) + rm.locals ≤ R.locals) : CallW R s args RL RX12 67 yX12_kill cX12_kill 3 (some .boolean) (mw yX12_kill cX12_kill 3 (some .boolean)) rm 0 0 2 :=
  mcw_V 2 ht wd1778 wd140 wd1781 wd1779 wd1780 ⟨by decide, by decide, by decide +kernel⟩ hrc hrs hR
theorem kwL_68 (ht : ∀ w ∈ lw_g, w.before args s = true) (hrc : rm.cells = 0) (hrs : rm.slots = 0) (hR : rm.frames + 1 ≤ R.frames ∧ 8 + (4 + 11) + rm.locals ≤ R.locals) : CallW R s args RL RX11 68 yX11_pardon cX11_pardon 4 (some .int) (mw yX11_pardon cX11_pardon 4 (some .int)) rm 0 0 2 :=
  mcw_V 2 ht wd938 wd128 wd941 wd939 wd940 ⟨by decide, by decide, by decide +kernel⟩ hrc hrs hR
theorem kwL_71 (ht : ∀ w ∈ lw_g, w.before args s = true) (hrc : rm.cells = 0) (hrs : rm.slots = 0) (hR : rm.frames + 1 ≤ R.frames ∧ 8 + (3 + 11) + rm.locals ≤ R.locals) : CallW R s args RL RX12 71 yX12_pardon cX12_pardon 3 (some .int) (mw yX12_pardon cX12_pardon 3 (some .int)) rm 0 0 2 :=
  mcw_V 2 ht wd1794 wd140 wd1797 wd1795 wd1796 ⟨by decide, by decide, by decide +kernel⟩ hrc hrs hR
theorem kwL_72 (ht : ∀ w ∈ lw_g, w.before args s = true) (hrc : rm.cells = 0) (hrs : rm.slots = 0) (hR : rm.frames + 1 ≤ R.frames ∧ 8 + (4 + 11) + rm.locals ≤ R.locals) : CallW R s args RL RX11 72 yX11_month cX11_month 4 (some .int) (mw yX11_month cX11_month 4 (some .int)) rm 0 0 1 :=
  mcw_V 1 ht wd950 wd128 wd953 wd951 wd952 ⟨by decide, by decide, by decide +kernel⟩ hrc hrs hR
theorem kwL_75 (ht : ∀ w ∈ lw_g, w.before args s = true) (hrc : rm.cells = 0) (hrs : rm.slots = 0) (hR : rm.frames + 1 ≤ R.frames ∧ 8 + (2 + 11) + rm.locals ≤ R.locals) : CallW R s args RL RX12 75 yX12_month cX12_month 2 (some .int) (mw yX12_month cX12_month 2 (some .int)) rm 0 0 1 :=
  mcw_V 1 ht wd1810 wd140 wd1813 wd1811 wd1812 ⟨by decide, by decide, by decide +kernel⟩ hrc hrs hR
theorem kwL_76 (ht : ∀ w ∈ lw_g, w.before args s = true) (hrc : rm.cells = 0) (hrs : rm.slots = 0) (hR : rm.frames + 1 ≤ R.frames ∧ 8 + (4 + 11) + rm.locals ≤ R.locals) : CallW R s args RL RX11 76 yX11_played cX11_played 4 (some .int) (mw yX11_played cX11_played 4 (some .int)) rm 0 0 1 :=
  mcw_V 1 ht wd974 wd128 wd977 wd975 wd976 ⟨by decide, by decide, by decide +kernel⟩ hrc hrs hR
theorem kwL_79 (ht : ∀ w ∈ lw_g, w.before args s = true) (hrc : rm.cells = 0) (hrs : rm.slots = 0) (hR : rm.frames + 1 ≤ R.frames ∧ 8 + (3 + 11) + rm.locals ≤ R.locals) : CallW R s args RL RX12 79 yX12_played cX12_played 3 (some .int) (mw yX12_played cX12_played 3 (some .int)) rm 0 0 1 :=
  mcw_V 1 ht wd1834 wd140 wd1837 wd1835 wd1836 ⟨by decide, by decide, by decide +kernel⟩ hrc hrs hR
theorem kwL_80 (ht : ∀ w ∈ lw_g, w.before args s = true) (hrc : rm.cells = 0) (hrs : rm.slots = 0) (hR : rm.frames + 1 ≤ R.frames ∧ 8 + (4 + 11) + rm.locals ≤ R.locals) : CallW R s args RL RX11 80 yX11_reigns cX11_reigns 4 (some .int) (mw yX11_reigns cX11_reigns 4 (some .int)) rm 0 0 2 :=
  mcw_V 2 ht wd998 wd128 wd1001 wd999 wd1000 ⟨by decide, by decide, by decide +kernel⟩ hrc hrs hR
theorem kwL_83 (ht : ∀ w ∈ lw_g, w.before args s = true) (hrc : rm.cells = 0) (hrs : rm.slots = 0) (hR : rm.frames + 1 ≤ R.frames ∧ 8 + (5 + 11) + rm.locals ≤ R.locals) : CallW R s args RL RX12 83 yX12_reigns cX12_reigns 5 (some .int) (mw yX12_reigns cX12_reigns 5 (some .int)) rm 0 0 2 :=
  mcw_V 2 ht wd1850 wd140 wd1853 wd1851 wd1852 ⟨by decide, by decide, by decide +kernel⟩ hrc hrs hR
theorem kwL_84 (ht : ∀ w ∈ lw_g, w.before args s = true) (hrc : rm.cells = 0) (hrs : rm.slots = 0) (hR : rm.frames + 1 ≤ R.frames ∧ 8 + (1 + 11) + rm.locals ≤ R.locals) : CallW R s args RL RX11 84 yX11_undo cX11_undo 1 (some .int) (mw yX11_undo cX11_undo 1 (some .int)) rm 0 0 0 :=
  mcw_V 0 ht wd1016 wd128 wd1019 wd1017 wd1018 ⟨by decide, by decide, by decide +kernel⟩ hrc hrs hR
theorem kwL_87 (ht : ∀ w ∈ lw_g, w.before args s = true) (hrc : rm.cells = 0) (hrs : rm.slots = 0) (hR : rm.frames + 1 ≤ R.frames ∧ 8 + (4 + 11) + rm.locals ≤ R.locals) : CallW R s args RL RX12 87 yX12_undo cX12_undo 4 (some .int) (mw yX12_undo cX12_undo 4 (some .int)) rm 0 0 0 :=
  mcw_V 0 ht wd1659 wd140 wd1662 wd1660 wd1661 ⟨by decide, by decide, by decide +kernel⟩ hrc hrs hR
theorem kwL_88 (ht : ∀ w ∈ lw_g, w.before args s = true) (hrc : rm.cells = 0) (hrs : rm.slots = 0) (hR : rm.frames + 1 ≤ R.frames ∧ 8 + (4 + 11) + rm.locals ≤ R.locals) : CallW R s args RL RX11 88 yX11_of cX11_of 4 (some .int) (mw yX11_of cX11_of 4 (some .int)) rm 0 0 2 :=
  mcw_V 2 ht wd1029 wd128 wd1032 wd1030 wd1031 ⟨by decide, by decide, by decide +kernel⟩ hrc hrs hR
theorem kwL_91 (ht : ∀ w ∈ lw_g, w.before args s = true) (hrc : rm.cells = 0) (hrs : rm.slots = 0) (hR : rm.frames + 1 ≤ R.frames ∧ 8 + (3 + 11) + rm.locals ≤ R.locals) : CallW R s args RL RX12 91 yX12_of cX12_of 3 (some .int) (mw yX12_of cX12_of 3 (some .int)) rm 0 0 2 :=
  mcw_V 2 ht wd1858 wd140 wd1861 wd1859 wd1860 ⟨by decide, by decide, by decide +kernel⟩ hrc hrs hR
theorem kwL_92 (ht : ∀ w ∈ lw_g, w.before args s = true) (hrc : rm.cells = 0) (hrs : rm.slots = 0) (hR : rm.frames + 1 ≤ R.frames ∧ 8 + (3 + 11) + rm.locals ≤ R.locals) : CallW R s args RL RX11 92 yX11_ofLand cX11_ofLand 3 (some .int) (mw yX11_ofLand cX11_ofLand 3 (some .int)) rm 0 0 2 :=
  mcw_V 2 ht wd1039 wd128 wd1042 wd1040 wd1041 ⟨by decide, by decide, by decide +kernel⟩ hrc hrs hR
theorem kwL_95 (ht : ∀ w ∈ lw_g, w.before args s = true) (hrc : rm.cells = 0) (hrs : rm.slots = 0) (hR : rm.frames + 1 ≤ R.frames ∧ 8 + (3 + 11) + rm.locals ≤ R.locals) : CallW R s args RL RX12 95 yX12_ofLand cX12_ofLand 3 (some .int) (mw yX12_ofLand cX12_ofLand 3 (some .int)) rm 0 0 2 :=
  mcw_V 2 ht wd1862 wd140 wd1865 wd1863 wd1864 ⟨by decide, by decide, by decide +kernel⟩ hrc hrs hR
theorem kwL_96 (ht : ∀ w ∈ lw_g, w.before args s = true) (hrc : rm.cells = 0) (hrs : rm.slots = 0) (hR : rm.frames + 1 ≤ R.frames ∧ 8 + (2 + 11) + rm.locals ≤ R.locals) : CallW R s args RL RX11 96 yX11_is cX11_is 2 (some .int) (mw yX11_is cX11_is 2 (some .int)) rm 0 0 1 :=
  mcw_V 1 ht wd1048 wd128 wd1051 wd1049 wd1050 ⟨by decide, by decide, by decide +kernel⟩ hrc hrs hR
theorem kwL_99 (ht : ∀ w ∈ lw_g, w.before args s = true) (hrc : rm.cells = 0) (hrs : rm.slots = 0) (hR : rm.frames + 1 ≤ R.frames ∧ 8 + (2 + 11) + rm.locals ≤ R.locals) : CallW R s args RL RX12 99 yX12_is cX12_is 2 (some .int) (mw yX12_is cX12_is 2 (some .int)) rm 0 0 1 :=
  mcw_V 1 ht wd1870 wd140 wd1873 wd1871 wd1872 ⟨by decide, by decide, by decide +kernel⟩ hrc hrs hR
theorem kwL_100 (ht : ∀ w ∈ lw_g, w.before args s = true) (hrc : rm.cells = 0) (hrs : rm.slots = 0) (hR : rm.frames + 1 ≤ R.frames ∧ 8 + (3 + 11) + rm.locals ≤ R.locals) : CallW R s args RL RX11 100 yX11_book cX11_book 3 (some .int) (mw yX11_book cX11_book 3 (some .int)) rm 0 0 2 :=
  mcw_V 2 ht wd1052 wd128 wd1055 wd1053 wd1054 ⟨by decide, by decide, by decide +kernel⟩ hrc hrs hR
theorem kwL_103 (ht : ∀ w ∈ lw_g, w.before args s = true) (hrc : rm.cells = 0) (hrs : rm.slots = 0) (hR : rm.frames + 1 ≤ R.frames ∧ 8 + (3 + 11) + rm.locals ≤ R.locals) : CallW R s args RL RX12 103 yX12_book cX12_book 3 (some .int) (mw yX12_book cX12_book 3 (some .int)) rm 0 0 2 :=
  mcw_V 2 ht wd1874 wd140 wd1877 wd1875 wd1876 ⟨by decide, by decide, by decide +kernel⟩ hrc hrs hR
theorem kwL_104 (ht : ∀ w ∈ lw_g, w.before args s = true) (hrc : rm.cells = 0) (hrs : rm.slots = 0) (hR : rm.frames + 1 ≤ R.frames ∧ 8 + (5 + 11) + rm.locals ≤ R.locals) : CallW R s args RL RX11 104 yX11_foretold cX11_foretold 5 (some .int) (mw yX11_foretold cX11_foretold 5 (some .int)) rm 0 0 3 :=
  mcw_V 3 ht wd1076 wd128 wd1079 wd1077 wd1078 ⟨by decide, by decide, by decide +kernel⟩ hrc hrs hR
theorem kwL_108 (ht : ∀ w ∈ lw_g, w.before args s = true) (hrc : rm.cells = 0) (hrs : rm.slots = 0) (hR : rm.frames + 1 ≤ R.frames ∧ 8 + (5 + 11) + rm.locals ≤ R.locals) : CallW R s args RL RX12 108 yX12_foretold cX12_foretold 5 (some .int) (mw yX12_foretold cX12_foretold 5 (some .int)) rm 0 0 3 :=
  mcw_V 3 ht wd1903 wd140 wd1906 wd1904 wd1905 ⟨by decide, by decide, by decide +kernel⟩ hrc hrs hR
theorem kwL_109 (ht : ∀ w ∈ lw_g, w.before args s = true) (hrc : rm.cells = 0) (hrs : rm.slots = 0) (hR : rm.frames + 1 ≤ R.frames ∧ 8 + (4 + 11) + rm.locals ≤ R.locals) : CallW R s args RL RX11 109 yX11_toPay cX11_toPay 4 (some .int) (mw yX11_toPay cX11_toPay 4 (some .int)) rm 0 0 2 :=
  mcw_V 2 ht wd1084 wd128 wd1087 wd1085 wd1086 ⟨by decide, by decide, by decide +kernel⟩ hrc hrs hR
theorem kwL_112 (ht : ∀ w ∈ lw_g, w.before args s = true) (hrc : rm.cells = 0) (hrs : rm.slots = 0) (hR : rm.frames + 1 ≤ R.frames ∧ 8 + (5 + 11) + rm.locals ≤ R.locals) : CallW R s args RL RX12 112 yX12_toPay cX12_toPay 5 (some .int) (mw yX12_toPay cX12_toPay 5 (some .int)) rm 0 0 2 :=
  mcw_V 2 ht wd1915 wd140 wd1918 wd1916 wd1917 ⟨by decide, by decide, by decide +kernel⟩ hrc hrs hR
theorem kwL_113 (ht : ∀ w ∈ lw_g, w.before args s = true) (hrc : rm.cells = 0) (hrs : rm.slots = 0) (hR : rm.frames + 1 ≤ R.frames ∧ 8 + (4 + 11) + rm.locals ≤ R.locals) : CallW R s args RL RX11 113 yX11_surest cX11_surest 4 (some .int) (mw yX11_surest cX11_surest 4 (some .int)) rm 0 0 3 :=
  mcw_V 3 ht wd1089 wd128 wd1092 wd1090 wd1091 ⟨by decide, by decide, by decide +kernel⟩ hrc hrs hR
theorem kwL_117 (ht : ∀ w ∈ lw_g, w.before args s = true) (hrc : rm.cells = 0) (hrs : rm.slots = 0) (hR : rm.frames + 1 ≤ R.frames ∧ 8 + (8 + 11) + rm.locals ≤ R.locals) : CallW R s args RL RX12 117 yX12_surest cX12_surest 8 (some .int) (mw yX12_surest cX12_surest 8 (some .int)) rm 0 0 3 :=
  mcw_V 3 ht wd1919 wd140 wd1922 wd1920 wd1921 ⟨by decide, by decide, by decide +kernel⟩ hrc hrs hR
theorem kwL_118 (ht : ∀ w ∈ lw_g, w.before args s = true) (hrc : rm.cells = 0) (hrs : rm.slots = 0) (hR : rm.frames + 1 ≤ R.frames ∧ 8 + (3 + 11) + rm.locals ≤ R.locals) : CallW R s args RL RX11 118 yX11_steps cX11_steps 3 (some .int) (mw yX11_steps cX11_steps 3 (some .int)) rm 0 0 2 :=
  mcw_V 2 ht wd1121 wd128 wd1124 wd1122 wd1123 ⟨by decide, by decide, by decide +kernel⟩ hrc hrs hR
theorem kwL_121 (ht : ∀ w ∈ lw_g, w.before args s = true) (hrc : rm.cells = 0) (hrs : rm.slots = 0) (hR : rm.frames + 1 ≤ R.frames ∧ 8 + (5 + 11) + rm.locals ≤ R.locals) : CallW R s args RL RX12 121 yX12_steps cX12_steps 5 (some .int) (mw yX12_steps cX12_steps 5 (some .int)) rm 0 0 2 :=
  mcw_V 2 ht wd1942 wd140 wd1945 wd1943 wd1944 ⟨by decide, by decide, by decide +kernel⟩ hrc hrs hR
theorem kwL_122 (ht : ∀ w ∈ lw_g, w.before args s = true) (hrc : rm.cells = 0) (hrs : rm.slots = 0) (hR : rm.frames + 1 ≤ R.frames ∧ 8 + (5 + 11) + rm.locals ≤ R.locals) : CallW R s args RL RX11 122 yX11_unheard cX11_unheard 5 (some .int) (mw yX11_unheard cX11_unheard 5 (some .int)) rm 0 0 2 :=
  mcw_V 2 ht wd1133 wd128 wd1136 wd1134 wd1135 ⟨by decide, by decide, by decide +kernel⟩ hrc hrs hR
theorem kwL_125 (ht : ∀ w ∈ lw_g, w.before args s = true) (hrc : rm.cells = 0) (hrs : rm.slots = 0) (hR : rm.frames + 1 ≤ R.frames ∧ 8 + (5 + 11) + rm.locals ≤ R.locals) : CallW R s args RL RX12 125 yX12_unheard cX12_unheard 5 (some .int) (mw yX12_unheard cX12_unheard 5 (some .int)) rm 0 0 2 :=
  mcw_V 2 ht wd1950 wd140 wd1953 wd1951 wd1952 ⟨by decide, by decide, by decide +kernel⟩ hrc hrs hR
theorem kwL_126 (ht : ∀ w ∈ lw_g, w.before args s = true) (hrc : rm.cells = 0) (hrs : rm.slots = 0) (hR : rm.frames + 1 ≤ R.frames ∧ 8 + (2 + 11) + rm.locals ≤ R.locals) : CallW R s args RL RX11 126 yX11_crowd cX11_crowd 2 (some .int) (mw yX11_crowd cX11_crowd 2 (some .int)) rm 0 0 1 :=
  mcw_V 1 ht wd1142 wd128 wd1145 wd1143 wd1144 ⟨by decide, by decide, by decide +kernel⟩ hrc hrs hR
theorem kwL_129 (ht : ∀ w ∈ lw_g, w.before args s = true) (hrc : rm.cells = 0) (hrs : rm.slots = 0) (hR : rm.frames + 1 ≤ R.frames ∧ 8 + (2 + 11) + rm.locals ≤ R.locals) : CallW R s args RL RX12 129 yX12_crowd cX12_crowd 2 (some .int) (mw yX12_crowd cX12_crowd 2 (some .int)) rm 0 0 1 :=
  mcw_V 1 ht wd1974 wd140 wd1977 wd1975 wd1976 ⟨by decide, by decide, by decide +kernel⟩ hrc hrs hR
theorem kwL_130 (ht : ∀ w ∈ lw_g, w.before args s = true) (hrc : rm.cells = 0) (hrs : rm.slots = 0) (hR : rm.frames + 1 ≤ R.frames ∧ 8 + (4 + 11) + rm.locals ≤ R.locals) : CallW R s args RL RX11 130 yX11_inCrowd cX11_inCrowd 4 (some .int) (mw yX11_inCrowd cX11_inCrowd 4 (some .int)) rm 0 0 3 :=
  mcw_V 3 ht wd1154 wd128 wd1157 wd1155 wd1156 ⟨by decide, by decide, by decide +kernel⟩ hrc hrs hR
theorem kwL_133 (ht : ∀ w ∈ lw_g, w.before args s = true) (hrc : rm.cells = 0) (hrs : rm.slots = 0) (hR : rm.frames + 1 ≤ R.frames ∧ 8 + (10 + 11) + rm.locals ≤ R.locals) : CallW R s args RL RX12 133 yX12_inCrowd cX12_inCrowd 10 (some .int) (mw yX12_inCrowd cX12_inCrowd 10 (some .int)) rm 0 0 3 :=
  mcw_V 3 ht wd1978 wd140 wd1981 wd1979 wd1980 ⟨by decide, by decide, by decide +kernel⟩ hrc hrs hR
theorem kwL_134 (ht : ∀ w ∈ lw_g, w.before args s = true) (hrc : rm.cells = 0) (hrs : rm.slots = 0) (hR : rm.frames + 1 ≤ R.frames ∧ 8 + (1 + 11) + rm.locals ≤ R.locals) : CallW R s args RL RX11 134 yX11_helpers cX11_helpers 1 (some .int) (mw yX11_helpers cX11_helpers 1 (some .int)) rm 0 0 0 :=
  mcw_V 0 ht wd1179 wd128 wd1182 wd1180 wd1181 ⟨by decide, by decide, by decide +kernel⟩ hrc hrs hR
theorem kwL_137 (ht : ∀ w ∈ lw_g, w.before args s = true) (hrc : rm.cells = 0) (hrs : rm.slots = 0) (hR : rm.frames + 1 ≤ R.frames ∧ 8 + (4 + 11) + rm.locals ≤ R.locals) : CallW R s args RL RX12 137 yX12_helpers cX12_helpers 4 (some .int) (mw yX12_helpers cX12_helpers 4 (some .int)) rm 0 0 0 :=
  mcw_V 0 ht wd1962 wd140 wd1965 wd1963 wd1964 ⟨by decide, by decide, by decide +kernel⟩ hrc hrs hR
theorem kwL_138 (ht : ∀ w ∈ lw_g, w.before args s = true) (hrc : rm.cells = 0) (hrs : rm.slots = 0) (hR : rm.frames + 1 ≤ R.frames ∧ 8 + (3 + 11) + rm.locals ≤ R.locals) : CallW R s args RL RX11 138 yX11_watch cX11_watch 3 (some .int) (mw yX11_watch cX11_watch 3 (some .int)) rm 0 0 2 :=
  mcw_V 2 ht wd1189 wd128 wd1192 wd1190 wd1191 ⟨by decide, by decide, by decide +kernel⟩ hrc hrs hR
theorem kwL_141 (ht : ∀ w ∈ lw_g, w.before args s = true) (hrc : rm.cells = 0) (hrs : rm.slots = 0) (hR : rm.frames + 1 ≤ R.frames ∧ 8 + (5 + 11) + rm.locals ≤ R.locals) : CallW R s args RL RX12 141 yX12_watch cX12_watch 5 (some .int) (mw yX12_watch cX12_watch 5 (some .int)) rm 0 0 2 :=
  mcw_V 2 ht wd1966 wd140 wd1969 wd1967 wd1968 ⟨by decide, by decide, by decide +kernel⟩ hrc hrs hR
theorem kwL_142 (ht : ∀ w ∈ lw_g, w.before args s = true) (hrc : rm.cells = 0) (hrs : rm.slots = 0) (hR : rm.frames + 1 ≤ R.frames ∧ 8 + (2 + 11) + rm.locals ≤ R.locals) : CallW R s args RL RX11 142 yX11_borders cX11_borders 2 (some .boolean) (mw yX11_borders cX11_borders 2 (some .boolean)) rm 0 0 1 :=
  mcw_V 1 ht wd1201 wd128 wd1204 wd1202 wd1203 ⟨by decide, by decide, by decide +kernel⟩ hrc hrs hR
theorem kwL_145 (ht : ∀ w ∈ lw_g, w.before args s = true) (hrc : rm.cells = 0) (hrs : rm.slots = 0) (hR : rm.frames + 1 ≤ R.frames ∧ 8 + (2 + 11) + rm.locals ≤ R.locals) : CallW R s args RL RX12 145 yX12_borders cX12_borders 2 (some .boolean) (mw yX12_borders cX12_borders 2 (some .boolean)) rm 0 0 1 :=
  mcw_V 1 ht wd1954 wd140 wd1957 wd1955 wd1956 ⟨by decide, by decide, by decide +kernel⟩ hrc hrs hR
theorem kwL_146 (ht : ∀ w ∈ lw_g, w.before args s = true) (hrc : rm.cells = 0) (hrs : rm.slots = 0) (hR : rm.frames + 1 ≤ R.frames ∧ 8 + (2 + 11) + rm.locals ≤ R.locals) : CallW R s args RL RX11 146 yX11_toBorder cX11_toBorder 2 (some .int) (mw yX11_toBorder cX11_toBorder 2 (some .int)) rm 0 0 1 :=
  mcw_V 1 ht wd1205 wd128 wd1208 wd1206 wd1207 ⟨by decide, by decide, by decide +kernel⟩ hrc hrs hR
theorem kwL_149 (ht : ∀ w ∈ lw_g, w.before args s = true) (hrc : rm.cells = 0) (hrs : rm.slots = 0) (hR : rm.frames + 1 ≤ R.frames ∧ 8 + (4 + 11) + rm.locals ≤ R.locals) : CallW R s args RL RX12 149 yX12_toBorder cX12_toBorder 4 (some .int) (mw yX12_toBorder cX12_toBorder 4 (some .int)) rm 0 0 1 :=
  mcw_V 1 ht wd1958 wd140 wd1961 wd1959 wd1960 ⟨by decide, by decide, by decide +kernel⟩ hrc hrs hR
theorem kwL_150 (ht : ∀ w ∈ lw_g, w.before args s = true) (hrc : rm.cells = 0) (hrs : rm.slots = 0) (hR : rm.frames + 1 ≤ R.frames ∧ 8 + (2 + 11) + rm.locals ≤ R.locals) : CallW R s args RL RX11 150 yX11_reports cX11_reports 2 (some .boolean) (mw yX11_reports cX11_reports 2 (some .boolean)) rm 0 0 1 :=
  mcw_V 1 ht wd1209 wd128 wd1212 wd1210 wd1211 ⟨by decide, by decide, by decide +kernel⟩ hrc hrs hR
theorem kwL_153 (ht : ∀ w ∈ lw_g, w.before args s = true) (hrc : rm.cells = 0) (hrs : rm.slots = 0) (hR : rm.frames + 1 ≤ R.frames ∧ 8 + (2 + 11) + rm.locals ≤ R.locals) : CallW R s args RL RX12 153 yX12_reports cX12_reports 2 (some .boolean) (mw yX12_reports cX12_reports 2 (some .boolean)) rm 0 0 1 :=
  mcw_V 1 ht wd1986 wd140 wd1989 wd1987 wd1988 ⟨by decide, by decide, by decide +kernel⟩ hrc hrs hR
theorem kwL_154 (ht : ∀ w ∈ lw_g, w.before args s = true) (hrc : rm.cells = 0) (hrs : rm.slots = 0) (hR : rm.frames + 1 ≤ R.frames ∧ 8 + (3 + 11) + rm.locals ≤ R.locals) : CallW R s args RL RX11 154 yX11_unlike cX11_unlike 3 (some .int) (mw yX11_unlike cX11_unlike 3 (some .int)) rm 0 0 2 :=
  mcw_V 2 ht wd1217 wd128 wd1220 wd1218 wd1219 ⟨by decide, by decide, by decide +kernel⟩ hrc hrs hR
theorem kwL_157 (ht : ∀ w ∈ lw_g, w.before args s = true) (hrc : rm.cells = 0) (hrs : rm.slots = 0) (hR : rm.frames + 1 ≤ R.frames ∧ 8 + (3 + 11) + rm.locals ≤ R.locals) : CallW R s args RL RX12 157 yX12_unlike cX12_unlike 3 (some .int) (mw yX12_unlike cX12_unlike 3 (some .int)) rm 0 0 2 :=
  mcw_V 2 ht wd1990 wd140 wd1993 wd1991 wd1992 ⟨by decide, by decide, by decide +kernel⟩ hrc hrs hR
theorem kwL_158 (ht : ∀ w ∈ lw_g, w.before args s = true) (hrc : rm.cells = 0) (hrs : rm.slots = 0) (hR : rm.frames + 1 ≤ R.frames ∧ 8 + (3 + 11) + rm.locals ≤ R.locals) : CallW R s args RL RX11 158 yX11_heads cX11_heads 3 (some .int) (mw yX11_heads cX11_heads 3 (some .int)) rm 0 0 1 :=
  mcw_V 1 ht wd1229 wd128 wd1232 wd1230 wd1231 ⟨by decide, by decide, by decide +kernel⟩ hrc hrs hR
theorem kwL_161 (ht : ∀ w ∈ lw_g, w.before args s = true) (hrc : rm.cells = 0) (hrs : rm.slots = 0) (hR : rm.frames + 1 ≤ R.frames ∧ 8 + (3 + 11) + rm.locals ≤ R.locals) : CallW R s args RL RX12 161 yX12_heads cX12_heads 3 (some .int) (mw yX12_heads cX12_heads 3 (some .int)) rm 0 0 1 :=
  mcw_V 1 ht wd1994 wd140 wd1997 wd1995 wd1996 ⟨by decide, by decide, by decide +kernel⟩ hrc hrs hR
theorem kwL_162 (ht : ∀ w ∈ lw_g, w.before args s = true) (hrc : rm.cells = 0) (hrs : rm.slots = 0) (hR : rm.frames + 1 ≤ R.frames ∧ 8 + (5 + 11) + rm.locals ≤ R.locals) : CallW R s args RL RX11 162 yX11_has cX11_has 5 (some .boolean) (mw yX11_has cX11_has 5 (some .boolean)) rm 0 0 4 :=
  mcw_V 4 ht wd1251 wd128 wd1254 wd1252 wd1253 ⟨by decide, by decide, by decide +kernel⟩ hrc hrs hR
theorem kwL_166 (ht : ∀ w ∈ lw_g, w.before args s = true) (hrc : rm.cells = 0) (hrs : rm.slots = 0) (hR : rm.frames + 1 ≤ R.frames ∧ 8 + (5 + 11) + rm.locals ≤ R.locals) : CallW R s args RL RX12 166 yX12_has cX12_has 5 (some .boolean) (mw yX12_has cX12_has 5 (some .boolean)) rm 0 0 4 :=
  mcw_V 4 ht wd2006 wd140 wd2009 wd2007 wd2008 ⟨by decide, by decide, by decide +kernel⟩ hrc hrs hR
theorem kwL_167 (ht : ∀ w ∈ lw_g, w.before args s = true) (hrc : rm.cells = 0) (hrs : rm.slots = 0) (hR : rm.frames + 1 ≤ R.frames ∧ 8 + (1 + 11) + rm.locals ≤ R.locals) : CallW R s args RL RX11 167 yX11_rests cX11_rests 1 (some .int) (mw yX11_rests cX11_rests 1 (some .int)) rm 0 0 0 :=
  mcw_V 0 ht wd1259 wd128 wd1262 wd1260 wd1261 ⟨by decide, by decide, by decide +kernel⟩ hrc hrs hR
theorem kwL_170 (ht : ∀ w ∈ lw_g, w.before args s = true) (hrc : rm.cells = 0) (hrs : rm.slots = 0) (hR : rm.frames + 1 ≤ R.frames ∧ 8 + (5 + 11) + rm.locals ≤ R.locals) : CallW R s args RL RX12 170 yX12_rests cX12_rests 5 (some .int) (mw yX12_rests cX12_rests 5 (some .int)) rm 0 0 0 :=
  mcw_V 0 ht wd2010 wd140 wd2013 wd2011 wd2012 ⟨by decide, by decide, by decide +kernel⟩ hrc hrs hR
theorem kwL_171 (ht : ∀ w ∈ lw_g, w.before args s = true) (hrc : rm.cells = 0) (hrs : rm.slots = 0) (hR : rm.frames + 1 ≤ R.frames ∧ 8 + (2 + 11) + rm.locals ≤ R.locals) : CallW R s args RL RX11 171 yX11_mixed cX11_mixed 2 (some .int) (mw yX11_mixed cX11_mixed 2 (some .int)) rm 0 0 1 :=
  mcw_V 1 ht wd1271 wd128 wd1274 wd1272 wd1273 ⟨by decide, by decide, by decide +kernel⟩ hrc hrs hR
theorem kwL_175 (ht : ∀ w ∈ lw_g, w.before args s = true) (hrc : rm.cells = 0) (hrs : rm.slots = 0) (hR : rm.frames + 1 ≤ R.frames ∧ 8 + (4 + 11) + rm.locals ≤ R.locals) : CallW R s args RL RX12 175 yX12_mixed cX12_mixed 4 (some .int) (mw yX12_mixed cX12_mixed 4 (some .int)) rm 0 0 1 :=
  mcw_V 1 ht wd2014 wd140 wd2017 wd2015 wd2016 ⟨by decide, by decide, by decide +kernel⟩ hrc hrs hR
theorem kwL_176 (ht : ∀ w ∈ lw_g, w.before args s = true) (hrc : rm.cells = 0) (hrs : rm.slots = 0) (hR : rm.frames + 1 ≤ R.frames ∧ 8 + (6 + 11) + rm.locals ≤ R.locals) : CallW R s args RL RX11 176 yX11_befell cX11_befell 6 (some .int) (mw yX11_befell cX11_befell 6 (some .int)) rm 0 0 2 :=
  mcw_V 2 ht wd1280 wd128 wd1283 wd1281 wd1282 ⟨by decide, by decide, by decide +kernel⟩ hrc hrs hR
theorem kwL_179 (ht : ∀ w ∈ lw_g, w.before args s = true) (hrc : rm.cells = 0) (hrs : rm.slots = 0) (hR : rm.frames + 1 ≤ R.frames ∧ 8 + (5 + 11) + rm.locals ≤ R.locals) : CallW R s args RL RX12 179 yX12_befell cX12_befell 5 (some .int) (mw yX12_befell cX12_befell 5 (some .int)) rm 0 0 2 :=
  mcw_V 2 ht wd1886 wd140 wd1889 wd1887 wd1888 ⟨by decide, by decide, by decide +kernel⟩ hrc hrs hR
theorem kwL_180 (ht : ∀ w ∈ lw_g, w.before args s = true) (hrc : rm.cells = 0) (hrs : rm.slots = 0) (hR : rm.frames + 1 ≤ R.frames ∧ 8 + (2 + 11) + rm.locals ≤ R.locals) : CallW R s args RL RX11 180 yX11_heirs cX11_heirs 2 (some .int) (mw yX11_heirs cX11_heirs 2 (some .int)) rm 0 0 1 :=
  mcw_V 1 ht wd1284 wd128 wd1287 wd1285 wd1286 ⟨by decide, by decide, by decide +kernel⟩ hrc hrs hR
theorem kwL_183 (ht : ∀ w ∈ lw_g, w.before args s = true) (hrc : rm.cells = 0) (hrs : rm.slots = 0) (hR : rm.frames + 1 ≤ R.frames ∧ 8 + (2 + 11) + rm.locals ≤ R.locals) : CallW R s args RL RX12 183 yX12_heirs cX12_heirs 2 (some .int) (mw yX12_heirs cX12_heirs 2 (some .int)) rm 0 0 1 :=
  mcw_V 1 ht wd1890 wd140 wd1893 wd1891 wd1892 ⟨by decide, by decide, by decide +kernel⟩ hrc hrs hR
theorem kwL_184 (ht : ∀ w ∈ lw_g, w.before args s = true) (hrc : rm.cells = 0) (hrs : rm.slots = 0) (hR : rm.frames + 1 ≤ R.frames ∧ 8 + (7 + 11) + rm.locals ≤ R.locals) : CallW R s args RL RX11 184 yX11_feared cX11_feared 7 (some .int) (mw yX11_feared cX11_feared 7 (some .int)) rm 0 0 0 :=
  mcw_V 0 ht wd1288 wd128 wd1291 wd1289 wd1290 ⟨by decide, by decide, by decide +kernel⟩ hrc hrs hR
theorem kwL_187 (ht : ∀ w ∈ lw_g, w.before args s = true) (hrc : rm.cells = 0) (hrs : rm.slots = 0) (hR : rm.frames + 1 ≤ R.frames ∧ 8 + (5 + 11) + rm.locals ≤ R.locals) : CallW R s args RL RX12 187 yX12_feared cX12_feared 5 (some .int) (mw yX12_feared cX12_feared 5 (some .int)) rm 0 0 0 :=
  mcw_V 0 ht wd1898 wd140 wd1901 wd1899 wd1900 ⟨by decide, by decide, by decide +kernel⟩ hrc hrs hR
theorem kwL_188 (ht : ∀ w ∈ lw_g, w.before args s = true) (hrc : rm.cells = 0) (hrs : rm.slots = 0) (hR : rm.frames + 1 ≤ R.frames ∧ 8 + (1 + 11) + rm.locals ≤ R.locals) : CallW R s args RL RX11 188 yX11_wolves cX11_wolves 1 (some .int) (mw yX11_wolves cX11_wolves 1 (some .int)) rm 0 0 0 :=
  mcw_V 0 ht wd1297 wd128 wd1300 wd1298 wd1299 ⟨by decide, by decide, by decide +kernel⟩ hrc hrs hR
theorem kwL_191 (ht : ∀ w ∈ lw_g, w.before args s = true) (hrc : rm.cells = 0) (hrs : rm.slots = 0) (hR : rm.frames + 1 ≤ R.frames ∧ 8 + (3 + 11) + rm.locals ≤ R.locals) : CallW R s args RL RX12 191 yX12_wolves cX12_wolves 3 (some .int) (mw yX12_wolves cX12_wolves 3 (some .int)) rm 0 0 0 :=
  mcw_V 0 ht wd1894 wd140 wd1897 wd1895 wd1896 ⟨by decide, by decide, by decide +kernel⟩ hrc hrs hR
theorem kwL_192 (ht : ∀ w ∈ lw_g, w.before args s = true) (hrc : rm.cells = 0) (hrs : rm.slots = 0) (hR : rm.frames + 1 ≤ R.frames ∧ 8 + (3 + 11) + rm.locals ≤ R.locals) : CallW R s args RL RX11 192 yX11_paid cX11_paid 3 (some .int) (mw yX11_paid cX11_paid 3 (some .int)) rm 0 0 2 :=
  mcw_V 2 ht wd1301 wd128 wd1304 wd1302 wd1303 ⟨by decide, by decide, by decide +kernel⟩ hrc hrs hR
theorem kwL_195 (ht : ∀ w ∈ lw_g, w.before args s = true) (hrc : rm.cells = 0) (hrs : rm.slots = 0) (hR : rm.frames + 1 ≤ R.frames ∧ 8 + (3 + 11) + rm.locals ≤ R.locals) : CallW R s args RL RX12 195 yX12_paid cX12_paid 3 (some .int) (mw yX12_paid cX12_paid 3 (some .int)) rm 0 0 2 :=
  mcw_V 2 ht wd2018 wd140 wd2021 wd2019 wd2020 ⟨by decide, by decide, by decide +kernel⟩ hrc hrs hR
theorem kwL_196 (ht : ∀ w ∈ lw_g, w.before args s = true) (hrc : rm.cells = 0) (hrs : rm.slots = 0) (hR : rm.frames + 1 ≤ R.frames ∧ 8 + (3 + 11) + rm.locals ≤ R.locals) : CallW R s args RL RX11 196 yX11_whose cX11_whose 3 (some .int) (mw yX11_whose cX11_whose 3 (some .int)) rm 0 0 0 :=
  mcw_V 0 ht wd1313 wd128 wd1316 wd1314 wd1315 ⟨by decide, by decide, by decide +kernel⟩ hrc hrs hR
theorem kwL_199 (ht : ∀ w ∈ lw_g, w.before args s = true) (hrc : rm.cells = 0) (hrs : rm.slots = 0) (hR : rm.frames + 1 ≤ R.frames ∧ 8 + (5 + 11) + rm.locals ≤ R.locals) : CallW R s args RL RX12 199 yX12_whose cX12_whose 5 (some .int) (mw yX12_whose cX12_whose 5 (some .int)) rm 0 0 0 :=
  mcw_V 0 ht wd2022 wd140 wd2025 wd2023 wd2024 ⟨by decide, by decide, by decide +kernel⟩ hrc hrs hR
theorem kwL_200 (ht : ∀ w ∈ lw_g, w.before args s = true) (hrc : rm.cells = 0) (hrs : rm.slots = 0) (hR : rm.frames + 1 ≤ R.frames ∧ 8 + (1 + 11) + rm.locals ≤ R.locals) : CallW R s args RL RX11 200 yX11_image cX11_image 1 (some .int) (mw yX11_image cX11_image 1 (some .int)) rm 0 0 0 :=
  mcw_V 0 ht wd1329 wd128 wd1332 wd1330 wd1331 ⟨by decide, by decide, by decide +kernel⟩ hrc hrs hR
theorem kwL_203 (ht : ∀ w ∈ lw_g, w.before args s = true) (hrc : rm.cells = 0) (hrs : rm.slots = 0) (hR : rm.frames + 1 ≤ R.frames ∧ 8 + (1 + 11) + rm.locals ≤ R.locals) : CallW R s args RL RX12 203 yX12_image cX12_image 1 (some .int) (mw yX12_image cX12_image 1 (some .int)) rm 0 0 0 :=
  mcw_V 0 ht wd2026 wd140 wd2029 wd2027 wd2028 ⟨by decide, by decide, by decide +kernel⟩ hrc hrs hR
theorem kwL_204 (ht : ∀ w ∈ lw_g, w.before args s = true) (hrc : rm.cells = 0) (hrs : rm.slots = 0) (hR : rm.frames + 1 ≤ R.frames ∧ 8 + (1 + 11) + rm.locals ≤ R.locals) : CallW R s args RL RX11 204 yX11_back cX11_back 1 (some .int) (mw yX11_back cX11_back 1 (some .int)) rm 0 0 0 :=
  mcw_V 0 ht wd1353 wd128 wd1356 wd1354 wd1355 ⟨by decide, by decide, by decide +kernel⟩ hrc hrs hR
theorem kwL_207 (ht : ∀ w ∈ lw_g, w.before args s = true) (hrc : rm.cells = 0) (hrs : rm.slots = 0) (hR : rm.frames + 1 ≤ R.frames ∧ 8 + (1 + 11) + rm.locals ≤ R.locals) : CallW R s args RL RX12 207 yX12_back cX12_back 1 (some .int) (mw yX12_back cX12_back 1 (some .int)) rm 0 0 0 :=
  mcw_V 0 ht wd2030 wd140 wd2033 wd2031 wd2032 ⟨by decide, by decide, by decide +kernel⟩ hrc hrs hR
theorem kwL_208 (ht : ∀ w ∈ lw_g, w.before args s = true) (hrc : rm.cells = 0) (hrs : rm.slots = 0) (hR : rm.frames + 1 ≤ R.frames ∧ 8 + (2 + 11) + rm.locals ≤ R.locals) : CallW R s args RL RX11 208 yX11_about cX11_about 2 (some .int) (mw yX11_about cX11_about 2 (some .int)) rm 0 0 1 :=
  mcw_V 1 ht wd1357 wd128 wd1360 wd1358 wd1359 ⟨by decide, by decide, by decide +kernel⟩ hrc hrs hR
theorem kwL_211 (ht : ∀ w ∈ lw_g, w.before args s = true) (hrc : rm.cells = 0) (hrs : rm.slots = 0) (hR : rm.frames + 1 ≤ R.frames ∧ 8 + (2 + 11) + rm.locals ≤ R.locals) : CallW R s args RL RX12 211 yX12_about cX12_about 2 (some .int) (mw yX12_about cX12_about 2 (some .int)) rm 0 0 1 :=
  mcw_V 1 ht wd2034 wd140 wd2037 wd2035 wd2036 ⟨by decide, by decide, by decide +kernel⟩ hrc hrs hR
end

