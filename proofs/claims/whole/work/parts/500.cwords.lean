set_option maxRecDepth 100000 in
theorem mtX11_175 : mtW RX11 175 Lib.Math.max.name Lib.Math.max.code 2 (some .int) := ⟨in_g (t4_in (List.mem_of_getElem? (i := 126) rfl)) rfl, in_g (t4_in (List.mem_of_getElem? (i := 46) rfl)) rfl, in_g (t1_in (List.mem_of_getElem? (i := 18) rfl)) rfl, in_g (t4_in (List.mem_of_getElem? (i := 47) rfl)) rfl⟩
section
set_option maxRecDepth 100000 in
theorem wd23 : Cond.selects RX11 yX11_textTold yX11_textTold ∈ lw_g := in_g (tp_in (List.mem_of_getElem? (i := 23) rfl)) rfl
set_option maxRecDepth 100000 in
theorem wd33 : Cond.selects RX11 yX11_perform yX11_perform ∈ lw_g := in_g (tp_in (List.mem_of_getElem? (i := 33) rfl)) rfl
set_option maxRecDepth 100000 in
theorem wd34 : Cond.selects RX11 yX11_passAll yX11_passAll ∈ lw_g := in_g (tp_in (List.mem_of_getElem? (i := 34) rfl)) rfl
set_option maxRecDepth 100000 in
theorem wd35 : Cond.selects RX11 yX11_reignOnce yX11_reignOnce ∈ lw_g := in_g (tp_in (List.mem_of_getElem? (i := 35) rfl)) rfl
set_option maxRecDepth 100000 in
theorem wd46 : Cond.selects RX11 yX11_explains yX11_explains ∈ lw_g := in_g (tp_in (List.mem_of_getElem? (i := 46) rfl)) rfl
set_option maxRecDepth 100000 in
theorem wd129 : Cond.initialized RX6 ∈ lw_g := in_g (t1_in (List.mem_of_getElem? (i := 2) rfl)) rfl
set_option maxRecDepth 100000 in
theorem wd170 : Cond.fieldLink RX11 220 "WolfsHead$Lands" "count" "I" ∈ lw_g := in_g (t1_in (List.mem_of_getElem? (i := 43) rfl)) rfl
set_option maxRecDepth 100000 in
theorem wd204 : Cond.fieldLink RX11 386 "WolfsHead$Steps" "count" "I" ∈ lw_g := in_g (t1_in (List.mem_of_getElem? (i := 77) rfl)) rfl
set_option maxRecDepth 100000 in
theorem wd222 : Cond.fieldLink RX11 311 "WolfsHead$Notes" "calls" "I" ∈ lw_g := in_g (t1_in (List.mem_of_getElem? (i := 95) rfl)) rfl
set_option maxRecDepth 100000 in
theorem wd224 : Cond.fieldLink RX11 333 "WolfsHead$Notes" "bordering" "I" ∈ lw_g := in_g (t1_in (List.mem_of_getElem? (i := 97) rfl)) rfl
set_option maxRecDepth 100000 in
theorem wd226 : Cond.fieldLink RX11 387 "WolfsHead$Notes" "reportCount" "I" ∈ lw_g := in_g (t1_in (List.mem_of_getElem? (i := 99) rfl)) rfl
set_option maxRecDepth 100000 in
theorem wd228 : Cond.fieldLink RX11 390 "WolfsHead$Notes" "unlikes" "I" ∈ lw_g := in_g (t1_in (List.mem_of_getElem? (i := 101) rfl)) rfl
set_option maxRecDepth 100000 in
theorem wd230 : Cond.fieldLink RX11 374 "WolfsHead$Notes" "payments" "I" ∈ lw_g := in_g (t1_in (List.mem_of_getElem? (i := 103) rfl)) rfl
set_option maxRecDepth 100000 in
theorem wd274 : Cond.fieldLink RX11 125 "WolfsHead$Realm" "texts" "I" ∈ lw_g := in_g (t1_in (List.mem_of_getElem? (i := 147) rfl)) rfl
set_option maxRecDepth 100000 in
theorem wd278 : Cond.fieldLink RX11 140 "WolfsHead$Realm" "ruling" "I" ∈ lw_g := in_g (t1_in (List.mem_of_getElem? (i := 151) rfl)) rfl
set_option maxRecDepth 100000 in
theorem wd301 : Cond.fieldLink RX11 121 "WolfsHead$Tape" "length" "I" ∈ lw_g := in_g (t1_in (List.mem_of_getElem? (i := 174) rfl)) rfl
set_option maxRecDepth 100000 in
theorem wd329 : Cond.fieldLink RX11 131 "WolfsHead$Reader" "fault" "I" ∈ lw_g := in_g (t1_in (List.mem_of_getElem? (i := 202) rfl)) rfl
set_option maxRecDepth 100000 in
theorem wd331 : Cond.fieldLink RX11 134 "WolfsHead$Reader" "place" "I" ∈ lw_g := in_g (t1_in (List.mem_of_getElem? (i := 204) rfl)) rfl
set_option maxRecDepth 100000 in
theorem wd393 : Cond.fieldLink RX11 285 "WolfsHead$Ways" "upper" "I" ∈ lw_g := in_g (t2_in (List.mem_of_getElem? (i := 26) rfl)) rfl
set_option maxRecDepth 100000 in
theorem wd395 : Cond.fieldLink RX11 288 "WolfsHead$Ways" "lower" "I" ∈ lw_g := in_g (t2_in (List.mem_of_getElem? (i := 28) rfl)) rfl
set_option maxRecDepth 100000 in
theorem wd397 : Cond.fieldLink RX11 318 "WolfsHead$Ways" "gone" "I" ∈ lw_g := in_g (t2_in (List.mem_of_getElem? (i := 30) rfl)) rfl
set_option maxRecDepth 100000 in
theorem wd399 : Cond.fieldLink RX11 321 "WolfsHead$Ways" "may" "I" ∈ lw_g := in_g (t2_in (List.mem_of_getElem? (i := 32) rfl)) rfl
set_option maxRecDepth 100000 in
theorem wd401 : Cond.fieldLink RX11 324 "WolfsHead$Ways" "must" "I" ∈ lw_g := in_g (t2_in (List.mem_of_getElem? (i := 34) rfl)) rfl
set_option maxRecDepth 100000 in
theorem wd434 : Cond.fieldLink RX11 180 "WolfsHead$Text" "clauses" "I" ∈ lw_g := in_g (t2_in (List.mem_of_getElem? (i := 67) rfl)) rfl
set_option maxRecDepth 100000 in
theorem wd456 : Cond.fieldLink RX11 10 "WolfsHead" "realm" "LWolfsHead$Realm;" ∈ lw_g := in_g (t2_in (List.mem_of_getElem? (i := 89) rfl)) rfl
set_option maxRecDepth 100000 in
theorem wd457 : Cond.fieldLink RX11 16 "WolfsHead" "kept" "LWolfsHead$Realm;" ∈ lw_g := in_g (t2_in (List.mem_of_getElem? (i := 90) rfl)) rfl
set_option maxRecDepth 100000 in
theorem wd458 : Cond.fieldLink RX11 21 "WolfsHead" "texts" "[LWolfsHead$Text;" ∈ lw_g := in_g (t2_in (List.mem_of_getElem? (i := 91) rfl)) rfl
set_option maxRecDepth 100000 in
theorem wd459 : Cond.fieldLink RX11 28 "WolfsHead" "tape" "LWolfsHead$Tape;" ∈ lw_g := in_g (t2_in (List.mem_of_getElem? (i := 92) rfl)) rfl
set_option maxRecDepth 100000 in
theorem wd460 : Cond.fieldLink RX11 37 "WolfsHead" "reader" "LWolfsHead$Reader;" ∈ lw_g := in_g (t2_in (List.mem_of_getElem? (i := 93) rfl)) rfl
set_option maxRecDepth 100000 in
theorem wd461 : Cond.fieldLink RX11 46 "WolfsHead" "laws" "LWolfsHead$Laws;" ∈ lw_g := in_g (t2_in (List.mem_of_getElem? (i := 94) rfl)) rfl
set_option maxRecDepth 100000 in
theorem wd462 : Cond.fieldLink RX11 54 "WolfsHead" "folk" "LWolfsHead$Folk;" ∈ lw_g := in_g (t2_in (List.mem_of_getElem? (i := 95) rfl)) rfl
set_option maxRecDepth 100000 in
theorem wd463 : Cond.fieldLink RX11 59 "WolfsHead" "lands" "LWolfsHead$Lands;" ∈ lw_g := in_g (t2_in (List.mem_of_getElem? (i := 96) rfl)) rfl
set_option maxRecDepth 100000 in
theorem wd464 : Cond.fieldLink RX11 64 "WolfsHead" "notes" "LWolfsHead$Notes;" ∈ lw_g := in_g (t2_in (List.mem_of_getElem? (i := 97) rfl)) rfl
set_option maxRecDepth 100000 in
theorem wd465 : Cond.fieldLink RX11 69 "WolfsHead" "taken" "LWolfsHead$Steps;" ∈ lw_g := in_g (t2_in (List.mem_of_getElem? (i := 98) rfl)) rfl
set_option maxRecDepth 100000 in
theorem wd466 : Cond.fieldLink RX11 75 "WolfsHead" "deeds" "LWolfsHead$Deeds;" ∈ lw_g := in_g (t2_in (List.mem_of_getElem? (i := 99) rfl)) rfl
set_option maxRecDepth 100000 in
theorem wd467 : Cond.fieldLink RX11 82 "WolfsHead" "dreamt" "LWolfsHead$Folk;" ∈ lw_g := in_g (t2_in (List.mem_of_getElem? (i := 100) rfl)) rfl
set_option maxRecDepth 100000 in
theorem wd468 : Cond.fieldLink RX11 85 "WolfsHead" "dream" "LWolfsHead$Deeds;" ∈ lw_g := in_g (t2_in (List.mem_of_getElem? (i := 101) rfl)) rfl
set_option maxRecDepth 100000 in
theorem wd469 : Cond.fieldLink RX11 91 "WolfsHead" "ways" "LWolfsHead$Ways;" ∈ lw_g := in_g (t2_in (List.mem_of_getElem? (i := 102) rfl)) rfl
set_option maxRecDepth 100000 in
theorem wd500 : Cond.instanceMethod yX11_land ∈ lw_g := in_g (t2_in (List.mem_of_getElem? (i := 133) rfl)) rfl
set_option maxRecDepth 100000 in
theorem wd501 : Cond.selects RX11 yX11_land yX11_land ∈ lw_g := in_g (t2_in (List.mem_of_getElem? (i := 134) rfl)) rfl
set_option maxRecDepth 100000 in
theorem wd502 : Cond.code yX11_land cX11_land 2 (some .int) ∈ lw_g := in_g (t2_in (List.mem_of_getElem? (i := 135) rfl)) rfl
set_option maxRecDepth 100000 in
theorem wd503 : Cond.methodLink RX11 96 yX2_tell ∈ lw_g := in_g (t2_in (List.mem_of_getElem? (i := 136) rfl)) rfl
set_option maxRecDepth 100000 in
theorem wd504 : Cond.instanceMethod yX2_tell ∈ lw_g := in_g (t2_in (List.mem_of_getElem? (i := 137) rfl)) rfl
set_option maxRecDepth 100000 in
theorem wd505 : Cond.selects RX2 yX2_tell yX2_tell ∈ lw_g := in_g (t2_in (List.mem_of_getElem? (i := 138) rfl)) rfl
set_option maxRecDepth 100000 in
theorem wd506 : Cond.code yX2_tell cX2_tell 2 (some .int) ∈ lw_g := in_g (t2_in (List.mem_of_getElem? (i := 139) rfl)) rfl
set_option maxRecDepth 100000 in
theorem wd508 : Cond.instanceMethod yX11_road ∈ lw_g := in_g (t2_in (List.mem_of_getElem? (i := 141) rfl)) rfl
set_option maxRecDepth 100000 in
theorem wd509 : Cond.selects RX11 yX11_road yX11_road ∈ lw_g := in_g (t2_in (List.mem_of_getElem? (i := 142) rfl)) rfl
set_option maxRecDepth 100000 in
theorem wd510 : Cond.code yX11_road cX11_road 3 (some .boolean) ∈ lw_g := in_g (t2_in (List.mem_of_getElem? (i := 143) rfl)) rfl
set_option maxRecDepth 100000 in
theorem wd511 : Cond.methodLink RX11 102 yX2_join ∈ lw_g := in_g (t2_in (List.mem_of_getElem? (i := 144) rfl)) rfl
set_option maxRecDepth 100000 in
theorem wd512 : Cond.instanceMethod yX2_join ∈ lw_g := in_g (t2_in (List.mem_of_getElem? (i := 145) rfl)) rfl
set_option maxRecDepth 100000 in
theorem wd513 : Cond.selects RX2 yX2_join yX2_join ∈ lw_g := in_g (t2_in (List.mem_of_getElem? (i := 146) rfl)) rfl
set_option maxRecDepth 100000 in
theorem wd514 : Cond.code yX2_join cX2_join 3 (some .boolean) ∈ lw_g := in_g (t2_in (List.mem_of_getElem? (i := 147) rfl)) rfl
set_option maxRecDepth 100000 in
theorem wd524 : Cond.instanceMethod yX11_person ∈ lw_g := in_g (t2_in (List.mem_of_getElem? (i := 157) rfl)) rfl
set_option maxRecDepth 100000 in
theorem wd525 : Cond.selects RX11 yX11_person yX11_person ∈ lw_g := in_g (t2_in (List.mem_of_getElem? (i := 158) rfl)) rfl
set_option maxRecDepth 100000 in
theorem wd526 : Cond.code yX11_person cX11_person 5 (some .int) ∈ lw_g := in_g (t2_in (List.mem_of_getElem? (i := 159) rfl)) rfl
set_option maxRecDepth 100000 in
theorem wd527 : Cond.methodLink RX11 106 yX2_told ∈ lw_g := in_g (t2_in (List.mem_of_getElem? (i := 160) rfl)) rfl
set_option maxRecDepth 100000 in
theorem wd528 : Cond.methodLink RX11 110 yX1_tell ∈ lw_g := in_g (t2_in (List.mem_of_getElem? (i := 161) rfl)) rfl
set_option maxRecDepth 100000 in
theorem wd529 : Cond.instanceMethod yX1_tell ∈ lw_g := in_g (t2_in (List.mem_of_getElem? (i := 162) rfl)) rfl
set_option maxRecDepth 100000 in
theorem wd530 : Cond.selects RX1 yX1_tell yX1_tell ∈ lw_g := in_g (t2_in (List.mem_of_getElem? (i := 163) rfl)) rfl
set_option maxRecDepth 100000 in
theorem wd531 : Cond.code yX1_tell cX1_tell 6 (some .int) ∈ lw_g := in_g (t2_in (List.mem_of_getElem? (i := 164) rfl)) rfl
set_option maxRecDepth 100000 in
theorem wd552 : Cond.methodLink RX11 113 yX8_hasRoom ∈ lw_g := in_g (t2_in (List.mem_of_getElem? (i := 185) rfl)) rfl
set_option maxRecDepth 100000 in
theorem wd553 : Cond.instanceMethod yX8_hasRoom ∈ lw_g := in_g (t2_in (List.mem_of_getElem? (i := 186) rfl)) rfl
set_option maxRecDepth 100000 in
theorem wd554 : Cond.selects RX8 yX8_hasRoom yX8_hasRoom ∈ lw_g := in_g (t2_in (List.mem_of_getElem? (i := 187) rfl)) rfl
set_option maxRecDepth 100000 in
theorem wd555 : Cond.code yX8_hasRoom cX8_hasRoom 1 (some .boolean) ∈ lw_g := in_g (t2_in (List.mem_of_getElem? (i := 188) rfl)) rfl
set_option maxRecDepth 100000 in
theorem wd556 : Cond.methodLink RX11 117 yX8_take ∈ lw_g := in_g (t2_in (List.mem_of_getElem? (i := 189) rfl)) rfl
set_option maxRecDepth 100000 in
theorem wd557 : Cond.instanceMethod yX8_take ∈ lw_g := in_g (t2_in (List.mem_of_getElem? (i := 190) rfl)) rfl
set_option maxRecDepth 100000 in
theorem wd558 : Cond.selects RX8 yX8_take yX8_take ∈ lw_g := in_g (t2_in (List.mem_of_getElem? (i := 191) rfl)) rfl
set_option maxRecDepth 100000 in
theorem wd559 : Cond.code yX8_take cX8_take 3 none ∈ lw_g := in_g (t2_in (List.mem_of_getElem? (i := 192) rfl)) rfl
set_option maxRecDepth 100000 in
theorem wd568 : Cond.methodLink RX11 127 yX5_read ∈ lw_g := in_g (t2_in (List.mem_of_getElem? (i := 201) rfl)) rfl
set_option maxRecDepth 100000 in
theorem wd569 : Cond.instanceMethod yX5_read ∈ lw_g := in_g (t2_in (List.mem_of_getElem? (i := 202) rfl)) rfl
set_option maxRecDepth 100000 in
theorem wd570 : Cond.selects RX5 yX5_read yX5_read ∈ lw_g := in_g (t2_in (List.mem_of_getElem? (i := 203) rfl)) rfl
set_option maxRecDepth 100000 in
theorem wd571 : Cond.code yX5_read cX5_read 3 (some .boolean) ∈ lw_g := in_g (t2_in (List.mem_of_getElem? (i := 204) rfl)) rfl
set_option maxRecDepth 100000 in
theorem wd781 : Cond.methodLink RX11 137 yX11_textTold ∈ lw_g := in_g (t3_in (List.mem_of_getElem? (i := 174) rfl)) rfl
set_option maxRecDepth 100000 in
theorem wd783 : Cond.instanceMethod yX11_textTold ∈ lw_g := in_g (t3_in (List.mem_of_getElem? (i := 176) rfl)) rfl
set_option maxRecDepth 100000 in
theorem wd784 : Cond.code yX11_textTold cX11_textTold 2 (some .boolean) ∈ lw_g := in_g (t3_in (List.mem_of_getElem? (i := 177) rfl)) rfl
set_option maxRecDepth 100000 in
theorem wd786 : Cond.instanceMethod yX11_call ∈ lw_g := in_g (t3_in (List.mem_of_getElem? (i := 179) rfl)) rfl
set_option maxRecDepth 100000 in
theorem wd787 : Cond.selects RX11 yX11_call yX11_call ∈ lw_g := in_g (t3_in (List.mem_of_getElem? (i := 180) rfl)) rfl
set_option maxRecDepth 100000 in
theorem wd788 : Cond.code yX11_call cX11_call 4 (some .int) ∈ lw_g := in_g (t3_in (List.mem_of_getElem? (i := 181) rfl)) rfl
set_option maxRecDepth 100000 in
theorem wd789 : Cond.methodLink RX11 143 yX7_ahead ∈ lw_g := in_g (t3_in (List.mem_of_getElem? (i := 182) rfl)) rfl
set_option maxRecDepth 100000 in
theorem wd790 : Cond.instanceMethod yX7_ahead ∈ lw_g := in_g (t3_in (List.mem_of_getElem? (i := 183) rfl)) rfl
set_option maxRecDepth 100000 in
theorem wd791 : Cond.selects RX7 yX7_ahead yX7_ahead ∈ lw_g := in_g (t3_in (List.mem_of_getElem? (i := 184) rfl)) rfl
set_option maxRecDepth 100000 in
theorem wd792 : Cond.code yX7_ahead cX7_ahead 2 none ∈ lw_g := in_g (t3_in (List.mem_of_getElem? (i := 185) rfl)) rfl
set_option maxRecDepth 100000 in
theorem wd800 : Cond.methodLink RX11 149 yX0_summon ∈ lw_g := in_g (t3_in (List.mem_of_getElem? (i := 193) rfl)) rfl
set_option maxRecDepth 100000 in
theorem wd801 : Cond.instanceMethod yX0_summon ∈ lw_g := in_g (t3_in (List.mem_of_getElem? (i := 194) rfl)) rfl
set_option maxRecDepth 100000 in
theorem wd802 : Cond.selects RX0 yX0_summon yX0_summon ∈ lw_g := in_g (t3_in (List.mem_of_getElem? (i := 195) rfl)) rfl
set_option maxRecDepth 100000 in
theorem wd803 : Cond.code yX0_summon cX0_summon 4 (some .int) ∈ lw_g := in_g (t3_in (List.mem_of_getElem? (i := 196) rfl)) rfl
set_option maxRecDepth 100000 in
theorem wd827 : Cond.methodLink RX11 153 yX7_keep ∈ lw_g := in_g (t3_in (List.mem_of_getElem? (i := 220) rfl)) rfl
set_option maxRecDepth 100000 in
theorem wd828 : Cond.instanceMethod yX7_keep ∈ lw_g := in_g (t3_in (List.mem_of_getElem? (i := 221) rfl)) rfl
set_option maxRecDepth 100000 in
theorem wd829 : Cond.selects RX7 yX7_keep yX7_keep ∈ lw_g := in_g (t3_in (List.mem_of_getElem? (i := 222) rfl)) rfl
set_option maxRecDepth 100000 in
theorem wd830 : Cond.code yX7_keep cX7_keep 1 none ∈ lw_g := in_g (t3_in (List.mem_of_getElem? (i := 223) rfl)) rfl
set_option maxRecDepth 100000 in
theorem wd833 : Cond.instanceMethod yX11_move ∈ lw_g := in_g (t3_in (List.mem_of_getElem? (i := 226) rfl)) rfl
set_option maxRecDepth 100000 in
theorem wd834 : Cond.selects RX11 yX11_move yX11_move ∈ lw_g := in_g (t3_in (List.mem_of_getElem? (i := 227) rfl)) rfl
set_option maxRecDepth 100000 in
theorem wd835 : Cond.code yX11_move cX11_move 4 (some .boolean) ∈ lw_g := in_g (t3_in (List.mem_of_getElem? (i := 228) rfl)) rfl
set_option maxRecDepth 100000 in
theorem wd836 : Cond.methodLink RX11 156 yX0_travel ∈ lw_g := in_g (t3_in (List.mem_of_getElem? (i := 229) rfl)) rfl
set_option maxRecDepth 100000 in
theorem wd837 : Cond.instanceMethod yX0_travel ∈ lw_g := in_g (t3_in (List.mem_of_getElem? (i := 230) rfl)) rfl
set_option maxRecDepth 100000 in
theorem wd838 : Cond.selects RX0 yX0_travel yX0_travel ∈ lw_g := in_g (t3_in (List.mem_of_getElem? (i := 231) rfl)) rfl
set_option maxRecDepth 100000 in
theorem wd839 : Cond.code yX0_travel cX0_travel 3 (some .boolean) ∈ lw_g := in_g (t3_in (List.mem_of_getElem? (i := 232) rfl)) rfl
set_option maxRecDepth 100000 in
theorem wd842 : Cond.instanceMethod yX11_feeds ∈ lw_g := in_g (t3_in (List.mem_of_getElem? (i := 235) rfl)) rfl
set_option maxRecDepth 100000 in
theorem wd843 : Cond.selects RX11 yX11_feeds yX11_feeds ∈ lw_g := in_g (t3_in (List.mem_of_getElem? (i := 236) rfl)) rfl
set_option maxRecDepth 100000 in
theorem wd844 : Cond.code yX11_feeds cX11_feeds 4 (some .int) ∈ lw_g := in_g (t3_in (List.mem_of_getElem? (i := 237) rfl)) rfl
set_option maxRecDepth 100000 in
theorem wd845 : Cond.methodLink RX11 159 yX0_nourish ∈ lw_g := in_g (t3_in (List.mem_of_getElem? (i := 238) rfl)) rfl
set_option maxRecDepth 100000 in
theorem wd846 : Cond.instanceMethod yX0_nourish ∈ lw_g := in_g (t3_in (List.mem_of_getElem? (i := 239) rfl)) rfl
set_option maxRecDepth 100000 in
theorem wd847 : Cond.selects RX0 yX0_nourish yX0_nourish ∈ lw_g := in_g (t4_in (List.mem_of_getElem? (i := 0) rfl)) rfl
set_option maxRecDepth 100000 in
theorem wd848 : Cond.code yX0_nourish cX0_nourish 6 (some .int) ∈ lw_g := in_g (t4_in (List.mem_of_getElem? (i := 1) rfl)) rfl
set_option maxRecDepth 100000 in
theorem wd927 : Cond.instanceMethod yX11_kill ∈ lw_g := in_g (t4_in (List.mem_of_getElem? (i := 80) rfl)) rfl
set_option maxRecDepth 100000 in
theorem wd928 : Cond.selects RX11 yX11_kill yX11_kill ∈ lw_g := in_g (t4_in (List.mem_of_getElem? (i := 81) rfl)) rfl
set_option maxRecDepth 100000 in
theorem wd929 : Cond.code yX11_kill cX11_kill 4 (some .boolean) ∈ lw_g := in_g (t4_in (List.mem_of_getElem? (i := 82) rfl)) rfl
set_option maxRecDepth 100000 in
theorem wd930 : Cond.methodLink RX11 162 yX0_slay ∈ lw_g := in_g (t4_in (List.mem_of_getElem? (i := 83) rfl)) rfl
set_option maxRecDepth 100000 in
theorem wd931 : Cond.instanceMethod yX0_slay ∈ lw_g := in_g (t4_in (List.mem_of_getElem? (i := 84) rfl)) rfl
set_option maxRecDepth 100000 in
theorem wd932 : Cond.selects RX0 yX0_slay yX0_slay ∈ lw_g := in_g (t4_in (List.mem_of_getElem? (i := 85) rfl)) rfl
set_option maxRecDepth 100000 in
theorem wd933 : Cond.code yX0_slay cX0_slay 3 (some .boolean) ∈ lw_g := in_g (t4_in (List.mem_of_getElem? (i := 86) rfl)) rfl
set_option maxRecDepth 100000 in
theorem wd939 : Cond.instanceMethod yX11_pardon ∈ lw_g := in_g (t4_in (List.mem_of_getElem? (i := 92) rfl)) rfl
set_option maxRecDepth 100000 in
theorem wd940 : Cond.selects RX11 yX11_pardon yX11_pardon ∈ lw_g := in_g (t4_in (List.mem_of_getElem? (i := 93) rfl)) rfl
set_option maxRecDepth 100000 in
theorem wd941 : Cond.code yX11_pardon cX11_pardon 4 (some .int) ∈ lw_g := in_g (t4_in (List.mem_of_getElem? (i := 94) rfl)) rfl
set_option maxRecDepth 100000 in
theorem wd942 : Cond.methodLink RX11 165 yX0_forgive ∈ lw_g := in_g (t4_in (List.mem_of_getElem? (i := 95) rfl)) rfl
set_option maxRecDepth 100000 in
theorem wd943 : Cond.instanceMethod yX0_forgive ∈ lw_g := in_g (t4_in (List.mem_of_getElem? (i := 96) rfl)) rfl
set_option maxRecDepth 100000 in
theorem wd944 : Cond.selects RX0 yX0_forgive yX0_forgive ∈ lw_g := in_g (t4_in (List.mem_of_getElem? (i := 97) rfl)) rfl
set_option maxRecDepth 100000 in
theorem wd945 : Cond.code yX0_forgive cX0_forgive 4 (some .int) ∈ lw_g := in_g (t4_in (List.mem_of_getElem? (i := 98) rfl)) rfl
set_option maxRecDepth 100000 in
theorem wd954 : Cond.methodLink RX11 168 yX1_monthNow ∈ lw_g := in_g (t4_in (List.mem_of_getElem? (i := 107) rfl)) rfl
set_option maxRecDepth 100000 in
theorem wd955 : Cond.methodLink RX11 172 yX0_passMonth ∈ lw_g := in_g (t4_in (List.mem_of_getElem? (i := 108) rfl)) rfl
set_option maxRecDepth 100000 in
theorem wd956 : Cond.instanceMethod yX0_passMonth ∈ lw_g := in_g (t4_in (List.mem_of_getElem? (i := 109) rfl)) rfl
set_option maxRecDepth 100000 in
theorem wd957 : Cond.selects RX0 yX0_passMonth yX0_passMonth ∈ lw_g := in_g (t4_in (List.mem_of_getElem? (i := 110) rfl)) rfl
set_option maxRecDepth 100000 in
theorem wd958 : Cond.code yX0_passMonth cX0_passMonth 3 (some .int) ∈ lw_g := in_g (t4_in (List.mem_of_getElem? (i := 111) rfl)) rfl
set_option maxRecDepth 100000 in
theorem wd978 : Cond.methodLink RX11 183 yX11_perform ∈ lw_g := in_g (t4_in (List.mem_of_getElem? (i := 131) rfl)) rfl
set_option maxRecDepth 100000 in
theorem wd980 : Cond.instanceMethod yX11_perform ∈ lw_g := in_g (t4_in (List.mem_of_getElem? (i := 133) rfl)) rfl
set_option maxRecDepth 100000 in
theorem wd981 : Cond.code yX11_perform cX11_perform 5 (some .boolean) ∈ lw_g := in_g (t4_in (List.mem_of_getElem? (i := 134) rfl)) rfl
set_option maxRecDepth 100000 in
theorem wd982 : Cond.methodLink RX11 187 yX9_part ∈ lw_g := in_g (t4_in (List.mem_of_getElem? (i := 135) rfl)) rfl
set_option maxRecDepth 100000 in
theorem wd983 : Cond.instanceMethod yX9_part ∈ lw_g := in_g (t4_in (List.mem_of_getElem? (i := 136) rfl)) rfl
set_option maxRecDepth 100000 in
theorem wd984 : Cond.selects RX9 yX9_part yX9_part ∈ lw_g := in_g (t4_in (List.mem_of_getElem? (i := 137) rfl)) rfl
set_option maxRecDepth 100000 in
theorem wd985 : Cond.code yX9_part cX9_part 3 (some .int) ∈ lw_g := in_g (t4_in (List.mem_of_getElem? (i := 138) rfl)) rfl
set_option maxRecDepth 100000 in
theorem wd986 : Cond.methodLink RX11 190 yX11_land ∈ lw_g := in_g (t4_in (List.mem_of_getElem? (i := 139) rfl)) rfl
set_option maxRecDepth 100000 in
theorem wd987 : Cond.methodLink RX11 193 yX11_road ∈ lw_g := in_g (t4_in (List.mem_of_getElem? (i := 140) rfl)) rfl
set_option maxRecDepth 100000 in
theorem wd988 : Cond.methodLink RX11 196 yX11_person ∈ lw_g := in_g (t4_in (List.mem_of_getElem? (i := 141) rfl)) rfl
set_option maxRecDepth 100000 in
theorem wd989 : Cond.methodLink RX11 199 yX11_call ∈ lw_g := in_g (t4_in (List.mem_of_getElem? (i := 142) rfl)) rfl
set_option maxRecDepth 100000 in
theorem wd990 : Cond.methodLink RX11 202 yX11_move ∈ lw_g := in_g (t4_in (List.mem_of_getElem? (i := 143) rfl)) rfl
set_option maxRecDepth 100000 in
theorem wd991 : Cond.methodLink RX11 205 yX11_feeds ∈ lw_g := in_g (t4_in (List.mem_of_getElem? (i := 144) rfl)) rfl
set_option maxRecDepth 100000 in
theorem wd992 : Cond.methodLink RX11 208 yX11_kill ∈ lw_g := in_g (t4_in (List.mem_of_getElem? (i := 145) rfl)) rfl
set_option maxRecDepth 100000 in
theorem wd993 : Cond.methodLink RX11 211 yX11_pardon ∈ lw_g := in_g (t4_in (List.mem_of_getElem? (i := 146) rfl)) rfl
set_option maxRecDepth 100000 in
theorem wd994 : Cond.methodLink RX11 214 yX11_passAll ∈ lw_g := in_g (t4_in (List.mem_of_getElem? (i := 147) rfl)) rfl
set_option maxRecDepth 100000 in
theorem wd996 : Cond.instanceMethod yX11_passAll ∈ lw_g := in_g (t4_in (List.mem_of_getElem? (i := 149) rfl)) rfl
set_option maxRecDepth 100000 in
theorem wd997 : Cond.code yX11_passAll cX11_passAll 3 (some .boolean) ∈ lw_g := in_g (t4_in (List.mem_of_getElem? (i := 150) rfl)) rfl
set_option maxRecDepth 100000 in
theorem wd1002 : Cond.methodLink RX11 217 yX1_count ∈ lw_g := in_g (t4_in (List.mem_of_getElem? (i := 155) rfl)) rfl
set_option maxRecDepth 100000 in
theorem wd1003 : Cond.methodLink RX11 222 yX1_setX ∈ lw_g := in_g (t4_in (List.mem_of_getElem? (i := 156) rfl)) rfl
set_option maxRecDepth 100000 in
theorem wd1004 : Cond.instanceMethod yX1_setX ∈ lw_g := in_g (t4_in (List.mem_of_getElem? (i := 157) rfl)) rfl
set_option maxRecDepth 100000 in
theorem wd1005 : Cond.selects RX1 yX1_setX yX1_setX ∈ lw_g := in_g (t4_in (List.mem_of_getElem? (i := 158) rfl)) rfl
set_option maxRecDepth 100000 in
theorem wd1006 : Cond.code yX1_setX cX1_setX 2 none ∈ lw_g := in_g (t4_in (List.mem_of_getElem? (i := 159) rfl)) rfl
set_option maxRecDepth 100000 in
theorem wd1007 : Cond.methodLink RX11 225 yX11_reignOnce ∈ lw_g := in_g (t4_in (List.mem_of_getElem? (i := 160) rfl)) rfl
set_option maxRecDepth 100000 in
theorem wd1009 : Cond.instanceMethod yX11_reignOnce ∈ lw_g := in_g (t4_in (List.mem_of_getElem? (i := 162) rfl)) rfl
set_option maxRecDepth 100000 in
theorem wd1010 : Cond.code yX11_reignOnce cX11_reignOnce 6 none ∈ lw_g := in_g (t4_in (List.mem_of_getElem? (i := 163) rfl)) rfl
set_option maxRecDepth 100000 in
theorem wd1011 : Cond.methodLink RX11 228 yX1_x ∈ lw_g := in_g (t4_in (List.mem_of_getElem? (i := 164) rfl)) rfl
set_option maxRecDepth 100000 in
theorem wd1012 : Cond.instanceMethod yX1_x ∈ lw_g := in_g (t4_in (List.mem_of_getElem? (i := 165) rfl)) rfl
set_option maxRecDepth 100000 in
theorem wd1013 : Cond.selects RX1 yX1_x yX1_x ∈ lw_g := in_g (t4_in (List.mem_of_getElem? (i := 166) rfl)) rfl
set_option maxRecDepth 100000 in
theorem wd1014 : Cond.code yX1_x cX1_x 1 (some .int) ∈ lw_g := in_g (t4_in (List.mem_of_getElem? (i := 167) rfl)) rfl
set_option maxRecDepth 100000 in
theorem wd1015 : Cond.methodLink RX11 231 yX1_stir ∈ lw_g := in_g (t4_in (List.mem_of_getElem? (i := 168) rfl)) rfl
set_option maxRecDepth 100000 in
theorem wd1020 : Cond.methodLink RX11 234 yX7_takeBack ∈ lw_g := in_g (t4_in (List.mem_of_getElem? (i := 173) rfl)) rfl
set_option maxRecDepth 100000 in
theorem wd1021 : Cond.instanceMethod yX7_takeBack ∈ lw_g := in_g (t4_in (List.mem_of_getElem? (i := 174) rfl)) rfl
set_option maxRecDepth 100000 in
theorem wd1022 : Cond.selects RX7 yX7_takeBack yX7_takeBack ∈ lw_g := in_g (t4_in (List.mem_of_getElem? (i := 175) rfl)) rfl
set_option maxRecDepth 100000 in
theorem wd1023 : Cond.code yX7_takeBack cX7_takeBack 2 (some .int) ∈ lw_g := in_g (t4_in (List.mem_of_getElem? (i := 176) rfl)) rfl
set_option maxRecDepth 100000 in
theorem wd1033 : Cond.methodLink RX11 238 yX1_told ∈ lw_g := in_g (t4_in (List.mem_of_getElem? (i := 186) rfl)) rfl
set_option maxRecDepth 100000 in
theorem wd1034 : Cond.methodLink RX11 239 yX1_get ∈ lw_g := in_g (t4_in (List.mem_of_getElem? (i := 187) rfl)) rfl
set_option maxRecDepth 100000 in
theorem wd1035 : Cond.methodLink RX11 242 yX1_fearOf ∈ lw_g := in_g (t4_in (List.mem_of_getElem? (i := 188) rfl)) rfl
set_option maxRecDepth 100000 in
theorem wd1036 : Cond.methodLink RX11 245 yX3_rule ∈ lw_g := in_g (t4_in (List.mem_of_getElem? (i := 189) rfl)) rfl
set_option maxRecDepth 100000 in
theorem wd1037 : Cond.methodLink RX11 249 yX1_othersIn ∈ lw_g := in_g (t4_in (List.mem_of_getElem? (i := 190) rfl)) rfl
set_option maxRecDepth 100000 in
theorem wd1038 : Cond.methodLink RX11 252 yJ6_bitCount_0f7a4 ∈ lw_g := in_g (t4_in (List.mem_of_getElem? (i := 191) rfl)) rfl
set_option maxRecDepth 100000 in
theorem wd1043 : Cond.methodLink RX11 257 yX2_forestOf ∈ lw_g := in_g (t4_in (List.mem_of_getElem? (i := 196) rfl)) rfl
set_option maxRecDepth 100000 in
theorem wd1044 : Cond.methodLink RX11 260 yX2_near ∈ lw_g := in_g (t4_in (List.mem_of_getElem? (i := 197) rfl)) rfl
set_option maxRecDepth 100000 in
theorem wd1056 : Cond.methodLink RX11 263 yX1_written ∈ lw_g := in_g (t4_in (List.mem_of_getElem? (i := 209) rfl)) rfl
set_option maxRecDepth 100000 in
theorem wd1057 : Cond.instanceMethod yX1_written ∈ lw_g := in_g (t4_in (List.mem_of_getElem? (i := 210) rfl)) rfl
set_option maxRecDepth 100000 in
theorem wd1058 : Cond.selects RX1 yX1_written yX1_written ∈ lw_g := in_g (t4_in (List.mem_of_getElem? (i := 211) rfl)) rfl
set_option maxRecDepth 100000 in
theorem wd1059 : Cond.code yX1_written cX1_written 1 (some .int) ∈ lw_g := in_g (t4_in (List.mem_of_getElem? (i := 212) rfl)) rfl
set_option maxRecDepth 100000 in
theorem wd1060 : Cond.methodLink RX11 266 yX1_entryMonth ∈ lw_g := in_g (t4_in (List.mem_of_getElem? (i := 213) rfl)) rfl
set_option maxRecDepth 100000 in
theorem wd1061 : Cond.instanceMethod yX1_entryMonth ∈ lw_g := in_g (t4_in (List.mem_of_getElem? (i := 214) rfl)) rfl
set_option maxRecDepth 100000 in
theorem wd1062 : Cond.selects RX1 yX1_entryMonth yX1_entryMonth ∈ lw_g := in_g (t4_in (List.mem_of_getElem? (i := 215) rfl)) rfl
set_option maxRecDepth 100000 in
theorem wd1063 : Cond.code yX1_entryMonth cX1_entryMonth 2 (some .int) ∈ lw_g := in_g (t4_in (List.mem_of_getElem? (i := 216) rfl)) rfl
set_option maxRecDepth 100000 in
theorem wd1068 : Cond.methodLink RX11 269 yX1_entryPerson ∈ lw_g := in_g (t4_in (List.mem_of_getElem? (i := 221) rfl)) rfl
set_option maxRecDepth 100000 in
theorem wd1069 : Cond.instanceMethod yX1_entryPerson ∈ lw_g := in_g (t4_in (List.mem_of_getElem? (i := 222) rfl)) rfl
set_option maxRecDepth 100000 in
theorem wd1070 : Cond.selects RX1 yX1_entryPerson yX1_entryPerson ∈ lw_g := in_g (t4_in (List.mem_of_getElem? (i := 223) rfl)) rfl
set_option maxRecDepth 100000 in
theorem wd1071 : Cond.code yX1_entryPerson cX1_entryPerson 2 (some .int) ∈ lw_g := in_g (t4_in (List.mem_of_getElem? (i := 224) rfl)) rfl
set_option maxRecDepth 100000 in
theorem wd1072 : Cond.methodLink RX11 272 yX1_entryWhat ∈ lw_g := in_g (t4_in (List.mem_of_getElem? (i := 225) rfl)) rfl
set_option maxRecDepth 100000 in
theorem wd1073 : Cond.instanceMethod yX1_entryWhat ∈ lw_g := in_g (t4_in (List.mem_of_getElem? (i := 226) rfl)) rfl
set_option maxRecDepth 100000 in
theorem wd1074 : Cond.selects RX1 yX1_entryWhat yX1_entryWhat ∈ lw_g := in_g (t4_in (List.mem_of_getElem? (i := 227) rfl)) rfl
set_option maxRecDepth 100000 in
theorem wd1075 : Cond.code yX1_entryWhat cX1_entryWhat 2 (some .int) ∈ lw_g := in_g (t4_in (List.mem_of_getElem? (i := 228) rfl)) rfl
set_option maxRecDepth 100000 in
theorem wd1080 : Cond.methodLink RX11 275 yX1_become ∈ lw_g := in_g (t4_in (List.mem_of_getElem? (i := 233) rfl)) rfl
set_option maxRecDepth 100000 in
theorem wd1088 : Cond.methodLink RX11 278 yX0_priceFor ∈ lw_g := in_g (t5_in (List.mem_of_getElem? (i := 1) rfl)) rfl
set_option maxRecDepth 100000 in
theorem wd1093 : Cond.methodLink RX11 281 yX10_seekSurest ∈ lw_g := in_g (t5_in (List.mem_of_getElem? (i := 6) rfl)) rfl
set_option maxRecDepth 100000 in
theorem wd1094 : Cond.instanceMethod yX10_seekSurest ∈ lw_g := in_g (t5_in (List.mem_of_getElem? (i := 7) rfl)) rfl
set_option maxRecDepth 100000 in
theorem wd1095 : Cond.selects RX10 yX10_seekSurest yX10_seekSurest ∈ lw_g := in_g (t5_in (List.mem_of_getElem? (i := 8) rfl)) rfl
set_option maxRecDepth 100000 in
theorem wd1096 : Cond.code yX10_seekSurest cX10_seekSurest 8 none ∈ lw_g := in_g (t5_in (List.mem_of_getElem? (i := 9) rfl)) rfl
set_option maxRecDepth 100000 in
theorem wd1117 : Cond.methodLink RX11 291 yX10_landAt ∈ lw_g := in_g (t5_in (List.mem_of_getElem? (i := 30) rfl)) rfl
set_option maxRecDepth 100000 in
theorem wd1118 : Cond.instanceMethod yX10_landAt ∈ lw_g := in_g (t5_in (List.mem_of_getElem? (i := 31) rfl)) rfl
set_option maxRecDepth 100000 in
theorem wd1119 : Cond.selects RX10 yX10_landAt yX10_landAt ∈ lw_g := in_g (t5_in (List.mem_of_getElem? (i := 32) rfl)) rfl
set_option maxRecDepth 100000 in
theorem wd1120 : Cond.code yX10_landAt cX10_landAt 2 (some .int) ∈ lw_g := in_g (t5_in (List.mem_of_getElem? (i := 33) rfl)) rfl
set_option maxRecDepth 100000 in
theorem wd1125 : Cond.methodLink RX11 294 yX2_distance ∈ lw_g := in_g (t5_in (List.mem_of_getElem? (i := 38) rfl)) rfl
set_option maxRecDepth 100000 in
theorem wd1126 : Cond.instanceMethod yX2_distance ∈ lw_g := in_g (t5_in (List.mem_of_getElem? (i := 39) rfl)) rfl
set_option maxRecDepth 100000 in
theorem wd1127 : Cond.selects RX2 yX2_distance yX2_distance ∈ lw_g := in_g (t5_in (List.mem_of_getElem? (i := 40) rfl)) rfl
set_option maxRecDepth 100000 in
theorem wd1128 : Cond.code yX2_distance cX2_distance 5 (some .int) ∈ lw_g := in_g (t5_in (List.mem_of_getElem? (i := 41) rfl)) rfl
set_option maxRecDepth 100000 in
theorem wd1137 : Cond.methodLink RX11 297 yX2_spread ∈ lw_g := in_g (t5_in (List.mem_of_getElem? (i := 50) rfl)) rfl
set_option maxRecDepth 100000 in
theorem wd1138 : Cond.methodLink RX11 300 yX2_all ∈ lw_g := in_g (t5_in (List.mem_of_getElem? (i := 51) rfl)) rfl
set_option maxRecDepth 100000 in
theorem wd1146 : Cond.methodLink RX11 303 yX4_forgetCalls ∈ lw_g := in_g (t5_in (List.mem_of_getElem? (i := 59) rfl)) rfl
set_option maxRecDepth 100000 in
theorem wd1147 : Cond.instanceMethod yX4_forgetCalls ∈ lw_g := in_g (t5_in (List.mem_of_getElem? (i := 60) rfl)) rfl
set_option maxRecDepth 100000 in
theorem wd1148 : Cond.selects RX4 yX4_forgetCalls yX4_forgetCalls ∈ lw_g := in_g (t5_in (List.mem_of_getElem? (i := 61) rfl)) rfl
set_option maxRecDepth 100000 in
theorem wd1149 : Cond.code yX4_forgetCalls cX4_forgetCalls 1 none ∈ lw_g := in_g (t5_in (List.mem_of_getElem? (i := 62) rfl)) rfl
set_option maxRecDepth 100000 in
theorem wd1150 : Cond.methodLink RX11 308 yX4_noteCall ∈ lw_g := in_g (t5_in (List.mem_of_getElem? (i := 63) rfl)) rfl
set_option maxRecDepth 100000 in
theorem wd1151 : Cond.instanceMethod yX4_noteCall ∈ lw_g := in_g (t5_in (List.mem_of_getElem? (i := 64) rfl)) rfl
set_option maxRecDepth 100000 in
theorem wd1152 : Cond.selects RX4 yX4_noteCall yX4_noteCall ∈ lw_g := in_g (t5_in (List.mem_of_getElem? (i := 65) rfl)) rfl
set_option maxRecDepth 100000 in
theorem wd1153 : Cond.code yX4_noteCall cX4_noteCall 2 (some .int) ∈ lw_g := in_g (t5_in (List.mem_of_getElem? (i := 66) rfl)) rfl
set_option maxRecDepth 100000 in
theorem wd1158 : Cond.methodLink RX11 314 yX10_countInCrowd ∈ lw_g := in_g (t5_in (List.mem_of_getElem? (i := 71) rfl)) rfl
set_option maxRecDepth 100000 in
theorem wd1159 : Cond.instanceMethod yX10_countInCrowd ∈ lw_g := in_g (t5_in (List.mem_of_getElem? (i := 72) rfl)) rfl
set_option maxRecDepth 100000 in
theorem wd1160 : Cond.selects RX10 yX10_countInCrowd yX10_countInCrowd ∈ lw_g := in_g (t5_in (List.mem_of_getElem? (i := 73) rfl)) rfl
set_option maxRecDepth 100000 in
theorem wd1161 : Cond.code yX10_countInCrowd cX10_countInCrowd 8 none ∈ lw_g := in_g (t5_in (List.mem_of_getElem? (i := 74) rfl)) rfl
set_option maxRecDepth 100000 in
theorem wd1183 : Cond.methodLink RX11 327 yX2_fewestHelpers ∈ lw_g := in_g (t5_in (List.mem_of_getElem? (i := 96) rfl)) rfl
set_option maxRecDepth 100000 in
theorem wd1184 : Cond.instanceMethod yX2_fewestHelpers ∈ lw_g := in_g (t5_in (List.mem_of_getElem? (i := 97) rfl)) rfl
set_option maxRecDepth 100000 in
theorem wd1185 : Cond.selects RX2 yX2_fewestHelpers yX2_fewestHelpers ∈ lw_g := in_g (t5_in (List.mem_of_getElem? (i := 98) rfl)) rfl
set_option maxRecDepth 100000 in
theorem wd1186 : Cond.code yX2_fewestHelpers cX2_fewestHelpers 5 (some .int) ∈ lw_g := in_g (t5_in (List.mem_of_getElem? (i := 99) rfl)) rfl
set_option maxRecDepth 100000 in
theorem wd1193 : Cond.methodLink RX11 330 yX2_fewestWatched ∈ lw_g := in_g (t5_in (List.mem_of_getElem? (i := 106) rfl)) rfl
set_option maxRecDepth 100000 in
theorem wd1194 : Cond.instanceMethod yX2_fewestWatched ∈ lw_g := in_g (t5_in (List.mem_of_getElem? (i := 107) rfl)) rfl
set_option maxRecDepth 100000 in
theorem wd1195 : Cond.selects RX2 yX2_fewestWatched yX2_fewestWatched ∈ lw_g := in_g (t5_in (List.mem_of_getElem? (i := 108) rfl)) rfl
set_option maxRecDepth 100000 in
theorem wd1196 : Cond.code yX2_fewestWatched cX2_fewestWatched 7 (some .int) ∈ lw_g := in_g (t5_in (List.mem_of_getElem? (i := 109) rfl)) rfl
set_option maxRecDepth 100000 in
theorem wd1213 : Cond.methodLink RX11 336 yX4_tellReports ∈ lw_g := in_g (t5_in (List.mem_of_getElem? (i := 126) rfl)) rfl
set_option maxRecDepth 100000 in
theorem wd1214 : Cond.instanceMethod yX4_tellReports ∈ lw_g := in_g (t5_in (List.mem_of_getElem? (i := 127) rfl)) rfl
set_option maxRecDepth 100000 in
theorem wd1215 : Cond.selects RX4 yX4_tellReports yX4_tellReports ∈ lw_g := in_g (t5_in (List.mem_of_getElem? (i := 128) rfl)) rfl
set_option maxRecDepth 100000 in
theorem wd1216 : Cond.code yX4_tellReports cX4_tellReports 3 (some .boolean) ∈ lw_g := in_g (t5_in (List.mem_of_getElem? (i := 129) rfl)) rfl
set_option maxRecDepth 100000 in
theorem wd1221 : Cond.methodLink RX11 339 yX4_tellUnlike ∈ lw_g := in_g (t5_in (List.mem_of_getElem? (i := 134) rfl)) rfl
set_option maxRecDepth 100000 in
theorem wd1222 : Cond.instanceMethod yX4_tellUnlike ∈ lw_g := in_g (t5_in (List.mem_of_getElem? (i := 135) rfl)) rfl
set_option maxRecDepth 100000 in
theorem wd1223 : Cond.selects RX4 yX4_tellUnlike yX4_tellUnlike ∈ lw_g := in_g (t5_in (List.mem_of_getElem? (i := 136) rfl)) rfl
set_option maxRecDepth 100000 in
theorem wd1224 : Cond.code yX4_tellUnlike cX4_tellUnlike 3 (some .int) ∈ lw_g := in_g (t5_in (List.mem_of_getElem? (i := 137) rfl)) rfl
set_option maxRecDepth 100000 in
theorem wd1233 : Cond.methodLink RX11 342 yX4_reported ∈ lw_g := in_g (t5_in (List.mem_of_getElem? (i := 146) rfl)) rfl
set_option maxRecDepth 100000 in
theorem wd1234 : Cond.methodLink RX11 345 yX4_paintFewest ∈ lw_g := in_g (t5_in (List.mem_of_getElem? (i := 147) rfl)) rfl
set_option maxRecDepth 100000 in
theorem wd1235 : Cond.instanceMethod yX4_paintFewest ∈ lw_g := in_g (t5_in (List.mem_of_getElem? (i := 148) rfl)) rfl
set_option maxRecDepth 100000 in
theorem wd1236 : Cond.selects RX4 yX4_paintFewest yX4_paintFewest ∈ lw_g := in_g (t5_in (List.mem_of_getElem? (i := 149) rfl)) rfl
set_option maxRecDepth 100000 in
theorem wd1237 : Cond.code yX4_paintFewest cX4_paintFewest 2 (some .int) ∈ lw_g := in_g (t5_in (List.mem_of_getElem? (i := 150) rfl)) rfl
set_option maxRecDepth 100000 in
theorem wd1247 : Cond.methodLink RX11 348 yX4_headOf ∈ lw_g := in_g (t5_in (List.mem_of_getElem? (i := 160) rfl)) rfl
set_option maxRecDepth 100000 in
theorem wd1248 : Cond.instanceMethod yX4_headOf ∈ lw_g := in_g (t5_in (List.mem_of_getElem? (i := 161) rfl)) rfl
set_option maxRecDepth 100000 in
theorem wd1249 : Cond.selects RX4 yX4_headOf yX4_headOf ∈ lw_g := in_g (t5_in (List.mem_of_getElem? (i := 162) rfl)) rfl
set_option maxRecDepth 100000 in
theorem wd1250 : Cond.code yX4_headOf cX4_headOf 2 (some .int) ∈ lw_g := in_g (t5_in (List.mem_of_getElem? (i := 163) rfl)) rfl
set_option maxRecDepth 100000 in
theorem wd1255 : Cond.methodLink RX11 351 yX4_tellGain ∈ lw_g := in_g (t5_in (List.mem_of_getElem? (i := 168) rfl)) rfl
set_option maxRecDepth 100000 in
theorem wd1256 : Cond.instanceMethod yX4_tellGain ∈ lw_g := in_g (t5_in (List.mem_of_getElem? (i := 169) rfl)) rfl
set_option maxRecDepth 100000 in
theorem wd1257 : Cond.selects RX4 yX4_tellGain yX4_tellGain ∈ lw_g := in_g (t5_in (List.mem_of_getElem? (i := 170) rfl)) rfl
set_option maxRecDepth 100000 in
theorem wd1258 : Cond.code yX4_tellGain cX4_tellGain 5 (some .boolean) ∈ lw_g := in_g (t5_in (List.mem_of_getElem? (i := 171) rfl)) rfl
set_option maxRecDepth 100000 in
theorem wd1263 : Cond.methodLink RX11 355 yX4_calmPairs ∈ lw_g := in_g (t5_in (List.mem_of_getElem? (i := 176) rfl)) rfl
set_option maxRecDepth 100000 in
theorem wd1264 : Cond.instanceMethod yX4_calmPairs ∈ lw_g := in_g (t5_in (List.mem_of_getElem? (i := 177) rfl)) rfl
set_option maxRecDepth 100000 in
theorem wd1265 : Cond.selects RX4 yX4_calmPairs yX4_calmPairs ∈ lw_g := in_g (t5_in (List.mem_of_getElem? (i := 178) rfl)) rfl
set_option maxRecDepth 100000 in
theorem wd1266 : Cond.code yX4_calmPairs cX4_calmPairs 7 (some .int) ∈ lw_g := in_g (t5_in (List.mem_of_getElem? (i := 179) rfl)) rfl
set_option maxRecDepth 100000 in
theorem wd1275 : Cond.methodLink RX11 358 yX4_evenOdds ∈ lw_g := in_g (t5_in (List.mem_of_getElem? (i := 188) rfl)) rfl
set_option maxRecDepth 100000 in
theorem wd1276 : Cond.instanceMethod yX4_evenOdds ∈ lw_g := in_g (t5_in (List.mem_of_getElem? (i := 189) rfl)) rfl
set_option maxRecDepth 100000 in
theorem wd1277 : Cond.selects RX4 yX4_evenOdds yX4_evenOdds ∈ lw_g := in_g (t5_in (List.mem_of_getElem? (i := 190) rfl)) rfl
set_option maxRecDepth 100000 in
theorem wd1278 : Cond.code yX4_evenOdds cX4_evenOdds 7 (some .int) ∈ lw_g := in_g (t5_in (List.mem_of_getElem? (i := 191) rfl)) rfl
set_option maxRecDepth 100000 in
theorem wd1292 : Cond.methodLink RX11 362 yX1_outlaws ∈ lw_g := in_g (t5_in (List.mem_of_getElem? (i := 205) rfl)) rfl
set_option maxRecDepth 100000 in
theorem wd1293 : Cond.instanceMethod yX1_outlaws ∈ lw_g := in_g (t5_in (List.mem_of_getElem? (i := 206) rfl)) rfl
set_option maxRecDepth 100000 in
theorem wd1294 : Cond.selects RX1 yX1_outlaws yX1_outlaws ∈ lw_g := in_g (t5_in (List.mem_of_getElem? (i := 207) rfl)) rfl
set_option maxRecDepth 100000 in
theorem wd1295 : Cond.code yX1_outlaws cX1_outlaws 3 (some .int) ∈ lw_g := in_g (t5_in (List.mem_of_getElem? (i := 208) rfl)) rfl
set_option maxRecDepth 100000 in
theorem wd1305 : Cond.methodLink RX11 365 yX4_forgetPaid ∈ lw_g := in_g (t5_in (List.mem_of_getElem? (i := 218) rfl)) rfl
set_option maxRecDepth 100000 in
theorem wd1306 : Cond.instanceMethod yX4_forgetPaid ∈ lw_g := in_g (t5_in (List.mem_of_getElem? (i := 219) rfl)) rfl
set_option maxRecDepth 100000 in
theorem wd1307 : Cond.selects RX4 yX4_forgetPaid yX4_forgetPaid ∈ lw_g := in_g (t5_in (List.mem_of_getElem? (i := 220) rfl)) rfl
set_option maxRecDepth 100000 in
theorem wd1308 : Cond.code yX4_forgetPaid cX4_forgetPaid 1 none ∈ lw_g := in_g (t5_in (List.mem_of_getElem? (i := 221) rfl)) rfl
set_option maxRecDepth 100000 in
theorem wd1309 : Cond.methodLink RX11 368 yX4_notePaid ∈ lw_g := in_g (t5_in (List.mem_of_getElem? (i := 222) rfl)) rfl
set_option maxRecDepth 100000 in
theorem wd1310 : Cond.instanceMethod yX4_notePaid ∈ lw_g := in_g (t5_in (List.mem_of_getElem? (i := 223) rfl)) rfl
set_option maxRecDepth 100000 in
theorem wd1311 : Cond.selects RX4 yX4_notePaid yX4_notePaid ∈ lw_g := in_g (t5_in (List.mem_of_getElem? (i := 224) rfl)) rfl
set_option maxRecDepth 100000 in
theorem wd1312 : Cond.code yX4_notePaid cX4_notePaid 3 (some .int) ∈ lw_g := in_g (t5_in (List.mem_of_getElem? (i := 225) rfl)) rfl
set_option maxRecDepth 100000 in
theorem wd1317 : Cond.methodLink RX11 371 yX11_explains ∈ lw_g := in_g (t5_in (List.mem_of_getElem? (i := 230) rfl)) rfl
set_option maxRecDepth 100000 in
theorem wd1319 : Cond.instanceMethod yX11_explains ∈ lw_g := in_g (t5_in (List.mem_of_getElem? (i := 232) rfl)) rfl
set_option maxRecDepth 100000 in
theorem wd1320 : Cond.code yX11_explains cX11_explains 5 (some .boolean) ∈ lw_g := in_g (t5_in (List.mem_of_getElem? (i := 233) rfl)) rfl
set_option maxRecDepth 100000 in
theorem wd1321 : Cond.methodLink RX11 377 yX4_payer ∈ lw_g := in_g (t5_in (List.mem_of_getElem? (i := 234) rfl)) rfl
set_option maxRecDepth 100000 in
theorem wd1322 : Cond.instanceMethod yX4_payer ∈ lw_g := in_g (t5_in (List.mem_of_getElem? (i := 235) rfl)) rfl
set_option maxRecDepth 100000 in
theorem wd1323 : Cond.selects RX4 yX4_payer yX4_payer ∈ lw_g := in_g (t5_in (List.mem_of_getElem? (i := 236) rfl)) rfl
set_option maxRecDepth 100000 in
theorem wd1324 : Cond.code yX4_payer cX4_payer 2 (some .int) ∈ lw_g := in_g (t5_in (List.mem_of_getElem? (i := 237) rfl)) rfl
set_option maxRecDepth 100000 in
theorem wd1325 : Cond.methodLink RX11 380 yX4_payment ∈ lw_g := in_g (t5_in (List.mem_of_getElem? (i := 238) rfl)) rfl
set_option maxRecDepth 100000 in
theorem wd1326 : Cond.instanceMethod yX4_payment ∈ lw_g := in_g (t5_in (List.mem_of_getElem? (i := 239) rfl)) rfl
set_option maxRecDepth 100000 in
theorem wd1327 : Cond.selects RX4 yX4_payment yX4_payment ∈ lw_g := in_g (t6_in (List.mem_of_getElem? (i := 0) rfl)) rfl
set_option maxRecDepth 100000 in
theorem wd1328 : Cond.code yX4_payment cX4_payment 2 (some .int) ∈ lw_g := in_g (t6_in (List.mem_of_getElem? (i := 1) rfl)) rfl
set_option maxRecDepth 100000 in
theorem wd1333 : Cond.methodLink RX11 383 yX6_become ∈ lw_g := in_g (t6_in (List.mem_of_getElem? (i := 6) rfl)) rfl
set_option maxRecDepth 100000 in
theorem wd1334 : Cond.instanceMethod yX6_become ∈ lw_g := in_g (t6_in (List.mem_of_getElem? (i := 7) rfl)) rfl
set_option maxRecDepth 100000 in
theorem wd1335 : Cond.selects RX6 yX6_become yX6_become ∈ lw_g := in_g (t6_in (List.mem_of_getElem? (i := 8) rfl)) rfl
set_option maxRecDepth 100000 in
theorem wd1336 : Cond.code yX6_become cX6_become 2 none ∈ lw_g := in_g (t6_in (List.mem_of_getElem? (i := 9) rfl)) rfl
set_option maxRecDepth 100000 in
theorem inX11 : ∀ w ∈ u_ws RX11 TX11 14, w ∈ lw_g := all_k [470, 472, 474, 476, 478, 480, 482, 484, 486, 488, 490, 492, 494, 496] (by decide +kernel) (by decide +kernel)
variable {p : Program} {l : Launch} {e : Env} {R : Room} {s : State} {m : MethodId} {args : Array Value} {below : List Frame} {meth : Method} {c : Code} {H : Heap} {locs : List Loc} {cells slots : Nat} {Q : State → Prop}
variable {cc bytes : ByteArray} {pc nL maxL index n : Nat} {ls : Array Slot} {rest st : List Value} {A : Nat → Prop} {H0 : Heap} {D : va_G} {tys : List (ClassId × FieldType)} {ws wc wr w1 : va_W} {rm : Room} {b : Addr}
theorem gfX11_10 (hx : p.tables.exec = Jvm.exec) (hb : c.code = cc) (hts : ∀ w ∈ lw_g, w.before args s = true) (hown : s.vm.findClass RX11 = some m.cls) (hK : va_K D vwCl tys s) (hP : va_P D vwCl ws H) (q0 : Nat) {fs : List Value} (he : ws[q0]? = some (b, .inr (11, fs))) {v : Value} (hv : fs[0]? = some v) (hdg : decode cc pc = .ok (.getfield 10, 3)) (kk : W p l e R s m args below meth c H locs cells slots Q (F0 m (pc + 3) ls (v :: rest))) : W p l e R s m args below meth c H locs cells slots Q (F0 m pc ls (.ref b :: rest)) :=
  va_get (D := D) (ci := 11) (C := RX11) (T := TX11) (N := 14) hx hb hts inX11 hown hK hP q0 he rfl 0 (by decide) (hts _ wd456) (fun _ h => h) hv hdg kk
theorem gfX11_16 (hx : p.tables.exec = Jvm.exec) (hb : c.code = cc) (hts : ∀ w ∈ lw_g, w.before args s = true) (hown : s.vm.findClass RX11 = some m.cls) (hK : va_K D vwCl tys s) (hP : va_P D vwCl ws H) (q0 : Nat) {fs : List Value} (he : ws[q0]? = some (b, .inr (11, fs))) {v : Value} (hv : fs[1]? = some v) (hdg : decode cc pc = .ok (.getfield 16, 3)) (kk : W p l e R s m args below meth c H locs cells slots Q (F0 m (pc + 3) ls (v :: rest))) : W p l e R s m args below meth c H locs cells slots Q (F0 m pc ls (.ref b :: rest)) :=
  va_get (D := D) (ci := 11) (C := RX11) (T := TX11) (N := 14) hx hb hts inX11 hown hK hP q0 he rfl 1 (by decide) (hts _ wd457) (fun _ h => h) hv hdg kk
theorem gfX11_21 (hx : p.tables.exec = Jvm.exec) (hb : c.code = cc) (hts : ∀ w ∈ lw_g, w.before args s = true) (hown : s.vm.findClass RX11 = some m.cls) (hK : va_K D vwCl tys s) (hP : va_P D vwCl ws H) (q0 : Nat) {fs : List Value} (he : ws[q0]? = some (b, .inr (11, fs))) {v : Value} (hv : fs[2]? = some v) (hdg : decode cc pc = .ok (.getfield 21, 3)) (kk : W p l e R s m args below meth c H locs cells slots Q (F0 m (pc + 3) ls (v :: rest))) : W p l e R s m args below meth c H locs cells slots Q (F0 m pc ls (.ref b :: rest)) :=
  va_get (D := D) (ci := 11) (C := RX11) (T := TX11) (N := 14) hx hb hts inX11 hown hK hP q0 he rfl 2 (by decide) (hts _ wd458) (fun _ h => h) hv hdg kk
theorem gfX11_28 (hx : p.tables.exec = Jvm.exec) (hb : c.code = cc) (hts : ∀ w ∈ lw_g, w.before args s = true) (hown : s.vm.findClass RX11 = some m.cls) (hK : va_K D vwCl tys s) (hP : va_P D vwCl ws H) (q0 : Nat) {fs : List Value} (he : ws[q0]? = some (b, .inr (11, fs))) {v : Value} (hv : fs[3]? = some v) (hdg : decode cc pc = .ok (.getfield 28, 3)) (kk : W p l e R s m args below meth c H locs cells slots Q (F0 m (pc + 3) ls (v :: rest))) : W p l e R s m args below meth c H locs cells slots Q (F0 m pc ls (.ref b :: rest)) :=
  va_get (D := D) (ci := 11) (C := RX11) (T := TX11) (N := 14) hx hb hts inX11 hown hK hP q0 he rfl 3 (by decide) (hts _ wd459) (fun _ h => h) hv hdg kk
theorem gfX11_37 (hx : p.tables.exec = Jvm.exec) (hb : c.code = cc) (hts : ∀ w ∈ lw_g, w.before args s = true) (hown : s.vm.findClass RX11 = some m.cls) (hK : va_K D vwCl tys s) (hP : va_P D vwCl ws H) (q0 : Nat) {fs : List Value} (he : ws[q0]? = some (b, .inr (11, fs))) {v : Value} (hv : fs[4]? = some v) (hdg : decode cc pc = .ok (.getfield 37, 3)) (kk : W p l e R s m args below meth c H locs cells slots Q (F0 m (pc + 3) ls (v :: rest))) : W p l e R s m args below meth c H locs cells slots Q (F0 m pc ls (.ref b :: rest)) :=
  va_get (D := D) (ci := 11) (C := RX11) (T := TX11) (N := 14) hx hb hts inX11 hown hK hP q0 he rfl 4 (by decide) (hts _ wd460) (fun _ h => h) hv hdg kk
theorem gfX11_46 (hx : p.tables.exec = Jvm.exec) (hb : c.code = cc) (hts : ∀ w ∈ lw_g, w.before args s = true) (hown : s.vm.findClass RX11 = some m.cls) (hK : va_K D vwCl tys s) (hP : va_P D vwCl ws H) (q0 : Nat) {fs : List Value} (he : ws[q0]? = some (b, .inr (11, fs))) {v : Value} (hv : fs[5]? = some v) (hdg : decode cc pc = .ok (.getfield 46, 3)) (kk : W p l e R s m args below meth c H locs cells slots Q (F0 m (pc + 3) ls (v :: rest))) : W p l e R s m args below meth c H locs cells slots Q (F0 m pc ls (.ref b :: rest)) :=
  va_get (D := D) (ci := 11) (C := RX11) (T := TX11) (N := 14) hx hb hts inX11 hown hK hP q0 he rfl 5 (by decide) (hts _ wd461) (fun _ h => h) hv hdg kk
theorem gfX11_54 (hx : p.tables.exec = Jvm.exec) (hb : c.code = cc) (hts : ∀ w ∈ lw_g, w.before args s = true) (hown : s.vm.findClass RX11 = some m.cls) (hK : va_K D vwCl tys s) (hP : va_P D vwCl ws H) (q0 : Nat) {fs : List Value} (he : ws[q0]? = some (b, .inr (11, fs))) {v : Value} (hv : fs[6]? = some v) (hdg : decode cc pc = .ok (.getfield 54, 3)) (kk : W p l e R s m args below meth c H locs cells slots Q (F0 m (pc + 3) ls (v :: rest))) : W p l e R s m args below meth c H locs cells slots Q (F0 m pc ls (.ref b :: rest)) :=
  va_get (D := D) (ci := 11) (C := RX11) (T := TX11) (N := 14) hx hb hts inX11 hown hK hP q0 he rfl 6 (by decide) (hts _ wd462) (fun _ h => h) hv hdg kk
theorem gfX11_59 (hx : p.tables.exec = Jvm.exec) (hb : c.code = cc) (hts : ∀ w ∈ lw_g, w.before args s = true) (hown : s.vm.findClass RX11 = some m.cls) (hK : va_K D vwCl tys s) (hP : va_P D vwCl ws H) (q0 : Nat) {fs : List Value} (he : ws[q0]? = some (b, .inr (11, fs))) {v : Value} (hv : fs[7]? = some v) (hdg : decode cc pc = .ok (.getfield 59, 3)) (kk : W p l e R s m args below meth c H locs cells slots Q (F0 m (pc + 3) ls (v :: rest))) : W p l e R s m args below meth c H locs cells slots Q (F0 m pc ls (.ref b :: rest)) :=
  va_get (D := D) (ci := 11) (C := RX11) (T := TX11) (N := 14) hx hb hts inX11 hown hK hP q0 he rfl 7 (by decide) (hts _ wd463) (fun _ h => h) hv hdg kk
theorem gfX11_64 (hx : p.tables.exec = Jvm.exec) (hb : c.code = cc) (hts : ∀ w ∈ lw_g, w.before args s = true) (hown : s.vm.findClass RX11 = some m.cls) (hK : va_K D vwCl tys s) (hP : va_P D vwCl ws H) (q0 : Nat) {fs : List Value} (he : ws[q0]? = some (b, .inr (11, fs))) {v : Value} (hv : fs[8]? = some v) (hdg : decode cc pc = .ok (.getfield 64, 3)) (kk : W p l e R s m args below meth c H locs cells slots Q (F0 m (pc + 3) ls (v :: rest))) : W p l e R s m args below meth c H locs cells slots Q (F0 m pc ls (.ref b :: rest)) :=
  va_get (D := D) (ci := 11) (C := RX11) (T := TX11) (N := 14) hx hb hts inX11 hown hK hP q0 he rfl 8 (by decide) (hts _ wd464) (fun _ h => h) hv hdg kk
theorem gfX11_69 (hx : p.tables.exec = Jvm.exec) (hb : c.code = cc) (hts : ∀ w ∈ lw_g, w.before args s = true) (hown : s.vm.findClass RX11 = some m.cls) (hK : va_K D vwCl tys s) (hP : va_P D vwCl ws H) (q0 : Nat) {fs : List Value} (he : ws[q0]? = some (b, .inr (11, fs))) {v : Value} (hv : fs[9]? = some v) (hdg : decode cc pc = .ok (.getfield 69, 3)) (kk : W p l e R s m args below meth c H locs cells slots Q (F0 m (pc + 3) ls (v :: rest))) : W p l e R s m args below meth c H locs cells slots Q (F0 m pc ls (.ref b :: rest)) :=
  va_get (D := D) (ci := 11) (C := RX11) (T := TX11) (N := 14) hx hb hts inX11 hown hK hP q0 he rfl 9 (by decide) (hts _ wd465) (fun _ h => h) hv hdg kk
theorem gfX11_75 (hx : p.tables.exec = Jvm.exec) (hb : c.code = cc) (hts : ∀ w ∈ lw_g, w.before args s = true) (hown : s.vm.findClass RX11 = some m.cls) (hK : va_K D vwCl tys s) (hP : va_P D vwCl ws H) (q0 : Nat) {fs : List Value} (he : ws[q0]? = some (b, .inr (11, fs))) {v : Value} (hv : fs[10]? = some v) (hdg : decode cc pc = .ok (.getfield 75, 3)) (kk : W p l e R s m args below meth c H locs cells slots Q (F0 m (pc + 3) ls (v :: rest))) : W p l e R s m args below meth c H locs cells slots Q (F0 m pc ls (.ref b :: rest)) :=
  va_get (D := D) (ci := 11) (C := RX11) (T := TX11) (N := 14) hx hb hts inX11 hown hK hP q0 he rfl 10 (by decide) (hts _ wd466) (fun _ h => h) hv hdg kk
theorem gfX11_82 (hx : p.tables.exec = Jvm.exec) (hb : c.code = cc) (hts : ∀ w ∈ lw_g, w.before args s = true) (hown : s.vm.findClass RX11 = some m.cls) (hK : va_K D vwCl tys s) (hP : va_P D vwCl ws H) (q0 : Nat) {fs : List Value} (he : ws[q0]? = some (b, .inr (11, fs))) {v : Value} (hv : fs[11]? = some v) (hdg : decode cc pc = .ok (.getfield 82, 3)) (kk : W p l e R s m args below meth c H locs cells slots Q (F0 m (pc + 3) ls (v :: rest))) : W p l e R s m args below meth c H locs cells slots Q (F0 m pc ls (.ref b :: rest)) :=
  va_get (D := D) (ci := 11) (C := RX11) (T := TX11) (N := 14) hx hb hts inX11 hown hK hP q0 he rfl 11 (by decide) (hts _ wd467) (fun _ h => h) hv hdg kk
theorem gfX11_85 (hx : p.tables.exec = Jvm.exec) (hb : c.code = cc) (hts : ∀ w ∈ lw_g, w.before args s = true) (hown : s.vm.findClass RX11 = some m.cls) (hK : va_K D vwCl tys s) (hP : va_P D vwCl ws H) (q0 : Nat) {fs : List Value} (he : ws[q0]? = some (b, .inr (11, fs))) {v : Value} (hv : fs[12]? = some v) (hdg : decode cc pc = .ok (.getfield 85, 3)) (kk : W p l e R s m args below meth c H locs cells slots Q (F0 m (pc + 3) ls (v :: rest))) : W p l e R s m args below meth c H locs cells slots Q (F0 m pc ls (.ref b :: rest)) :=
  va_get (D := D) (ci := 11) (C := RX11) (T := TX11) (N := 14) hx hb hts inX11 hown hK hP q0 he rfl 12 (by decide) (hts _ wd468) (fun _ h => h) hv hdg kk
theorem gfX11_91 (hx : p.tables.exec = Jvm.exec) (hb : c.code = cc) (hts : ∀ w ∈ lw_g, w.before args s = true) (hown : s.vm.findClass RX11 = some m.cls) (hK : va_K D vwCl tys s) (hP : va_P D vwCl ws H) (q0 : Nat) {fs : List Value} (he : ws[q0]? = some (b, .inr (11, fs))) {v : Value} (hv : fs[13]? = some v) (hdg : decode cc pc = .ok (.getfield 91, 3)) (kk : W p l e R s m args below meth c H locs cells slots Q (F0 m (pc + 3) ls (v :: rest))) : W p l e R s m args below meth c H locs cells slots Q (F0 m pc ls (.ref b :: rest)) :=
  va_get (D := D) (ci := 11) (C := RX11) (T := TX11) (N := 14) hx hb hts inX11 hown hK hP q0 he rfl 13 (by decide) (hts _ wd469) (fun _ h => h) hv hdg kk
theorem gfX11_121 (hx : p.tables.exec = Jvm.exec) (hb : c.code = cc) (hts : ∀ w ∈ lw_g, w.before args s = true) (hown : s.vm.findClass RX11 = some m.cls) (hK : va_K D vwCl tys s) (hP : va_P D vwCl ws H) (q0 : Nat) {fs : List Value} (he : ws[q0]? = some (b, .inr (8, fs))) {v : Value} (hv : fs[0]? = some v) (hdg : decode cc pc = .ok (.getfield 121, 3)) (kk : W p l e R s m args below meth c H locs cells slots Q (F0 m (pc + 3) ls (v :: rest))) : W p l e R s m args below meth c H locs cells slots Q (F0 m pc ls (.ref b :: rest)) :=
  va_get (D := D) (ci := 8) (C := RX8) (T := TX8) (N := 6) hx hb hts inX8 hown hK hP q0 he rfl 0 (by decide) (hts _ wd301) (fun _ h => h) hv hdg kk
theorem gfX11_125 (hx : p.tables.exec = Jvm.exec) (hb : c.code = cc) (hts : ∀ w ∈ lw_g, w.before args s = true) (hown : s.vm.findClass RX11 = some m.cls) (hK : va_K D vwCl tys s) (hP : va_P D vwCl ws H) (q0 : Nat) {fs : List Value} (he : ws[q0]? = some (b, .inr (6, fs))) {v : Value} (hv : fs[4]? = some v) (hdg : decode cc pc = .ok (.getfield 125, 3)) (kk : W p l e R s m args below meth c H locs cells slots Q (F0 m (pc + 3) ls (v :: rest))) : W p l e R s m args below meth c H locs cells slots Q (F0 m pc ls (.ref b :: rest)) :=
  va_get (D := D) (ci := 6) (C := RX6) (T := TX6) (N := 6) hx hb hts inX6 hown hK hP q0 he rfl 4 (by decide) (hts _ wd274) (fun _ h => h) hv hdg kk
theorem gfX11_131 (hx : p.tables.exec = Jvm.exec) (hb : c.code = cc) (hts : ∀ w ∈ lw_g, w.before args s = true) (hown : s.vm.findClass RX11 = some m.cls) (hK : va_K D vwCl tys s) (hP : va_P D vwCl ws H) (q0 : Nat) {fs : List Value} (he : ws[q0]? = some (b, .inr (5, fs))) {v : Value} (hv : fs[0]? = some v) (hdg : decode cc pc = .ok (.getfield 131, 3)) (kk : W p l e R s m args below meth c H locs cells slots Q (F0 m (pc + 3) ls (v :: rest))) : W p l e R s m args below meth c H locs cells slots Q (F0 m pc ls (.ref b :: rest)) :=
  va_get (D := D) (ci := 5) (C := RX5) (T := TX5) (N := 6) hx hb hts inX5 hown hK hP q0 he rfl 0 (by decide) (hts _ wd329) (fun _ h => h) hv hdg kk
theorem gfX11_134 (hx : p.tables.exec = Jvm.exec) (hb : c.code = cc) (hts : ∀ w ∈ lw_g, w.before args s = true) (hown : s.vm.findClass RX11 = some m.cls) (hK : va_K D vwCl tys s) (hP : va_P D vwCl ws H) (q0 : Nat) {fs : List Value} (he : ws[q0]? = some (b, .inr (5, fs))) {v : Value} (hv : fs[1]? = some v) (hdg : decode cc pc = .ok (.getfield 134, 3)) (kk : W p l e R s m args below meth c H locs cells slots Q (F0 m (pc + 3) ls (v :: rest))) : W p l e R s m args below meth c H locs cells slots Q (F0 m pc ls (.ref b :: rest)) :=
  va_get (D := D) (ci := 5) (C := RX5) (T := TX5) (N := 6) hx hb hts inX5 hown hK hP q0 he rfl 1 (by decide) (hts _ wd331) (fun _ h => h) hv hdg kk
theorem gfX11_140 (hx : p.tables.exec = Jvm.exec) (hb : c.code = cc) (hts : ∀ w ∈ lw_g, w.before args s = true) (hown : s.vm.findClass RX11 = some m.cls) (hK : va_K D vwCl tys s) (hP : va_P D vwCl ws H) (q0 : Nat) {fs : List Value} (he : ws[q0]? = some (b, .inr (6, fs))) {v : Value} (hv : fs[5]? = some v) (hdg : decode cc pc = .ok (.getfield 140, 3)) (kk : W p l e R s m args below meth c H locs cells slots Q (F0 m (pc + 3) ls (v :: rest))) : W p l e R s m args below meth c H locs cells slots Q (F0 m pc ls (.ref b :: rest)) :=
  va_get (D := D) (ci := 6) (C := RX6) (T := TX6) (N := 6) hx hb hts inX6 hown hK hP q0 he rfl 5 (by decide) (hts _ wd278) (fun _ h => h) hv hdg kk
theorem gfX11_180 (hx : p.tables.exec = Jvm.exec) (hb : c.code = cc) (hts : ∀ w ∈ lw_g, w.before args s = true) (hown : s.vm.findClass RX11 = some m.cls) (hK : va_K D vwCl tys s) (hP : va_P D vwCl ws H) (q0 : Nat) {fs : List Value} (he : ws[q0]? = some (b, .inr (9, fs))) {v : Value} (hv : fs[0]? = some v) (hdg : decode cc pc = .ok (.getfield 180, 3)) (kk : W p l e R s m args below meth c H locs cells slots Q (F0 m (pc + 3) ls (v :: rest))) : W p l e R s m args below meth c H locs cells slots Q (F0 m pc ls (.ref b :: rest)) :=
  va_get (D := D) (ci := 9) (C := RX9) (T := TX9) (N := 7) hx hb hts inX9 hown hK hP q0 he rfl 0 (by decide) (hts _ wd434) (fun _ h => h) hv hdg kk
theorem gfX11_220 (hx : p.tables.exec = Jvm.exec) (hb : c.code = cc) (hts : ∀ w ∈ lw_g, w.before args s = true) (hown : s.vm.findClass RX11 = some m.cls) (hK : va_K D vwCl tys s) (hP : va_P D vwCl ws H) (q0 : Nat) {fs : List Value} (he : ws[q0]? = some (b, .inr (2, fs))) {v : Value} (hv : fs[0]? = some v) (hdg : decode cc pc = .ok (.getfield 220, 3)) (kk : W p l e R s m args below meth c H locs cells slots Q (F0 m (pc + 3) ls (v :: rest))) : W p l e R s m args below meth c H locs cells slots Q (F0 m pc ls (.ref b :: rest)) :=
  va_get (D := D) (ci := 2) (C := RX2) (T := TX2) (N := 3) hx hb hts inX2 hown hK hP q0 he rfl 0 (by decide) (hts _ wd170) (fun _ h => h) hv hdg kk
theorem gfX11_285 (hx : p.tables.exec = Jvm.exec) (hb : c.code = cc) (hts : ∀ w ∈ lw_g, w.before args s = true) (hown : s.vm.findClass RX11 = some m.cls) (hK : va_K D vwCl tys s) (hP : va_P D vwCl ws H) (q0 : Nat) {fs : List Value} (he : ws[q0]? = some (b, .inr (10, fs))) {v : Value} (hv : fs[0]? = some v) (hdg : decode cc pc = .ok (.getfield 285, 3)) (kk : W p l e R s m args below meth c H locs cells slots Q (F0 m (pc + 3) ls (v :: rest))) : W p l e R s m args below meth c H locs cells slots Q (F0 m pc ls (.ref b :: rest)) :=
  va_get (D := D) (ci := 10) (C := RX10) (T := TX10) (N := 10) hx hb hts inX10 hown hK hP q0 he rfl 0 (by decide) (hts _ wd393) (fun _ h => h) hv hdg kk
theorem gfX11_288 (hx : p.tables.exec = Jvm.exec) (hb : c.code = cc) (hts : ∀ w ∈ lw_g, w.before args s = true) (hown : s.vm.findClass RX11 = some m.cls) (hK : va_K D vwCl tys s) (hP : va_P D vwCl ws H) (q0 : Nat) {fs : List Value} (he : ws[q0]? = some (b, .inr (10, fs))) {v : Value} (hv : fs[1]? = some v) (hdg : decode cc pc = .ok (.getfield 288, 3)) (kk : W p l e R s m args below meth c H locs cells slots Q (F0 m (pc + 3) ls (v :: rest))) : W p l e R s m args below meth c H locs cells slots Q (F0 m pc ls (.ref b :: rest)) :=
  va_get (D := D) (ci := 10) (C := RX10) (T := TX10) (N := 10) hx hb hts inX10 hown hK hP q0 he rfl 1 (by decide) (hts _ wd395) (fun _ h => h) hv hdg kk
theorem gfX11_311 (hx : p.tables.exec = Jvm.exec) (hb : c.code = cc) (hts : ∀ w ∈ lw_g, w.before args s = true) (hown : s.vm.findClass RX11 = some m.cls) (hK : va_K D vwCl tys s) (hP : va_P D vwCl ws H) (q0 : Nat) {fs : List Value} (he : ws[q0]? = some (b, .inr (4, fs))) {v : Value} (hv : fs[0]? = some v) (hdg : decode cc pc = .ok (.getfield 311, 3)) (kk : W p l e R s m args below meth c H locs cells slots Q (F0 m (pc + 3) ls (v :: rest))) : W p l e R s m args below meth c H locs cells slots Q (F0 m pc ls (.ref b :: rest)) :=
  va_get (D := D) (ci := 4) (C := RX4) (T := TX4) (N := 11) hx hb hts inX4 hown hK hP q0 he rfl 0 (by decide) (hts _ wd222) (fun _ h => h) hv hdg kk
theorem gfX11_318 (hx : p.tables.exec = Jvm.exec) (hb : c.code = cc) (hts : ∀ w ∈ lw_g, w.before args s = true) (hown : s.vm.findClass RX11 = some m.cls) (hK : va_K D vwCl tys s) (hP : va_P D vwCl ws H) (q0 : Nat) {fs : List Value} (he : ws[q0]? = some (b, .inr (10, fs))) {v : Value} (hv : fs[2]? = some v) (hdg : decode cc pc = .ok (.getfield 318, 3)) (kk : W p l e R s m args below meth c H locs cells slots Q (F0 m (pc + 3) ls (v :: rest))) : W p l e R s m args below meth c H locs cells slots Q (F0 m pc ls (.ref b :: rest)) :=
  va_get (D := D) (ci := 10) (C := RX10) (T := TX10) (N := 10) hx hb hts inX10 hown hK hP q0 he rfl 2 (by decide) (hts _ wd397) (fun _ h => h) hv hdg kk
theorem gfX11_321 (hx : p.tables.exec = Jvm.exec) (hb : c.code = cc) (hts : ∀ w ∈ lw_g, w.before args s = true) (hown : s.vm.findClass RX11 = some m.cls) (hK : va_K D vwCl tys s) (hP : va_P D vwCl ws H) (q0 : Nat) {fs : List Value} (he : ws[q0]? = some (b, .inr (10, fs))) {v : Value} (hv : fs[3]? = some v) (hdg : decode cc pc = .ok (.getfield 321, 3)) (kk : W p l e R s m args below meth c H locs cells slots Q (F0 m (pc + 3) ls (v :: rest))) : W p l e R s m args below meth c H locs cells slots Q (F0 m pc ls (.ref b :: rest)) :=
  va_get (D := D) (ci := 10) (C := RX10) (T := TX10) (N := 10) hx hb hts inX10 hown hK hP q0 he rfl 3 (by decide) (hts _ wd399) (fun _ h => h) hv hdg kk
theorem gfX11_324 (hx : p.tables.exec = Jvm.exec) (hb : c.code = cc) (hts : ∀ w ∈ lw_g, w.before args s = true) (hown : s.vm.findClass RX11 = some m.cls) (hK : va_K D vwCl tys s) (hP : va_P D vwCl ws H) (q0 : Nat) {fs : List Value} (he : ws[q0]? = some (b, .inr (10, fs))) {v : Value} (hv : fs[4]? = some v) (hdg : decode cc pc = .ok (.getfield 324, 3)) (kk : W p l e R s m args below meth c H locs cells slots Q (F0 m (pc + 3) ls (v :: rest))) : W p l e R s m args below meth c H locs cells slots Q (F0 m pc ls (.ref b :: rest)) :=
  va_get (D := D) (ci := 10) (C := RX10) (T := TX10) (N := 10) hx hb hts inX10 hown hK hP q0 he rfl 4 (by decide) (hts _ wd401) (fun _ h => h) hv hdg kk
theorem gfX11_333 (hx : p.tables.exec = Jvm.exec) (hb : c.code = cc) (hts : ∀ w ∈ lw_g, w.before args s = true) (hown : s.vm.findClass RX11 = some m.cls) (hK : va_K D vwCl tys s) (hP : va_P D vwCl ws H) (q0 : Nat) {fs : List Value} (he : ws[q0]? = some (b, .inr (4, fs))) {v : Value} (hv : fs[1]? = some v) (hdg : decode cc pc = .ok (.getfield 333, 3)) (kk : W p l e R s m args below meth c H locs cells slots Q (F0 m (pc + 3) ls (v :: rest))) : W p l e R s m args below meth c H locs cells slots Q (F0 m pc ls (.ref b :: rest)) :=
  va_get (D := D) (ci := 4) (C := RX4) (T := TX4) (N := 11) hx hb hts inX4 hown hK hP q0 he rfl 1 (by decide) (hts _ wd224) (fun _ h => h) hv hdg kk
theorem gfX11_374 (hx : p.tables.exec = Jvm.exec) (hb : c.code = cc) (hts : ∀ w ∈ lw_g, w.before args s = true) (hown : s.vm.findClass RX11 = some m.cls) (hK : va_K D vwCl tys s) (hP : va_P D vwCl ws H) (q0 : Nat) {fs : List Value} (he : ws[q0]? = some (b, .inr (4, fs))) {v : Value} (hv : fs[4]? = some v) (hdg : decode cc pc = .ok (.getfield 374, 3)) (kk : W p l e R s m args below meth c H locs cells slots Q (F0 m (pc + 3) ls (v :: rest))) : W p l e R s m args below meth c H locs cells slots Q (F0 m pc ls (.ref b :: rest)) :=
  va_get (D := D) (ci := 4) (C := RX4) (T := TX4) (N := 11) hx hb hts inX4 hown hK hP q0 he rfl 4 (by decide) (hts _ wd230) (fun _ h => h) hv hdg kk
theorem gfX11_386 (hx : p.tables.exec = Jvm.exec) (hb : c.code = cc) (hts : ∀ w ∈ lw_g, w.before args s = true) (hown : s.vm.findClass RX11 = some m.cls) (hK : va_K D vwCl tys s) (hP : va_P D vwCl ws H) (q0 : Nat) {fs : List Value} (he : ws[q0]? = some (b, .inr (7, fs))) {v : Value} (hv : fs[0]? = some v) (hdg : decode cc pc = .ok (.getfield 386, 3)) (kk : W p l e R s m args below meth c H locs cells slots Q (F0 m (pc + 3) ls (v :: rest))) : W p l e R s m args below meth c H locs cells slots Q (F0 m pc ls (.ref b :: rest)) :=
  va_get (D := D) (ci := 7) (C := RX7) (T := TX7) (N := 3) hx hb hts inX7 hown hK hP q0 he rfl 0 (by decide) (hts _ wd204) (fun _ h => h) hv hdg kk
theorem gfX11_387 (hx : p.tables.exec = Jvm.exec) (hb : c.code = cc) (hts : ∀ w ∈ lw_g, w.before args s = true) (hown : s.vm.findClass RX11 = some m.cls) (hK : va_K D vwCl tys s) (hP : va_P D vwCl ws H) (q0 : Nat) {fs : List Value} (he : ws[q0]? = some (b, .inr (4, fs))) {v : Value} (hv : fs[2]? = some v) (hdg : decode cc pc = .ok (.getfield 387, 3)) (kk : W p l e R s m args below meth c H locs cells slots Q (F0 m (pc + 3) ls (v :: rest))) : W p l e R s m args below meth c H locs cells slots Q (F0 m pc ls (.ref b :: rest)) :=
  va_get (D := D) (ci := 4) (C := RX4) (T := TX4) (N := 11) hx hb hts inX4 hown hK hP q0 he rfl 2 (by decide) (hts _ wd226) (fun _ h => h) hv hdg kk
theorem gfX11_390 (hx : p.tables.exec = Jvm.exec) (hb : c.code = cc) (hts : ∀ w ∈ lw_g, w.before args s = true) (hown : s.vm.findClass RX11 = some m.cls) (hK : va_K D vwCl tys s) (hP : va_P D vwCl ws H) (q0 : Nat) {fs : List Value} (he : ws[q0]? = some (b, .inr (4, fs))) {v : Value} (hv : fs[3]? = some v) (hdg : decode cc pc = .ok (.getfield 390, 3)) (kk : W p l e R s m args below meth c H locs cells slots Q (F0 m (pc + 3) ls (v :: rest))) : W p l e R s m args below meth c H locs cells slots Q (F0 m pc ls (.ref b :: rest)) :=
  va_get (D := D) (ci := 4) (C := RX4) (T := TX4) (N := 11) hx hb hts inX4 hown hK hP q0 he rfl 3 (by decide) (hts _ wd228) (fun _ h => h) hv hdg kk
theorem pfX11_121 (hx : p.tables.exec = Jvm.exec) (hb : c.code = cc) (hts : ∀ w ∈ lw_g, w.before args s = true) (hown : s.vm.findClass RX11 = some m.cls) (hK : va_K D vwCl tys s) (hP : va_P D vwCl ws H) (hD : va_D A ws) (hS : va_S A H0 H locs) (q0 : Nat) {fs : List Value} {x : Int32} (he : ws[q0]? = some (b, .inr (8, fs))) (hl : 0 < fs.length) (hdg : decode cc pc = .ok (.putfield 121, 3)) (kk : ∀ (H1 : Heap) (locs1 : List Loc), va_P D vwCl (ws.set q0 (b, .inr (8, fs.set 0 (.int x)))) H1 → va_D A (ws.set q0 (b, .inr (8, fs.set 0 (.int x)))) → va_S A H0 H1 locs1 → W p l e R s m args below meth c H1 locs1 cells slots Q (F0 m (pc + 3) ls rest)) : W p l e R s m args below meth c H locs cells slots Q (F0 m pc ls (.int x :: .ref b :: rest)) :=
  va_put (D := D) (ci := 8) (ty := (.int)) (C := RX8) (T := TX8) (N := 6) hx hb hts inX8 tyX8 tyX8_ok nmX8 hown hK hP hD hS q0 he rfl 0 (by decide) (hts _ wd301) (fun _ h => h) rfl (by decide +kernel) rfl rfl hl hdg kk
theorem pfX11_125 (hx : p.tables.exec = Jvm.exec) (hb : c.code = cc) (hts : ∀ w ∈ lw_g, w.before args s = true) (hown : s.vm.findClass RX11 = some m.cls) (hK : va_K D vwCl tys s) (hP : va_P D vwCl ws H) (hD : va_D A ws) (hS : va_S A H0 H locs) (q0 : Nat) {fs : List Value} {x : Int32} (he : ws[q0]? = some (b, .inr (6, fs))) (hl : 4 < fs.length) (hdg : decode cc pc = .ok (.putfield 125, 3)) (kk : ∀ (H1 : Heap) (locs1 : List Loc), va_P D vwCl (ws.set q0 (b, .inr (6, fs.set 4 (.int x)))) H1 → va_D A (ws.set q0 (b, .inr (6, fs.set 4 (.int x)))) → va_S A H0 H1 locs1 → W p l e R s m args below meth c H1 locs1 cells slots Q (F0 m (pc + 3) ls rest)) : W p l e R s m args below meth c H locs cells slots Q (F0 m pc ls (.int x :: .ref b :: rest)) :=
  va_put (D := D) (ci := 6) (ty := (.int)) (C := RX6) (T := TX6) (N := 6) hx hb hts inX6 tyX6 tyX6_ok nmX6 hown hK hP hD hS q0 he rfl 4 (by decide) (hts _ wd274) (fun _ h => h) rfl (by decide +kernel) rfl rfl hl hdg kk
theorem pfX11_140 (hx : p.tables.exec = Jvm.exec) (hb : c.code = cc) (hts : ∀ w ∈ lw_g, w.before args s = true) (hown : s.vm.findClass RX11 = some m.cls) (hK : va_K D vwCl tys s) (hP : va_P D vwCl ws H) (hD : va_D A ws) (hS : va_S A H0 H locs) (q0 : Nat) {fs : List Value} {x : Int32} (he : ws[q0]? = some (b, .inr (6, fs))) (hl : 5 < fs.length) (hdg : decode cc pc = .ok (.putfield 140, 3)) (kk : ∀ (H1 : Heap) (locs1 : List Loc), va_P D vwCl (ws.set q0 (b, .inr (6, fs.set 5 (.int x)))) H1 → va_D A (ws.set q0 (b, .inr (6, fs.set 5 (.int x)))) → va_S A H0 H1 locs1 → W p l e R s m args below meth c H1 locs1 cells slots Q (F0 m (pc + 3) ls rest)) : W p l e R s m args below meth c H locs cells slots Q (F0 m pc ls (.int x :: .ref b :: rest)) :=
  va_put (D := D) (ci := 6) (ty := (.int)) (C := RX6) (T := TX6) (N := 6) hx hb hts inX6 tyX6 tyX6_ok nmX6 hown hK hP hD hS q0 he rfl 5 (by decide) (hts _ wd278) (fun _ h => h) rfl (by decide +kernel) rfl rfl hl hdg kk
theorem pfX11_333 (hx : p.tables.exec = Jvm.exec) (hb : c.code = cc) (hts : ∀ w ∈ lw_g, w.before args s = true) (hown : s.vm.findClass RX11 = some m.cls) (hK : va_K D vwCl tys s) (hP : va_P D vwCl ws H) (hD : va_D A ws) (hS : va_S A H0 H locs) (q0 : Nat) {fs : List Value} {x : Int32} (he : ws[q0]? = some (b, .inr (4, fs))) (hl : 1 < fs.length) (hdg : decode cc pc = .ok (.putfield 333, 3)) (kk : ∀ (H1 : Heap) (locs1 : List Loc), va_P D vwCl (ws.set q0 (b, .inr (4, fs.set 1 (.int x)))) H1 → va_D A (ws.set q0 (b, .inr (4, fs.set 1 (.int x)))) → va_S A H0 H1 locs1 → W p l e R s m args below meth c H1 locs1 cells slots Q (F0 m (pc + 3) ls rest)) : W p l e R s m args below meth c H locs cells slots Q (F0 m pc ls (.int x :: .ref b :: rest)) :=
  va_put (D := D) (ci := 4) (ty := (.int)) (C := RX4) (T := TX4) (N := 11) hx hb hts inX4 tyX4 tyX4_ok nmX4 hown hK hP hD hS q0 he rfl 1 (by decide) (hts _ wd224) (fun _ h => h) rfl (by decide +kernel) rfl rfl hl hdg kk
theorem kwX11_96 (ht : ∀ w ∈ lw_g, w.before args s = true) (hrc : rm.cells = 0) (hrs : rm.slots = 0) (hR : rm.frames + 1 ≤ R.frames ∧ 8 + (2 + 11) + rm.locals ≤ R.locals) : CallW R s args RX11 RX2 96 yX2_tell cX2_tell 2 (some .int) (mw yX2_tell cX2_tell 2 (some .int)) rm 0 0 1 :=
  mcw_V 1 ht wd503 wd130 wd506 wd504 wd505 ⟨by decide, by decide, by decide +kernel⟩ hrc hrs hR
theorem kwX11_102 (ht : ∀ w ∈ lw_g, w.before args s = true) (hrc : rm.cells = 0) (hrs : rm.slots = 0) (hR : rm.frames + 1 ≤ R.frames ∧ 8 + (3 + 11) + rm.locals ≤ R.locals) : CallW R s args RX11 RX2 102 yX2_join cX2_join 3 (some .boolean) (mw yX2_join cX2_join 3 (some .boolean)) rm 0 0 2 :=
  mcw_V 2 ht wd511 wd130 wd514 wd512 wd513 ⟨by decide, by decide, by decide +kernel⟩ hrc hrs hR
theorem kwX11_106 (ht : ∀ w ∈ lw_g, w.before args s = true) (hrc : rm.cells = 0) (hrs : rm.slots = 0) (hR : rm.frames + 1 ≤ R.frames ∧ 8 + (2 + 11) + rm.locals ≤ R.locals) : CallW R s args RX11 RX2 106 yX2_told cX2_told 2 (some .boolean) (mw yX2_told cX2_told 2 (some .boolean)) rm 0 0 1 :=
  mcw_V 1 ht wd527 wd130 wd518 wd516 wd517 ⟨by decide, by decide, by decide +kernel⟩ hrc hrs hR
theorem kwX11_110 (ht : ∀ w ∈ lw_g, w.before args s = true) (hrc : rm.cells = 0) (hrs : rm.slots = 0) (hR : rm.frames + 1 ≤ R.frames ∧ 8 + (6 + 11) + rm.locals ≤ R.locals) : CallW R s args RX11 RX1 110 yX1_tell cX1_tell 6 (some .int) (mw yX1_tell cX1_tell 6 (some .int)) rm 0 0 4 :=
  mcw_V 4 ht wd528 wd131 wd531 wd529 wd530 ⟨by decide, by decide, by decide +kernel⟩ hrc hrs hR
theorem kwX11_113 (ht : ∀ w ∈ lw_g, w.before args s = true) (hrc : rm.cells = 0) (hrs : rm.slots = 0) (hR : rm.frames + 1 ≤ R.frames ∧ 8 + (1 + 11) + rm.locals ≤ R.locals) : CallW R s args RX11 RX8 113 yX8_hasRoom cX8_hasRoom 1 (some .boolean) (mw yX8_hasRoom cX8_hasRoom 1 (some .boolean)) rm 0 0 0 :=
  mcw_V 0 ht wd552 wd134 wd555 wd553 wd554 ⟨by decide, by decide, by decide +kernel⟩ hrc hrs hR
theorem kwX11_117 (ht : ∀ w ∈ lw_g, w.before args s = true) (hrc : rm.cells = 0) (hrs : rm.slots = 0) (hR : rm.frames + 1 ≤ R.frames ∧ 8 + (3 + 11) + rm.locals ≤ R.locals) : CallW R s args RX11 RX8 117 yX8_take cX8_take 3 none (mw yX8_take cX8_take 3 none) rm 0 0 1 :=
  mcw_V 1 ht wd556 wd134 wd559 wd557 wd558 ⟨by decide, by decide, by decide +kernel⟩ hrc hrs hR
theorem kwX11_127 (ht : ∀ w ∈ lw_g, w.before args s = true) (hrc : rm.cells = 0) (hrs : rm.slots = 0) (hR : rm.frames + 1 ≤ R.frames ∧ 8 + (3 + 11) + rm.locals ≤ R.locals) : CallW R s args RX11 RX5 127 yX5_read cX5_read 3 (some .boolean) (mw yX5_read cX5_read 3 (some .boolean)) rm 0 0 1 :=
  mcw_V 1 ht wd568 wd135 wd571 wd569 wd570 ⟨by decide, by decide, by decide +kernel⟩ hrc hrs hR
theorem kwX11_137 (ht : ∀ w ∈ lw_g, w.before args s = true) (hrc : rm.cells = 0) (hrs : rm.slots = 0) (hR : rm.frames + 1 ≤ R.frames ∧ 8 + (2 + 11) + rm.locals ≤ R.locals) : CallW R s args RX11 RX11 137 yX11_textTold cX11_textTold 2 (some .boolean) (mw yX11_textTold cX11_textTold 2 (some .boolean)) rm 0 0 1 :=
  mcw_V 1 ht wd781 wd128 wd784 wd783 wd23 ⟨by decide, by decide, by decide +kernel⟩ hrc hrs hR
theorem kwX11_143 (ht : ∀ w ∈ lw_g, w.before args s = true) (hrc : rm.cells = 0) (hrs : rm.slots = 0) (hR : rm.frames + 1 ≤ R.frames ∧ 8 + (2 + 11) + rm.locals ≤ R.locals) : CallW R s args RX11 RX7 143 yX7_ahead cX7_ahead 2 none (mw yX7_ahead cX7_ahead 2 none) rm 0 0 1 :=
  mcw_V 1 ht wd789 wd132 wd792 wd790 wd791 ⟨by decide, by decide, by decide +kernel⟩ hrc hrs hR
theorem kwX11_149 (ht : ∀ w ∈ lw_g, w.before args s = true) (hrc : rm.cells = 0) (hrs : rm.slots = 0) (hR : rm.frames + 1 ≤ R.frames ∧ 8 + (4 + 11) + rm.locals ≤ R.locals) : CallW R s args RX11 RX0 149 yX0_summon cX0_summon 4 (some .int) (mw yX0_summon cX0_summon 4 (some .int)) rm 0 0 2 :=
  mcw_V 2 ht wd800 wd137 wd803 wd801 wd802 ⟨by decide, by decide, by decide +kernel⟩ hrc hrs hR
theorem kwX11_153 (ht : ∀ w ∈ lw_g, w.before args s = true) (hrc : rm.cells = 0) (hrs : rm.slots = 0) (hR : rm.frames + 1 ≤ R.frames ∧ 8 + (1 + 11) + rm.locals ≤ R.locals) : CallW R s args RX11 RX7 153 yX7_keep cX7_keep 1 none (mw yX7_keep cX7_keep 1 none) rm 0 0 0 :=
  mcw_V 0 ht wd827 wd132 wd830 wd828 wd829 ⟨by decide, by decide, by decide +kernel⟩ hrc hrs hR
theorem kwX11_156 (ht : ∀ w ∈ lw_g, w.before args s = true) (hrc : rm.cells = 0) (hrs : rm.slots = 0) (hR : rm.frames + 1 ≤ R.frames ∧ 8 + (3 + 11) + rm.locals ≤ R.locals) : CallW R s args RX11 RX0 156 yX0_travel cX0_travel 3 (some .boolean) (mw yX0_travel cX0_travel 3 (some .boolean)) rm 0 0 2 :=
  mcw_V 2 ht wd836 wd137 wd839 wd837 wd838 ⟨by decide, by decide, by decide +kernel⟩ hrc hrs hR
theorem kwX11_159 (ht : ∀ w ∈ lw_g, w.before args s = true) (hrc : rm.cells = 0) (hrs : rm.slots = 0) (hR : rm.frames + 1 ≤ R.frames ∧ 8 + (6 + 11) + rm.locals ≤ R.locals) : CallW R s args RX11 RX0 159 yX0_nourish cX0_nourish 6 (some .int) (mw yX0_nourish cX0_nourish 6 (some .int)) rm 0 0 2 :=
  mcw_V 2 ht wd845 wd137 wd848 wd846 wd847 ⟨by decide, by decide, by decide +kernel⟩ hrc hrs hR
theorem kwX11_162 (ht : ∀ w ∈ lw_g, w.before args s = true) (hrc : rm.cells = 0) (hrs : rm.slots = 0) (hR : rm.frames + 1 ≤ R.frames ∧ 8 + (3 + 11) + rm.locals ≤ R.locals) : CallW R s args RX11 RX0 162 yX0_slay cX0_slay 3 (some .boolean) (mw yX0_slay cX0_slay 3 (some .boolean)) rm 0 0 2 :=
  mcw_V 2 ht wd930 wd137 wd933 wd931 wd932 ⟨by decide, by decide, by decide +kernel⟩ hrc hrs hR
theorem kwX11_165 (ht : ∀ w ∈ lw_g, w.before args s = true) (hrc : rm.cells = 0) (hrs : rm.slots = 0) (hR : rm.frames + 1 ≤ R.frames ∧ 8 + (4 + 11) + rm.locals ≤ R.locals) : CallW R s args RX11 RX0 165 yX0_forgive cX0_forgive 4 (some .int) (mw yX0_forgive cX0_forgive 4 (some .int)) rm 0 0 2 :=
  mcw_V 2 ht wd942 wd137 wd945 wd943 wd944 ⟨by decide, by decide, by decide +kernel⟩ hrc hrs hR
theorem kwX11_168 (ht : ∀ w ∈ lw_g, w.before args s = true) (hrc : rm.cells = 0) (hrs : rm.slots = 0) (hR : rm.frames + 1 ≤ R.frames ∧ 8 + (1 + 11) + rm.locals ≤ R.locals) : CallW R s args RX11 RX1 168 yX1_monthNow cX1_monthNow 1 (some .int) (mw yX1_monthNow cX1_monthNow 1 (some .int)) rm 0 0 0 :=
  mcw_V 0 ht wd954 wd131 wd867 wd865 wd866 ⟨by decide, by decide, by decide +kernel⟩ hrc hrs hR
theorem kwX11_172 (ht : ∀ w ∈ lw_g, w.before args s = true) (hrc : rm.cells = 0) (hrs : rm.slots = 0) (hR : rm.frames + 1 ≤ R.frames ∧ 8 + (3 + 11) + rm.locals ≤ R.locals) : CallW R s args RX11 RX0 172 yX0_passMonth cX0_passMonth 3 (some .int) (mw yX0_passMonth cX0_passMonth 3 (some .int)) rm 0 0 0 :=
  mcw_V 0 ht wd955 wd137 wd958 wd956 wd957 ⟨by decide, by decide, by decide +kernel⟩ hrc hrs hR
theorem kwX11_183 (ht : ∀ w ∈ lw_g, w.before args s = true) (hrc : rm.cells = 0) (hrs : rm.slots = 0) (hR : rm.frames + 1 ≤ R.frames ∧ 8 + (5 + 11) + rm.locals ≤ R.locals) : CallW R s args RX11 RX11 183 yX11_perform cX11_perform 5 (some .boolean) (mw yX11_perform cX11_perform 5 (some .boolean)) rm 0 0 2 :=
  mcw_V 2 ht wd978 wd128 wd981 wd980 wd33 ⟨by decide, by decide, by decide +kernel⟩ hrc hrs hR
theorem kwX11_187 (ht : ∀ w ∈ lw_g, w.before args s = true) (hrc : rm.cells = 0) (hrs : rm.slots = 0) (hR : rm.frames + 1 ≤ R.frames ∧ 8 + (3 + 11) + rm.locals ≤ R.locals) : CallW R s args RX11 RX9 187 yX9_part cX9_part 3 (some .int) (mw yX9_part cX9_part 3 (some .int)) rm 0 0 2 :=
  mcw_V 2 ht wd982 wd139 wd985 wd983 wd984 ⟨by decide, by decide, by decide +kernel⟩ hrc hrs hR
theorem kwX11_190 (ht : ∀ w ∈ lw_g, w.before args s = true) (hrc : rm.cells = 0) (hrs : rm.slots = 0) (hR : rm.frames + 1 ≤ R.frames ∧ 8 + (2 + 11) + rm.locals ≤ R.locals) : CallW R s args RX11 RX11 190 yX11_land cX11_land 2 (some .int) (mw yX11_land cX11_land 2 (some .int)) rm 0 0 1 :=
  mcw_V 1 ht wd986 wd128 wd502 wd500 wd501 ⟨by decide, by decide, by decide +kernel⟩ hrc hrs hR
theorem kwX11_193 (ht : ∀ w ∈ lw_g, w.before args s = true) (hrc : rm.cells = 0) (hrs : rm.slots = 0) (hR : rm.frames + 1 ≤ R.frames ∧ 8 + (3 + 11) + rm.locals ≤ R.locals) : CallW R s args RX11 RX11 193 yX11_road cX11_road 3 (some .boolean) (mw yX11_road cX11_road 3 (some .boolean)) rm 0 0 2 :=
  mcw_V 2 ht wd987 wd128 wd510 wd508 wd509 ⟨by decide, by decide, by decide +kernel⟩ hrc hrs hR
theorem kwX11_196 (ht : ∀ w ∈ lw_g, w.before args s = true) (hrc : rm.cells = 0) (hrs : rm.slots = 0) (hR : rm.frames + 1 ≤ R.frames ∧ 8 + (5 + 11) + rm.locals ≤ R.locals) : CallW R s args RX11 RX11 196 yX11_person cX11_person 5 (some .int) (mw yX11_person cX11_person 5 (some .int)) rm 0 0 4 :=
  mcw_V 4 ht wd988 wd128 wd526 wd524 wd525 ⟨by decide, by decide, by decide +kernel⟩ hrc hrs hR
theorem kwX11_199 (ht : ∀ w ∈ lw_g, w.before args s = true) (hrc : rm.cells = 0) (hrs : rm.slots = 0) (hR : rm.frames + 1 ≤ R.frames ∧ 8 + (4 + 11) + rm.locals ≤ R.locals) : CallW R s args RX11 RX11 199 yX11_call cX11_call 4 (some .int) (mw yX11_call cX11_call 4 (some .int)) rm 0 0 2 :=
  mcw_V 2 ht wd989 wd128 wd788 wd786 wd787 ⟨by decide, by decide, by decide +kernel⟩ hrc hrs hR
theorem kwX11_202 (ht : ∀ w ∈ lw_g, w.before args s = true) (hrc : rm.cells = 0) (hrs : rm.slots = 0) (hR : rm.frames + 1 ≤ R.frames ∧ 8 + (4 + 11) + rm.locals ≤ R.locals) : CallW R s args RX11 RX11 202 yX11_move cX11_move 4 (some .boolean) (mw yX11_move cX11_move 4 (some .boolean)) rm 0 0 2 :=
  mcw_V 2 ht wd990 wd128 wd835 wd833 wd834 ⟨by decide, by decide, by decide +kernel⟩ hrc hrs hR
theorem kwX11_205 (ht : ∀ w ∈ lw_g, w.before args s = true) (hrc : rm.cells = 0) (hrs : rm.slots = 0) (hR : rm.frames + 1 ≤ R.frames ∧ 8 + (4 + 11) + rm.locals ≤ R.locals) : CallW R s args RX11 RX11 205 yX11_feeds cX11_feeds 4 (some .int) (mw yX11_feeds cX11_feeds 4 (some .int)) rm 0 0 2 :=
  mcw_V 2 ht wd991 wd128 wd844 wd842 wd843 ⟨by decide, by decide, by decide +kernel⟩ hrc hrs hR
theorem kwX11_208 (ht : ∀ w ∈ lw_g, w.before args s = true) (hrc : rm.cells = 0) (hrs : rm.slots = 0) (hR : rm.frames + 1 ≤ R.frames ∧ 8 + (4 + 11) + rm.locals ≤ R.locals) : CallW R s args RX11 RX11 208 yX11_kill cX11_kill 4 (some .boolean) (mw yX11_kill cX11_kill 4 (some .boolean)) rm 0 0 2 :=
  mcw_V 2 ht wd992 wd128 wd929 wd927 wd928 ⟨by decide, by decide, by decide +kernel⟩ hrc hrs hR
theorem kwX11_211 (ht : ∀ w ∈ lw_g, w.before args s = true) (hrc : rm.cells = 0) (hrs : rm.slots = 0) (hR : rm.frames + 1 ≤ R.frames ∧ 8 + (4 + 11) + rm.locals ≤ R.locals) : CallW R s args RX11 RX11 211 yX11_pardon cX11_pardon 4 (some .int) (mw yX11_pardon cX11_pardon 4 (some .int)) rm 0 0 2 :=
  mcw_V 2 ht wd993 wd128 wd941 wd939 wd940 ⟨by decide, by decide, by decide +kernel⟩ hrc hrs hR
theorem kwX11_214 (ht : ∀ w ∈ lw_g, w.before args s = true) (hrc : rm.cells = 0) (hrs : rm.slots = 0) (hR : rm.frames + 1 ≤ R.frames ∧ 8 + (3 + 11) + rm.locals ≤ R.locals) : CallW R s args RX11 RX11 214 yX11_passAll cX11_passAll 3 (some .boolean) (mw yX11_passAll cX11_passAll 3 (some .boolean)) rm 0 0 1 :=
  mcw_V 1 ht wd994 wd128 wd997 wd996 wd34 ⟨by decide, by decide, by decide +kernel⟩ hrc hrs hR
theorem kwX11_217 (ht : ∀ w ∈ lw_g, w.before args s = true) (hrc : rm.cells = 0) (hrs : rm.slots = 0) (hR : rm.frames + 1 ≤ R.frames ∧ 8 + (1 + 11) + rm.locals ≤ R.locals) : CallW R s args RX11 RX1 217 yX1_count cX1_count 1 (some .int) (mw yX1_count cX1_count 1 (some .int)) rm 0 0 0 :=
  mcw_V 0 ht wd1002 wd131 wd535 wd533 wd534 ⟨by decide, by decide, by decide +kernel⟩ hrc hrs hR
theorem kwX11_222 (ht : ∀ w ∈ lw_g, w.before args s = true) (hrc : rm.cells = 0) (hrs : rm.slots = 0) (hR : rm.frames + 1 ≤ R.frames ∧ 8 + (2 + 11) + rm.locals ≤ R.locals) : CallW R s args RX11 RX1 222 yX1_setX cX1_setX 2 none (mw yX1_setX cX1_setX 2 none) rm 0 0 1 :=
  mcw_V 1 ht wd1003 wd131 wd1006 wd1004 wd1005 ⟨by decide, by decide, by decide +kernel⟩ hrc hrs hR
theorem kwX11_225 (ht : ∀ w ∈ lw_g, w.before args s = true) (hrc : rm.cells = 0) (hrs : rm.slots = 0) (hR : rm.frames + 1 ≤ R.frames ∧ 8 + (6 + 11) + rm.locals ≤ R.locals) : CallW R s args RX11 RX11 225 yX11_reignOnce cX11_reignOnce 6 none (mw yX11_reignOnce cX11_reignOnce 6 none) rm 0 0 0 :=
  mcw_V 0 ht wd1007 wd128 wd1010 wd1009 wd35 ⟨by decide, by decide, by decide +kernel⟩ hrc hrs hR
theorem kwX11_228 (ht : ∀ w ∈ lw_g, w.before args s = true) (hrc : rm.cells = 0) (hrs : rm.slots = 0) (hR : rm.frames + 1 ≤ R.frames ∧ 8 + (1 + 11) + rm.locals ≤ R.locals) : CallW R s args RX11 RX1 228 yX1_x cX1_x 1 (some .int) (mw yX1_x cX1_x 1 (some .int)) rm 0 0 0 :=
  mcw_V 0 ht wd1011 wd131 wd1014 wd1012 wd1013 ⟨by decide, by decide, by decide +kernel⟩ hrc hrs hR
theorem kwX11_231 (ht : ∀ w ∈ lw_g, w.before args s = true) (hrc : rm.cells = 0) (hrs : rm.slots = 0) (hR : rm.frames + 1 ≤ R.frames ∧ 8 + (1 + 11) + rm.locals ≤ R.locals) : CallW R s args RX11 RX1 231 yX1_stir cX1_stir 1 none (mw yX1_stir cX1_stir 1 none) rm 0 0 0 :=
  mcw_V 0 ht wd1015 wd131 wd924 wd922 wd923 ⟨by decide, by decide, by decide +kernel⟩ hrc hrs hR
theorem kwX11_234 (ht : ∀ w ∈ lw_g, w.before args s = true) (hrc : rm.cells = 0) (hrs : rm.slots = 0) (hR : rm.frames + 1 ≤ R.frames ∧ 8 + (2 + 11) + rm.locals ≤ R.locals) : CallW R s args RX11 RX7 234 yX7_takeBack cX7_takeBack 2 (some .int) (mw yX7_takeBack cX7_takeBack 2 (some .int)) rm 0 0 1 :=
  mcw_V 1 ht wd1020 wd132 wd1023 wd1021 wd1022 ⟨by decide, by decide, by decide +kernel⟩ hrc hrs hR
theorem kwX11_238 (ht : ∀ w ∈ lw_g, w.before args s = true) (hrc : rm.cells = 0) (hrs : rm.slots = 0) (hR : rm.frames + 1 ≤ R.frames ∧ 8 + (2 + 11) + rm.locals ≤ R.locals) : CallW R s args RX11 RX1 238 yX1_told cX1_told 2 (some .boolean) (mw yX1_told cX1_told 2 (some .boolean)) rm 0 0 1 :=
  mcw_V 1 ht wd1033 wd131 wd543 wd541 wd542 ⟨by decide, by decide, by decide +kernel⟩ hrc hrs hR
theorem kwX11_239 (ht : ∀ w ∈ lw_g, w.before args s = true) (hrc : rm.cells = 0) (hrs : rm.slots = 0) (hR : rm.frames + 1 ≤ R.frames ∧ 8 + (4 + 11) + rm.locals ≤ R.locals) : CallW R s args RX11 RX1 239 yX1_get cX1_get 4 (some .int) (mw yX1_get cX1_get 4 (some .int)) rm 0 0 2 :=
  mcw_V 2 ht wd1034 wd131 wd812 wd810 wd811 ⟨by decide, by decide, by decide +kernel⟩ hrc hrs hR
theorem kwX11_242 (ht : ∀ w ∈ lw_g, w.before args s = true) (hrc : rm.cells = 0) (hrs : rm.slots = 0) (hR : rm.frames + 1 ≤ R.frames ∧ 8 + (2 + 11) + rm.locals ≤ R.locals) : CallW R s args RX11 RX1 242 yX1_fearOf cX1_fearOf 2 (some .int) (mw yX1_fearOf cX1_fearOf 2 (some .int)) rm 0 0 1 :=
  mcw_V 1 ht wd1035 wd131 wd871 wd869 wd870 ⟨by decide, by decide, by decide +kernel⟩ hrc hrs hR
theorem kwX11_245 (ht : ∀ w ∈ lw_g, w.before args s = true) (hrc : rm.cells = 0) (hrs : rm.slots = 0) (hR : rm.frames + 1 ≤ R.frames ∧ 8 + (8 + 11) + rm.locals ≤ R.locals) : CallW R s args RX11 RX3 245 yX3_rule cX3_rule 8 (some .int) (mw yX3_rule cX3_rule 8 (some .int)) rm 0 0 5 :=
  mcw_V 5 ht wd1036 wd136 wd856 wd854 wd855 ⟨by decide, by decide, by decide +kernel⟩ hrc hrs hR
theorem kwX11_249 (ht : ∀ w ∈ lw_g, w.before args s = true) (hrc : rm.cells = 0) (hrs : rm.slots = 0) (hR : rm.frames + 1 ≤ R.frames ∧ 8 + (6 + 11) + rm.locals ≤ R.locals) : CallW R s args RX11 RX1 249 yX1_othersIn cX1_othersIn 6 (some .int) (mw yX1_othersIn cX1_othersIn 6 (some .int)) rm 0 0 2 :=
  mcw_V 2 ht wd1037 wd131 wd880 wd878 wd879 ⟨by decide, by decide, by decide +kernel⟩ hrc hrs hR
theorem kwX11_252 (ht : ∀ w ∈ lw_g, w.before args s = true) (hrc : rm.cells = 0) (hrs : rm.slots = 0) (hR : rm.frames + 1 ≤ R.frames ∧ 8 + (1 + 11) + rm.locals ≤ R.locals) : CallB R s args RX11 252 yJ6_bitCount_0f7a4 cJ6_bitCount_0f7a4 1 (some .int) (mw yJ6_bitCount_0f7a4 cJ6_bitCount_0f7a4 1 (some .int)) rm 0 0 1 ∧ (Cond.static yJ6_bitCount_0f7a4).before args s = true :=
  mcw_S 1 ht wd1038 wd147 wd883 wd882 ⟨by decide, by decide, by decide +kernel⟩ hrc hrs hR
theorem kwX11_257 (ht : ∀ w ∈ lw_g, w.before args s = true) (hrc : rm.cells = 0) (hrs : rm.slots = 0) (hR : rm.frames + 1 ≤ R.frames ∧ 8 + (2 + 11) + rm.locals ≤ R.locals) : CallW R s args RX11 RX2 257 yX2_forestOf cX2_forestOf 2 (some .int) (mw yX2_forestOf cX2_forestOf 2 (some .int)) rm 0 0 1 :=
  mcw_V 1 ht wd1043 wd130 wd875 wd873 wd874 ⟨by decide, by decide, by decide +kernel⟩ hrc hrs hR
theorem kwX11_260 (ht : ∀ w ∈ lw_g, w.before args s = true) (hrc : rm.cells = 0) (hrs : rm.slots = 0) (hR : rm.frames + 1 ≤ R.frames ∧ 8 + (2 + 11) + rm.locals ≤ R.locals) : CallW R s args RX11 RX2 260 yX2_near cX2_near 2 (some .int) (mw yX2_near cX2_near 2 (some .int)) rm 0 0 1 :=
  mcw_V 1 ht wd1044 wd130 wd1047 wd1045 wd1046 ⟨by decide, by decide, by decide +kernel⟩ hrc hrs hR
theorem kwX11_263 (ht : ∀ w ∈ lw_g, w.before args s = true) (hrc : rm.cells = 0) (hrs : rm.slots = 0) (hR : rm.frames + 1 ≤ R.frames ∧ 8 + (1 + 11) + rm.locals ≤ R.locals) : CallW R s args RX11 RX1 263 yX1_written cX1_written 1 (some .int) (mw yX1_written cX1_written 1 (some .int)) rm 0 0 0 :=
  mcw_V 0 ht wd1056 wd131 wd1059 wd1057 wd1058 ⟨by decide, by decide, by decide +kernel⟩ hrc hrs hR
theorem kwX11_266 (ht : ∀ w ∈ lw_g, w.before args s = true) (hrc : rm.cells = 0) (hrs : rm.slots = 0) (hR : rm.frames + 1 ≤ R.frames ∧ 8 + (2 + 11) + rm.locals ≤ R.locals) : CallW R s args RX11 RX1 266 yX1_entryMonth cX1_entryMonth 2 (some .int) (mw yX1_entryMonth cX1_entryMonth 2 (some .int)) rm 0 0 1 :=
  mcw_V 1 ht wd1060 wd131 wd1063 wd1061 wd1062 ⟨by decide, by decide, by decide +kernel⟩ hrc hrs hR
theorem kwX11_269 (ht : ∀ w ∈ lw_g, w.before args s = true) (hrc : rm.cells = 0) (hrs : rm.slots = 0) (hR : rm.frames + 1 ≤ R.frames ∧ 8 + (2 + 11) + rm.locals ≤ R.locals) : CallW R s args RX11 RX1 269 yX1_entryPerson cX1_entryPerson 2 (some .int) (mw yX1_entryPerson cX1_entryPerson 2 (some .int)) rm 0 0 1 :=
  mcw_V 1 ht wd1068 wd131 wd1071 wd1069 wd1070 ⟨by decide, by decide, by decide +kernel⟩ hrc hrs hR
theorem kwX11_272 (ht : ∀ w ∈ lw_g, w.before args s = true) (hrc : rm.cells = 0) (hrs : rm.slots = 0) (hR : rm.frames + 1 ≤ R.frames ∧ 8 + (2 + 11) + rm.locals ≤ R.locals) : CallW R s args RX11 RX1 272 yX1_entryWhat cX1_entryWhat 2 (some .int) (mw yX1_entryWhat cX1_entryWhat 2 (some .int)) rm 0 0 1 :=
  mcw_V 1 ht wd1072 wd131 wd1075 wd1073 wd1074 ⟨by decide, by decide, by decide +kernel⟩ hrc hrs hR
theorem kwX11_275 (ht : ∀ w ∈ lw_g, w.before args s = true) (hrc : rm.cells = 0) (hrs : rm.slots = 0) (hR : rm.frames + 1 ≤ R.frames ∧ 8 + (2 + 11) + rm.locals ≤ R.locals) : CallW R s args RX11 RX1 275 yX1_become cX1_become 2 none (mw yX1_become cX1_become 2 none) rm 0 0 1 :=
  mcw_V 1 ht wd1080 wd131 wd1083 wd1081 wd1082 ⟨by decide, by decide, by decide +kernel⟩ hrc hrs hR
theorem kwX11_278 (ht : ∀ w ∈ lw_g, w.before args s = true) (hrc : rm.cells = 0) (hrs : rm.slots = 0) (hR : rm.frames + 1 ≤ R.frames ∧ 8 + (5 + 11) + rm.locals ≤ R.locals) : CallW R s args RX11 RX0 278 yX0_priceFor cX0_priceFor 5 (some .int) (mw yX0_priceFor cX0_priceFor 5 (some .int)) rm 0 0 2 :=
  mcw_V 2 ht wd1088 wd137 wd949 wd947 wd948 ⟨by decide, by decide, by decide +kernel⟩ hrc hrs hR
theorem kwX11_281 (ht : ∀ w ∈ lw_g, w.before args s = true) (hrc : rm.cells = 0) (hrs : rm.slots = 0) (hR : rm.frames + 1 ≤ R.frames ∧ 8 + (8 + 11) + rm.locals ≤ R.locals) : CallW R s args RX11 RX10 281 yX10_seekSurest cX10_seekSurest 8 none (mw yX10_seekSurest cX10_seekSurest 8 none) rm 0 0 4 :=
  mcw_V 4 ht wd1093 wd138 wd1096 wd1094 wd1095 ⟨by decide, by decide, by decide +kernel⟩ hrc hrs hR
theorem kwX11_291 (ht : ∀ w ∈ lw_g, w.before args s = true) (hrc : rm.cells = 0) (hrs : rm.slots = 0) (hR : rm.frames + 1 ≤ R.frames ∧ 8 + (2 + 11) + rm.locals ≤ R.locals) : CallW R s args RX11 RX10 291 yX10_landAt cX10_landAt 2 (some .int) (mw yX10_landAt cX10_landAt 2 (some .int)) rm 0 0 1 :=
  mcw_V 1 ht wd1117 wd138 wd1120 wd1118 wd1119 ⟨by decide, by decide, by decide +kernel⟩ hrc hrs hR
theorem kwX11_294 (ht : ∀ w ∈ lw_g, w.before args s = true) (hrc : rm.cells = 0) (hrs : rm.slots = 0) (hR : rm.frames + 1 ≤ R.frames ∧ 8 + (5 + 11) + rm.locals ≤ R.locals) : CallW R s args RX11 RX2 294 yX2_distance cX2_distance 5 (some .int) (mw yX2_distance cX2_distance 5 (some .int)) rm 0 0 2 :=
  mcw_V 2 ht wd1125 wd130 wd1128 wd1126 wd1127 ⟨by decide, by decide, by decide +kernel⟩ hrc hrs hR
theorem kwX11_297 (ht : ∀ w ∈ lw_g, w.before args s = true) (hrc : rm.cells = 0) (hrs : rm.slots = 0) (hR : rm.frames + 1 ≤ R.frames ∧ 8 + (4 + 11) + rm.locals ≤ R.locals) : CallW R s args RX11 RX2 297 yX2_spread cX2_spread 4 (some .int) (mw yX2_spread cX2_spread 4 (some .int)) rm 0 0 1 :=
  mcw_V 1 ht wd1137 wd130 wd1132 wd1130 wd1131 ⟨by decide, by decide, by decide +kernel⟩ hrc hrs hR
theorem kwX11_300 (ht : ∀ w ∈ lw_g, w.before args s = true) (hrc : rm.cells = 0) (hrs : rm.slots = 0) (hR : rm.frames + 1 ≤ R.frames ∧ 8 + (1 + 11) + rm.locals ≤ R.locals) : CallW R s args RX11 RX2 300 yX2_all cX2_all 1 (some .int) (mw yX2_all cX2_all 1 (some .int)) rm 0 0 0 :=
  mcw_V 0 ht wd1138 wd130 wd1141 wd1139 wd1140 ⟨by decide, by decide, by decide +kernel⟩ hrc hrs hR
theorem kwX11_303 (ht : ∀ w ∈ lw_g, w.before args s = true) (hrc : rm.cells = 0) (hrs : rm.slots = 0) (hR : rm.frames + 1 ≤ R.frames ∧ 8 + (1 + 11) + rm.locals ≤ R.locals) : CallW R s args RX11 RX4 303 yX4_forgetCalls cX4_forgetCalls 1 none (mw yX4_forgetCalls cX4_forgetCalls 1 none) rm 0 0 0 :=
  mcw_V 0 ht wd1146 wd133 wd1149 wd1147 wd1148 ⟨by decide, by decide, by decide +kernel⟩ hrc hrs hR
theorem kwX11_308 (ht : ∀ w ∈ lw_g, w.before args s = true) (hrc : rm.cells = 0) (hrs : rm.slots = 0) (hR : rm.frames + 1 ≤ R.frames ∧ 8 + (2 + 11) + rm.locals ≤ R.locals) : CallW R s args RX11 RX4 308 yX4_noteCall cX4_noteCall 2 (some .int) (mw yX4_noteCall cX4_noteCall 2 (some .int)) rm 0 0 1 :=
  mcw_V 1 ht wd1150 wd133 wd1153 wd1151 wd1152 ⟨by decide, by decide, by decide +kernel⟩ hrc hrs hR
theorem kwX11_314 (ht : ∀ w ∈ lw_g, w.before args s = true) (hrc : rm.cells = 0) (hrs : rm.slots = 0) (hR : rm.frames + 1 ≤ R.frames ∧ 8 + (8 + 11) + rm.locals ≤ R.locals) : CallW R s args RX11 RX10 314 yX10_countInCrowd cX10_countInCrowd 8 none (mw yX10_countInCrowd cX10_countInCrowd 8 none) rm 0 0 4 :=
  mcw_V 4 ht wd1158 wd138 wd1161 wd1159 wd1160 ⟨by decide, by decide, by decide +kernel⟩ hrc hrs hR
theorem kwX11_327 (ht : ∀ w ∈ lw_g, w.before args s = true) (hrc : rm.cells = 0) (hrs : rm.slots = 0) (hR : rm.frames + 1 ≤ R.frames ∧ 8 + (5 + 11) + rm.locals ≤ R.locals) : CallW R s args RX11 RX2 327 yX2_fewestHelpers cX2_fewestHelpers 5 (some .int) (mw yX2_fewestHelpers cX2_fewestHelpers 5 (some .int)) rm 0 0 0 :=
  mcw_V 0 ht wd1183 wd130 wd1186 wd1184 wd1185 ⟨by decide, by decide, by decide +kernel⟩ hrc hrs hR
theorem kwX11_330 (ht : ∀ w ∈ lw_g, w.before args s = true) (hrc : rm.cells = 0) (hrs : rm.slots = 0) (hR : rm.frames + 1 ≤ R.frames ∧ 8 + (7 + 11) + rm.locals ≤ R.locals) : CallW R s args RX11 RX2 330 yX2_fewestWatched cX2_fewestWatched 7 (some .int) (mw yX2_fewestWatched cX2_fewestWatched 7 (some .int)) rm 0 0 2 :=
  mcw_V 2 ht wd1193 wd130 wd1196 wd1194 wd1195 ⟨by decide, by decide, by decide +kernel⟩ hrc hrs hR
theorem kwX11_336 (ht : ∀ w ∈ lw_g, w.before args s = true) (hrc : rm.cells = 0) (hrs : rm.slots = 0) (hR : rm.frames + 1 ≤ R.frames ∧ 8 + (3 + 11) + rm.locals ≤ R.locals) : CallW R s args RX11 RX4 336 yX4_tellReports cX4_tellReports 3 (some .boolean) (mw yX4_tellReports cX4_tellReports 3 (some .boolean)) rm 0 0 1 :=
  mcw_V 1 ht wd1213 wd133 wd1216 wd1214 wd1215 ⟨by decide, by decide, by decide +kernel⟩ hrc hrs hR
theorem kwX11_339 (ht : ∀ w ∈ lw_g, w.before args s = true) (hrc : rm.cells = 0) (hrs : rm.slots = 0) (hR : rm.frames + 1 ≤ R.frames ∧ 8 + (3 + 11) + rm.locals ≤ R.locals) : CallW R s args RX11 RX4 339 yX4_tellUnlike cX4_tellUnlike 3 (some .int) (mw yX4_tellUnlike cX4_tellUnlike 3 (some .int)) rm 0 0 2 :=
  mcw_V 2 ht wd1221 wd133 wd1224 wd1222 wd1223 ⟨by decide, by decide, by decide +kernel⟩ hrc hrs hR
theorem kwX11_342 (ht : ∀ w ∈ lw_g, w.before args s = true) (hrc : rm.cells = 0) (hrs : rm.slots = 0) (hR : rm.frames + 1 ≤ R.frames ∧ 8 + (2 + 11) + rm.locals ≤ R.locals) : CallW R s args RX11 RX4 342 yX4_reported cX4_reported 2 (some .boolean) (mw yX4_reported cX4_reported 2 (some .boolean)) rm 0 0 1 :=
  mcw_V 1 ht wd1233 wd133 wd1228 wd1226 wd1227 ⟨by decide, by decide, by decide +kernel⟩ hrc hrs hR
theorem kwX11_345 (ht : ∀ w ∈ lw_g, w.before args s = true) (hrc : rm.cells = 0) (hrs : rm.slots = 0) (hR : rm.frames + 1 ≤ R.frames ∧ 8 + (2 + 11) + rm.locals ≤ R.locals) : CallW R s args RX11 RX4 345 yX4_paintFewest cX4_paintFewest 2 (some .int) (mw yX4_paintFewest cX4_paintFewest 2 (some .int)) rm 0 0 0 :=
  mcw_V 0 ht wd1234 wd133 wd1237 wd1235 wd1236 ⟨by decide, by decide, by decide +kernel⟩ hrc hrs hR
theorem kwX11_348 (ht : ∀ w ∈ lw_g, w.before args s = true) (hrc : rm.cells = 0) (hrs : rm.slots = 0) (hR : rm.frames + 1 ≤ R.frames ∧ 8 + (2 + 11) + rm.locals ≤ R.locals) : CallW R s args RX11 RX4 348 yX4_headOf cX4_headOf 2 (some .int) (mw yX4_headOf cX4_headOf 2 (some .int)) rm 0 0 1 :=
  mcw_V 1 ht wd1247 wd133 wd1250 wd1248 wd1249 ⟨by decide, by decide, by decide +kernel⟩ hrc hrs hR
theorem kwX11_351 (ht : ∀ w ∈ lw_g, w.before args s = true) (hrc : rm.cells = 0) (hrs : rm.slots = 0) (hR : rm.frames + 1 ≤ R.frames ∧ 8 + (5 + 11) + rm.locals ≤ R.locals) : CallW R s args RX11 RX4 351 yX4_tellGain cX4_tellGain 5 (some .boolean) (mw yX4_tellGain cX4_tellGain 5 (some .boolean)) rm 0 0 4 :=
  mcw_V 4 ht wd1255 wd133 wd1258 wd1256 wd1257 ⟨by decide, by decide, by decide +kernel⟩ hrc hrs hR
theorem kwX11_355 (ht : ∀ w ∈ lw_g, w.before args s = true) (hrc : rm.cells = 0) (hrs : rm.slots = 0) (hR : rm.frames + 1 ≤ R.frames ∧ 8 + (7 + 11) + rm.locals ≤ R.locals) : CallW R s args RX11 RX4 355 yX4_calmPairs cX4_calmPairs 7 (some .int) (mw yX4_calmPairs cX4_calmPairs 7 (some .int)) rm 0 0 0 :=
  mcw_V 0 ht wd1263 wd133 wd1266 wd1264 wd1265 ⟨by decide, by decide, by decide +kernel⟩ hrc hrs hR
theorem kwX11_358 (ht : ∀ w ∈ lw_g, w.before args s = true) (hrc : rm.cells = 0) (hrs : rm.slots = 0) (hR : rm.frames + 1 ≤ R.frames ∧ 8 + (7 + 11) + rm.locals ≤ R.locals) : CallW R s args RX11 RX4 358 yX4_evenOdds cX4_evenOdds 7 (some .int) (mw yX4_evenOdds cX4_evenOdds 7 (some .int)) rm 0 0 1 :=
  mcw_V 1 ht wd1275 wd133 wd1278 wd1276 wd1277 ⟨by decide, by decide, by decide +kernel⟩ hrc hrs hR
theorem kwX11_362 (ht : ∀ w ∈ lw_g, w.before args s = true) (hrc : rm.cells = 0) (hrs : rm.slots = 0) (hR : rm.frames + 1 ≤ R.frames ∧ 8 + (3 + 11) + rm.locals ≤ R.locals) : CallW R s args RX11 RX1 362 yX1_outlaws cX1_outlaws 3 (some .int) (mw yX1_outlaws cX1_outlaws 3 (some .int)) rm 0 0 0 :=
  mcw_V 0 ht wd1292 wd131 wd1295 wd1293 wd1294 ⟨by decide, by decide, by decide +kernel⟩ hrc hrs hR
theorem kwX11_365 (ht : ∀ w ∈ lw_g, w.before args s = true) (hrc : rm.cells = 0) (hrs : rm.slots = 0) (hR : rm.frames + 1 ≤ R.frames ∧ 8 + (1 + 11) + rm.locals ≤ R.locals) : CallW R s args RX11 RX4 365 yX4_forgetPaid cX4_forgetPaid 1 none (mw yX4_forgetPaid cX4_forgetPaid 1 none) rm 0 0 0 :=
  mcw_V 0 ht wd1305 wd133 wd1308 wd1306 wd1307 ⟨by decide, by decide, by decide +kernel⟩ hrc hrs hR
theorem kwX11_368 (ht : ∀ w ∈ lw_g, w.before args s = true) (hrc : rm.cells = 0) (hrs : rm.slots = 0) (hR : rm.frames + 1 ≤ R.frames ∧ 8 + (3 + 11) + rm.locals ≤ R.locals) : CallW R s args RX11 RX4 368 yX4_notePaid cX4_notePaid 3 (some .int) (mw yX4_notePaid cX4_notePaid 3 (some .int)) rm 0 0 2 :=
  mcw_V 2 ht wd1309 wd133 wd1312 wd1310 wd1311 ⟨by decide, by decide, by decide +kernel⟩ hrc hrs hR
theorem kwX11_371 (ht : ∀ w ∈ lw_g, w.before args s = true) (hrc : rm.cells = 0) (hrs : rm.slots = 0) (hR : rm.frames + 1 ≤ R.frames ∧ 8 + (5 + 11) + rm.locals ≤ R.locals) : CallW R s args RX11 RX11 371 yX11_explains cX11_explains 5 (some .boolean) (mw yX11_explains cX11_explains 5 (some .boolean)) rm 0 0 1 :=
  mcw_V 1 ht wd1317 wd128 wd1320 wd1319 wd46 ⟨by decide, by decide, by decide +kernel⟩ hrc hrs hR
theorem kwX11_377 (ht : ∀ w ∈ lw_g, w.before args s = true) (hrc : rm.cells = 0) (hrs : rm.slots = 0) (hR : rm.frames + 1 ≤ R.frames ∧ 8 + (2 + 11) + rm.locals ≤ R.locals) : CallW R s args RX11 RX4 377 yX4_payer cX4_payer 2 (some .int) (mw yX4_payer cX4_payer 2 (some .int)) rm 0 0 1 :=
  mcw_V 1 ht wd1321 wd133 wd1324 wd1322 wd1323 ⟨by decide, by decide, by decide +kernel⟩ hrc hrs hR
theorem kwX11_380 (ht : ∀ w ∈ lw_g, w.before args s = true) (hrc : rm.cells = 0) (hrs : rm.slots = 0) (hR : rm.frames + 1 ≤ R.frames ∧ 8 + (2 + 11) + rm.locals ≤ R.locals) : CallW R s args RX11 RX4 380 yX4_payment cX4_payment 2 (some .int) (mw yX4_payment cX4_payment 2 (some .int)) rm 0 0 1 :=
  mcw_V 1 ht wd1325 wd133 wd1328 wd1326 wd1327 ⟨by decide, by decide, by decide +kernel⟩ hrc hrs hR
theorem kwX11_383 (ht : ∀ w ∈ lw_g, w.before args s = true) (hrc : rm.cells = 0) (hrs : rm.slots = 0) (hR : rm.frames + 1 ≤ R.frames ∧ 8 + (2 + 11) + rm.locals ≤ R.locals) : CallW R s args RX11 RX6 383 yX6_become cX6_become 2 none (mw yX6_become cX6_become 2 none) rm 0 0 1 :=
  mcw_V 1 ht wd1333 wd129 wd1336 wd1334 wd1335 ⟨by decide, by decide, by decide +kernel⟩ hrc hrs hR
end
abbrev W_X_0t1_76 (qd0 : Nat) (qd1 : Nat) (qX0 : Nat) (qd2 : Nat) (qr0 : Nat) (qk0 : Nat) (qT : Nat) (qb0 : Nat) (qe0 : Nat) (qL0 : Nat) (qf0 : Nat) (qn0 : Nat) (qz0 : Nat) (qD0 : Nat) (qh0 : Nat) (qD1 : Nat) (qv0 : Nat) (cI cJ cZ cB cT : ClassId) (d_n : Int32) (d_for : Nat → Int32) : va_W := [(qd0, .inr (2, [.int d_n, .ref qd1, .ref qd2])), (qd1, .inl (cI, 8, .inl d_for)), (qX0, .inr (11, [.ref qr0, .ref qk0, .ref qT, .ref qb0, .ref qe0, .ref qL0, .ref qf0, .ref qd0, .ref qn0, .ref qz0, .ref qD0, .ref qh0, .ref qD1, .ref qv0]))]
abbrev W_X_0_2_76 (qd0 : Nat) (qd2 : Nat) (qX0 : Nat) (qd1 : Nat) (qr0 : Nat) (qk0 : Nat) (qT : Nat) (qb0 : Nat) (qe0 : Nat) (qL0 : Nat) (qf0 : Nat) (qn0 : Nat) (qz0 : Nat) (qD0 : Nat) (qh0 : Nat) (qD1 : Nat) (qv0 : Nat) (cI cJ cZ cB cT : ClassId) (d_n : Int32) (d_road : Nat → Int32) : va_W := [(qd0, .inr (2, [.int d_n, .ref qd1, .ref qd2])), (qd2, .inl (cI, 8, .inl d_road)), (qX0, .inr (11, [.ref qr0, .ref qk0, .ref qT, .ref qb0, .ref qe0, .ref qL0, .ref qf0, .ref qd0, .ref qn0, .ref qz0, .ref qD0, .ref qh0, .ref qD1, .ref qv0]))]
abbrev W_X_0_3t6_76 (qd0 : Nat) (qf0 : Nat) (qf1 : Nat) (qf2 : Nat) (qf3 : Nat) (qX0 : Nat) (qd1 : Nat) (qd2 : Nat) (qr0 : Nat) (qk0 : Nat) (qT : Nat) (qb0 : Nat) (qe0 : Nat) (qL0 : Nat) (qn0 : Nat) (qz0 : Nat) (qD0 : Nat) (qh0 : Nat) (qD1 : Nat) (qv0 : Nat) (cI cJ cZ cB cT : ClassId) (d_n : Int32) (f_row : Nat → Int32) (f_fears : Nat → Int32) (f_told : Nat → Int32) : va_W := [(qd0, .inr (2, [.int d_n, .ref qd1, .ref qd2])), (qf0, .inr (1, [.ref qf1, .ref qf2, .ref qf3])), (qf1, .inl (cI, 76, .inl f_row)), (qf2, .inl (cI, 6, .inl f_fears)), (qf3, .inl (cI, 18, .inl f_told)), (qX0, .inr (11, [.ref qr0, .ref qk0, .ref qT, .ref qb0, .ref qe0, .ref qL0, .ref qf0, .ref qd0, .ref qn0, .ref qz0, .ref qD0, .ref qh0, .ref qD1, .ref qv0]))]
abbrev W_X_55t56_76 (qb0 : Nat) (qb1 : Nat) (qX0 : Nat) (qb2 : Nat) (qb3 : Nat) (qb4 : Nat) (qr0 : Nat) (qk0 : Nat) (qT : Nat) (qe0 : Nat) (qL0 : Nat) (qf0 : Nat) (qd0 : Nat) (qn0 : Nat) (qz0 : Nat) (qD0 : Nat) (qh0 : Nat) (qD1 : Nat) (qv0 : Nat) (cI cJ cZ cB cT : ClassId) (b_len : Int32) (b_tok : Int32) (b_by : Nat → Int32) : va_W := [(qb0, .inr (8, [.int b_len, .int b_tok, .ref qb1, .ref qb2, .ref qb3, .ref qb4])), (qb1, .inl (cB, 300, .inl b_by)), (qX0, .inr (11, [.ref qr0, .ref qk0, .ref qT, .ref qb0, .ref qe0, .ref qL0, .ref qf0, .ref qd0, .ref qn0, .ref qz0, .ref qD0, .ref qh0, .ref qD1, .ref qv0]))]
abbrev W_X_55_76 (qb0 : Nat) (qX0 : Nat) (qb1 : Nat) (qb2 : Nat) (qb3 : Nat) (qb4 : Nat) (qr0 : Nat) (qk0 : Nat) (qT : Nat) (qe0 : Nat) (qL0 : Nat) (qf0 : Nat) (qd0 : Nat) (qn0 : Nat) (qz0 : Nat) (qD0 : Nat) (qh0 : Nat) (qD1 : Nat) (qv0 : Nat) (cI cJ cZ cB cT : ClassId) (b_len : Int32) (b_tok : Int32) : va_W := [(qb0, .inr (8, [.int b_len, .int b_tok, .ref qb1, .ref qb2, .ref qb3, .ref qb4])), (qX0, .inr (11, [.ref qr0, .ref qk0, .ref qT, .ref qb0, .ref qe0, .ref qL0, .ref qf0, .ref qd0, .ref qn0, .ref qz0, .ref qD0, .ref qh0, .ref qD1, .ref qv0]))]
abbrev W_X_60_76 (qe0 : Nat) (qX0 : Nat) (qb0 : Nat) (qr0 : Nat) (qk0 : Nat) (qT : Nat) (qL0 : Nat) (qf0 : Nat) (qd0 : Nat) (qn0 : Nat) (qz0 : Nat) (qD0 : Nat) (qh0 : Nat) (qD1 : Nat) (qv0 : Nat) (cI cJ cZ cB cT : ClassId) (e_fault : Int32) (e_place : Int32) (e_text : Value) (e_at : Int32) (e_law : Int32) : va_W := [(qe0, .inr (5, [.int e_fault, .int e_place, .ref qb0, e_text, .int e_at, .int e_law])), (qX0, .inr (11, [.ref qr0, .ref qk0, .ref qT, .ref qb0, .ref qe0, .ref qL0, .ref qf0, .ref qd0, .ref qn0, .ref qz0, .ref qD0, .ref qh0, .ref qD1, .ref qv0]))]
abbrev W_X_16_76 (qr0 : Nat) (qX0 : Nat) (qd0 : Nat) (qf0 : Nat) (qz0 : Nat) (qn0 : Nat) (qk0 : Nat) (qT : Nat) (qb0 : Nat) (qe0 : Nat) (qL0 : Nat) (qD0 : Nat) (qh0 : Nat) (qD1 : Nat) (qv0 : Nat) (cI cJ cZ cB cT : ClassId) (r_tx : Int32) (r_rul : Int32) : va_W := [(qr0, .inr (6, [.ref qd0, .ref qf0, .ref qz0, .ref qn0, .int r_tx, .int r_rul])), (qX0, .inr (11, [.ref qr0, .ref qk0, .ref qT, .ref qb0, .ref qe0, .ref qL0, .ref qf0, .ref qd0, .ref qn0, .ref qz0, .ref qD0, .ref qh0, .ref qD1, .ref qv0]))]
abbrev W_X_0_3t4_7t8_16_64_76 (qd0 : Nat) (qf0 : Nat) (qf1 : Nat) (qz0 : Nat) (qz1 : Nat) (qr0 : Nat) (qD0 : Nat) (qX0 : Nat) (qd1 : Nat) (qd2 : Nat) (qf2 : Nat) (qf3 : Nat) (qn0 : Nat) (qL0 : Nat) (qk0 : Nat) (qT : Nat) (qb0 : Nat) (qe0 : Nat) (qh0 : Nat) (qD1 : Nat) (qv0 : Nat) (cI cJ cZ cB cT : ClassId) (d_n : Int32) (f_row : Nat → Int32) (z_cnt : Int32) (z_next : Int32) (z_store : Nat → Int32) (r_tx : Int32) (r_rul : Int32) : va_W := [(qd0, .inr (2, [.int d_n, .ref qd1, .ref qd2])), (qf0, .inr (1, [.ref qf1, .ref qf2, .ref qf3])), (qf1, .inl (cI, 76, .inl f_row)), (qz0, .inr (7, [.int z_cnt, .int z_next, .ref qz1])), (qz1, .inl (cI, 2356, .inl z_store)), (qr0, .inr (6, [.ref qd0, .ref qf0, .ref qz0, .ref qn0, .int r_tx, .int r_rul])), (qD0, .inr (0, [.ref qr0, .ref qf0, .ref qL0])), (qX0, .inr (11, [.ref qr0, .ref qk0, .ref qT, .ref qb0, .ref qe0, .ref qL0, .ref qf0, .ref qd0, .ref qn0, .ref qz0, .ref qD0, .ref qh0, .ref qD1, .ref qv0]))]
abbrev W_X_0_2t4_7t8_16_64_76 (qd0 : Nat) (qd2 : Nat) (qf0 : Nat) (qf1 : Nat) (qz0 : Nat) (qz1 : Nat) (qr0 : Nat) (qD0 : Nat) (qX0 : Nat) (qd1 : Nat) (qf2 : Nat) (qf3 : Nat) (qn0 : Nat) (qL0 : Nat) (qk0 : Nat) (qT : Nat) (qb0 : Nat) (qe0 : Nat) (qh0 : Nat) (qD1 : Nat) (qv0 : Nat) (cI cJ cZ cB cT : ClassId) (d_n : Int32) (d_road : Nat → Int32) (f_row : Nat → Int32) (z_cnt : Int32) (z_next : Int32) (z_store : Nat → Int32) (r_tx : Int32) (r_rul : Int32) : va_W := [(qd0, .inr (2, [.int d_n, .ref qd1, .ref qd2])), (qd2, .inl (cI, 8, .inl d_road)), (qf0, .inr (1, [.ref qf1, .ref qf2, .ref qf3])), (qf1, .inl (cI, 76, .inl f_row)), (qz0, .inr (7, [.int z_cnt, .int z_next, .ref qz1])), (qz1, .inl (cI, 2356, .inl z_store)), (qr0, .inr (6, [.ref qd0, .ref qf0, .ref qz0, .ref qn0, .int r_tx, .int r_rul])), (qD0, .inr (0, [.ref qr0, .ref qf0, .ref qL0])), (qX0, .inr (11, [.ref qr0, .ref qk0, .ref qT, .ref qb0, .ref qe0, .ref qL0, .ref qf0, .ref qd0, .ref qn0, .ref qz0, .ref qD0, .ref qh0, .ref qD1, .ref qv0]))]
abbrev W_X_0t1_3t5_7t8_16_34t37_39t42_44t47_49t52_54_61t64_76 (qd0 : Nat) (qd1 : Nat) (qf0 : Nat) (qf1 : Nat) (qf2 : Nat) (qz0 : Nat) (qz1 : Nat) (qr0 : Nat) (qt0 : Nat) (qt1 : Nat) (qt2 : Nat) (qt3 : Nat) (qu0 : Nat) (qu1 : Nat) (qu2 : Nat) (qu3 : Nat) (qw0 : Nat) (qw1 : Nat) (qw2 : Nat) (qw3 : Nat) (qx0 : Nat) (qx1 : Nat) (qx2 : Nat) (qx3 : Nat) (qT : Nat) (qL1 : Nat) (qL2 : Nat) (qL0 : Nat) (qD0 : Nat) (qX0 : Nat) (qd2 : Nat) (qf3 : Nat) (qn0 : Nat) (qt4 : Nat) (qu4 : Nat) (qw4 : Nat) (qx4 : Nat) (qk0 : Nat) (qb0 : Nat) (qe0 : Nat) (qh0 : Nat) (qD1 : Nat) (qv0 : Nat) (cI cJ cZ cB cT : ClassId) (d_n : Int32) (d_for : Nat → Int32) (f_row : Nat → Int32) (f_fears : Nat → Int32) (z_cnt : Int32) (z_next : Int32) (z_store : Nat → Int32) (r_tx : Int32) (r_rul : Int32) (t_cl : Int32) (t_ln : Int32) (t_pt : Int32) (t_code : Nat → Int32) (t_st : Nat → Int32) (t_en : Nat → Int32) (u_cl : Int32) (u_ln : Int32) (u_pt : Int32) (u_code : Nat → Int32) (u_st : Nat → Int32) (u_en : Nat → Int32) (w_cl : Int32) (w_ln : Int32) (w_pt : Int32) (w_code : Nat → Int32) (w_st : Nat → Int32) (w_en : Nat → Int32) (x_cl : Int32) (x_ln : Int32) (x_pt : Int32) (x_code : Nat → Int32) (x_st : Nat → Int32) (x_en : Nat → Int32) (l_names : Nat → Int32) (l_stack : Nat → Int32) : va_W := [(qd0, .inr (2, [.int d_n, .ref qd1, .ref qd2])), (qd1, .inl (cI, 8, .inl d_for)), (qf0, .inr (1, [.ref qf1, .ref qf2, .ref qf3])), (qf1, .inl (cI, 76, .inl f_row)), (qf2, .inl (cI, 6, .inl f_fears)), (qz0, .inr (7, [.int z_cnt, .int z_next, .ref qz1])), (qz1, .inl (cI, 2356, .inl z_store)), (qr0, .inr (6, [.ref qd0, .ref qf0, .ref qz0, .ref qn0, .int r_tx, .int r_rul])), (qt0, .inr (9, [.int t_cl, .int t_ln, .int t_pt, .ref qt1, .ref qt2, .ref qt3, .ref qt4])), (qt1, .inl (cI, 301, .inl t_code)), (qt2, .inl (cI, 4, .inl t_st)), (qt3, .inl (cI, 4, .inl t_en)), (qu0, .inr (9, [.int u_cl, .int u_ln, .int u_pt, .ref qu1, .ref qu2, .ref qu3, .ref qu4])), (qu1, .inl (cI, 301, .inl u_code)), (qu2, .inl (cI, 4, .inl u_st)), (qu3, .inl (cI, 4, .inl u_en)), (qw0, .inr (9, [.int w_cl, .int w_ln, .int w_pt, .ref qw1, .ref qw2, .ref qw3, .ref qw4])), (qw1, .inl (cI, 301, .inl w_code)), (qw2, .inl (cI, 4, .inl w_st)), (qw3, .inl (cI, 4, .inl w_en)), (qx0, .inr (9, [.int x_cl, .int x_ln, .int x_pt, .ref qx1, .ref qx2, .ref qx3, .ref qx4])), (qx1, .inl (cI, 301, .inl x_code)), (qx2, .inl (cI, 4, .inl x_st)), (qx3, .inl (cI, 4, .inl x_en)), (qT, .inl (cT, 4, .inr (.inr (.inr (.inr (fT qt0 qu0 qw0 qx0)))))), (qL1, .inl (cI, 10, .inl l_names)), (qL2, .inl (cI, 64, .inl l_stack)), (qL0, .inr (3, [.ref qr0, .ref qT, .ref qL1, .ref qL2])), (qD0, .inr (0, [.ref qr0, .ref qf0, .ref qL0])), (qX0, .inr (11, [.ref qr0, .ref qk0, .ref qT, .ref qb0, .ref qe0, .ref qL0, .ref qf0, .ref qd0, .ref qn0, .ref qz0, .ref qD0, .ref qh0, .ref qD1, .ref qv0]))]
abbrev W_X_3t4_7t8_64_76 (qf0 : Nat) (qf1 : Nat) (qz0 : Nat) (qz1 : Nat) (qD0 : Nat) (qX0 : Nat) (qf2 : Nat) (qf3 : Nat) (qr0 : Nat) (qL0 : Nat) (qk0 : Nat) (qT : Nat) (qb0 : Nat) (qe0 : Nat) (qd0 : Nat) (qn0 : Nat) (qh0 : Nat) (qD1 : Nat) (qv0 : Nat) (cI cJ cZ cB cT : ClassId) (f_row : Nat → Int32) (z_cnt : Int32) (z_next : Int32) (z_store : Nat → Int32) : va_W := [(qf0, .inr (1, [.ref qf1, .ref qf2, .ref qf3])), (qf1, .inl (cI, 76, .inl f_row)), (qz0, .inr (7, [.int z_cnt, .int z_next, .ref qz1])), (qz1, .inl (cI, 2356, .inl z_store)), (qD0, .inr (0, [.ref qr0, .ref qf0, .ref qL0])), (qX0, .inr (11, [.ref qr0, .ref qk0, .ref qT, .ref qb0, .ref qe0, .ref qL0, .ref qf0, .ref qd0, .ref qn0, .ref qz0, .ref qD0, .ref qh0, .ref qD1, .ref qv0]))]
abbrev W_X_0t5_16_34t37_39t42_44t47_49t52_54_61t64_76 (qd0 : Nat) (qd1 : Nat) (qd2 : Nat) (qf0 : Nat) (qf1 : Nat) (qf2 : Nat) (qr0 : Nat) (qt0 : Nat) (qt1 : Nat) (qt2 : Nat) (qt3 : Nat) (qu0 : Nat) (qu1 : Nat) (qu2 : Nat) (qu3 : Nat) (qw0 : Nat) (qw1 : Nat) (qw2 : Nat) (qw3 : Nat) (qx0 : Nat) (qx1 : Nat) (qx2 : Nat) (qx3 : Nat) (qT : Nat) (qL1 : Nat) (qL2 : Nat) (qL0 : Nat) (qD0 : Nat) (qX0 : Nat) (qf3 : Nat) (qz0 : Nat) (qn0 : Nat) (qt4 : Nat) (qu4 : Nat) (qw4 : Nat) (qx4 : Nat) (qk0 : Nat) (qb0 : Nat) (qe0 : Nat) (qh0 : Nat) (qD1 : Nat) (qv0 : Nat) (cI cJ cZ cB cT : ClassId) (d_n : Int32) (d_for : Nat → Int32) (d_road : Nat → Int32) (f_row : Nat → Int32) (f_fears : Nat → Int32) (r_tx : Int32) (r_rul : Int32) (t_cl : Int32) (t_ln : Int32) (t_pt : Int32) (t_code : Nat → Int32) (t_st : Nat → Int32) (t_en : Nat → Int32) (u_cl : Int32) (u_ln : Int32) (u_pt : Int32) (u_code : Nat → Int32) (u_st : Nat → Int32) (u_en : Nat → Int32) (w_cl : Int32) (w_ln : Int32) (w_pt : Int32) (w_code : Nat → Int32) (w_st : Nat → Int32) (w_en : Nat → Int32) (x_cl : Int32) (x_ln : Int32) (x_pt : Int32) (x_code : Nat → Int32) (x_st : Nat → Int32) (x_en : Nat → Int32) (l_names : Nat → Int32) (l_stack : Nat → Int32) : va_W := [(qd0, .inr (2, [.int d_n, .ref qd1, .ref qd2])), (qd1, .inl (cI, 8, .inl d_for)), (qd2, .inl (cI, 8, .inl d_road)), (qf0, .inr (1, [.ref qf1, .ref qf2, .ref qf3])), (qf1, .inl (cI, 76, .inl f_row)), (qf2, .inl (cI, 6, .inl f_fears)), (qr0, .inr (6, [.ref qd0, .ref qf0, .ref qz0, .ref qn0, .int r_tx, .int r_rul])), (qt0, .inr (9, [.int t_cl, .int t_ln, .int t_pt, .ref qt1, .ref qt2, .ref qt3, .ref qt4])), (qt1, .inl (cI, 301, .inl t_code)), (qt2, .inl (cI, 4, .inl t_st)), (qt3, .inl (cI, 4, .inl t_en)), (qu0, .inr (9, [.int u_cl, .int u_ln, .int u_pt, .ref qu1, .ref qu2, .ref qu3, .ref qu4])), (qu1, .inl (cI, 301, .inl u_code)), (qu2, .inl (cI, 4, .inl u_st)), (qu3, .inl (cI, 4, .inl u_en)), (qw0, .inr (9, [.int w_cl, .int w_ln, .int w_pt, .ref qw1, .ref qw2, .ref qw3, .ref qw4])), (qw1, .inl (cI, 301, .inl w_code)), (qw2, .inl (cI, 4, .inl w_st)), (qw3, .inl (cI, 4, .inl w_en)), (qx0, .inr (9, [.int x_cl, .int x_ln, .int x_pt, .ref qx1, .ref qx2, .ref qx3, .ref qx4])), (qx1, .inl (cI, 301, .inl x_code)), (qx2, .inl (cI, 4, .inl x_st)), (qx3, .inl (cI, 4, .inl x_en)), (qT, .inl (cT, 4, .inr (.inr (.inr (.inr (fT qt0 qu0 qw0 qx0)))))), (qL1, .inl (cI, 10, .inl l_names)), (qL2, .inl (cI, 64, .inl l_stack)), (qL0, .inr (3, [.ref qr0, .ref qT, .ref qL1, .ref qL2])), (qD0, .inr (0, [.ref qr0, .ref qf0, .ref qL0])), (qX0, .inr (11, [.ref qr0, .ref qk0, .ref qT, .ref qb0, .ref qe0, .ref qL0, .ref qf0, .ref qd0, .ref qn0, .ref qz0, .ref qD0, .ref qh0, .ref qD1, .ref qv0]))]
abbrev W_X_0t5_7t8_16_34t37_39t42_44t47_49t52_54_61t64_76 (qd0 : Nat) (qd1 : Nat) (qd2 : Nat) (qf0 : Nat) (qf1 : Nat) (qf2 : Nat) (qz0 : Nat) (qz1 : Nat) (qr0 : Nat) (qt0 : Nat) (qt1 : Nat) (qt2 : Nat) (qt3 : Nat) (qu0 : Nat) (qu1 : Nat) (qu2 : Nat) (qu3 : Nat) (qw0 : Nat) (qw1 : Nat) (qw2 : Nat) (qw3 : Nat) (qx0 : Nat) (qx1 : Nat) (qx2 : Nat) (qx3 : Nat) (qT : Nat) (qL1 : Nat) (qL2 : Nat) (qL0 : Nat) (qD0 : Nat) (qX0 : Nat) (qf3 : Nat) (qn0 : Nat) (qt4 : Nat) (qu4 : Nat) (qw4 : Nat) (qx4 : Nat) (qk0 : Nat) (qb0 : Nat) (qe0 : Nat) (qh0 : Nat) (qD1 : Nat) (qv0 : Nat) (cI cJ cZ cB cT : ClassId) (d_n : Int32) (d_for : Nat → Int32) (d_road : Nat → Int32) (f_row : Nat → Int32) (f_fears : Nat → Int32) (z_cnt : Int32) (z_next : Int32) (z_store : Nat → Int32) (r_tx : Int32) (r_rul : Int32) (t_cl : Int32) (t_ln : Int32) (t_pt : Int32) (t_code : Nat → Int32) (t_st : Nat → Int32) (t_en : Nat → Int32) (u_cl : Int32) (u_ln : Int32) (u_pt : Int32) (u_code : Nat → Int32) (u_st : Nat → Int32) (u_en : Nat → Int32) (w_cl : Int32) (w_ln : Int32) (w_pt : Int32) (w_code : Nat → Int32) (w_st : Nat → Int32) (w_en : Nat → Int32) (x_cl : Int32) (x_ln : Int32) (x_pt : Int32) (x_code : Nat → Int32) (x_st : Nat → Int32) (x_en : Nat → Int32) (l_names : Nat → Int32) (l_stack : Nat → Int32) : va_W := [(qd0, .inr (2, [.int d_n, .ref qd1, .ref qd2])), (qd1, .inl (cI, 8, .inl d_for)), (qd2, .inl (cI, 8, .inl d_road)), (qf0, .inr (1, [.ref qf1, .ref qf2, .ref qf3])), (qf1, .inl (cI, 76, .inl f_row)), (qf2, .inl (cI, 6, .inl f_fears)), (qz0, .inr (7, [.int z_cnt, .int z_next, .ref qz1])), (qz1, .inl (cI, 2356, .inl z_store)), (qr0, .inr (6, [.ref qd0, .ref qf0, .ref qz0, .ref qn0, .int r_tx, .int r_rul])), (qt0, .inr (9, [.int t_cl, .int t_ln, .int t_pt, .ref qt1, .ref qt2, .ref qt3, .ref qt4])), (qt1, .inl (cI, 301, .inl t_code)), (qt2, .inl (cI, 4, .inl t_st)), (qt3, .inl (cI, 4, .inl t_en)), (qu0, .inr (9, [.int u_cl, .int u_ln, .int u_pt, .ref qu1, .ref qu2, .ref qu3, .ref qu4])), (qu1, .inl (cI, 301, .inl u_code)), (qu2, .inl (cI, 4, .inl u_st)), (qu3, .inl (cI, 4, .inl u_en)), (qw0, .inr (9, [.int w_cl, .int w_ln, .int w_pt, .ref qw1, .ref qw2, .ref qw3, .ref qw4])), (qw1, .inl (cI, 301, .inl w_code)), (qw2, .inl (cI, 4, .inl w_st)), (qw3, .inl (cI, 4, .inl w_en)), (qx0, .inr (9, [.int x_cl, .int x_ln, .int x_pt, .ref qx1, .ref qx2, .ref qx3, .ref qx4])), (qx1, .inl (cI, 301, .inl x_code)), (qx2, .inl (cI, 4, .inl x_st)), (qx3, .inl (cI, 4, .inl x_en)), (qT, .inl (cT, 4, .inr (.inr (.inr (.inr (fT qt0 qu0 qw0 qx0)))))), (qL1, .inl (cI, 10, .inl l_names)), (qL2, .inl (cI, 64, .inl l_stack)), (qL0, .inr (3, [.ref qr0, .ref qT, .ref qL1, .ref qL2])), (qD0, .inr (0, [.ref qr0, .ref qf0, .ref qL0])), (qX0, .inr (11, [.ref qr0, .ref qk0, .ref qT, .ref qb0, .ref qe0, .ref qL0, .ref qf0, .ref qd0, .ref qn0, .ref qz0, .ref qD0, .ref qh0, .ref qD1, .ref qv0]))]
abbrev W_X_3t4_6t8_76 (qf0 : Nat) (qf1 : Nat) (qf3 : Nat) (qz0 : Nat) (qz1 : Nat) (qX0 : Nat) (qf2 : Nat) (qr0 : Nat) (qk0 : Nat) (qT : Nat) (qb0 : Nat) (qe0 : Nat) (qL0 : Nat) (qd0 : Nat) (qn0 : Nat) (qD0 : Nat) (qh0 : Nat) (qD1 : Nat) (qv0 : Nat) (cI cJ cZ cB cT : ClassId) (f_row : Nat → Int32) (f_told : Nat → Int32) (z_cnt : Int32) (z_next : Int32) (z_store : Nat → Int32) : va_W := [(qf0, .inr (1, [.ref qf1, .ref qf2, .ref qf3])), (qf1, .inl (cI, 76, .inl f_row)), (qf3, .inl (cI, 18, .inl f_told)), (qz0, .inr (7, [.int z_cnt, .int z_next, .ref qz1])), (qz1, .inl (cI, 2356, .inl z_store)), (qX0, .inr (11, [.ref qr0, .ref qk0, .ref qT, .ref qb0, .ref qe0, .ref qL0, .ref qf0, .ref qd0, .ref qn0, .ref qz0, .ref qD0, .ref qh0, .ref qD1, .ref qv0]))]
abbrev W_X_0t1_3t5_16_34t37_39t42_44t47_49t52_54_61t63_76 (qd0 : Nat) (qd1 : Nat) (qf0 : Nat) (qf1 : Nat) (qf2 : Nat) (qr0 : Nat) (qt0 : Nat) (qt1 : Nat) (qt2 : Nat) (qt3 : Nat) (qu0 : Nat) (qu1 : Nat) (qu2 : Nat) (qu3 : Nat) (qw0 : Nat) (qw1 : Nat) (qw2 : Nat) (qw3 : Nat) (qx0 : Nat) (qx1 : Nat) (qx2 : Nat) (qx3 : Nat) (qT : Nat) (qL1 : Nat) (qL2 : Nat) (qL0 : Nat) (qX0 : Nat) (qd2 : Nat) (qf3 : Nat) (qz0 : Nat) (qn0 : Nat) (qt4 : Nat) (qu4 : Nat) (qw4 : Nat) (qx4 : Nat) (qk0 : Nat) (qb0 : Nat) (qe0 : Nat) (qD0 : Nat) (qh0 : Nat) (qD1 : Nat) (qv0 : Nat) (cI cJ cZ cB cT : ClassId) (d_n : Int32) (d_for : Nat → Int32) (f_row : Nat → Int32) (f_fears : Nat → Int32) (r_tx : Int32) (r_rul : Int32) (t_cl : Int32) (t_ln : Int32) (t_pt : Int32) (t_code : Nat → Int32) (t_st : Nat → Int32) (t_en : Nat → Int32) (u_cl : Int32) (u_ln : Int32) (u_pt : Int32) (u_code : Nat → Int32) (u_st : Nat → Int32) (u_en : Nat → Int32) (w_cl : Int32) (w_ln : Int32) (w_pt : Int32) (w_code : Nat → Int32) (w_st : Nat → Int32) (w_en : Nat → Int32) (x_cl : Int32) (x_ln : Int32) (x_pt : Int32) (x_code : Nat → Int32) (x_st : Nat → Int32) (x_en : Nat → Int32) (l_names : Nat → Int32) (l_stack : Nat → Int32) : va_W := [(qd0, .inr (2, [.int d_n, .ref qd1, .ref qd2])), (qd1, .inl (cI, 8, .inl d_for)), (qf0, .inr (1, [.ref qf1, .ref qf2, .ref qf3])), (qf1, .inl (cI, 76, .inl f_row)), (qf2, .inl (cI, 6, .inl f_fears)), (qr0, .inr (6, [.ref qd0, .ref qf0, .ref qz0, .ref qn0, .int r_tx, .int r_rul])), (qt0, .inr (9, [.int t_cl, .int t_ln, .int t_pt, .ref qt1, .ref qt2, .ref qt3, .ref qt4])), (qt1, .inl (cI, 301, .inl t_code)), (qt2, .inl (cI, 4, .inl t_st)), (qt3, .inl (cI, 4, .inl t_en)), (qu0, .inr (9, [.int u_cl, .int u_ln, .int u_pt, .ref qu1, .ref qu2, .ref qu3, .ref qu4])), (qu1, .inl (cI, 301, .inl u_code)), (qu2, .inl (cI, 4, .inl u_st)), (qu3, .inl (cI, 4, .inl u_en)), (qw0, .inr (9, [.int w_cl, .int w_ln, .int w_pt, .ref qw1, .ref qw2, .ref qw3, .ref qw4])), (qw1, .inl (cI, 301, .inl w_code)), (qw2, .inl (cI, 4, .inl w_st)), (qw3, .inl (cI, 4, .inl w_en)), (qx0, .inr (9, [.int x_cl, .int x_ln, .int x_pt, .ref qx1, .ref qx2, .ref qx3, .ref qx4])), (qx1, .inl (cI, 301, .inl x_code)), (qx2, .inl (cI, 4, .inl x_st)), (qx3, .inl (cI, 4, .inl x_en)), (qT, .inl (cT, 4, .inr (.inr (.inr (.inr (fT qt0 qu0 qw0 qx0)))))), (qL1, .inl (cI, 10, .inl l_names)), (qL2, .inl (cI, 64, .inl l_stack)), (qL0, .inr (3, [.ref qr0, .ref qT, .ref qL1, .ref qL2])), (qX0, .inr (11, [.ref qr0, .ref qk0, .ref qT, .ref qb0, .ref qe0, .ref qL0, .ref qf0, .ref qd0, .ref qn0, .ref qz0, .ref qD0, .ref qh0, .ref qD1, .ref qv0]))]
abbrev W_X_0t4_76 (qd0 : Nat) (qd1 : Nat) (qd2 : Nat) (qf0 : Nat) (qf1 : Nat) (qX0 : Nat) (qf2 : Nat) (qf3 : Nat) (qr0 : Nat) (qk0 : Nat) (qT : Nat) (qb0 : Nat) (qe0 : Nat) (qL0 : Nat) (qn0 : Nat) (qz0 : Nat) (qD0 : Nat) (qh0 : Nat) (qD1 : Nat) (qv0 : Nat) (cI cJ cZ cB cT : ClassId) (d_n : Int32) (d_for : Nat → Int32) (d_road : Nat → Int32) (f_row : Nat → Int32) : va_W := [(qd0, .inr (2, [.int d_n, .ref qd1, .ref qd2])), (qd1, .inl (cI, 8, .inl d_for)), (qd2, .inl (cI, 8, .inl d_road)), (qf0, .inr (1, [.ref qf1, .ref qf2, .ref qf3])), (qf1, .inl (cI, 76, .inl f_row)), (qX0, .inr (11, [.ref qr0, .ref qk0, .ref qT, .ref qb0, .ref qe0, .ref qL0, .ref qf0, .ref qd0, .ref qn0, .ref qz0, .ref qD0, .ref qh0, .ref qD1, .ref qv0]))]
abbrev W_X_3t4_76 (qf0 : Nat) (qf1 : Nat) (qX0 : Nat) (qf2 : Nat) (qf3 : Nat) (qr0 : Nat) (qk0 : Nat) (qT : Nat) (qb0 : Nat) (qe0 : Nat) (qL0 : Nat) (qd0 : Nat) (qn0 : Nat) (qz0 : Nat) (qD0 : Nat) (qh0 : Nat) (qD1 : Nat) (qv0 : Nat) (cI cJ cZ cB cT : ClassId) (f_row : Nat → Int32) : va_W := [(qf0, .inr (1, [.ref qf1, .ref qf2, .ref qf3])), (qf1, .inl (cI, 76, .inl f_row)), (qX0, .inr (11, [.ref qr0, .ref qk0, .ref qT, .ref qb0, .ref qe0, .ref qL0, .ref qf0, .ref qd0, .ref qn0, .ref qz0, .ref qD0, .ref qh0, .ref qD1, .ref qv0]))]
abbrev W_X_0t1_3t6_16_34t37_39t42_44t47_49t52_54_61t63_65t69_76 (qd0 : Nat) (qd1 : Nat) (qf0 : Nat) (qf1 : Nat) (qf2 : Nat) (qf3 : Nat) (qr0 : Nat) (qt0 : Nat) (qt1 : Nat) (qt2 : Nat) (qt3 : Nat) (qu0 : Nat) (qu1 : Nat) (qu2 : Nat) (qu3 : Nat) (qw0 : Nat) (qw1 : Nat) (qw2 : Nat) (qw3 : Nat) (qx0 : Nat) (qx1 : Nat) (qx2 : Nat) (qx3 : Nat) (qT : Nat) (qL1 : Nat) (qL2 : Nat) (qL0 : Nat) (qh0 : Nat) (qh1 : Nat) (qh2 : Nat) (qh3 : Nat) (qD1 : Nat) (qX0 : Nat) (qd2 : Nat) (qz0 : Nat) (qn0 : Nat) (qt4 : Nat) (qu4 : Nat) (qw4 : Nat) (qx4 : Nat) (qk0 : Nat) (qb0 : Nat) (qe0 : Nat) (qD0 : Nat) (qv0 : Nat) (cI cJ cZ cB cT : ClassId) (d_n : Int32) (d_for : Nat → Int32) (f_row : Nat → Int32) (f_fears : Nat → Int32) (f_told : Nat → Int32) (r_tx : Int32) (r_rul : Int32) (t_cl : Int32) (t_ln : Int32) (t_pt : Int32) (t_code : Nat → Int32) (t_st : Nat → Int32) (t_en : Nat → Int32) (u_cl : Int32) (u_ln : Int32) (u_pt : Int32) (u_code : Nat → Int32) (u_st : Nat → Int32) (u_en : Nat → Int32) (w_cl : Int32) (w_ln : Int32) (w_pt : Int32) (w_code : Nat → Int32) (w_st : Nat → Int32) (w_en : Nat → Int32) (x_cl : Int32) (x_ln : Int32) (x_pt : Int32) (x_code : Nat → Int32) (x_st : Nat → Int32) (x_en : Nat → Int32) (l_names : Nat → Int32) (l_stack : Nat → Int32) (h_row : Nat → Int32) (h_fears : Nat → Int32) (h_told : Nat → Int32) : va_W := [(qd0, .inr (2, [.int d_n, .ref qd1, .ref qd2])), (qd1, .inl (cI, 8, .inl d_for)), (qf0, .inr (1, [.ref qf1, .ref qf2, .ref qf3])), (qf1, .inl (cI, 76, .inl f_row)), (qf2, .inl (cI, 6, .inl f_fears)), (qf3, .inl (cI, 18, .inl f_told)), (qr0, .inr (6, [.ref qd0, .ref qf0, .ref qz0, .ref qn0, .int r_tx, .int r_rul])), (qt0, .inr (9, [.int t_cl, .int t_ln, .int t_pt, .ref qt1, .ref qt2, .ref qt3, .ref qt4])), (qt1, .inl (cI, 301, .inl t_code)), (qt2, .inl (cI, 4, .inl t_st)), (qt3, .inl (cI, 4, .inl t_en)), (qu0, .inr (9, [.int u_cl, .int u_ln, .int u_pt, .ref qu1, .ref qu2, .ref qu3, .ref qu4])), (qu1, .inl (cI, 301, .inl u_code)), (qu2, .inl (cI, 4, .inl u_st)), (qu3, .inl (cI, 4, .inl u_en)), (qw0, .inr (9, [.int w_cl, .int w_ln, .int w_pt, .ref qw1, .ref qw2, .ref qw3, .ref qw4])), (qw1, .inl (cI, 301, .inl w_code)), (qw2, .inl (cI, 4, .inl w_st)), (qw3, .inl (cI, 4, .inl w_en)), (qx0, .inr (9, [.int x_cl, .int x_ln, .int x_pt, .ref qx1, .ref qx2, .ref qx3, .ref qx4])), (qx1, .inl (cI, 301, .inl x_code)), (qx2, .inl (cI, 4, .inl x_st)), (qx3, .inl (cI, 4, .inl x_en)), (qT, .inl (cT, 4, .inr (.inr (.inr (.inr (fT qt0 qu0 qw0 qx0)))))), (qL1, .inl (cI, 10, .inl l_names)), (qL2, .inl (cI, 64, .inl l_stack)), (qL0, .inr (3, [.ref qr0, .ref qT, .ref qL1, .ref qL2])), (qh0, .inr (1, [.ref qh1, .ref qh2, .ref qh3])), (qh1, .inl (cI, 76, .inl h_row)), (qh2, .inl (cI, 6, .inl h_fears)), (qh3, .inl (cI, 18, .inl h_told)), (qD1, .inr (0, [.ref qr0, .ref qh0, .ref qL0])), (qX0, .inr (11, [.ref qr0, .ref qk0, .ref qT, .ref qb0, .ref qe0, .ref qL0, .ref qf0, .ref qd0, .ref qn0, .ref qz0, .ref qD0, .ref qh0, .ref qD1, .ref qv0]))]
abbrev W_X_0t5_16_34t37_39t42_44t47_49t52_54_61t63_70t73_76 (qd0 : Nat) (qd1 : Nat) (qd2 : Nat) (qf0 : Nat) (qf1 : Nat) (qf2 : Nat) (qr0 : Nat) (qt0 : Nat) (qt1 : Nat) (qt2 : Nat) (qt3 : Nat) (qu0 : Nat) (qu1 : Nat) (qu2 : Nat) (qu3 : Nat) (qw0 : Nat) (qw1 : Nat) (qw2 : Nat) (qw3 : Nat) (qx0 : Nat) (qx1 : Nat) (qx2 : Nat) (qx3 : Nat) (qT : Nat) (qL1 : Nat) (qL2 : Nat) (qL0 : Nat) (qv0 : Nat) (qv1 : Nat) (qv2 : Nat) (qv3 : Nat) (qX0 : Nat) (qf3 : Nat) (qz0 : Nat) (qn0 : Nat) (qt4 : Nat) (qu4 : Nat) (qw4 : Nat) (qx4 : Nat) (qv4 : Nat) (qv5 : Nat) (qk0 : Nat) (qb0 : Nat) (qe0 : Nat) (qD0 : Nat) (qh0 : Nat) (qD1 : Nat) (cI cJ cZ cB cT : ClassId) (d_n : Int32) (d_for : Nat → Int32) (d_road : Nat → Int32) (f_row : Nat → Int32) (f_fears : Nat → Int32) (r_tx : Int32) (r_rul : Int32) (t_cl : Int32) (t_ln : Int32) (t_pt : Int32) (t_code : Nat → Int32) (t_st : Nat → Int32) (t_en : Nat → Int32) (u_cl : Int32) (u_ln : Int32) (u_pt : Int32) (u_code : Nat → Int32) (u_st : Nat → Int32) (u_en : Nat → Int32) (w_cl : Int32) (w_ln : Int32) (w_pt : Int32) (w_code : Nat → Int32) (w_st : Nat → Int32) (w_en : Nat → Int32) (x_cl : Int32) (x_ln : Int32) (x_pt : Int32) (x_code : Nat → Int32) (x_st : Nat → Int32) (x_en : Nat → Int32) (l_names : Nat → Int32) (l_stack : Nat → Int32) (v_up : Int32) (v_low : Int32) (v_gone : Int32) (v_may : Int32) (v_must : Int32) (v_liv : Nat → Int32) (v_best : Nat → Int32) (v_way : Nat → Int32) : va_W := [(qd0, .inr (2, [.int d_n, .ref qd1, .ref qd2])), (qd1, .inl (cI, 8, .inl d_for)), (qd2, .inl (cI, 8, .inl d_road)), (qf0, .inr (1, [.ref qf1, .ref qf2, .ref qf3])), (qf1, .inl (cI, 76, .inl f_row)), (qf2, .inl (cI, 6, .inl f_fears)), (qr0, .inr (6, [.ref qd0, .ref qf0, .ref qz0, .ref qn0, .int r_tx, .int r_rul])), (qt0, .inr (9, [.int t_cl, .int t_ln, .int t_pt, .ref qt1, .ref qt2, .ref qt3, .ref qt4])), (qt1, .inl (cI, 301, .inl t_code)), (qt2, .inl (cI, 4, .inl t_st)), (qt3, .inl (cI, 4, .inl t_en)), (qu0, .inr (9, [.int u_cl, .int u_ln, .int u_pt, .ref qu1, .ref qu2, .ref qu3, .ref qu4])), (qu1, .inl (cI, 301, .inl u_code)), (qu2, .inl (cI, 4, .inl u_st)), (qu3, .inl (cI, 4, .inl u_en)), (qw0, .inr (9, [.int w_cl, .int w_ln, .int w_pt, .ref qw1, .ref qw2, .ref qw3, .ref qw4])), (qw1, .inl (cI, 301, .inl w_code)), (qw2, .inl (cI, 4, .inl w_st)), (qw3, .inl (cI, 4, .inl w_en)), (qx0, .inr (9, [.int x_cl, .int x_ln, .int x_pt, .ref qx1, .ref qx2, .ref qx3, .ref qx4])), (qx1, .inl (cI, 301, .inl x_code)), (qx2, .inl (cI, 4, .inl x_st)), (qx3, .inl (cI, 4, .inl x_en)), (qT, .inl (cT, 4, .inr (.inr (.inr (.inr (fT qt0 qu0 qw0 qx0)))))), (qL1, .inl (cI, 10, .inl l_names)), (qL2, .inl (cI, 64, .inl l_stack)), (qL0, .inr (3, [.ref qr0, .ref qT, .ref qL1, .ref qL2])), (qv0, .inr (10, [.int v_up, .int v_low, .int v_gone, .int v_may, .int v_must, .ref qv1, .ref qv2, .ref qv3, .ref qv4, .ref qv5])), (qv1, .inl (cI, 8, .inl v_liv)), (qv2, .inl (cI, 56, .inl v_best)), (qv3, .inl (cI, 6, .inl v_way)), (qX0, .inr (11, [.ref qr0, .ref qk0, .ref qT, .ref qb0, .ref qe0, .ref qL0, .ref qf0, .ref qd0, .ref qn0, .ref qz0, .ref qD0, .ref qh0, .ref qD1, .ref qv0]))]
abbrev W_X_0_9t10_76 (qd0 : Nat) (qn0 : Nat) (qn1 : Nat) (qX0 : Nat) (qd1 : Nat) (qd2 : Nat) (qn2 : Nat) (qn3 : Nat) (qn4 : Nat) (qn5 : Nat) (qn6 : Nat) (qr0 : Nat) (qk0 : Nat) (qT : Nat) (qb0 : Nat) (qe0 : Nat) (qL0 : Nat) (qf0 : Nat) (qz0 : Nat) (qD0 : Nat) (qh0 : Nat) (qD1 : Nat) (qv0 : Nat) (cI cJ cZ cB cT : ClassId) (d_n : Int32) (n_calls : Int32) (n_bord : Int32) (n_rep : Int32) (n_unl : Int32) (n_pay : Int32) (n_cl : Nat → Int32) : va_W := [(qd0, .inr (2, [.int d_n, .ref qd1, .ref qd2])), (qn0, .inr (4, [.int n_calls, .int n_bord, .int n_rep, .int n_unl, .int n_pay, .ref qn1, .ref qn2, .ref qn3, .ref qn4, .ref qn5, .ref qn6])), (qn1, .inl (cI, 5, .inl n_cl)), (qX0, .inr (11, [.ref qr0, .ref qk0, .ref qT, .ref qb0, .ref qe0, .ref qL0, .ref qf0, .ref qd0, .ref qn0, .ref qz0, .ref qD0, .ref qh0, .ref qD1, .ref qv0]))]
abbrev W_X_0_2_9t10_70_74t76 (qd0 : Nat) (qd2 : Nat) (qn0 : Nat) (qn1 : Nat) (qv0 : Nat) (qv4 : Nat) (qv5 : Nat) (qX0 : Nat) (qd1 : Nat) (qn2 : Nat) (qn3 : Nat) (qn4 : Nat) (qn5 : Nat) (qn6 : Nat) (qv1 : Nat) (qv2 : Nat) (qv3 : Nat) (qr0 : Nat) (qk0 : Nat) (qT : Nat) (qb0 : Nat) (qe0 : Nat) (qL0 : Nat) (qf0 : Nat) (qz0 : Nat) (qD0 : Nat) (qh0 : Nat) (qD1 : Nat) (cI cJ cZ cB cT : ClassId) (d_n : Int32) (d_road : Nat → Int32) (n_calls : Int32) (n_bord : Int32) (n_rep : Int32) (n_unl : Int32) (n_pay : Int32) (n_cl : Nat → Int32) (v_up : Int32) (v_low : Int32) (v_gone : Int32) (v_may : Int32) (v_must : Int32) (v_ends : Nat → Int32) (v_beg : Nat → Int32) : va_W := [(qd0, .inr (2, [.int d_n, .ref qd1, .ref qd2])), (qd2, .inl (cI, 8, .inl d_road)), (qn0, .inr (4, [.int n_calls, .int n_bord, .int n_rep, .int n_unl, .int n_pay, .ref qn1, .ref qn2, .ref qn3, .ref qn4, .ref qn5, .ref qn6])), (qn1, .inl (cI, 5, .inl n_cl)), (qv0, .inr (10, [.int v_up, .int v_low, .int v_gone, .int v_may, .int v_must, .ref qv1, .ref qv2, .ref qv3, .ref qv4, .ref qv5])), (qv4, .inl (cI, 256, .inl v_ends)), (qv5, .inl (cI, 256, .inl v_beg)), (qX0, .inr (11, [.ref qr0, .ref qk0, .ref qT, .ref qb0, .ref qe0, .ref qL0, .ref qf0, .ref qd0, .ref qn0, .ref qz0, .ref qD0, .ref qh0, .ref qD1, .ref qv0]))]
abbrev W_X_9_76 (qn0 : Nat) (qX0 : Nat) (qn1 : Nat) (qn2 : Nat) (qn3 : Nat) (qn4 : Nat) (qn5 : Nat) (qn6 : Nat) (qr0 : Nat) (qk0 : Nat) (qT : Nat) (qb0 : Nat) (qe0 : Nat) (qL0 : Nat) (qf0 : Nat) (qd0 : Nat) (qz0 : Nat) (qD0 : Nat) (qh0 : Nat) (qD1 : Nat) (qv0 : Nat) (cI cJ cZ cB cT : ClassId) (n_calls : Int32) (n_bord : Int32) (n_rep : Int32) (n_unl : Int32) (n_pay : Int32) : va_W := [(qn0, .inr (4, [.int n_calls, .int n_bord, .int n_rep, .int n_unl, .int n_pay, .ref qn1, .ref qn2, .ref qn3, .ref qn4, .ref qn5, .ref qn6])), (qX0, .inr (11, [.ref qr0, .ref qk0, .ref qT, .ref qb0, .ref qe0, .ref qL0, .ref qf0, .ref qd0, .ref qn0, .ref qz0, .ref qD0, .ref qh0, .ref qD1, .ref qv0]))]
abbrev W_X_0_2_9_76 (qd0 : Nat) (qd2 : Nat) (qn0 : Nat) (qX0 : Nat) (qd1 : Nat) (qn1 : Nat) (qn2 : Nat) (qn3 : Nat) (qn4 : Nat) (qn5 : Nat) (qn6 : Nat) (qr0 : Nat) (qk0 : Nat) (qT : Nat) (qb0 : Nat) (qe0 : Nat) (qL0 : Nat) (qf0 : Nat) (qz0 : Nat) (qD0 : Nat) (qh0 : Nat) (qD1 : Nat) (qv0 : Nat) (cI cJ cZ cB cT : ClassId) (d_n : Int32) (d_road : Nat → Int32) (n_calls : Int32) (n_bord : Int32) (n_rep : Int32) (n_unl : Int32) (n_pay : Int32) : va_W := [(qd0, .inr (2, [.int d_n, .ref qd1, .ref qd2])), (qd2, .inl (cI, 8, .inl d_road)), (qn0, .inr (4, [.int n_calls, .int n_bord, .int n_rep, .int n_unl, .int n_pay, .ref qn1, .ref qn2, .ref qn3, .ref qn4, .ref qn5, .ref qn6])), (qX0, .inr (11, [.ref qr0, .ref qk0, .ref qT, .ref qb0, .ref qe0, .ref qL0, .ref qf0, .ref qd0, .ref qn0, .ref qz0, .ref qD0, .ref qh0, .ref qD1, .ref qv0]))]
abbrev W_X_9_11_76 (qn0 : Nat) (qn2 : Nat) (qX0 : Nat) (qn1 : Nat) (qn3 : Nat) (qn4 : Nat) (qn5 : Nat) (qn6 : Nat) (qr0 : Nat) (qk0 : Nat) (qT : Nat) (qb0 : Nat) (qe0 : Nat) (qL0 : Nat) (qf0 : Nat) (qd0 : Nat) (qz0 : Nat) (qD0 : Nat) (qh0 : Nat) (qD1 : Nat) (qv0 : Nat) (cI cJ cZ cB cT : ClassId) (n_calls : Int32) (n_bord : Int32) (n_rep : Int32) (n_unl : Int32) (n_pay : Int32) (n_ul : Nat → Int32) : va_W := [(qn0, .inr (4, [.int n_calls, .int n_bord, .int n_rep, .int n_unl, .int n_pay, .ref qn1, .ref qn2, .ref qn3, .ref qn4, .ref qn5, .ref qn6])), (qn2, .inl (cI, 8, .inl n_ul)), (qX0, .inr (11, [.ref qr0, .ref qk0, .ref qT, .ref qb0, .ref qe0, .ref qL0, .ref qf0, .ref qd0, .ref qn0, .ref qz0, .ref qD0, .ref qh0, .ref qD1, .ref qv0]))]
abbrev W_X_9_11t12_76 (qn0 : Nat) (qn2 : Nat) (qn3 : Nat) (qX0 : Nat) (qn1 : Nat) (qn4 : Nat) (qn5 : Nat) (qn6 : Nat) (qr0 : Nat) (qk0 : Nat) (qT : Nat) (qb0 : Nat) (qe0 : Nat) (qL0 : Nat) (qf0 : Nat) (qd0 : Nat) (qz0 : Nat) (qD0 : Nat) (qh0 : Nat) (qD1 : Nat) (qv0 : Nat) (cI cJ cZ cB cT : ClassId) (n_calls : Int32) (n_bord : Int32) (n_rep : Int32) (n_unl : Int32) (n_pay : Int32) (n_ul : Nat → Int32) (n_ow : Nat → Int32) : va_W := [(qn0, .inr (4, [.int n_calls, .int n_bord, .int n_rep, .int n_unl, .int n_pay, .ref qn1, .ref qn2, .ref qn3, .ref qn4, .ref qn5, .ref qn6])), (qn2, .inl (cI, 8, .inl n_ul)), (qn3, .inl (cI, 8, .inl n_ow)), (qX0, .inr (11, [.ref qr0, .ref qk0, .ref qT, .ref qb0, .ref qe0, .ref qL0, .ref qf0, .ref qd0, .ref qn0, .ref qz0, .ref qD0, .ref qh0, .ref qD1, .ref qv0]))]
abbrev W_X_9_13_76 (qn0 : Nat) (qn4 : Nat) (qX0 : Nat) (qn1 : Nat) (qn2 : Nat) (qn3 : Nat) (qn5 : Nat) (qn6 : Nat) (qr0 : Nat) (qk0 : Nat) (qT : Nat) (qb0 : Nat) (qe0 : Nat) (qL0 : Nat) (qf0 : Nat) (qd0 : Nat) (qz0 : Nat) (qD0 : Nat) (qh0 : Nat) (qD1 : Nat) (qv0 : Nat) (cI cJ cZ cB cT : ClassId) (n_calls : Int32) (n_bord : Int32) (n_rep : Int32) (n_unl : Int32) (n_pay : Int32) (n_ga : Nat → Int32) : va_W := [(qn0, .inr (4, [.int n_calls, .int n_bord, .int n_rep, .int n_unl, .int n_pay, .ref qn1, .ref qn2, .ref qn3, .ref qn4, .ref qn5, .ref qn6])), (qn4, .inl (cI, 8, .inl n_ga)), (qX0, .inr (11, [.ref qr0, .ref qk0, .ref qT, .ref qb0, .ref qe0, .ref qL0, .ref qf0, .ref qd0, .ref qn0, .ref qz0, .ref qD0, .ref qh0, .ref qD1, .ref qv0]))]
abbrev W_X_3t4_9_14t15_76 (qf0 : Nat) (qf1 : Nat) (qn0 : Nat) (qn5 : Nat) (qn6 : Nat) (qX0 : Nat) (qf2 : Nat) (qf3 : Nat) (qn1 : Nat) (qn2 : Nat) (qn3 : Nat) (qn4 : Nat) (qr0 : Nat) (qk0 : Nat) (qT : Nat) (qb0 : Nat) (qe0 : Nat) (qL0 : Nat) (qd0 : Nat) (qz0 : Nat) (qD0 : Nat) (qh0 : Nat) (qD1 : Nat) (qv0 : Nat) (cI cJ cZ cB cT : ClassId) (f_row : Nat → Int32) (n_calls : Int32) (n_bord : Int32) (n_rep : Int32) (n_unl : Int32) (n_pay : Int32) (n_py : Nat → Int32) (n_pr : Nat → Int32) : va_W := [(qf0, .inr (1, [.ref qf1, .ref qf2, .ref qf3])), (qf1, .inl (cI, 76, .inl f_row)), (qn0, .inr (4, [.int n_calls, .int n_bord, .int n_rep, .int n_unl, .int n_pay, .ref qn1, .ref qn2, .ref qn3, .ref qn4, .ref qn5, .ref qn6])), (qn5, .inl (cI, 8, .inl n_py)), (qn6, .inl (cI, 8, .inl n_pr)), (qX0, .inr (11, [.ref qr0, .ref qk0, .ref qT, .ref qb0, .ref qe0, .ref qL0, .ref qf0, .ref qd0, .ref qn0, .ref qz0, .ref qD0, .ref qh0, .ref qD1, .ref qv0]))]
abbrev W_X_0t1_3t5_9_14t16_34t37_39t42_44t47_49t52_54_61t63_76 (qd0 : Nat) (qd1 : Nat) (qf0 : Nat) (qf1 : Nat) (qf2 : Nat) (qn0 : Nat) (qn5 : Nat) (qn6 : Nat) (qr0 : Nat) (qt0 : Nat) (qt1 : Nat) (qt2 : Nat) (qt3 : Nat) (qu0 : Nat) (qu1 : Nat) (qu2 : Nat) (qu3 : Nat) (qw0 : Nat) (qw1 : Nat) (qw2 : Nat) (qw3 : Nat) (qx0 : Nat) (qx1 : Nat) (qx2 : Nat) (qx3 : Nat) (qT : Nat) (qL1 : Nat) (qL2 : Nat) (qL0 : Nat) (qX0 : Nat) (qd2 : Nat) (qf3 : Nat) (qn1 : Nat) (qn2 : Nat) (qn3 : Nat) (qn4 : Nat) (qz0 : Nat) (qt4 : Nat) (qu4 : Nat) (qw4 : Nat) (qx4 : Nat) (qk0 : Nat) (qb0 : Nat) (qe0 : Nat) (qD0 : Nat) (qh0 : Nat) (qD1 : Nat) (qv0 : Nat) (cI cJ cZ cB cT : ClassId) (d_n : Int32) (d_for : Nat → Int32) (f_row : Nat → Int32) (f_fears : Nat → Int32) (n_calls : Int32) (n_bord : Int32) (n_rep : Int32) (n_unl : Int32) (n_pay : Int32) (n_py : Nat → Int32) (n_pr : Nat → Int32) (r_tx : Int32) (r_rul : Int32) (t_cl : Int32) (t_ln : Int32) (t_pt : Int32) (t_code : Nat → Int32) (t_st : Nat → Int32) (t_en : Nat → Int32) (u_cl : Int32) (u_ln : Int32) (u_pt : Int32) (u_code : Nat → Int32) (u_st : Nat → Int32) (u_en : Nat → Int32) (w_cl : Int32) (w_ln : Int32) (w_pt : Int32) (w_code : Nat → Int32) (w_st : Nat → Int32) (w_en : Nat → Int32) (x_cl : Int32) (x_ln : Int32) (x_pt : Int32) (x_code : Nat → Int32) (x_st : Nat → Int32) (x_en : Nat → Int32) (l_names : Nat → Int32) (l_stack : Nat → Int32) : va_W := [(qd0, .inr (2, [.int d_n, .ref qd1, .ref qd2])), (qd1, .inl (cI, 8, .inl d_for)), (qf0, .inr (1, [.ref qf1, .ref qf2, .ref qf3])), (qf1, .inl (cI, 76, .inl f_row)), (qf2, .inl (cI, 6, .inl f_fears)), (qn0, .inr (4, [.int n_calls, .int n_bord, .int n_rep, .int n_unl, .int n_pay, .ref qn1, .ref qn2, .ref qn3, .ref qn4, .ref qn5, .ref qn6])), (qn5, .inl (cI, 8, .inl n_py)), (qn6, .inl (cI, 8, .inl n_pr)), (qr0, .inr (6, [.ref qd0, .ref qf0, .ref qz0, .ref qn0, .int r_tx, .int r_rul])), (qt0, .inr (9, [.int t_cl, .int t_ln, .int t_pt, .ref qt1, .ref qt2, .ref qt3, .ref qt4])), (qt1, .inl (cI, 301, .inl t_code)), (qt2, .inl (cI, 4, .inl t_st)), (qt3, .inl (cI, 4, .inl t_en)), (qu0, .inr (9, [.int u_cl, .int u_ln, .int u_pt, .ref qu1, .ref qu2, .ref qu3, .ref qu4])), (qu1, .inl (cI, 301, .inl u_code)), (qu2, .inl (cI, 4, .inl u_st)), (qu3, .inl (cI, 4, .inl u_en)), (qw0, .inr (9, [.int w_cl, .int w_ln, .int w_pt, .ref qw1, .ref qw2, .ref qw3, .ref qw4])), (qw1, .inl (cI, 301, .inl w_code)), (qw2, .inl (cI, 4, .inl w_st)), (qw3, .inl (cI, 4, .inl w_en)), (qx0, .inr (9, [.int x_cl, .int x_ln, .int x_pt, .ref qx1, .ref qx2, .ref qx3, .ref qx4])), (qx1, .inl (cI, 301, .inl x_code)), (qx2, .inl (cI, 4, .inl x_st)), (qx3, .inl (cI, 4, .inl x_en)), (qT, .inl (cT, 4, .inr (.inr (.inr (.inr (fT qt0 qu0 qw0 qx0)))))), (qL1, .inl (cI, 10, .inl l_names)), (qL2, .inl (cI, 64, .inl l_stack)), (qL0, .inr (3, [.ref qr0, .ref qT, .ref qL1, .ref qL2])), (qX0, .inr (11, [.ref qr0, .ref qk0, .ref qT, .ref qb0, .ref qe0, .ref qL0, .ref qf0, .ref qd0, .ref qn0, .ref qz0, .ref qD0, .ref qh0, .ref qD1, .ref qv0]))]
abbrev W_X_0t11_13t28_30t33_76 (qd0 : Nat) (qd1 : Nat) (qd2 : Nat) (qf0 : Nat) (qf1 : Nat) (qf2 : Nat) (qf3 : Nat) (qz0 : Nat) (qz1 : Nat) (qn0 : Nat) (qn1 : Nat) (qn2 : Nat) (qn4 : Nat) (qn5 : Nat) (qn6 : Nat) (qr0 : Nat) (qc0 : Nat) (qc1 : Nat) (qc2 : Nat) (qg0 : Nat) (qg1 : Nat) (qg2 : Nat) (qg3 : Nat) (qy0 : Nat) (qy1 : Nat) (qo0 : Nat) (qo1 : Nat) (qo2 : Nat) (qo4 : Nat) (qo5 : Nat) (qo6 : Nat) (qk0 : Nat) (qX0 : Nat) (qn3 : Nat) (qo3 : Nat) (qT : Nat) (qb0 : Nat) (qe0 : Nat) (qL0 : Nat) (qD0 : Nat) (qh0 : Nat) (qD1 : Nat) (qv0 : Nat) (cI cJ cZ cB cT : ClassId) (d_n : Int32) (d_for : Nat → Int32) (d_road : Nat → Int32) (f_row : Nat → Int32) (f_fears : Nat → Int32) (f_told : Nat → Int32) (z_cnt : Int32) (z_next : Int32) (z_store : Nat → Int32) (n_calls : Int32) (n_bord : Int32) (n_rep : Int32) (n_unl : Int32) (n_pay : Int32) (n_cl : Nat → Int32) (n_ul : Nat → Int32) (n_ga : Nat → Int32) (n_py : Nat → Int32) (n_pr : Nat → Int32) (r_tx : Int32) (r_rul : Int32) (c_n : Int32) (c_for : Nat → Int32) (c_road : Nat → Int32) (g_row : Nat → Int32) (g_fears : Nat → Int32) (g_told : Nat → Int32) (y_cnt : Int32) (y_next : Int32) (y_store : Nat → Int32) (o_calls : Int32) (o_bord : Int32) (o_rep : Int32) (o_unl : Int32) (o_pay : Int32) (o_cl : Nat → Int32) (o_ul : Nat → Int32) (o_ga : Nat → Int32) (o_py : Nat → Int32) (o_pr : Nat → Int32) (k_tx : Int32) (k_rul : Int32) : va_W := [(qd0, .inr (2, [.int d_n, .ref qd1, .ref qd2])), (qd1, .inl (cI, 8, .inl d_for)), (qd2, .inl (cI, 8, .inl d_road)), (qf0, .inr (1, [.ref qf1, .ref qf2, .ref qf3])), (qf1, .inl (cI, 76, .inl f_row)), (qf2, .inl (cI, 6, .inl f_fears)), (qf3, .inl (cI, 18, .inl f_told)), (qz0, .inr (7, [.int z_cnt, .int z_next, .ref qz1])), (qz1, .inl (cI, 2356, .inl z_store)), (qn0, .inr (4, [.int n_calls, .int n_bord, .int n_rep, .int n_unl, .int n_pay, .ref qn1, .ref qn2, .ref qn3, .ref qn4, .ref qn5, .ref qn6])), (qn1, .inl (cI, 5, .inl n_cl)), (qn2, .inl (cI, 8, .inl n_ul)), (qn4, .inl (cI, 8, .inl n_ga)), (qn5, .inl (cI, 8, .inl n_py)), (qn6, .inl (cI, 8, .inl n_pr)), (qr0, .inr (6, [.ref qd0, .ref qf0, .ref qz0, .ref qn0, .int r_tx, .int r_rul])), (qc0, .inr (2, [.int c_n, .ref qc1, .ref qc2])), (qc1, .inl (cI, 8, .inl c_for)), (qc2, .inl (cI, 8, .inl c_road)), (qg0, .inr (1, [.ref qg1, .ref qg2, .ref qg3])), (qg1, .inl (cI, 76, .inl g_row)), (qg2, .inl (cI, 6, .inl g_fears)), (qg3, .inl (cI, 18, .inl g_told)), (qy0, .inr (7, [.int y_cnt, .int y_next, .ref qy1])), (qy1, .inl (cI, 2356, .inl y_store)), (qo0, .inr (4, [.int o_calls, .int o_bord, .int o_rep, .int o_unl, .int o_pay, .ref qo1, .ref qo2, .ref qo3, .ref qo4, .ref qo5, .ref qo6])), (qo1, .inl (cI, 5, .inl o_cl)), (qo2, .inl (cI, 8, .inl o_ul)), (qo4, .inl (cI, 8, .inl o_ga)), (qo5, .inl (cI, 8, .inl o_py)), (qo6, .inl (cI, 8, .inl o_pr)), (qk0, .inr (6, [.ref qc0, .ref qg0, .ref qy0, .ref qo0, .int k_tx, .int k_rul])), (qX0, .inr (11, [.ref qr0, .ref qk0, .ref qT, .ref qb0, .ref qe0, .ref qL0, .ref qf0, .ref qd0, .ref qn0, .ref qz0, .ref qD0, .ref qh0, .ref qD1, .ref qv0]))]
abbrev W_X_0_3t4_7_9_16_55_76 (qd0 : Nat) (qf0 : Nat) (qf1 : Nat) (qz0 : Nat) (qn0 : Nat) (qr0 : Nat) (qb0 : Nat) (qX0 : Nat) (qd1 : Nat) (qd2 : Nat) (qf2 : Nat) (qf3 : Nat) (qz1 : Nat) (qn1 : Nat) (qn2 : Nat) (qn3 : Nat) (qn4 : Nat) (qn5 : Nat) (qn6 : Nat) (qb1 : Nat) (qb2 : Nat) (qb3 : Nat) (qb4 : Nat) (qk0 : Nat) (qT : Nat) (qe0 : Nat) (qL0 : Nat) (qD0 : Nat) (qh0 : Nat) (qD1 : Nat) (qv0 : Nat) (cI cJ cZ cB cT : ClassId) (d_n : Int32) (f_row : Nat → Int32) (z_cnt : Int32) (z_next : Int32) (n_calls : Int32) (n_bord : Int32) (n_rep : Int32) (n_unl : Int32) (n_pay : Int32) (r_tx : Int32) (r_rul : Int32) (b_len : Int32) (b_tok : Int32) : va_W := [(qd0, .inr (2, [.int d_n, .ref qd1, .ref qd2])), (qf0, .inr (1, [.ref qf1, .ref qf2, .ref qf3])), (qf1, .inl (cI, 76, .inl f_row)), (qz0, .inr (7, [.int z_cnt, .int z_next, .ref qz1])), (qn0, .inr (4, [.int n_calls, .int n_bord, .int n_rep, .int n_unl, .int n_pay, .ref qn1, .ref qn2, .ref qn3, .ref qn4, .ref qn5, .ref qn6])), (qr0, .inr (6, [.ref qd0, .ref qf0, .ref qz0, .ref qn0, .int r_tx, .int r_rul])), (qb0, .inr (8, [.int b_len, .int b_tok, .ref qb1, .ref qb2, .ref qb3, .ref qb4])), (qX0, .inr (11, [.ref qr0, .ref qk0, .ref qT, .ref qb0, .ref qe0, .ref qL0, .ref qf0, .ref qd0, .ref qn0, .ref qz0, .ref qD0, .ref qh0, .ref qD1, .ref qv0]))]
abbrev W_X_16_34t60_76 (qr0 : Nat) (qt0 : Nat) (qt1 : Nat) (qt2 : Nat) (qt3 : Nat) (qt4 : Nat) (qu0 : Nat) (qu1 : Nat) (qu2 : Nat) (qu3 : Nat) (qu4 : Nat) (qw0 : Nat) (qw1 : Nat) (qw2 : Nat) (qw3 : Nat) (qw4 : Nat) (qx0 : Nat) (qx1 : Nat) (qx2 : Nat) (qx3 : Nat) (qx4 : Nat) (qT : Nat) (qb0 : Nat) (qb1 : Nat) (qb2 : Nat) (qb3 : Nat) (qb4 : Nat) (qe0 : Nat) (qX0 : Nat) (qd0 : Nat) (qf0 : Nat) (qz0 : Nat) (qn0 : Nat) (qk0 : Nat) (qL0 : Nat) (qD0 : Nat) (qh0 : Nat) (qD1 : Nat) (qv0 : Nat) (cI cJ cZ cB cT : ClassId) (r_tx : Int32) (r_rul : Int32) (t_cl : Int32) (t_ln : Int32) (t_pt : Int32) (t_code : Nat → Int32) (t_st : Nat → Int32) (t_en : Nat → Int32) (t_rows : Nat → Int32) (u_cl : Int32) (u_ln : Int32) (u_pt : Int32) (u_code : Nat → Int32) (u_st : Nat → Int32) (u_en : Nat → Int32) (u_rows : Nat → Int32) (w_cl : Int32) (w_ln : Int32) (w_pt : Int32) (w_code : Nat → Int32) (w_st : Nat → Int32) (w_en : Nat → Int32) (w_rows : Nat → Int32) (x_cl : Int32) (x_ln : Int32) (x_pt : Int32) (x_code : Nat → Int32) (x_st : Nat → Int32) (x_en : Nat → Int32) (x_rows : Nat → Int32) (b_len : Int32) (b_tok : Int32) (b_by : Nat → Int32) (b_ki : Nat → Int32) (b_pl : Nat → Int32) (b_nu : Nat → Int32) (e_fault : Int32) (e_place : Int32) (e_text : Value) (e_at : Int32) (e_law : Int32) : va_W := [(qr0, .inr (6, [.ref qd0, .ref qf0, .ref qz0, .ref qn0, .int r_tx, .int r_rul])), (qt0, .inr (9, [.int t_cl, .int t_ln, .int t_pt, .ref qt1, .ref qt2, .ref qt3, .ref qt4])), (qt1, .inl (cI, 301, .inl t_code)), (qt2, .inl (cI, 4, .inl t_st)), (qt3, .inl (cI, 4, .inl t_en)), (qt4, .inl (cI, 120, .inl t_rows)), (qu0, .inr (9, [.int u_cl, .int u_ln, .int u_pt, .ref qu1, .ref qu2, .ref qu3, .ref qu4])), (qu1, .inl (cI, 301, .inl u_code)), (qu2, .inl (cI, 4, .inl u_st)), (qu3, .inl (cI, 4, .inl u_en)), (qu4, .inl (cI, 120, .inl u_rows)), (qw0, .inr (9, [.int w_cl, .int w_ln, .int w_pt, .ref qw1, .ref qw2, .ref qw3, .ref qw4])), (qw1, .inl (cI, 301, .inl w_code)), (qw2, .inl (cI, 4, .inl w_st)), (qw3, .inl (cI, 4, .inl w_en)), (qw4, .inl (cI, 120, .inl w_rows)), (qx0, .inr (9, [.int x_cl, .int x_ln, .int x_pt, .ref qx1, .ref qx2, .ref qx3, .ref qx4])), (qx1, .inl (cI, 301, .inl x_code)), (qx2, .inl (cI, 4, .inl x_st)), (qx3, .inl (cI, 4, .inl x_en)), (qx4, .inl (cI, 120, .inl x_rows)), (qT, .inl (cT, 4, .inr (.inr (.inr (.inr (fT qt0 qu0 qw0 qx0)))))), (qb0, .inr (8, [.int b_len, .int b_tok, .ref qb1, .ref qb2, .ref qb3, .ref qb4])), (qb1, .inl (cB, 300, .inl b_by)), (qb2, .inl (cI, 301, .inl b_ki)), (qb3, .inl (cI, 301, .inl b_pl)), (qb4, .inl (cI, 301, .inl b_nu)), (qe0, .inr (5, [.int e_fault, .int e_place, .ref qb0, e_text, .int e_at, .int e_law])), (qX0, .inr (11, [.ref qr0, .ref qk0, .ref qT, .ref qb0, .ref qe0, .ref qL0, .ref qf0, .ref qd0, .ref qn0, .ref qz0, .ref qD0, .ref qh0, .ref qD1, .ref qv0]))]
abbrev W_X_0t8_16_34t42_44t47_49t52_54_61t64_76 (qd0 : Nat) (qd1 : Nat) (qd2 : Nat) (qf0 : Nat) (qf1 : Nat) (qf2 : Nat) (qf3 : Nat) (qz0 : Nat) (qz1 : Nat) (qr0 : Nat) (qt0 : Nat) (qt1 : Nat) (qt2 : Nat) (qt3 : Nat) (qt4 : Nat) (qu0 : Nat) (qu1 : Nat) (qu2 : Nat) (qu3 : Nat) (qw0 : Nat) (qw1 : Nat) (qw2 : Nat) (qw3 : Nat) (qx0 : Nat) (qx1 : Nat) (qx2 : Nat) (qx3 : Nat) (qT : Nat) (qL1 : Nat) (qL2 : Nat) (qL0 : Nat) (qD0 : Nat) (qX0 : Nat) (qn0 : Nat) (qu4 : Nat) (qw4 : Nat) (qx4 : Nat) (qk0 : Nat) (qb0 : Nat) (qe0 : Nat) (qh0 : Nat) (qD1 : Nat) (qv0 : Nat) (cI cJ cZ cB cT : ClassId) (d_n : Int32) (d_for : Nat → Int32) (d_road : Nat → Int32) (f_row : Nat → Int32) (f_fears : Nat → Int32) (f_told : Nat → Int32) (z_cnt : Int32) (z_next : Int32) (z_store : Nat → Int32) (r_tx : Int32) (r_rul : Int32) (t_cl : Int32) (t_ln : Int32) (t_pt : Int32) (t_code : Nat → Int32) (t_st : Nat → Int32) (t_en : Nat → Int32) (t_rows : Nat → Int32) (u_cl : Int32) (u_ln : Int32) (u_pt : Int32) (u_code : Nat → Int32) (u_st : Nat → Int32) (u_en : Nat → Int32) (w_cl : Int32) (w_ln : Int32) (w_pt : Int32) (w_code : Nat → Int32) (w_st : Nat → Int32) (w_en : Nat → Int32) (x_cl : Int32) (x_ln : Int32) (x_pt : Int32) (x_code : Nat → Int32) (x_st : Nat → Int32) (x_en : Nat → Int32) (l_names : Nat → Int32) (l_stack : Nat → Int32) : va_W := [(qd0, .inr (2, [.int d_n, .ref qd1, .ref qd2])), (qd1, .inl (cI, 8, .inl d_for)), (qd2, .inl (cI, 8, .inl d_road)), (qf0, .inr (1, [.ref qf1, .ref qf2, .ref qf3])), (qf1, .inl (cI, 76, .inl f_row)), (qf2, .inl (cI, 6, .inl f_fears)), (qf3, .inl (cI, 18, .inl f_told)), (qz0, .inr (7, [.int z_cnt, .int z_next, .ref qz1])), (qz1, .inl (cI, 2356, .inl z_store)), (qr0, .inr (6, [.ref qd0, .ref qf0, .ref qz0, .ref qn0, .int r_tx, .int r_rul])), (qt0, .inr (9, [.int t_cl, .int t_ln, .int t_pt, .ref qt1, .ref qt2, .ref qt3, .ref qt4])), (qt1, .inl (cI, 301, .inl t_code)), (qt2, .inl (cI, 4, .inl t_st)), (qt3, .inl (cI, 4, .inl t_en)), (qt4, .inl (cI, 120, .inl t_rows)), (qu0, .inr (9, [.int u_cl, .int u_ln, .int u_pt, .ref qu1, .ref qu2, .ref qu3, .ref qu4])), (qu1, .inl (cI, 301, .inl u_code)), (qu2, .inl (cI, 4, .inl u_st)), (qu3, .inl (cI, 4, .inl u_en)), (qw0, .inr (9, [.int w_cl, .int w_ln, .int w_pt, .ref qw1, .ref qw2, .ref qw3, .ref qw4])), (qw1, .inl (cI, 301, .inl w_code)), (qw2, .inl (cI, 4, .inl w_st)), (qw3, .inl (cI, 4, .inl w_en)), (qx0, .inr (9, [.int x_cl, .int x_ln, .int x_pt, .ref qx1, .ref qx2, .ref qx3, .ref qx4])), (qx1, .inl (cI, 301, .inl x_code)), (qx2, .inl (cI, 4, .inl x_st)), (qx3, .inl (cI, 4, .inl x_en)), (qT, .inl (cT, 4, .inr (.inr (.inr (.inr (fT qt0 qu0 qw0 qx0)))))), (qL1, .inl (cI, 10, .inl l_names)), (qL2, .inl (cI, 64, .inl l_stack)), (qL0, .inr (3, [.ref qr0, .ref qT, .ref qL1, .ref qL2])), (qD0, .inr (0, [.ref qr0, .ref qf0, .ref qL0])), (qX0, .inr (11, [.ref qr0, .ref qk0, .ref qT, .ref qb0, .ref qe0, .ref qL0, .ref qf0, .ref qd0, .ref qn0, .ref qz0, .ref qD0, .ref qh0, .ref qD1, .ref qv0]))]
abbrev W_X_0t8_16_34t37_39t47_49t52_54_61t64_76 (qd0 : Nat) (qd1 : Nat) (qd2 : Nat) (qf0 : Nat) (qf1 : Nat) (qf2 : Nat) (qf3 : Nat) (qz0 : Nat) (qz1 : Nat) (qr0 : Nat) (qt0 : Nat) (qt1 : Nat) (qt2 : Nat) (qt3 : Nat) (qu0 : Nat) (qu1 : Nat) (qu2 : Nat) (qu3 : Nat) (qu4 : Nat) (qw0 : Nat) (qw1 : Nat) (qw2 : Nat) (qw3 : Nat) (qx0 : Nat) (qx1 : Nat) (qx2 : Nat) (qx3 : Nat) (qT : Nat) (qL1 : Nat) (qL2 : Nat) (qL0 : Nat) (qD0 : Nat) (qX0 : Nat) (qn0 : Nat) (qt4 : Nat) (qw4 : Nat) (qx4 : Nat) (qk0 : Nat) (qb0 : Nat) (qe0 : Nat) (qh0 : Nat) (qD1 : Nat) (qv0 : Nat) (cI cJ cZ cB cT : ClassId) (d_n : Int32) (d_for : Nat → Int32) (d_road : Nat → Int32) (f_row : Nat → Int32) (f_fears : Nat → Int32) (f_told : Nat → Int32) (z_cnt : Int32) (z_next : Int32) (z_store : Nat → Int32) (r_tx : Int32) (r_rul : Int32) (t_cl : Int32) (t_ln : Int32) (t_pt : Int32) (t_code : Nat → Int32) (t_st : Nat → Int32) (t_en : Nat → Int32) (u_cl : Int32) (u_ln : Int32) (u_pt : Int32) (u_code : Nat → Int32) (u_st : Nat → Int32) (u_en : Nat → Int32) (u_rows : Nat → Int32) (w_cl : Int32) (w_ln : Int32) (w_pt : Int32) (w_code : Nat → Int32) (w_st : Nat → Int32) (w_en : Nat → Int32) (x_cl : Int32) (x_ln : Int32) (x_pt : Int32) (x_code : Nat → Int32) (x_st : Nat → Int32) (x_en : Nat → Int32) (l_names : Nat → Int32) (l_stack : Nat → Int32) : va_W := [(qd0, .inr (2, [.int d_n, .ref qd1, .ref qd2])), (qd1, .inl (cI, 8, .inl d_for)), (qd2, .inl (cI, 8, .inl d_road)), (qf0, .inr (1, [.ref qf1, .ref qf2, .ref qf3])), (qf1, .inl (cI, 76, .inl f_row)), (qf2, .inl (cI, 6, .inl f_fears)), (qf3, .inl (cI, 18, .inl f_told)), (qz0, .inr (7, [.int z_cnt, .int z_next, .ref qz1])), (qz1, .inl (cI, 2356, .inl z_store)), (qr0, .inr (6, [.ref qd0, .ref qf0, .ref qz0, .ref qn0, .int r_tx, .int r_rul])), (qt0, .inr (9, [.int t_cl, .int t_ln, .int t_pt, .ref qt1, .ref qt2, .ref qt3, .ref qt4])), (qt1, .inl (cI, 301, .inl t_code)), (qt2, .inl (cI, 4, .inl t_st)), (qt3, .inl (cI, 4, .inl t_en)), (qu0, .inr (9, [.int u_cl, .int u_ln, .int u_pt, .ref qu1, .ref qu2, .ref qu3, .ref qu4])), (qu1, .inl (cI, 301, .inl u_code)), (qu2, .inl (cI, 4, .inl u_st)), (qu3, .inl (cI, 4, .inl u_en)), (qu4, .inl (cI, 120, .inl u_rows)), (qw0, .inr (9, [.int w_cl, .int w_ln, .int w_pt, .ref qw1, .ref qw2, .ref qw3, .ref qw4])), (qw1, .inl (cI, 301, .inl w_code)), (qw2, .inl (cI, 4, .inl w_st)), (qw3, .inl (cI, 4, .inl w_en)), (qx0, .inr (9, [.int x_cl, .int x_ln, .int x_pt, .ref qx1, .ref qx2, .ref qx3, .ref qx4])), (qx1, .inl (cI, 301, .inl x_code)), (qx2, .inl (cI, 4, .inl x_st)), (qx3, .inl (cI, 4, .inl x_en)), (qT, .inl (cT, 4, .inr (.inr (.inr (.inr (fT qt0 qu0 qw0 qx0)))))), (qL1, .inl (cI, 10, .inl l_names)), (qL2, .inl (cI, 64, .inl l_stack)), (qL0, .inr (3, [.ref qr0, .ref qT, .ref qL1, .ref qL2])), (qD0, .inr (0, [.ref qr0, .ref qf0, .ref qL0])), (qX0, .inr (11, [.ref qr0, .ref qk0, .ref qT, .ref qb0, .ref qe0, .ref qL0, .ref qf0, .ref qd0, .ref qn0, .ref qz0, .ref qD0, .ref qh0, .ref qD1, .ref qv0]))]
abbrev W_X_0t8_16_34t37_39t42_44t52_54_61t64_76 (qd0 : Nat) (qd1 : Nat) (qd2 : Nat) (qf0 : Nat) (qf1 : Nat) (qf2 : Nat) (qf3 : Nat) (qz0 : Nat) (qz1 : Nat) (qr0 : Nat) (qt0 : Nat) (qt1 : Nat) (qt2 : Nat) (qt3 : Nat) (qu0 : Nat) (qu1 : Nat) (qu2 : Nat) (qu3 : Nat) (qw0 : Nat) (qw1 : Nat) (qw2 : Nat) (qw3 : Nat) (qw4 : Nat) (qx0 : Nat) (qx1 : Nat) (qx2 : Nat) (qx3 : Nat) (qT : Nat) (qL1 : Nat) (qL2 : Nat) (qL0 : Nat) (qD0 : Nat) (qX0 : Nat) (qn0 : Nat) (qt4 : Nat) (qu4 : Nat) (qx4 : Nat) (qk0 : Nat) (qb0 : Nat) (qe0 : Nat) (qh0 : Nat) (qD1 : Nat) (qv0 : Nat) (cI cJ cZ cB cT : ClassId) (d_n : Int32) (d_for : Nat → Int32) (d_road : Nat → Int32) (f_row : Nat → Int32) (f_fears : Nat → Int32) (f_told : Nat → Int32) (z_cnt : Int32) (z_next : Int32) (z_store : Nat → Int32) (r_tx : Int32) (r_rul : Int32) (t_cl : Int32) (t_ln : Int32) (t_pt : Int32) (t_code : Nat → Int32) (t_st : Nat → Int32) (t_en : Nat → Int32) (u_cl : Int32) (u_ln : Int32) (u_pt : Int32) (u_code : Nat → Int32) (u_st : Nat → Int32) (u_en : Nat → Int32) (w_cl : Int32) (w_ln : Int32) (w_pt : Int32) (w_code : Nat → Int32) (w_st : Nat → Int32) (w_en : Nat → Int32) (w_rows : Nat → Int32) (x_cl : Int32) (x_ln : Int32) (x_pt : Int32) (x_code : Nat → Int32) (x_st : Nat → Int32) (x_en : Nat → Int32) (l_names : Nat → Int32) (l_stack : Nat → Int32) : va_W := [(qd0, .inr (2, [.int d_n, .ref qd1, .ref qd2])), (qd1, .inl (cI, 8, .inl d_for)), (qd2, .inl (cI, 8, .inl d_road)), (qf0, .inr (1, [.ref qf1, .ref qf2, .ref qf3])), (qf1, .inl (cI, 76, .inl f_row)), (qf2, .inl (cI, 6, .inl f_fears)), (qf3, .inl (cI, 18, .inl f_told)), (qz0, .inr (7, [.int z_cnt, .int z_next, .ref qz1])), (qz1, .inl (cI, 2356, .inl z_store)), (qr0, .inr (6, [.ref qd0, .ref qf0, .ref qz0, .ref qn0, .int r_tx, .int r_rul])), (qt0, .inr (9, [.int t_cl, .int t_ln, .int t_pt, .ref qt1, .ref qt2, .ref qt3, .ref qt4])), (qt1, .inl (cI, 301, .inl t_code)), (qt2, .inl (cI, 4, .inl t_st)), (qt3, .inl (cI, 4, .inl t_en)), (qu0, .inr (9, [.int u_cl, .int u_ln, .int u_pt, .ref qu1, .ref qu2, .ref qu3, .ref qu4])), (qu1, .inl (cI, 301, .inl u_code)), (qu2, .inl (cI, 4, .inl u_st)), (qu3, .inl (cI, 4, .inl u_en)), (qw0, .inr (9, [.int w_cl, .int w_ln, .int w_pt, .ref qw1, .ref qw2, .ref qw3, .ref qw4])), (qw1, .inl (cI, 301, .inl w_code)), (qw2, .inl (cI, 4, .inl w_st)), (qw3, .inl (cI, 4, .inl w_en)), (qw4, .inl (cI, 120, .inl w_rows)), (qx0, .inr (9, [.int x_cl, .int x_ln, .int x_pt, .ref qx1, .ref qx2, .ref qx3, .ref qx4])), (qx1, .inl (cI, 301, .inl x_code)), (qx2, .inl (cI, 4, .inl x_st)), (qx3, .inl (cI, 4, .inl x_en)), (qT, .inl (cT, 4, .inr (.inr (.inr (.inr (fT qt0 qu0 qw0 qx0)))))), (qL1, .inl (cI, 10, .inl l_names)), (qL2, .inl (cI, 64, .inl l_stack)), (qL0, .inr (3, [.ref qr0, .ref qT, .ref qL1, .ref qL2])), (qD0, .inr (0, [.ref qr0, .ref qf0, .ref qL0])), (qX0, .inr (11, [.ref qr0, .ref qk0, .ref qT, .ref qb0, .ref qe0, .ref qL0, .ref qf0, .ref qd0, .ref qn0, .ref qz0, .ref qD0, .ref qh0, .ref qD1, .ref qv0]))]
abbrev W_X_0t8_16_34t37_39t42_44t47_49t54_61t64_76 (qd0 : Nat) (qd1 : Nat) (qd2 : Nat) (qf0 : Nat) (qf1 : Nat) (qf2 : Nat) (qf3 : Nat) (qz0 : Nat) (qz1 : Nat) (qr0 : Nat) (qt0 : Nat) (qt1 : Nat) (qt2 : Nat) (qt3 : Nat) (qu0 : Nat) (qu1 : Nat) (qu2 : Nat) (qu3 : Nat) (qw0 : Nat) (qw1 : Nat) (qw2 : Nat) (qw3 : Nat) (qx0 : Nat) (qx1 : Nat) (qx2 : Nat) (qx3 : Nat) (qx4 : Nat) (qT : Nat) (qL1 : Nat) (qL2 : Nat) (qL0 : Nat) (qD0 : Nat) (qX0 : Nat) (qn0 : Nat) (qt4 : Nat) (qu4 : Nat) (qw4 : Nat) (qk0 : Nat) (qb0 : Nat) (qe0 : Nat) (qh0 : Nat) (qD1 : Nat) (qv0 : Nat) (cI cJ cZ cB cT : ClassId) (d_n : Int32) (d_for : Nat → Int32) (d_road : Nat → Int32) (f_row : Nat → Int32) (f_fears : Nat → Int32) (f_told : Nat → Int32) (z_cnt : Int32) (z_next : Int32) (z_store : Nat → Int32) (r_tx : Int32) (r_rul : Int32) (t_cl : Int32) (t_ln : Int32) (t_pt : Int32) (t_code : Nat → Int32) (t_st : Nat → Int32) (t_en : Nat → Int32) (u_cl : Int32) (u_ln : Int32) (u_pt : Int32) (u_code : Nat → Int32) (u_st : Nat → Int32) (u_en : Nat → Int32) (w_cl : Int32) (w_ln : Int32) (w_pt : Int32) (w_code : Nat → Int32) (w_st : Nat → Int32) (w_en : Nat → Int32) (x_cl : Int32) (x_ln : Int32) (x_pt : Int32) (x_code : Nat → Int32) (x_st : Nat → Int32) (x_en : Nat → Int32) (x_rows : Nat → Int32) (l_names : Nat → Int32) (l_stack : Nat → Int32) : va_W := [(qd0, .inr (2, [.int d_n, .ref qd1, .ref qd2])), (qd1, .inl (cI, 8, .inl d_for)), (qd2, .inl (cI, 8, .inl d_road)), (qf0, .inr (1, [.ref qf1, .ref qf2, .ref qf3])), (qf1, .inl (cI, 76, .inl f_row)), (qf2, .inl (cI, 6, .inl f_fears)), (qf3, .inl (cI, 18, .inl f_told)), (qz0, .inr (7, [.int z_cnt, .int z_next, .ref qz1])), (qz1, .inl (cI, 2356, .inl z_store)), (qr0, .inr (6, [.ref qd0, .ref qf0, .ref qz0, .ref qn0, .int r_tx, .int r_rul])), (qt0, .inr (9, [.int t_cl, .int t_ln, .int t_pt, .ref qt1, .ref qt2, .ref qt3, .ref qt4])), (qt1, .inl (cI, 301, .inl t_code)), (qt2, .inl (cI, 4, .inl t_st)), (qt3, .inl (cI, 4, .inl t_en)), (qu0, .inr (9, [.int u_cl, .int u_ln, .int u_pt, .ref qu1, .ref qu2, .ref qu3, .ref qu4])), (qu1, .inl (cI, 301, .inl u_code)), (qu2, .inl (cI, 4, .inl u_st)), (qu3, .inl (cI, 4, .inl u_en)), (qw0, .inr (9, [.int w_cl, .int w_ln, .int w_pt, .ref qw1, .ref qw2, .ref qw3, .ref qw4])), (qw1, .inl (cI, 301, .inl w_code)), (qw2, .inl (cI, 4, .inl w_st)), (qw3, .inl (cI, 4, .inl w_en)), (qx0, .inr (9, [.int x_cl, .int x_ln, .int x_pt, .ref qx1, .ref qx2, .ref qx3, .ref qx4])), (qx1, .inl (cI, 301, .inl x_code)), (qx2, .inl (cI, 4, .inl x_st)), (qx3, .inl (cI, 4, .inl x_en)), (qx4, .inl (cI, 120, .inl x_rows)), (qT, .inl (cT, 4, .inr (.inr (.inr (.inr (fT qt0 qu0 qw0 qx0)))))), (qL1, .inl (cI, 10, .inl l_names)), (qL2, .inl (cI, 64, .inl l_stack)), (qL0, .inr (3, [.ref qr0, .ref qT, .ref qL1, .ref qL2])), (qD0, .inr (0, [.ref qr0, .ref qf0, .ref qL0])), (qX0, .inr (11, [.ref qr0, .ref qk0, .ref qT, .ref qb0, .ref qe0, .ref qL0, .ref qf0, .ref qd0, .ref qn0, .ref qz0, .ref qD0, .ref qh0, .ref qD1, .ref qv0]))]
abbrev W_X_0t8_16_34t54_61t64_76 (qd0 : Nat) (qd1 : Nat) (qd2 : Nat) (qf0 : Nat) (qf1 : Nat) (qf2 : Nat) (qf3 : Nat) (qz0 : Nat) (qz1 : Nat) (qr0 : Nat) (qt0 : Nat) (qt1 : Nat) (qt2 : Nat) (qt3 : Nat) (qt4 : Nat) (qu0 : Nat) (qu1 : Nat) (qu2 : Nat) (qu3 : Nat) (qu4 : Nat) (qw0 : Nat) (qw1 : Nat) (qw2 : Nat) (qw3 : Nat) (qw4 : Nat) (qx0 : Nat) (qx1 : Nat) (qx2 : Nat) (qx3 : Nat) (qx4 : Nat) (qT : Nat) (qL1 : Nat) (qL2 : Nat) (qL0 : Nat) (qD0 : Nat) (qX0 : Nat) (qn0 : Nat) (qk0 : Nat) (qb0 : Nat) (qe0 : Nat) (qh0 : Nat) (qD1 : Nat) (qv0 : Nat) (cI cJ cZ cB cT : ClassId) (d_n : Int32) (d_for : Nat → Int32) (d_road : Nat → Int32) (f_row : Nat → Int32) (f_fears : Nat → Int32) (f_told : Nat → Int32) (z_cnt : Int32) (z_next : Int32) (z_store : Nat → Int32) (r_tx : Int32) (r_rul : Int32) (t_cl : Int32) (t_ln : Int32) (t_pt : Int32) (t_code : Nat → Int32) (t_st : Nat → Int32) (t_en : Nat → Int32) (t_rows : Nat → Int32) (u_cl : Int32) (u_ln : Int32) (u_pt : Int32) (u_code : Nat → Int32) (u_st : Nat → Int32) (u_en : Nat → Int32) (u_rows : Nat → Int32) (w_cl : Int32) (w_ln : Int32) (w_pt : Int32) (w_code : Nat → Int32) (w_st : Nat → Int32) (w_en : Nat → Int32) (w_rows : Nat → Int32) (x_cl : Int32) (x_ln : Int32) (x_pt : Int32) (x_code : Nat → Int32) (x_st : Nat → Int32) (x_en : Nat → Int32) (x_rows : Nat → Int32) (l_names : Nat → Int32) (l_stack : Nat → Int32) : va_W := [(qd0, .inr (2, [.int d_n, .ref qd1, .ref qd2])), (qd1, .inl (cI, 8, .inl d_for)), (qd2, .inl (cI, 8, .inl d_road)), (qf0, .inr (1, [.ref qf1, .ref qf2, .ref qf3])), (qf1, .inl (cI, 76, .inl f_row)), (qf2, .inl (cI, 6, .inl f_fears)), (qf3, .inl (cI, 18, .inl f_told)), (qz0, .inr (7, [.int z_cnt, .int z_next, .ref qz1])), (qz1, .inl (cI, 2356, .inl z_store)), (qr0, .inr (6, [.ref qd0, .ref qf0, .ref qz0, .ref qn0, .int r_tx, .int r_rul])), (qt0, .inr (9, [.int t_cl, .int t_ln, .int t_pt, .ref qt1, .ref qt2, .ref qt3, .ref qt4])), (qt1, .inl (cI, 301, .inl t_code)), (qt2, .inl (cI, 4, .inl t_st)), (qt3, .inl (cI, 4, .inl t_en)), (qt4, .inl (cI, 120, .inl t_rows)), (qu0, .inr (9, [.int u_cl, .int u_ln, .int u_pt, .ref qu1, .ref qu2, .ref qu3, .ref qu4])), (qu1, .inl (cI, 301, .inl u_code)), (qu2, .inl (cI, 4, .inl u_st)), (qu3, .inl (cI, 4, .inl u_en)), (qu4, .inl (cI, 120, .inl u_rows)), (qw0, .inr (9, [.int w_cl, .int w_ln, .int w_pt, .ref qw1, .ref qw2, .ref qw3, .ref qw4])), (qw1, .inl (cI, 301, .inl w_code)), (qw2, .inl (cI, 4, .inl w_st)), (qw3, .inl (cI, 4, .inl w_en)), (qw4, .inl (cI, 120, .inl w_rows)), (qx0, .inr (9, [.int x_cl, .int x_ln, .int x_pt, .ref qx1, .ref qx2, .ref qx3, .ref qx4])), (qx1, .inl (cI, 301, .inl x_code)), (qx2, .inl (cI, 4, .inl x_st)), (qx3, .inl (cI, 4, .inl x_en)), (qx4, .inl (cI, 120, .inl x_rows)), (qT, .inl (cT, 4, .inr (.inr (.inr (.inr (fT qt0 qu0 qw0 qx0)))))), (qL1, .inl (cI, 10, .inl l_names)), (qL2, .inl (cI, 64, .inl l_stack)), (qL0, .inr (3, [.ref qr0, .ref qT, .ref qL1, .ref qL2])), (qD0, .inr (0, [.ref qr0, .ref qf0, .ref qL0])), (qX0, .inr (11, [.ref qr0, .ref qk0, .ref qT, .ref qb0, .ref qe0, .ref qL0, .ref qf0, .ref qd0, .ref qn0, .ref qz0, .ref qD0, .ref qh0, .ref qD1, .ref qv0]))]
