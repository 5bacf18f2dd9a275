set_option maxRecDepth 100000 in
theorem ac_native : Cond.native arraycopyName ∈ lw_g := in_g (t3_in (List.mem_of_getElem? (i := 192) rfl)) rfl
set_option maxRecDepth 100000 in
theorem ac_static : Cond.static arraycopyName ∈ lw_g := in_g (t3_in (List.mem_of_getElem? (i := 191) rfl)) rfl
set_option maxRecDepth 100000 in
theorem ac_init : Cond.initialized "java/lang/System" ∈ lw_g := in_g (t1_in (List.mem_of_getElem? (i := 19) rfl)) rfl
set_option maxRecDepth 100000 in
theorem mtX11_393 : mtW RX11 393 Lib.Math.abs.name Lib.Math.abs.code 1 (some .int) := ⟨in_g (t5_in (List.mem_of_getElem? (i := 29) rfl)) rfl, in_g (t4_in (List.mem_of_getElem? (i := 50) rfl)) rfl, in_g (t1_in (List.mem_of_getElem? (i := 18) rfl)) rfl, in_g (t4_in (List.mem_of_getElem? (i := 51) rfl)) rfl⟩
set_option maxRecDepth 100000 in
theorem mtX1_31 : mtW RX1 31 Lib.Math.max.name Lib.Math.max.code 2 (some .int) := ⟨in_g (t4_in (List.mem_of_getElem? (i := 181) rfl)) rfl, in_g (t4_in (List.mem_of_getElem? (i := 46) rfl)) rfl, in_g (t1_in (List.mem_of_getElem? (i := 18) rfl)) rfl, in_g (t4_in (List.mem_of_getElem? (i := 47) rfl)) rfl⟩
set_option maxRecDepth 100000 in
theorem mtX7_34 : mtW RX7 34 Lib.Math.min.name Lib.Math.min.code 2 (some .int) := ⟨in_g (t3_in (List.mem_of_getElem? (i := 224) rfl)) rfl, in_g (t3_in (List.mem_of_getElem? (i := 52) rfl)) rfl, in_g (t1_in (List.mem_of_getElem? (i := 18) rfl)) rfl, in_g (t3_in (List.mem_of_getElem? (i := 53) rfl)) rfl⟩
set_option maxRecDepth 100000 in
theorem mtX9_48 : mtW RX9 48 Lib.Math.max.name Lib.Math.max.code 2 (some .int) := ⟨in_g (t4_in (List.mem_of_getElem? (i := 45) rfl)) rfl, in_g (t4_in (List.mem_of_getElem? (i := 46) rfl)) rfl, in_g (t1_in (List.mem_of_getElem? (i := 18) rfl)) rfl, in_g (t4_in (List.mem_of_getElem? (i := 47) rfl)) rfl⟩
set_option maxRecDepth 100000 in
theorem mtX9_60 : mtW RX9 60 Lib.Math.abs.name Lib.Math.abs.code 1 (some .int) := ⟨in_g (t4_in (List.mem_of_getElem? (i := 49) rfl)) rfl, in_g (t4_in (List.mem_of_getElem? (i := 50) rfl)) rfl, in_g (t1_in (List.mem_of_getElem? (i := 18) rfl)) rfl, in_g (t4_in (List.mem_of_getElem? (i := 51) rfl)) rfl⟩
set_option maxRecDepth 100000 in
theorem mtX9_76 : mtW RX9 76 Lib.MathLoose.min_long.x Lib.MathLoose.min_long.code 4 (some .long) := ⟨in_g (t4_in (List.mem_of_getElem? (i := 58) rfl)) rfl, in_g (t4_in (List.mem_of_getElem? (i := 59) rfl)) rfl, in_g (t1_in (List.mem_of_getElem? (i := 18) rfl)) rfl, in_g (t4_in (List.mem_of_getElem? (i := 60) rfl)) rfl⟩
set_option maxRecDepth 100000 in
theorem mtX9_80 : mtW RX9 80 Lib.MathLoose.max_long.x Lib.MathLoose.max_long.code 4 (some .long) := ⟨in_g (t4_in (List.mem_of_getElem? (i := 61) rfl)) rfl, in_g (t4_in (List.mem_of_getElem? (i := 62) rfl)) rfl, in_g (t1_in (List.mem_of_getElem? (i := 18) rfl)) rfl, in_g (t4_in (List.mem_of_getElem? (i := 63) rfl)) rfl⟩
set_option maxRecDepth 100000 in
theorem mtX10_93 : mtW RX10 93 Lib.Math.max.name Lib.Math.max.code 2 (some .int) := ⟨in_g (t5_in (List.mem_of_getElem? (i := 20) rfl)) rfl, in_g (t4_in (List.mem_of_getElem? (i := 46) rfl)) rfl, in_g (t1_in (List.mem_of_getElem? (i := 18) rfl)) rfl, in_g (t4_in (List.mem_of_getElem? (i := 47) rfl)) rfl⟩
set_option maxRecDepth 100000 in
theorem cpwX1_21 : cpW RX1 21 := ⟨(in_g (t3_in (List.mem_of_getElem? (i := 190) rfl)) rfl : Cond.methodLink RX1 21 arraycopyName ∈ lw_g), ac_native, ac_static, ac_init⟩
set_option maxRecDepth 100000 in
theorem cpwX2_22 : cpW RX2 22 := ⟨(in_g (t6_in (List.mem_of_getElem? (i := 14) rfl)) rfl : Cond.methodLink RX2 22 arraycopyName ∈ lw_g), ac_native, ac_static, ac_init⟩
set_option maxRecDepth 100000 in
theorem cpwX4_46 : cpW RX4 46 := ⟨(in_g (t6_in (List.mem_of_getElem? (i := 25) rfl)) rfl : Cond.methodLink RX4 46 arraycopyName ∈ lw_g), ac_native, ac_static, ac_init⟩
set_option maxRecDepth 100000 in
theorem cpwX7_24 : cpW RX7 24 := ⟨(in_g (t6_in (List.mem_of_getElem? (i := 20) rfl)) rfl : Cond.methodLink RX7 24 arraycopyName ∈ lw_g), ac_native, ac_static, ac_init⟩
set_option maxRecDepth 100000 in
theorem cpwX10_108 : cpW RX10 108 := ⟨(in_g (t5_in (List.mem_of_getElem? (i := 82) rfl)) rfl : Cond.methodLink RX10 108 arraycopyName ∈ lw_g), ac_native, ac_static, ac_init⟩
section
set_option maxRecDepth 100000 in
theorem wd0 : Cond.selects RX1 yX1_settle yX1_settle ∈ lw_g := in_g (tp_in (List.mem_of_getElem? (i := 0) rfl)) rfl
set_option maxRecDepth 100000 in
theorem wd1 : Cond.selects RX8 yX8_byteAt yX8_byteAt ∈ lw_g := in_g (tp_in (List.mem_of_getElem? (i := 1) rfl)) rfl
set_option maxRecDepth 100000 in
theorem wd36 : Cond.selects RX1 yX1_entry yX1_entry ∈ lw_g := in_g (tp_in (List.mem_of_getElem? (i := 36) rfl)) rfl
set_option maxRecDepth 100000 in
theorem wd38 : Cond.selects RX10 yX10_bestAfter yX10_bestAfter ∈ lw_g := in_g (tp_in (List.mem_of_getElem? (i := 38) rfl)) rfl
set_option maxRecDepth 100000 in
theorem wd40 : Cond.selects RX10 yX10_comeTo yX10_comeTo ∈ lw_g := in_g (tp_in (List.mem_of_getElem? (i := 40) rfl)) rfl
set_option maxRecDepth 100000 in
theorem wd41 : Cond.selects RX10 yX10_sumUp yX10_sumUp ∈ lw_g := in_g (tp_in (List.mem_of_getElem? (i := 41) rfl)) rfl
set_option maxRecDepth 100000 in
theorem wd42 : Cond.selects RX2 yX2_parts yX2_parts ∈ lw_g := in_g (tp_in (List.mem_of_getElem? (i := 42) rfl)) rfl
set_option maxRecDepth 100000 in
theorem wd45 : Cond.selects RX4 yX4_gain yX4_gain ∈ lw_g := in_g (tp_in (List.mem_of_getElem? (i := 45) rfl)) rfl
set_option maxRecDepth 100000 in
theorem wd128 : Cond.initialized RX11 ∈ lw_g := in_g (t1_in (List.mem_of_getElem? (i := 1) rfl)) rfl
set_option maxRecDepth 100000 in
theorem wd130 : Cond.initialized RX2 ∈ lw_g := in_g (t1_in (List.mem_of_getElem? (i := 3) rfl)) rfl
set_option maxRecDepth 100000 in
theorem wd131 : Cond.initialized RX1 ∈ lw_g := in_g (t1_in (List.mem_of_getElem? (i := 4) rfl)) rfl
set_option maxRecDepth 100000 in
theorem wd132 : Cond.initialized RX7 ∈ lw_g := in_g (t1_in (List.mem_of_getElem? (i := 5) rfl)) rfl
set_option maxRecDepth 100000 in
theorem wd133 : Cond.initialized RX4 ∈ lw_g := in_g (t1_in (List.mem_of_getElem? (i := 6) rfl)) rfl
set_option maxRecDepth 100000 in
theorem wd134 : Cond.initialized RX8 ∈ lw_g := in_g (t1_in (List.mem_of_getElem? (i := 7) rfl)) rfl
set_option maxRecDepth 100000 in
theorem wd138 : Cond.initialized RX10 ∈ lw_g := in_g (t1_in (List.mem_of_getElem? (i := 11) rfl)) rfl
set_option maxRecDepth 100000 in
theorem wd139 : Cond.initialized RX9 ∈ lw_g := in_g (t1_in (List.mem_of_getElem? (i := 12) rfl)) rfl
set_option maxRecDepth 100000 in
theorem wd147 : Cond.initialized RJ6 ∈ lw_g := in_g (t1_in (List.mem_of_getElem? (i := 20) rfl)) rfl
set_option maxRecDepth 100000 in
theorem wd168 : Cond.fieldLink RX2 9 "WolfsHead$Lands" "count" "I" ∈ lw_g := in_g (t1_in (List.mem_of_getElem? (i := 41) rfl)) rfl
set_option maxRecDepth 100000 in
theorem wd169 : Cond.fieldLink RX10 51 "WolfsHead$Lands" "count" "I" ∈ lw_g := in_g (t1_in (List.mem_of_getElem? (i := 42) rfl)) rfl
set_option maxRecDepth 100000 in
theorem wd171 : Cond.fieldLink RX2 15 "WolfsHead$Lands" "forests" "[I" ∈ lw_g := in_g (t1_in (List.mem_of_getElem? (i := 44) rfl)) rfl
set_option maxRecDepth 100000 in
theorem wd172 : Cond.fieldLink RX2 19 "WolfsHead$Lands" "roads" "[I" ∈ lw_g := in_g (t1_in (List.mem_of_getElem? (i := 45) rfl)) rfl
set_option maxRecDepth 100000 in
theorem wd187 : Cond.fieldLink RX1 11 "WolfsHead$Folk" "row" "[I" ∈ lw_g := in_g (t1_in (List.mem_of_getElem? (i := 60) rfl)) rfl
set_option maxRecDepth 100000 in
theorem wd188 : Cond.fieldLink RX1 15 "WolfsHead$Folk" "fears" "[I" ∈ lw_g := in_g (t1_in (List.mem_of_getElem? (i := 61) rfl)) rfl
set_option maxRecDepth 100000 in
theorem wd189 : Cond.fieldLink RX1 18 "WolfsHead$Folk" "asTold" "[I" ∈ lw_g := in_g (t1_in (List.mem_of_getElem? (i := 62) rfl)) rfl
set_option maxRecDepth 100000 in
theorem wd203 : Cond.fieldLink RX7 11 "WolfsHead$Steps" "count" "I" ∈ lw_g := in_g (t1_in (List.mem_of_getElem? (i := 76) rfl)) rfl
set_option maxRecDepth 100000 in
theorem wd205 : Cond.fieldLink RX7 15 "WolfsHead$Steps" "next" "I" ∈ lw_g := in_g (t1_in (List.mem_of_getElem? (i := 78) rfl)) rfl
set_option maxRecDepth 100000 in
theorem wd206 : Cond.fieldLink RX7 20 "WolfsHead$Steps" "store" "[I" ∈ lw_g := in_g (t1_in (List.mem_of_getElem? (i := 79) rfl)) rfl
set_option maxRecDepth 100000 in
theorem wd220 : Cond.fieldLink RX4 9 "WolfsHead$Notes" "calls" "I" ∈ lw_g := in_g (t1_in (List.mem_of_getElem? (i := 93) rfl)) rfl
set_option maxRecDepth 100000 in
theorem wd221 : Cond.fieldLink RX10 105 "WolfsHead$Notes" "calls" "I" ∈ lw_g := in_g (t1_in (List.mem_of_getElem? (i := 94) rfl)) rfl
set_option maxRecDepth 100000 in
theorem wd223 : Cond.fieldLink RX4 15 "WolfsHead$Notes" "bordering" "I" ∈ lw_g := in_g (t1_in (List.mem_of_getElem? (i := 96) rfl)) rfl
set_option maxRecDepth 100000 in
theorem wd225 : Cond.fieldLink RX4 18 "WolfsHead$Notes" "reportCount" "I" ∈ lw_g := in_g (t1_in (List.mem_of_getElem? (i := 98) rfl)) rfl
set_option maxRecDepth 100000 in
theorem wd227 : Cond.fieldLink RX4 21 "WolfsHead$Notes" "unlikes" "I" ∈ lw_g := in_g (t1_in (List.mem_of_getElem? (i := 100) rfl)) rfl
set_option maxRecDepth 100000 in
theorem wd229 : Cond.fieldLink RX4 24 "WolfsHead$Notes" "payments" "I" ∈ lw_g := in_g (t1_in (List.mem_of_getElem? (i := 102) rfl)) rfl
set_option maxRecDepth 100000 in
theorem wd231 : Cond.fieldLink RX4 27 "WolfsHead$Notes" "callLands" "[I" ∈ lw_g := in_g (t1_in (List.mem_of_getElem? (i := 104) rfl)) rfl
set_option maxRecDepth 100000 in
theorem wd232 : Cond.fieldLink RX4 31 "WolfsHead$Notes" "unlikeTo" "[I" ∈ lw_g := in_g (t1_in (List.mem_of_getElem? (i := 105) rfl)) rfl
set_option maxRecDepth 100000 in
theorem wd233 : Cond.fieldLink RX4 34 "WolfsHead$Notes" "owners" "[I" ∈ lw_g := in_g (t1_in (List.mem_of_getElem? (i := 106) rfl)) rfl
set_option maxRecDepth 100000 in
theorem wd234 : Cond.fieldLink RX4 37 "WolfsHead$Notes" "gains" "[I" ∈ lw_g := in_g (t1_in (List.mem_of_getElem? (i := 107) rfl)) rfl
set_option maxRecDepth 100000 in
theorem wd235 : Cond.fieldLink RX4 40 "WolfsHead$Notes" "payers" "[I" ∈ lw_g := in_g (t1_in (List.mem_of_getElem? (i := 108) rfl)) rfl
set_option maxRecDepth 100000 in
theorem wd236 : Cond.fieldLink RX4 43 "WolfsHead$Notes" "prices" "[I" ∈ lw_g := in_g (t1_in (List.mem_of_getElem? (i := 109) rfl)) rfl
set_option maxRecDepth 100000 in
theorem wd260 : Cond.fieldLink RX6 12 "WolfsHead$Realm" "lands" "LWolfsHead$Lands;" ∈ lw_g := in_g (t1_in (List.mem_of_getElem? (i := 133) rfl)) rfl
set_option maxRecDepth 100000 in
theorem wd265 : Cond.fieldLink RX6 21 "WolfsHead$Realm" "folk" "LWolfsHead$Folk;" ∈ lw_g := in_g (t1_in (List.mem_of_getElem? (i := 138) rfl)) rfl
set_option maxRecDepth 100000 in
theorem wd268 : Cond.fieldLink RX6 28 "WolfsHead$Realm" "taken" "LWolfsHead$Steps;" ∈ lw_g := in_g (t1_in (List.mem_of_getElem? (i := 141) rfl)) rfl
set_option maxRecDepth 100000 in
theorem wd270 : Cond.fieldLink RX6 35 "WolfsHead$Realm" "notes" "LWolfsHead$Notes;" ∈ lw_g := in_g (t1_in (List.mem_of_getElem? (i := 143) rfl)) rfl
set_option maxRecDepth 100000 in
theorem wd272 : Cond.fieldLink RX6 39 "WolfsHead$Realm" "texts" "I" ∈ lw_g := in_g (t1_in (List.mem_of_getElem? (i := 145) rfl)) rfl
set_option maxRecDepth 100000 in
theorem wd275 : Cond.fieldLink RX6 43 "WolfsHead$Realm" "ruling" "I" ∈ lw_g := in_g (t1_in (List.mem_of_getElem? (i := 148) rfl)) rfl
set_option maxRecDepth 100000 in
theorem wd300 : Cond.fieldLink RX8 9 "WolfsHead$Tape" "length" "I" ∈ lw_g := in_g (t1_in (List.mem_of_getElem? (i := 173) rfl)) rfl
set_option maxRecDepth 100000 in
theorem wd302 : Cond.fieldLink RX8 15 "WolfsHead$Tape" "tokens" "I" ∈ lw_g := in_g (t1_in (List.mem_of_getElem? (i := 175) rfl)) rfl
set_option maxRecDepth 100000 in
theorem wd304 : Cond.fieldLink RX8 18 "WolfsHead$Tape" "bytes" "[B" ∈ lw_g := in_g (t1_in (List.mem_of_getElem? (i := 177) rfl)) rfl
set_option maxRecDepth 100000 in
theorem wd305 : Cond.fieldLink RX8 22 "WolfsHead$Tape" "kinds" "[I" ∈ lw_g := in_g (t1_in (List.mem_of_getElem? (i := 178) rfl)) rfl
set_option maxRecDepth 100000 in
theorem wd306 : Cond.fieldLink RX8 26 "WolfsHead$Tape" "places" "[I" ∈ lw_g := in_g (t1_in (List.mem_of_getElem? (i := 179) rfl)) rfl
set_option maxRecDepth 100000 in
theorem wd307 : Cond.fieldLink RX8 29 "WolfsHead$Tape" "numbers" "[I" ∈ lw_g := in_g (t1_in (List.mem_of_getElem? (i := 180) rfl)) rfl
set_option maxRecDepth 100000 in
theorem wd392 : Cond.fieldLink RX10 13 "WolfsHead$Ways" "upper" "I" ∈ lw_g := in_g (t2_in (List.mem_of_getElem? (i := 25) rfl)) rfl
set_option maxRecDepth 100000 in
theorem wd396 : Cond.fieldLink RX10 20 "WolfsHead$Ways" "gone" "I" ∈ lw_g := in_g (t2_in (List.mem_of_getElem? (i := 29) rfl)) rfl
set_option maxRecDepth 100000 in
theorem wd398 : Cond.fieldLink RX10 23 "WolfsHead$Ways" "may" "I" ∈ lw_g := in_g (t2_in (List.mem_of_getElem? (i := 31) rfl)) rfl
set_option maxRecDepth 100000 in
theorem wd400 : Cond.fieldLink RX10 26 "WolfsHead$Ways" "must" "I" ∈ lw_g := in_g (t2_in (List.mem_of_getElem? (i := 33) rfl)) rfl
set_option maxRecDepth 100000 in
theorem wd402 : Cond.fieldLink RX10 29 "WolfsHead$Ways" "lives" "[I" ∈ lw_g := in_g (t2_in (List.mem_of_getElem? (i := 35) rfl)) rfl
set_option maxRecDepth 100000 in
theorem wd403 : Cond.fieldLink RX10 33 "WolfsHead$Ways" "best" "[I" ∈ lw_g := in_g (t2_in (List.mem_of_getElem? (i := 36) rfl)) rfl
set_option maxRecDepth 100000 in
theorem wd404 : Cond.fieldLink RX10 36 "WolfsHead$Ways" "way" "[I" ∈ lw_g := in_g (t2_in (List.mem_of_getElem? (i := 37) rfl)) rfl
set_option maxRecDepth 100000 in
theorem wd405 : Cond.fieldLink RX10 39 "WolfsHead$Ways" "ends" "[I" ∈ lw_g := in_g (t2_in (List.mem_of_getElem? (i := 38) rfl)) rfl
set_option maxRecDepth 100000 in
theorem wd406 : Cond.fieldLink RX10 42 "WolfsHead$Ways" "begins" "[I" ∈ lw_g := in_g (t2_in (List.mem_of_getElem? (i := 39) rfl)) rfl
set_option maxRecDepth 100000 in
theorem wd433 : Cond.fieldLink RX9 11 "WolfsHead$Text" "clauses" "I" ∈ lw_g := in_g (t2_in (List.mem_of_getElem? (i := 66) rfl)) rfl
set_option maxRecDepth 100000 in
theorem wd435 : Cond.fieldLink RX9 17 "WolfsHead$Text" "length" "I" ∈ lw_g := in_g (t2_in (List.mem_of_getElem? (i := 68) rfl)) rfl
set_option maxRecDepth 100000 in
theorem wd436 : Cond.fieldLink RX9 20 "WolfsHead$Text" "parts" "I" ∈ lw_g := in_g (t2_in (List.mem_of_getElem? (i := 69) rfl)) rfl
set_option maxRecDepth 100000 in
theorem wd437 : Cond.fieldLink RX9 23 "WolfsHead$Text" "code" "[I" ∈ lw_g := in_g (t2_in (List.mem_of_getElem? (i := 70) rfl)) rfl
set_option maxRecDepth 100000 in
theorem wd438 : Cond.fieldLink RX9 27 "WolfsHead$Text" "starts" "[I" ∈ lw_g := in_g (t2_in (List.mem_of_getElem? (i := 71) rfl)) rfl
set_option maxRecDepth 100000 in
theorem wd439 : Cond.fieldLink RX9 30 "WolfsHead$Text" "ends" "[I" ∈ lw_g := in_g (t2_in (List.mem_of_getElem? (i := 72) rfl)) rfl
set_option maxRecDepth 100000 in
theorem wd440 : Cond.fieldLink RX9 33 "WolfsHead$Text" "rows" "[I" ∈ lw_g := in_g (t2_in (List.mem_of_getElem? (i := 73) rfl)) rfl
set_option maxRecDepth 100000 in
theorem wd515 : Cond.methodLink RX2 28 yX2_told ∈ lw_g := in_g (t2_in (List.mem_of_getElem? (i := 148) rfl)) rfl
set_option maxRecDepth 100000 in
theorem wd516 : Cond.instanceMethod yX2_told ∈ lw_g := in_g (t2_in (List.mem_of_getElem? (i := 149) rfl)) rfl
set_option maxRecDepth 100000 in
theorem wd517 : Cond.selects RX2 yX2_told yX2_told ∈ lw_g := in_g (t2_in (List.mem_of_getElem? (i := 150) rfl)) rfl
set_option maxRecDepth 100000 in
theorem wd518 : Cond.code yX2_told cX2_told 2 (some .boolean) ∈ lw_g := in_g (t2_in (List.mem_of_getElem? (i := 151) rfl)) rfl
set_option maxRecDepth 100000 in
theorem wd519 : Cond.methodLink RX2 32 yX2_joined ∈ lw_g := in_g (t2_in (List.mem_of_getElem? (i := 152) rfl)) rfl
set_option maxRecDepth 100000 in
theorem wd520 : Cond.instanceMethod yX2_joined ∈ lw_g := in_g (t2_in (List.mem_of_getElem? (i := 153) rfl)) rfl
set_option maxRecDepth 100000 in
theorem wd521 : Cond.selects RX2 yX2_joined yX2_joined ∈ lw_g := in_g (t2_in (List.mem_of_getElem? (i := 154) rfl)) rfl
set_option maxRecDepth 100000 in
theorem wd522 : Cond.code yX2_joined cX2_joined 3 (some .boolean) ∈ lw_g := in_g (t2_in (List.mem_of_getElem? (i := 155) rfl)) rfl
set_option maxRecDepth 100000 in
theorem wd532 : Cond.methodLink RX1 27 yX1_count ∈ lw_g := in_g (t2_in (List.mem_of_getElem? (i := 165) rfl)) rfl
set_option maxRecDepth 100000 in
theorem wd533 : Cond.instanceMethod yX1_count ∈ lw_g := in_g (t2_in (List.mem_of_getElem? (i := 166) rfl)) rfl
set_option maxRecDepth 100000 in
theorem wd534 : Cond.selects RX1 yX1_count yX1_count ∈ lw_g := in_g (t2_in (List.mem_of_getElem? (i := 167) rfl)) rfl
set_option maxRecDepth 100000 in
theorem wd535 : Cond.code yX1_count cX1_count 1 (some .int) ∈ lw_g := in_g (t2_in (List.mem_of_getElem? (i := 168) rfl)) rfl
set_option maxRecDepth 100000 in
theorem wd536 : Cond.methodLink RX1 37 yX1_settle ∈ lw_g := in_g (t2_in (List.mem_of_getElem? (i := 169) rfl)) rfl
set_option maxRecDepth 100000 in
theorem wd538 : Cond.instanceMethod yX1_settle ∈ lw_g := in_g (t2_in (List.mem_of_getElem? (i := 171) rfl)) rfl
set_option maxRecDepth 100000 in
theorem wd539 : Cond.code yX1_settle cX1_settle 2 none ∈ lw_g := in_g (t2_in (List.mem_of_getElem? (i := 172) rfl)) rfl
set_option maxRecDepth 100000 in
theorem wd540 : Cond.methodLink RX1 41 yX1_told ∈ lw_g := in_g (t2_in (List.mem_of_getElem? (i := 173) rfl)) rfl
set_option maxRecDepth 100000 in
theorem wd541 : Cond.instanceMethod yX1_told ∈ lw_g := in_g (t2_in (List.mem_of_getElem? (i := 174) rfl)) rfl
set_option maxRecDepth 100000 in
theorem wd542 : Cond.selects RX1 yX1_told yX1_told ∈ lw_g := in_g (t2_in (List.mem_of_getElem? (i := 175) rfl)) rfl
set_option maxRecDepth 100000 in
theorem wd543 : Cond.code yX1_told cX1_told 2 (some .boolean) ∈ lw_g := in_g (t2_in (List.mem_of_getElem? (i := 176) rfl)) rfl
set_option maxRecDepth 100000 in
theorem wd544 : Cond.methodLink RX1 45 yX1_set ∈ lw_g := in_g (t2_in (List.mem_of_getElem? (i := 177) rfl)) rfl
set_option maxRecDepth 100000 in
theorem wd545 : Cond.instanceMethod yX1_set ∈ lw_g := in_g (t2_in (List.mem_of_getElem? (i := 178) rfl)) rfl
set_option maxRecDepth 100000 in
theorem wd546 : Cond.selects RX1 yX1_set yX1_set ∈ lw_g := in_g (t2_in (List.mem_of_getElem? (i := 179) rfl)) rfl
set_option maxRecDepth 100000 in
theorem wd547 : Cond.code yX1_set cX1_set 4 none ∈ lw_g := in_g (t2_in (List.mem_of_getElem? (i := 180) rfl)) rfl
set_option maxRecDepth 100000 in
theorem wd580 : Cond.methodLink RX8 32 yX8_byteAt ∈ lw_g := in_g (t2_in (List.mem_of_getElem? (i := 213) rfl)) rfl
set_option maxRecDepth 100000 in
theorem wd582 : Cond.instanceMethod yX8_byteAt ∈ lw_g := in_g (t2_in (List.mem_of_getElem? (i := 215) rfl)) rfl
set_option maxRecDepth 100000 in
theorem wd583 : Cond.code yX8_byteAt cX8_byteAt 2 (some .int) ∈ lw_g := in_g (t2_in (List.mem_of_getElem? (i := 216) rfl)) rfl
set_option maxRecDepth 100000 in
theorem wd686 : Cond.instanceMethod yX9_begun ∈ lw_g := in_g (t3_in (List.mem_of_getElem? (i := 79) rfl)) rfl
set_option maxRecDepth 100000 in
theorem wd687 : Cond.selects RX9 yX9_begun yX9_begun ∈ lw_g := in_g (t3_in (List.mem_of_getElem? (i := 80) rfl)) rfl
set_option maxRecDepth 100000 in
theorem wd688 : Cond.code yX9_begun cX9_begun 2 (some .boolean) ∈ lw_g := in_g (t3_in (List.mem_of_getElem? (i := 81) rfl)) rfl
set_option maxRecDepth 100000 in
theorem wd693 : Cond.methodLink RX9 36 yX9_addPart ∈ lw_g := in_g (t3_in (List.mem_of_getElem? (i := 86) rfl)) rfl
set_option maxRecDepth 100000 in
theorem wd694 : Cond.instanceMethod yX9_addPart ∈ lw_g := in_g (t3_in (List.mem_of_getElem? (i := 87) rfl)) rfl
set_option maxRecDepth 100000 in
theorem wd695 : Cond.selects RX9 yX9_addPart yX9_addPart ∈ lw_g := in_g (t3_in (List.mem_of_getElem? (i := 88) rfl)) rfl
set_option maxRecDepth 100000 in
theorem wd696 : Cond.code yX9_addPart cX9_addPart 3 none ∈ lw_g := in_g (t3_in (List.mem_of_getElem? (i := 89) rfl)) rfl
set_option maxRecDepth 100000 in
theorem wd728 : Cond.instanceMethod yX9_put ∈ lw_g := in_g (t3_in (List.mem_of_getElem? (i := 121) rfl)) rfl
set_option maxRecDepth 100000 in
theorem wd729 : Cond.selects RX9 yX9_put yX9_put ∈ lw_g := in_g (t3_in (List.mem_of_getElem? (i := 122) rfl)) rfl
set_option maxRecDepth 100000 in
theorem wd730 : Cond.code yX9_put cX9_put 3 none ∈ lw_g := in_g (t3_in (List.mem_of_getElem? (i := 123) rfl)) rfl
set_option maxRecDepth 100000 in
theorem wd755 : Cond.methodLink RX9 40 yX9_put ∈ lw_g := in_g (t3_in (List.mem_of_getElem? (i := 148) rfl)) rfl
set_option maxRecDepth 100000 in
theorem wd793 : Cond.methodLink RX7 30 yX1_copyTo ∈ lw_g := in_g (t3_in (List.mem_of_getElem? (i := 186) rfl)) rfl
set_option maxRecDepth 100000 in
theorem wd794 : Cond.instanceMethod yX1_copyTo ∈ lw_g := in_g (t3_in (List.mem_of_getElem? (i := 187) rfl)) rfl
set_option maxRecDepth 100000 in
theorem wd795 : Cond.selects RX1 yX1_copyTo yX1_copyTo ∈ lw_g := in_g (t3_in (List.mem_of_getElem? (i := 188) rfl)) rfl
set_option maxRecDepth 100000 in
theorem wd796 : Cond.code yX1_copyTo cX1_copyTo 3 none ∈ lw_g := in_g (t3_in (List.mem_of_getElem? (i := 189) rfl)) rfl
set_option maxRecDepth 100000 in
theorem wd810 : Cond.instanceMethod yX1_get ∈ lw_g := in_g (t3_in (List.mem_of_getElem? (i := 203) rfl)) rfl
set_option maxRecDepth 100000 in
theorem wd811 : Cond.selects RX1 yX1_get yX1_get ∈ lw_g := in_g (t3_in (List.mem_of_getElem? (i := 204) rfl)) rfl
set_option maxRecDepth 100000 in
theorem wd812 : Cond.code yX1_get cX1_get 4 (some .int) ∈ lw_g := in_g (t3_in (List.mem_of_getElem? (i := 205) rfl)) rfl
set_option maxRecDepth 100000 in
theorem wd869 : Cond.instanceMethod yX1_fearOf ∈ lw_g := in_g (t4_in (List.mem_of_getElem? (i := 22) rfl)) rfl
set_option maxRecDepth 100000 in
theorem wd870 : Cond.selects RX1 yX1_fearOf yX1_fearOf ∈ lw_g := in_g (t4_in (List.mem_of_getElem? (i := 23) rfl)) rfl
set_option maxRecDepth 100000 in
theorem wd871 : Cond.code yX1_fearOf cX1_fearOf 2 (some .int) ∈ lw_g := in_g (t4_in (List.mem_of_getElem? (i := 24) rfl)) rfl
set_option maxRecDepth 100000 in
theorem wd882 : Cond.static yJ6_bitCount_0f7a4 ∈ lw_g := in_g (t4_in (List.mem_of_getElem? (i := 35) rfl)) rfl
set_option maxRecDepth 100000 in
theorem wd883 : Cond.code yJ6_bitCount_0f7a4 cJ6_bitCount_0f7a4 1 (some .int) ∈ lw_g := in_g (t4_in (List.mem_of_getElem? (i := 36) rfl)) rfl
set_option maxRecDepth 100000 in
theorem wd891 : Cond.methodLink RX9 44 yX9_begun ∈ lw_g := in_g (t4_in (List.mem_of_getElem? (i := 44) rfl)) rfl
set_option maxRecDepth 100000 in
theorem wd895 : Cond.methodLink RX9 54 yX1_fearOf ∈ lw_g := in_g (t4_in (List.mem_of_getElem? (i := 48) rfl)) rfl
set_option maxRecDepth 100000 in
theorem wd899 : Cond.methodLink RX9 63 yJ6_bitCount_0f7a4 ∈ lw_g := in_g (t4_in (List.mem_of_getElem? (i := 52) rfl)) rfl
set_option maxRecDepth 100000 in
theorem wd900 : Cond.methodLink RX9 68 yX9_ofTwo ∈ lw_g := in_g (t4_in (List.mem_of_getElem? (i := 53) rfl)) rfl
set_option maxRecDepth 100000 in
theorem wd901 : Cond.static yX9_ofTwo ∈ lw_g := in_g (t4_in (List.mem_of_getElem? (i := 54) rfl)) rfl
set_option maxRecDepth 100000 in
theorem wd902 : Cond.code yX9_ofTwo cX9_ofTwo 5 (some .long) ∈ lw_g := in_g (t4_in (List.mem_of_getElem? (i := 55) rfl)) rfl
set_option maxRecDepth 100000 in
theorem wd921 : Cond.methodLink RX1 52 yX1_stir ∈ lw_g := in_g (t4_in (List.mem_of_getElem? (i := 74) rfl)) rfl
set_option maxRecDepth 100000 in
theorem wd922 : Cond.instanceMethod yX1_stir ∈ lw_g := in_g (t4_in (List.mem_of_getElem? (i := 75) rfl)) rfl
set_option maxRecDepth 100000 in
theorem wd923 : Cond.selects RX1 yX1_stir yX1_stir ∈ lw_g := in_g (t4_in (List.mem_of_getElem? (i := 76) rfl)) rfl
set_option maxRecDepth 100000 in
theorem wd924 : Cond.code yX1_stir cX1_stir 1 none ∈ lw_g := in_g (t4_in (List.mem_of_getElem? (i := 77) rfl)) rfl
set_option maxRecDepth 100000 in
theorem wd1024 : Cond.methodLink RX7 40 yX1_takeFrom ∈ lw_g := in_g (t4_in (List.mem_of_getElem? (i := 177) rfl)) rfl
set_option maxRecDepth 100000 in
theorem wd1025 : Cond.instanceMethod yX1_takeFrom ∈ lw_g := in_g (t4_in (List.mem_of_getElem? (i := 178) rfl)) rfl
set_option maxRecDepth 100000 in
theorem wd1026 : Cond.selects RX1 yX1_takeFrom yX1_takeFrom ∈ lw_g := in_g (t4_in (List.mem_of_getElem? (i := 179) rfl)) rfl
set_option maxRecDepth 100000 in
theorem wd1027 : Cond.code yX1_takeFrom cX1_takeFrom 6 none ∈ lw_g := in_g (t4_in (List.mem_of_getElem? (i := 180) rfl)) rfl
set_option maxRecDepth 100000 in
theorem wd1045 : Cond.instanceMethod yX2_near ∈ lw_g := in_g (t4_in (List.mem_of_getElem? (i := 198) rfl)) rfl
set_option maxRecDepth 100000 in
theorem wd1046 : Cond.selects RX2 yX2_near yX2_near ∈ lw_g := in_g (t4_in (List.mem_of_getElem? (i := 199) rfl)) rfl
set_option maxRecDepth 100000 in
theorem wd1047 : Cond.code yX2_near cX2_near 2 (some .int) ∈ lw_g := in_g (t4_in (List.mem_of_getElem? (i := 200) rfl)) rfl
set_option maxRecDepth 100000 in
theorem wd1064 : Cond.methodLink RX1 55 yX1_entry ∈ lw_g := in_g (t4_in (List.mem_of_getElem? (i := 217) rfl)) rfl
set_option maxRecDepth 100000 in
theorem wd1066 : Cond.instanceMethod yX1_entry ∈ lw_g := in_g (t4_in (List.mem_of_getElem? (i := 219) rfl)) rfl
set_option maxRecDepth 100000 in
theorem wd1067 : Cond.code yX1_entry cX1_entry 2 (some .int) ∈ lw_g := in_g (t4_in (List.mem_of_getElem? (i := 220) rfl)) rfl
set_option maxRecDepth 100000 in
theorem wd1081 : Cond.instanceMethod yX1_become ∈ lw_g := in_g (t4_in (List.mem_of_getElem? (i := 234) rfl)) rfl
set_option maxRecDepth 100000 in
theorem wd1082 : Cond.selects RX1 yX1_become yX1_become ∈ lw_g := in_g (t4_in (List.mem_of_getElem? (i := 235) rfl)) rfl
set_option maxRecDepth 100000 in
theorem wd1083 : Cond.code yX1_become cX1_become 2 none ∈ lw_g := in_g (t4_in (List.mem_of_getElem? (i := 236) rfl)) rfl
set_option maxRecDepth 100000 in
theorem wd1102 : Cond.methodLink RX10 86 yX2_near ∈ lw_g := in_g (t5_in (List.mem_of_getElem? (i := 15) rfl)) rfl
set_option maxRecDepth 100000 in
theorem wd1103 : Cond.methodLink RX10 90 yX10_bestAfter ∈ lw_g := in_g (t5_in (List.mem_of_getElem? (i := 16) rfl)) rfl
set_option maxRecDepth 100000 in
theorem wd1105 : Cond.instanceMethod yX10_bestAfter ∈ lw_g := in_g (t5_in (List.mem_of_getElem? (i := 18) rfl)) rfl
set_option maxRecDepth 100000 in
theorem wd1106 : Cond.code yX10_bestAfter cX10_bestAfter 4 (some .int) ∈ lw_g := in_g (t5_in (List.mem_of_getElem? (i := 19) rfl)) rfl
set_option maxRecDepth 100000 in
theorem wd1114 : Cond.static yX11_commonDivisor ∈ lw_g := in_g (t5_in (List.mem_of_getElem? (i := 27) rfl)) rfl
set_option maxRecDepth 100000 in
theorem wd1115 : Cond.code yX11_commonDivisor cX11_commonDivisor 6 (some .int) ∈ lw_g := in_g (t5_in (List.mem_of_getElem? (i := 28) rfl)) rfl
set_option maxRecDepth 100000 in
theorem wd1129 : Cond.methodLink RX2 36 yX2_spread ∈ lw_g := in_g (t5_in (List.mem_of_getElem? (i := 42) rfl)) rfl
set_option maxRecDepth 100000 in
theorem wd1130 : Cond.instanceMethod yX2_spread ∈ lw_g := in_g (t5_in (List.mem_of_getElem? (i := 43) rfl)) rfl
set_option maxRecDepth 100000 in
theorem wd1131 : Cond.selects RX2 yX2_spread yX2_spread ∈ lw_g := in_g (t5_in (List.mem_of_getElem? (i := 44) rfl)) rfl
set_option maxRecDepth 100000 in
theorem wd1132 : Cond.code yX2_spread cX2_spread 4 (some .int) ∈ lw_g := in_g (t5_in (List.mem_of_getElem? (i := 45) rfl)) rfl
set_option maxRecDepth 100000 in
theorem wd1139 : Cond.instanceMethod yX2_all ∈ lw_g := in_g (t5_in (List.mem_of_getElem? (i := 52) rfl)) rfl
set_option maxRecDepth 100000 in
theorem wd1140 : Cond.selects RX2 yX2_all yX2_all ∈ lw_g := in_g (t5_in (List.mem_of_getElem? (i := 53) rfl)) rfl
set_option maxRecDepth 100000 in
theorem wd1141 : Cond.code yX2_all cX2_all 1 (some .int) ∈ lw_g := in_g (t5_in (List.mem_of_getElem? (i := 54) rfl)) rfl
set_option maxRecDepth 100000 in
theorem wd1162 : Cond.methodLink RX10 98 yX10_clear ∈ lw_g := in_g (t5_in (List.mem_of_getElem? (i := 75) rfl)) rfl
set_option maxRecDepth 100000 in
theorem wd1163 : Cond.static yX10_clear ∈ lw_g := in_g (t5_in (List.mem_of_getElem? (i := 76) rfl)) rfl
set_option maxRecDepth 100000 in
theorem wd1164 : Cond.code yX10_clear cX10_clear 2 none ∈ lw_g := in_g (t5_in (List.mem_of_getElem? (i := 77) rfl)) rfl
set_option maxRecDepth 100000 in
theorem wd1165 : Cond.methodLink RX10 102 yX4_callLand ∈ lw_g := in_g (t5_in (List.mem_of_getElem? (i := 78) rfl)) rfl
set_option maxRecDepth 100000 in
theorem wd1166 : Cond.instanceMethod yX4_callLand ∈ lw_g := in_g (t5_in (List.mem_of_getElem? (i := 79) rfl)) rfl
set_option maxRecDepth 100000 in
theorem wd1167 : Cond.selects RX4 yX4_callLand yX4_callLand ∈ lw_g := in_g (t5_in (List.mem_of_getElem? (i := 80) rfl)) rfl
set_option maxRecDepth 100000 in
theorem wd1168 : Cond.code yX4_callLand cX4_callLand 2 (some .int) ∈ lw_g := in_g (t5_in (List.mem_of_getElem? (i := 81) rfl)) rfl
set_option maxRecDepth 100000 in
theorem wd1170 : Cond.methodLink RX10 114 yX10_comeTo ∈ lw_g := in_g (t5_in (List.mem_of_getElem? (i := 83) rfl)) rfl
set_option maxRecDepth 100000 in
theorem wd1172 : Cond.instanceMethod yX10_comeTo ∈ lw_g := in_g (t5_in (List.mem_of_getElem? (i := 85) rfl)) rfl
set_option maxRecDepth 100000 in
theorem wd1173 : Cond.code yX10_comeTo cX10_comeTo 8 none ∈ lw_g := in_g (t5_in (List.mem_of_getElem? (i := 86) rfl)) rfl
set_option maxRecDepth 100000 in
theorem wd1174 : Cond.methodLink RX10 118 yX10_sumUp ∈ lw_g := in_g (t5_in (List.mem_of_getElem? (i := 87) rfl)) rfl
set_option maxRecDepth 100000 in
theorem wd1176 : Cond.instanceMethod yX10_sumUp ∈ lw_g := in_g (t5_in (List.mem_of_getElem? (i := 89) rfl)) rfl
set_option maxRecDepth 100000 in
theorem wd1177 : Cond.code yX10_sumUp cX10_sumUp 4 none ∈ lw_g := in_g (t5_in (List.mem_of_getElem? (i := 90) rfl)) rfl
set_option maxRecDepth 100000 in
theorem wd1178 : Cond.methodLink RX10 122 yJ6_bitCount_0f7a4 ∈ lw_g := in_g (t5_in (List.mem_of_getElem? (i := 91) rfl)) rfl
set_option maxRecDepth 100000 in
theorem wd1187 : Cond.methodLink RX2 40 yX2_all ∈ lw_g := in_g (t5_in (List.mem_of_getElem? (i := 100) rfl)) rfl
set_option maxRecDepth 100000 in
theorem wd1188 : Cond.methodLink RX2 44 yJ6_bitCount_0f7a4 ∈ lw_g := in_g (t5_in (List.mem_of_getElem? (i := 101) rfl)) rfl
set_option maxRecDepth 100000 in
theorem wd1197 : Cond.methodLink RX2 49 yX2_parts ∈ lw_g := in_g (t5_in (List.mem_of_getElem? (i := 110) rfl)) rfl
set_option maxRecDepth 100000 in
theorem wd1199 : Cond.instanceMethod yX2_parts ∈ lw_g := in_g (t5_in (List.mem_of_getElem? (i := 112) rfl)) rfl
set_option maxRecDepth 100000 in
theorem wd1200 : Cond.code yX2_parts cX2_parts 7 (some .boolean) ∈ lw_g := in_g (t5_in (List.mem_of_getElem? (i := 113) rfl)) rfl
set_option maxRecDepth 100000 in
theorem wd1225 : Cond.methodLink RX4 52 yX4_reported ∈ lw_g := in_g (t5_in (List.mem_of_getElem? (i := 138) rfl)) rfl
set_option maxRecDepth 100000 in
theorem wd1226 : Cond.instanceMethod yX4_reported ∈ lw_g := in_g (t5_in (List.mem_of_getElem? (i := 139) rfl)) rfl
set_option maxRecDepth 100000 in
theorem wd1227 : Cond.selects RX4 yX4_reported yX4_reported ∈ lw_g := in_g (t5_in (List.mem_of_getElem? (i := 140) rfl)) rfl
set_option maxRecDepth 100000 in
theorem wd1228 : Cond.code yX4_reported cX4_reported 2 (some .boolean) ∈ lw_g := in_g (t5_in (List.mem_of_getElem? (i := 141) rfl)) rfl
set_option maxRecDepth 100000 in
theorem wd1267 : Cond.methodLink RX4 70 yX4_gain ∈ lw_g := in_g (t5_in (List.mem_of_getElem? (i := 180) rfl)) rfl
set_option maxRecDepth 100000 in
theorem wd1269 : Cond.instanceMethod yX4_gain ∈ lw_g := in_g (t5_in (List.mem_of_getElem? (i := 182) rfl)) rfl
set_option maxRecDepth 100000 in
theorem wd1270 : Cond.code yX4_gain cX4_gain 4 (some .int) ∈ lw_g := in_g (t5_in (List.mem_of_getElem? (i := 183) rfl)) rfl
set_option maxRecDepth 100000 in
theorem wd1296 : Cond.methodLink RX1 49 yX1_get ∈ lw_g := in_g (t5_in (List.mem_of_getElem? (i := 209) rfl)) rfl
set_option maxRecDepth 100000 in
theorem wd1337 : Cond.methodLink RX6 46 yX2_become ∈ lw_g := in_g (t6_in (List.mem_of_getElem? (i := 10) rfl)) rfl
set_option maxRecDepth 100000 in
theorem wd1338 : Cond.instanceMethod yX2_become ∈ lw_g := in_g (t6_in (List.mem_of_getElem? (i := 11) rfl)) rfl
set_option maxRecDepth 100000 in
theorem wd1339 : Cond.selects RX2 yX2_become yX2_become ∈ lw_g := in_g (t6_in (List.mem_of_getElem? (i := 12) rfl)) rfl
set_option maxRecDepth 100000 in
theorem wd1340 : Cond.code yX2_become cX2_become 2 none ∈ lw_g := in_g (t6_in (List.mem_of_getElem? (i := 13) rfl)) rfl
set_option maxRecDepth 100000 in
theorem wd1342 : Cond.methodLink RX6 50 yX1_become ∈ lw_g := in_g (t6_in (List.mem_of_getElem? (i := 15) rfl)) rfl
set_option maxRecDepth 100000 in
theorem wd1343 : Cond.methodLink RX6 53 yX7_become ∈ lw_g := in_g (t6_in (List.mem_of_getElem? (i := 16) rfl)) rfl
set_option maxRecDepth 100000 in
theorem wd1344 : Cond.instanceMethod yX7_become ∈ lw_g := in_g (t6_in (List.mem_of_getElem? (i := 17) rfl)) rfl
set_option maxRecDepth 100000 in
theorem wd1345 : Cond.selects RX7 yX7_become yX7_become ∈ lw_g := in_g (t6_in (List.mem_of_getElem? (i := 18) rfl)) rfl
set_option maxRecDepth 100000 in
theorem wd1346 : Cond.code yX7_become cX7_become 2 none ∈ lw_g := in_g (t6_in (List.mem_of_getElem? (i := 19) rfl)) rfl
set_option maxRecDepth 100000 in
theorem wd1348 : Cond.methodLink RX6 56 yX4_become ∈ lw_g := in_g (t6_in (List.mem_of_getElem? (i := 21) rfl)) rfl
set_option maxRecDepth 100000 in
theorem wd1349 : Cond.instanceMethod yX4_become ∈ lw_g := in_g (t6_in (List.mem_of_getElem? (i := 22) rfl)) rfl
set_option maxRecDepth 100000 in
theorem wd1350 : Cond.selects RX4 yX4_become yX4_become ∈ lw_g := in_g (t6_in (List.mem_of_getElem? (i := 23) rfl)) rfl
set_option maxRecDepth 100000 in
theorem wd1351 : Cond.code yX4_become cX4_become 2 none ∈ lw_g := in_g (t6_in (List.mem_of_getElem? (i := 24) rfl)) rfl
set_option maxRecDepth 100000 in
theorem ctX9_72 : Cond.constantLong RX9 72 (-1000000 : Int64) ∈ lw_g := in_g (t4_in (List.mem_of_getElem? (i := 56) rfl)) rfl
set_option maxRecDepth 100000 in
theorem ctX9_74 : Cond.constantLong RX9 74 (1000000 : Int64) ∈ lw_g := in_g (t4_in (List.mem_of_getElem? (i := 57) rfl)) rfl
set_option maxRecDepth 100000 in
theorem ctJ6_265 : Cond.constant RJ6 265 (1431655765 : Int32) ∈ lw_g := in_g (t4_in (List.mem_of_getElem? (i := 37) rfl)) rfl
set_option maxRecDepth 100000 in
theorem ctJ6_266 : Cond.constant RJ6 266 (858993459 : Int32) ∈ lw_g := in_g (t4_in (List.mem_of_getElem? (i := 38) rfl)) rfl
set_option maxRecDepth 100000 in
theorem ctJ6_267 : Cond.constant RJ6 267 (252645135 : Int32) ∈ lw_g := in_g (t4_in (List.mem_of_getElem? (i := 39) rfl)) rfl
set_option maxRecDepth 100000 in
theorem inX1 : ∀ w ∈ u_ws RX1 TX1 3, w ∈ lw_g := all_k [190, 192, 194] (by decide +kernel) (by decide +kernel)
set_option maxRecDepth 100000 in
theorem inX10 : ∀ w ∈ u_ws RX10 TX10 10, w ∈ lw_g := all_k [407, 409, 411, 413, 415, 417, 419, 421, 423, 425] (by decide +kernel) (by decide +kernel)
set_option maxRecDepth 100000 in
theorem inX2 : ∀ w ∈ u_ws RX2 TX2 3, w ∈ lw_g := all_k [173, 175, 177] (by decide +kernel) (by decide +kernel)
set_option maxRecDepth 100000 in
theorem inX4 : ∀ w ∈ u_ws RX4 TX4 11, w ∈ lw_g := all_k [237, 239, 241, 243, 245, 247, 249, 251, 253, 255, 257] (by decide +kernel) (by decide +kernel)
set_option maxRecDepth 100000 in
theorem inX6 : ∀ w ∈ u_ws RX6 TX6 6, w ∈ lw_g := all_k [279, 281, 283, 285, 287, 289] (by decide +kernel) (by decide +kernel)
set_option maxRecDepth 100000 in
theorem inX7 : ∀ w ∈ u_ws RX7 TX7 3, w ∈ lw_g := all_k [207, 209, 211] (by decide +kernel) (by decide +kernel)
set_option maxRecDepth 100000 in
theorem inX8 : ∀ w ∈ u_ws RX8 TX8 6, w ∈ lw_g := all_k [308, 310, 312, 314, 316, 318] (by decide +kernel) (by decide +kernel)
set_option maxRecDepth 100000 in
theorem inX9 : ∀ w ∈ u_ws RX9 TX9 7, w ∈ lw_g := all_k [441, 443, 445, 447, 449, 451, 453] (by decide +kernel) (by decide +kernel)
variable {p : Program} {l : Launch} {e : Env} {R : Room} {s : State} {m : MethodId} {args : Array Value} {below : List Frame} {meth : Method} {c : Code} {H : Heap} {locs : List Loc} {cells slots : Nat} {Q : State → Prop}
variable {cc bytes : ByteArray} {pc nL maxL index n : Nat} {ls : Array Slot} {rest st : List Value} {A : Nat → Prop} {H0 : Heap} {D : va_G} {tys : List (ClassId × FieldType)} {ws wc wr w1 : va_W} {rm : Room} {b : Addr}
theorem gfX1_11 (hx : p.tables.exec = Jvm.exec) (hb : c.code = cc) (hts : ∀ w ∈ lw_g, w.before args s = true) (hown : s.vm.findClass RX1 = some m.cls) (hK : va_K D vwCl tys s) (hP : va_P D vwCl ws H) (q0 : Nat) {fs : List Value} (he : ws[q0]? = some (b, .inr (1, fs))) {v : Value} (hv : fs[0]? = some v) (hdg : decode cc pc = .ok (.getfield 11, 3)) (kk : W p l e R s m args below meth c H locs cells slots Q (F0 m (pc + 3) ls (v :: rest))) : W p l e R s m args below meth c H locs cells slots Q (F0 m pc ls (.ref b :: rest)) :=
  va_get (D := D) (ci := 1) (C := RX1) (T := TX1) (N := 3) hx hb hts inX1 hown hK hP q0 he rfl 0 (by decide) (hts _ wd187) (fun _ h => h) hv hdg kk
theorem gfX1_15 (hx : p.tables.exec = Jvm.exec) (hb : c.code = cc) (hts : ∀ w ∈ lw_g, w.before args s = true) (hown : s.vm.findClass RX1 = some m.cls) (hK : va_K D vwCl tys s) (hP : va_P D vwCl ws H) (q0 : Nat) {fs : List Value} (he : ws[q0]? = some (b, .inr (1, fs))) {v : Value} (hv : fs[1]? = some v) (hdg : decode cc pc = .ok (.getfield 15, 3)) (kk : W p l e R s m args below meth c H locs cells slots Q (F0 m (pc + 3) ls (v :: rest))) : W p l e R s m args below meth c H locs cells slots Q (F0 m pc ls (.ref b :: rest)) :=
  va_get (D := D) (ci := 1) (C := RX1) (T := TX1) (N := 3) hx hb hts inX1 hown hK hP q0 he rfl 1 (by decide) (hts _ wd188) (fun _ h => h) hv hdg kk
theorem gfX1_18 (hx : p.tables.exec = Jvm.exec) (hb : c.code = cc) (hts : ∀ w ∈ lw_g, w.before args s = true) (hown : s.vm.findClass RX1 = some m.cls) (hK : va_K D vwCl tys s) (hP : va_P D vwCl ws H) (q0 : Nat) {fs : List Value} (he : ws[q0]? = some (b, .inr (1, fs))) {v : Value} (hv : fs[2]? = some v) (hdg : decode cc pc = .ok (.getfield 18, 3)) (kk : W p l e R s m args below meth c H locs cells slots Q (F0 m (pc + 3) ls (v :: rest))) : W p l e R s m args below meth c H locs cells slots Q (F0 m pc ls (.ref b :: rest)) :=
  va_get (D := D) (ci := 1) (C := RX1) (T := TX1) (N := 3) hx hb hts inX1 hown hK hP q0 he rfl 2 (by decide) (hts _ wd189) (fun _ h => h) hv hdg kk
theorem gfX2_9 (hx : p.tables.exec = Jvm.exec) (hb : c.code = cc) (hts : ∀ w ∈ lw_g, w.before args s = true) (hown : s.vm.findClass RX2 = some m.cls) (hK : va_K D vwCl tys s) (hP : va_P D vwCl ws H) (q0 : Nat) {fs : List Value} (he : ws[q0]? = some (b, .inr (2, fs))) {v : Value} (hv : fs[0]? = some v) (hdg : decode cc pc = .ok (.getfield 9, 3)) (kk : W p l e R s m args below meth c H locs cells slots Q (F0 m (pc + 3) ls (v :: rest))) : W p l e R s m args below meth c H locs cells slots Q (F0 m pc ls (.ref b :: rest)) :=
  va_get (D := D) (ci := 2) (C := RX2) (T := TX2) (N := 3) hx hb hts inX2 hown hK hP q0 he rfl 0 (by decide) (hts _ wd168) (fun _ h => h) hv hdg kk
theorem gfX2_15 (hx : p.tables.exec = Jvm.exec) (hb : c.code = cc) (hts : ∀ w ∈ lw_g, w.before args s = true) (hown : s.vm.findClass RX2 = some m.cls) (hK : va_K D vwCl tys s) (hP : va_P D vwCl ws H) (q0 : Nat) {fs : List Value} (he : ws[q0]? = some (b, .inr (2, fs))) {v : Value} (hv : fs[1]? = some v) (hdg : decode cc pc = .ok (.getfield 15, 3)) (kk : W p l e R s m args below meth c H locs cells slots Q (F0 m (pc + 3) ls (v :: rest))) : W p l e R s m args below meth c H locs cells slots Q (F0 m pc ls (.ref b :: rest)) :=
  va_get (D := D) (ci := 2) (C := RX2) (T := TX2) (N := 3) hx hb hts inX2 hown hK hP q0 he rfl 1 (by decide) (hts _ wd171) (fun _ h => h) hv hdg kk
theorem gfX2_19 (hx : p.tables.exec = Jvm.exec) (hb : c.code = cc) (hts : ∀ w ∈ lw_g, w.before args s = true) (hown : s.vm.findClass RX2 = some m.cls) (hK : va_K D vwCl tys s) (hP : va_P D vwCl ws H) (q0 : Nat) {fs : List Value} (he : ws[q0]? = some (b, .inr (2, fs))) {v : Value} (hv : fs[2]? = some v) (hdg : decode cc pc = .ok (.getfield 19, 3)) (kk : W p l e R s m args below meth c H locs cells slots Q (F0 m (pc + 3) ls (v :: rest))) : W p l e R s m args below meth c H locs cells slots Q (F0 m pc ls (.ref b :: rest)) :=
  va_get (D := D) (ci := 2) (C := RX2) (T := TX2) (N := 3) hx hb hts inX2 hown hK hP q0 he rfl 2 (by decide) (hts _ wd172) (fun _ h => h) hv hdg kk
theorem gfX4_9 (hx : p.tables.exec = Jvm.exec) (hb : c.code = cc) (hts : ∀ w ∈ lw_g, w.before args s = true) (hown : s.vm.findClass RX4 = some m.cls) (hK : va_K D vwCl tys s) (hP : va_P D vwCl ws H) (q0 : Nat) {fs : List Value} (he : ws[q0]? = some (b, .inr (4, fs))) {v : Value} (hv : fs[0]? = some v) (hdg : decode cc pc = .ok (.getfield 9, 3)) (kk : W p l e R s m args below meth c H locs cells slots Q (F0 m (pc + 3) ls (v :: rest))) : W p l e R s m args below meth c H locs cells slots Q (F0 m pc ls (.ref b :: rest)) :=
  va_get (D := D) (ci := 4) (C := RX4) (T := TX4) (N := 11) hx hb hts inX4 hown hK hP q0 he rfl 0 (by decide) (hts _ wd220) (fun _ h => h) hv hdg kk
theorem gfX4_15 (hx : p.tables.exec = Jvm.exec) (hb : c.code = cc) (hts : ∀ w ∈ lw_g, w.before args s = true) (hown : s.vm.findClass RX4 = some m.cls) (hK : va_K D vwCl tys s) (hP : va_P D vwCl ws H) (q0 : Nat) {fs : List Value} (he : ws[q0]? = some (b, .inr (4, fs))) {v : Value} (hv : fs[1]? = some v) (hdg : decode cc pc = .ok (.getfield 15, 3)) (kk : W p l e R s m args below meth c H locs cells slots Q (F0 m (pc + 3) ls (v :: rest))) : W p l e R s m args below meth c H locs cells slots Q (F0 m pc ls (.ref b :: rest)) :=
  va_get (D := D) (ci := 4) (C := RX4) (T := TX4) (N := 11) hx hb hts inX4 hown hK hP q0 he rfl 1 (by decide) (hts _ wd223) (fun _ h => h) hv hdg kk
theorem gfX4_18 (hx : p.tables.exec = Jvm.exec) (hb : c.code = cc) (hts : ∀ w ∈ lw_g, w.before args s = true) (hown : s.vm.findClass RX4 = some m.cls) (hK : va_K D vwCl tys s) (hP : va_P D vwCl ws H) (q0 : Nat) {fs : List Value} (he : ws[q0]? = some (b, .inr (4, fs))) {v : Value} (hv : fs[2]? = some v) (hdg : decode cc pc = .ok (.getfield 18, 3)) (kk : W p l e R s m args below meth c H locs cells slots Q (F0 m (pc + 3) ls (v :: rest))) : W p l e R s m args below meth c H locs cells slots Q (F0 m pc ls (.ref b :: rest)) :=
  va_get (D := D) (ci := 4) (C := RX4) (T := TX4) (N := 11) hx hb hts inX4 hown hK hP q0 he rfl 2 (by decide) (hts _ wd225) (fun _ h => h) hv hdg kk
theorem gfX4_21 (hx : p.tables.exec = Jvm.exec) (hb : c.code = cc) (hts : ∀ w ∈ lw_g, w.before args s = true) (hown : s.vm.findClass RX4 = some m.cls) (hK : va_K D vwCl tys s) (hP : va_P D vwCl ws H) (q0 : Nat) {fs : List Value} (he : ws[q0]? = some (b, .inr (4, fs))) {v : Value} (hv : fs[3]? = some v) (hdg : decode cc pc = .ok (.getfield 21, 3)) (kk : W p l e R s m args below meth c H locs cells slots Q (F0 m (pc + 3) ls (v :: rest))) : W p l e R s m args below meth c H locs cells slots Q (F0 m pc ls (.ref b :: rest)) :=
  va_get (D := D) (ci := 4) (C := RX4) (T := TX4) (N := 11) hx hb hts inX4 hown hK hP q0 he rfl 3 (by decide) (hts _ wd227) (fun _ h => h) hv hdg kk
theorem gfX4_24 (hx : p.tables.exec = Jvm.exec) (hb : c.code = cc) (hts : ∀ w ∈ lw_g, w.before args s = true) (hown : s.vm.findClass RX4 = some m.cls) (hK : va_K D vwCl tys s) (hP : va_P D vwCl ws H) (q0 : Nat) {fs : List Value} (he : ws[q0]? = some (b, .inr (4, fs))) {v : Value} (hv : fs[4]? = some v) (hdg : decode cc pc = .ok (.getfield 24, 3)) (kk : W p l e R s m args below meth c H locs cells slots Q (F0 m (pc + 3) ls (v :: rest))) : W p l e R s m args below meth c H locs cells slots Q (F0 m pc ls (.ref b :: rest)) :=
  va_get (D := D) (ci := 4) (C := RX4) (T := TX4) (N := 11) hx hb hts inX4 hown hK hP q0 he rfl 4 (by decide) (hts _ wd229) (fun _ h => h) hv hdg kk
theorem gfX4_27 (hx : p.tables.exec = Jvm.exec) (hb : c.code = cc) (hts : ∀ w ∈ lw_g, w.before args s = true) (hown : s.vm.findClass RX4 = some m.cls) (hK : va_K D vwCl tys s) (hP : va_P D vwCl ws H) (q0 : Nat) {fs : List Value} (he : ws[q0]? = some (b, .inr (4, fs))) {v : Value} (hv : fs[5]? = some v) (hdg : decode cc pc = .ok (.getfield 27, 3)) (kk : W p l e R s m args below meth c H locs cells slots Q (F0 m (pc + 3) ls (v :: rest))) : W p l e R s m args below meth c H locs cells slots Q (F0 m pc ls (.ref b :: rest)) :=
  va_get (D := D) (ci := 4) (C := RX4) (T := TX4) (N := 11) hx hb hts inX4 hown hK hP q0 he rfl 5 (by decide) (hts _ wd231) (fun _ h => h) hv hdg kk
theorem gfX4_31 (hx : p.tables.exec = Jvm.exec) (hb : c.code = cc) (hts : ∀ w ∈ lw_g, w.before args s = true) (hown : s.vm.findClass RX4 = some m.cls) (hK : va_K D vwCl tys s) (hP : va_P D vwCl ws H) (q0 : Nat) {fs : List Value} (he : ws[q0]? = some (b, .inr (4, fs))) {v : Value} (hv : fs[6]? = some v) (hdg : decode cc pc = .ok (.getfield 31, 3)) (kk : W p l e R s m args below meth c H locs cells slots Q (F0 m (pc + 3) ls (v :: rest))) : W p l e R s m args below meth c H locs cells slots Q (F0 m pc ls (.ref b :: rest)) :=
  va_get (D := D) (ci := 4) (C := RX4) (T := TX4) (N := 11) hx hb hts inX4 hown hK hP q0 he rfl 6 (by decide) (hts _ wd232) (fun _ h => h) hv hdg kk
theorem gfX4_34 (hx : p.tables.exec = Jvm.exec) (hb : c.code = cc) (hts : ∀ w ∈ lw_g, w.before args s = true) (hown : s.vm.findClass RX4 = some m.cls) (hK : va_K D vwCl tys s) (hP : va_P D vwCl ws H) (q0 : Nat) {fs : List Value} (he : ws[q0]? = some (b, .inr (4, fs))) {v : Value} (hv : fs[7]? = some v) (hdg : decode cc pc = .ok (.getfield 34, 3)) (kk : W p l e R s m args below meth c H locs cells slots Q (F0 m (pc + 3) ls (v :: rest))) : W p l e R s m args below meth c H locs cells slots Q (F0 m pc ls (.ref b :: rest)) :=
  va_get (D := D) (ci := 4) (C := RX4) (T := TX4) (N := 11) hx hb hts inX4 hown hK hP q0 he rfl 7 (by decide) (hts _ wd233) (fun _ h => h) hv hdg kk
theorem gfX4_37 (hx : p.tables.exec = Jvm.exec) (hb : c.code = cc) (hts : ∀ w ∈ lw_g, w.before args s = true) (hown : s.vm.findClass RX4 = some m.cls) (hK : va_K D vwCl tys s) (hP : va_P D vwCl ws H) (q0 : Nat) {fs : List Value} (he : ws[q0]? = some (b, .inr (4, fs))) {v : Value} (hv : fs[8]? = some v) (hdg : decode cc pc = .ok (.getfield 37, 3)) (kk : W p l e R s m args below meth c H locs cells slots Q (F0 m (pc + 3) ls (v :: rest))) : W p l e R s m args below meth c H locs cells slots Q (F0 m pc ls (.ref b :: rest)) :=
  va_get (D := D) (ci := 4) (C := RX4) (T := TX4) (N := 11) hx hb hts inX4 hown hK hP q0 he rfl 8 (by decide) (hts _ wd234) (fun _ h => h) hv hdg kk
theorem gfX4_40 (hx : p.tables.exec = Jvm.exec) (hb : c.code = cc) (hts : ∀ w ∈ lw_g, w.before args s = true) (hown : s.vm.findClass RX4 = some m.cls) (hK : va_K D vwCl tys s) (hP : va_P D vwCl ws H) (q0 : Nat) {fs : List Value} (he : ws[q0]? = some (b, .inr (4, fs))) {v : Value} (hv : fs[9]? = some v) (hdg : decode cc pc = .ok (.getfield 40, 3)) (kk : W p l e R s m args below meth c H locs cells slots Q (F0 m (pc + 3) ls (v :: rest))) : W p l e R s m args below meth c H locs cells slots Q (F0 m pc ls (.ref b :: rest)) :=
  va_get (D := D) (ci := 4) (C := RX4) (T := TX4) (N := 11) hx hb hts inX4 hown hK hP q0 he rfl 9 (by decide) (hts _ wd235) (fun _ h => h) hv hdg kk
theorem gfX4_43 (hx : p.tables.exec = Jvm.exec) (hb : c.code = cc) (hts : ∀ w ∈ lw_g, w.before args s = true) (hown : s.vm.findClass RX4 = some m.cls) (hK : va_K D vwCl tys s) (hP : va_P D vwCl ws H) (q0 : Nat) {fs : List Value} (he : ws[q0]? = some (b, .inr (4, fs))) {v : Value} (hv : fs[10]? = some v) (hdg : decode cc pc = .ok (.getfield 43, 3)) (kk : W p l e R s m args below meth c H locs cells slots Q (F0 m (pc + 3) ls (v :: rest))) : W p l e R s m args below meth c H locs cells slots Q (F0 m pc ls (.ref b :: rest)) :=
  va_get (D := D) (ci := 4) (C := RX4) (T := TX4) (N := 11) hx hb hts inX4 hown hK hP q0 he rfl 10 (by decide) (hts _ wd236) (fun _ h => h) hv hdg kk
theorem gfX6_12 (hx : p.tables.exec = Jvm.exec) (hb : c.code = cc) (hts : ∀ w ∈ lw_g, w.before args s = true) (hown : s.vm.findClass RX6 = some m.cls) (hK : va_K D vwCl tys s) (hP : va_P D vwCl ws H) (q0 : Nat) {fs : List Value} (he : ws[q0]? = some (b, .inr (6, fs))) {v : Value} (hv : fs[0]? = some v) (hdg : decode cc pc = .ok (.getfield 12, 3)) (kk : W p l e R s m args below meth c H locs cells slots Q (F0 m (pc + 3) ls (v :: rest))) : W p l e R s m args below meth c H locs cells slots Q (F0 m pc ls (.ref b :: rest)) :=
  va_get (D := D) (ci := 6) (C := RX6) (T := TX6) (N := 6) hx hb hts inX6 hown hK hP q0 he rfl 0 (by decide) (hts _ wd260) (fun _ h => h) hv hdg kk
theorem gfX6_21 (hx : p.tables.exec = Jvm.exec) (hb : c.code = cc) (hts : ∀ w ∈ lw_g, w.before args s = true) (hown : s.vm.findClass RX6 = some m.cls) (hK : va_K D vwCl tys s) (hP : va_P D vwCl ws H) (q0 : Nat) {fs : List Value} (he : ws[q0]? = some (b, .inr (6, fs))) {v : Value} (hv : fs[1]? = some v) (hdg : decode cc pc = .ok (.getfield 21, 3)) (kk : W p l e R s m args below meth c H locs cells slots Q (F0 m (pc + 3) ls (v :: rest))) : W p l e R s m args below meth c H locs cells slots Q (F0 m pc ls (.ref b :: rest)) :=
  va_get (D := D) (ci := 6) (C := RX6) (T := TX6) (N := 6) hx hb hts inX6 hown hK hP q0 he rfl 1 (by decide) (hts _ wd265) (fun _ h => h) hv hdg kk
theorem gfX6_28 (hx : p.tables.exec = Jvm.exec) (hb : c.code = cc) (hts : ∀ w ∈ lw_g, w.before args s = true) (hown : s.vm.findClass RX6 = some m.cls) (hK : va_K D vwCl tys s) (hP : va_P D vwCl ws H) (q0 : Nat) {fs : List Value} (he : ws[q0]? = some (b, .inr (6, fs))) {v : Value} (hv : fs[2]? = some v) (hdg : decode cc pc = .ok (.getfield 28, 3)) (kk : W p l e R s m args below meth c H locs cells slots Q (F0 m (pc + 3) ls (v :: rest))) : W p l e R s m args below meth c H locs cells slots Q (F0 m pc ls (.ref b :: rest)) :=
  va_get (D := D) (ci := 6) (C := RX6) (T := TX6) (N := 6) hx hb hts inX6 hown hK hP q0 he rfl 2 (by decide) (hts _ wd268) (fun _ h => h) hv hdg kk
theorem gfX6_35 (hx : p.tables.exec = Jvm.exec) (hb : c.code = cc) (hts : ∀ w ∈ lw_g, w.before args s = true) (hown : s.vm.findClass RX6 = some m.cls) (hK : va_K D vwCl tys s) (hP : va_P D vwCl ws H) (q0 : Nat) {fs : List Value} (he : ws[q0]? = some (b, .inr (6, fs))) {v : Value} (hv : fs[3]? = some v) (hdg : decode cc pc = .ok (.getfield 35, 3)) (kk : W p l e R s m args below meth c H locs cells slots Q (F0 m (pc + 3) ls (v :: rest))) : W p l e R s m args below meth c H locs cells slots Q (F0 m pc ls (.ref b :: rest)) :=
  va_get (D := D) (ci := 6) (C := RX6) (T := TX6) (N := 6) hx hb hts inX6 hown hK hP q0 he rfl 3 (by decide) (hts _ wd270) (fun _ h => h) hv hdg kk
theorem gfX6_39 (hx : p.tables.exec = Jvm.exec) (hb : c.code = cc) (hts : ∀ w ∈ lw_g, w.before args s = true) (hown : s.vm.findClass RX6 = some m.cls) (hK : va_K D vwCl tys s) (hP : va_P D vwCl ws H) (q0 : Nat) {fs : List Value} (he : ws[q0]? = some (b, .inr (6, fs))) {v : Value} (hv : fs[4]? = some v) (hdg : decode cc pc = .ok (.getfield 39, 3)) (kk : W p l e R s m args below meth c H locs cells slots Q (F0 m (pc + 3) ls (v :: rest))) : W p l e R s m args below meth c H locs cells slots Q (F0 m pc ls (.ref b :: rest)) :=
  va_get (D := D) (ci := 6) (C := RX6) (T := TX6) (N := 6) hx hb hts inX6 hown hK hP q0 he rfl 4 (by decide) (hts _ wd272) (fun _ h => h) hv hdg kk
theorem gfX6_43 (hx : p.tables.exec = Jvm.exec) (hb : c.code = cc) (hts : ∀ w ∈ lw_g, w.before args s = true) (hown : s.vm.findClass RX6 = some m.cls) (hK : va_K D vwCl tys s) (hP : va_P D vwCl ws H) (q0 : Nat) {fs : List Value} (he : ws[q0]? = some (b, .inr (6, fs))) {v : Value} (hv : fs[5]? = some v) (hdg : decode cc pc = .ok (.getfield 43, 3)) (kk : W p l e R s m args below meth c H locs cells slots Q (F0 m (pc + 3) ls (v :: rest))) : W p l e R s m args below meth c H locs cells slots Q (F0 m pc ls (.ref b :: rest)) :=
  va_get (D := D) (ci := 6) (C := RX6) (T := TX6) (N := 6) hx hb hts inX6 hown hK hP q0 he rfl 5 (by decide) (hts _ wd275) (fun _ h => h) hv hdg kk
theorem gfX7_11 (hx : p.tables.exec = Jvm.exec) (hb : c.code = cc) (hts : ∀ w ∈ lw_g, w.before args s = true) (hown : s.vm.findClass RX7 = some m.cls) (hK : va_K D vwCl tys s) (hP : va_P D vwCl ws H) (q0 : Nat) {fs : List Value} (he : ws[q0]? = some (b, .inr (7, fs))) {v : Value} (hv : fs[0]? = some v) (hdg : decode cc pc = .ok (.getfield 11, 3)) (kk : W p l e R s m args below meth c H locs cells slots Q (F0 m (pc + 3) ls (v :: rest))) : W p l e R s m args below meth c H locs cells slots Q (F0 m pc ls (.ref b :: rest)) :=
  va_get (D := D) (ci := 7) (C := RX7) (T := TX7) (N := 3) hx hb hts inX7 hown hK hP q0 he rfl 0 (by decide) (hts _ wd203) (fun _ h => h) hv hdg kk
theorem gfX7_15 (hx : p.tables.exec = Jvm.exec) (hb : c.code = cc) (hts : ∀ w ∈ lw_g, w.before args s = true) (hown : s.vm.findClass RX7 = some m.cls) (hK : va_K D vwCl tys s) (hP : va_P D vwCl ws H) (q0 : Nat) {fs : List Value} (he : ws[q0]? = some (b, .inr (7, fs))) {v : Value} (hv : fs[1]? = some v) (hdg : decode cc pc = .ok (.getfield 15, 3)) (kk : W p l e R s m args below meth c H locs cells slots Q (F0 m (pc + 3) ls (v :: rest))) : W p l e R s m args below meth c H locs cells slots Q (F0 m pc ls (.ref b :: rest)) :=
  va_get (D := D) (ci := 7) (C := RX7) (T := TX7) (N := 3) hx hb hts inX7 hown hK hP q0 he rfl 1 (by decide) (hts _ wd205) (fun _ h => h) hv hdg kk
theorem gfX7_20 (hx : p.tables.exec = Jvm.exec) (hb : c.code = cc) (hts : ∀ w ∈ lw_g, w.before args s = true) (hown : s.vm.findClass RX7 = some m.cls) (hK : va_K D vwCl tys s) (hP : va_P D vwCl ws H) (q0 : Nat) {fs : List Value} (he : ws[q0]? = some (b, .inr (7, fs))) {v : Value} (hv : fs[2]? = some v) (hdg : decode cc pc = .ok (.getfield 20, 3)) (kk : W p l e R s m args below meth c H locs cells slots Q (F0 m (pc + 3) ls (v :: rest))) : W p l e R s m args below meth c H locs cells slots Q (F0 m pc ls (.ref b :: rest)) :=
  va_get (D := D) (ci := 7) (C := RX7) (T := TX7) (N := 3) hx hb hts inX7 hown hK hP q0 he rfl 2 (by decide) (hts _ wd206) (fun _ h => h) hv hdg kk
theorem gfX8_9 (hx : p.tables.exec = Jvm.exec) (hb : c.code = cc) (hts : ∀ w ∈ lw_g, w.before args s = true) (hown : s.vm.findClass RX8 = some m.cls) (hK : va_K D vwCl tys s) (hP : va_P D vwCl ws H) (q0 : Nat) {fs : List Value} (he : ws[q0]? = some (b, .inr (8, fs))) {v : Value} (hv : fs[0]? = some v) (hdg : decode cc pc = .ok (.getfield 9, 3)) (kk : W p l e R s m args below meth c H locs cells slots Q (F0 m (pc + 3) ls (v :: rest))) : W p l e R s m args below meth c H locs cells slots Q (F0 m pc ls (.ref b :: rest)) :=
  va_get (D := D) (ci := 8) (C := RX8) (T := TX8) (N := 6) hx hb hts inX8 hown hK hP q0 he rfl 0 (by decide) (hts _ wd300) (fun _ h => h) hv hdg kk
theorem gfX8_15 (hx : p.tables.exec = Jvm.exec) (hb : c.code = cc) (hts : ∀ w ∈ lw_g, w.before args s = true) (hown : s.vm.findClass RX8 = some m.cls) (hK : va_K D vwCl tys s) (hP : va_P D vwCl ws H) (q0 : Nat) {fs : List Value} (he : ws[q0]? = some (b, .inr (8, fs))) {v : Value} (hv : fs[1]? = some v) (hdg : decode cc pc = .ok (.getfield 15, 3)) (kk : W p l e R s m args below meth c H locs cells slots Q (F0 m (pc + 3) ls (v :: rest))) : W p l e R s m args below meth c H locs cells slots Q (F0 m pc ls (.ref b :: rest)) :=
  va_get (D := D) (ci := 8) (C := RX8) (T := TX8) (N := 6) hx hb hts inX8 hown hK hP q0 he rfl 1 (by decide) (hts _ wd302) (fun _ h => h) hv hdg kk
theorem gfX8_18 (hx : p.tables.exec = Jvm.exec) (hb : c.code = cc) (hts : ∀ w ∈ lw_g, w.before args s = true) (hown : s.vm.findClass RX8 = some m.cls) (hK : va_K D vwCl tys s) (hP : va_P D vwCl ws H) (q0 : Nat) {fs : List Value} (he : ws[q0]? = some (b, .inr (8, fs))) {v : Value} (hv : fs[2]? = some v) (hdg : decode cc pc = .ok (.getfield 18, 3)) (kk : W p l e R s m args below meth c H locs cells slots Q (F0 m (pc + 3) ls (v :: rest))) : W p l e R s m args below meth c H locs cells slots Q (F0 m pc ls (.ref b :: rest)) :=
  va_get (D := D) (ci := 8) (C := RX8) (T := TX8) (N := 6) hx hb hts inX8 hown hK hP q0 he rfl 2 (by decide) (hts _ wd304) (fun _ h => h) hv hdg kk
theorem gfX8_22 (hx : p.tables.exec = Jvm.exec) (hb : c.code = cc) (hts : ∀ w ∈ lw_g, w.before args s = true) (hown : s.vm.findClass RX8 = some m.cls) (hK : va_K D vwCl tys s) (hP : va_P D vwCl ws H) (q0 : Nat) {fs : List Value} (he : ws[q0]? = some (b, .inr (8, fs))) {v : Value} (hv : fs[3]? = some v) (hdg : decode cc pc = .ok (.getfield 22, 3)) (kk : W p l e R s m args below meth c H locs cells slots Q (F0 m (pc + 3) ls (v :: rest))) : W p l e R s m args below meth c H locs cells slots Q (F0 m pc ls (.ref b :: rest)) :=
  va_get (D := D) (ci := 8) (C := RX8) (T := TX8) (N := 6) hx hb hts inX8 hown hK hP q0 he rfl 3 (by decide) (hts _ wd305) (fun _ h => h) hv hdg kk
theorem gfX8_26 (hx : p.tables.exec = Jvm.exec) (hb : c.code = cc) (hts : ∀ w ∈ lw_g, w.before args s = true) (hown : s.vm.findClass RX8 = some m.cls) (hK : va_K D vwCl tys s) (hP : va_P D vwCl ws H) (q0 : Nat) {fs : List Value} (he : ws[q0]? = some (b, .inr (8, fs))) {v : Value} (hv : fs[4]? = some v) (hdg : decode cc pc = .ok (.getfield 26, 3)) (kk : W p l e R s m args below meth c H locs cells slots Q (F0 m (pc + 3) ls (v :: rest))) : W p l e R s m args below meth c H locs cells slots Q (F0 m pc ls (.ref b :: rest)) :=
  va_get (D := D) (ci := 8) (C := RX8) (T := TX8) (N := 6) hx hb hts inX8 hown hK hP q0 he rfl 4 (by decide) (hts _ wd306) (fun _ h => h) hv hdg kk
theorem gfX8_29 (hx : p.tables.exec = Jvm.exec) (hb : c.code = cc) (hts : ∀ w ∈ lw_g, w.before args s = true) (hown : s.vm.findClass RX8 = some m.cls) (hK : va_K D vwCl tys s) (hP : va_P D vwCl ws H) (q0 : Nat) {fs : List Value} (he : ws[q0]? = some (b, .inr (8, fs))) {v : Value} (hv : fs[5]? = some v) (hdg : decode cc pc = .ok (.getfield 29, 3)) (kk : W p l e R s m args below meth c H locs cells slots Q (F0 m (pc + 3) ls (v :: rest))) : W p l e R s m args below meth c H locs cells slots Q (F0 m pc ls (.ref b :: rest)) :=
  va_get (D := D) (ci := 8) (C := RX8) (T := TX8) (N := 6) hx hb hts inX8 hown hK hP q0 he rfl 5 (by decide) (hts _ wd307) (fun _ h => h) hv hdg kk
theorem gfX9_11 (hx : p.tables.exec = Jvm.exec) (hb : c.code = cc) (hts : ∀ w ∈ lw_g, w.before args s = true) (hown : s.vm.findClass RX9 = some m.cls) (hK : va_K D vwCl tys s) (hP : va_P D vwCl ws H) (q0 : Nat) {fs : List Value} (he : ws[q0]? = some (b, .inr (9, fs))) {v : Value} (hv : fs[0]? = some v) (hdg : decode cc pc = .ok (.getfield 11, 3)) (kk : W p l e R s m args below meth c H locs cells slots Q (F0 m (pc + 3) ls (v :: rest))) : W p l e R s m args below meth c H locs cells slots Q (F0 m pc ls (.ref b :: rest)) :=
  va_get (D := D) (ci := 9) (C := RX9) (T := TX9) (N := 7) hx hb hts inX9 hown hK hP q0 he rfl 0 (by decide) (hts _ wd433) (fun _ h => h) hv hdg kk
theorem gfX9_17 (hx : p.tables.exec = Jvm.exec) (hb : c.code = cc) (hts : ∀ w ∈ lw_g, w.before args s = true) (hown : s.vm.findClass RX9 = some m.cls) (hK : va_K D vwCl tys s) (hP : va_P D vwCl ws H) (q0 : Nat) {fs : List Value} (he : ws[q0]? = some (b, .inr (9, fs))) {v : Value} (hv : fs[1]? = some v) (hdg : decode cc pc = .ok (.getfield 17, 3)) (kk : W p l e R s m args below meth c H locs cells slots Q (F0 m (pc + 3) ls (v :: rest))) : W p l e R s m args below meth c H locs cells slots Q (F0 m pc ls (.ref b :: rest)) :=
  va_get (D := D) (ci := 9) (C := RX9) (T := TX9) (N := 7) hx hb hts inX9 hown hK hP q0 he rfl 1 (by decide) (hts _ wd435) (fun _ h => h) hv hdg kk
theorem gfX9_20 (hx : p.tables.exec = Jvm.exec) (hb : c.code = cc) (hts : ∀ w ∈ lw_g, w.before args s = true) (hown : s.vm.findClass RX9 = some m.cls) (hK : va_K D vwCl tys s) (hP : va_P D vwCl ws H) (q0 : Nat) {fs : List Value} (he : ws[q0]? = some (b, .inr (9, fs))) {v : Value} (hv : fs[2]? = some v) (hdg : decode cc pc = .ok (.getfield 20, 3)) (kk : W p l e R s m args below meth c H locs cells slots Q (F0 m (pc + 3) ls (v :: rest))) : W p l e R s m args below meth c H locs cells slots Q (F0 m pc ls (.ref b :: rest)) :=
  va_get (D := D) (ci := 9) (C := RX9) (T := TX9) (N := 7) hx hb hts inX9 hown hK hP q0 he rfl 2 (by decide) (hts _ wd436) (fun _ h => h) hv hdg kk
theorem gfX9_23 (hx : p.tables.exec = Jvm.exec) (hb : c.code = cc) (hts : ∀ w ∈ lw_g, w.before args s = true) (hown : s.vm.findClass RX9 = some m.cls) (hK : va_K D vwCl tys s) (hP : va_P D vwCl ws H) (q0 : Nat) {fs : List Value} (he : ws[q0]? = some (b, .inr (9, fs))) {v : Value} (hv : fs[3]? = some v) (hdg : decode cc pc = .ok (.getfield 23, 3)) (kk : W p l e R s m args below meth c H locs cells slots Q (F0 m (pc + 3) ls (v :: rest))) : W p l e R s m args below meth c H locs cells slots Q (F0 m pc ls (.ref b :: rest)) :=
  va_get (D := D) (ci := 9) (C := RX9) (T := TX9) (N := 7) hx hb hts inX9 hown hK hP q0 he rfl 3 (by decide) (hts _ wd437) (fun _ h => h) hv hdg kk
theorem gfX9_27 (hx : p.tables.exec = Jvm.exec) (hb : c.code = cc) (hts : ∀ w ∈ lw_g, w.before args s = true) (hown : s.vm.findClass RX9 = some m.cls) (hK : va_K D vwCl tys s) (hP : va_P D vwCl ws H) (q0 : Nat) {fs : List Value} (he : ws[q0]? = some (b, .inr (9, fs))) {v : Value} (hv : fs[4]? = some v) (hdg : decode cc pc = .ok (.getfield 27, 3)) (kk : W p l e R s m args below meth c H locs cells slots Q (F0 m (pc + 3) ls (v :: rest))) : W p l e R s m args below meth c H locs cells slots Q (F0 m pc ls (.ref b :: rest)) :=
  va_get (D := D) (ci := 9) (C := RX9) (T := TX9) (N := 7) hx hb hts inX9 hown hK hP q0 he rfl 4 (by decide) (hts _ wd438) (fun _ h => h) hv hdg kk
theorem gfX9_30 (hx : p.tables.exec = Jvm.exec) (hb : c.code = cc) (hts : ∀ w ∈ lw_g, w.before args s = true) (hown : s.vm.findClass RX9 = some m.cls) (hK : va_K D vwCl tys s) (hP : va_P D vwCl ws H) (q0 : Nat) {fs : List Value} (he : ws[q0]? = some (b, .inr (9, fs))) {v : Value} (hv : fs[5]? = some v) (hdg : decode cc pc = .ok (.getfield 30, 3)) (kk : W p l e R s m args below meth c H locs cells slots Q (F0 m (pc + 3) ls (v :: rest))) : W p l e R s m args below meth c H locs cells slots Q (F0 m pc ls (.ref b :: rest)) :=
  va_get (D := D) (ci := 9) (C := RX9) (T := TX9) (N := 7) hx hb hts inX9 hown hK hP q0 he rfl 5 (by decide) (hts _ wd439) (fun _ h => h) hv hdg kk
theorem gfX9_33 (hx : p.tables.exec = Jvm.exec) (hb : c.code = cc) (hts : ∀ w ∈ lw_g, w.before args s = true) (hown : s.vm.findClass RX9 = some m.cls) (hK : va_K D vwCl tys s) (hP : va_P D vwCl ws H) (q0 : Nat) {fs : List Value} (he : ws[q0]? = some (b, .inr (9, fs))) {v : Value} (hv : fs[6]? = some v) (hdg : decode cc pc = .ok (.getfield 33, 3)) (kk : W p l e R s m args below meth c H locs cells slots Q (F0 m (pc + 3) ls (v :: rest))) : W p l e R s m args below meth c H locs cells slots Q (F0 m pc ls (.ref b :: rest)) :=
  va_get (D := D) (ci := 9) (C := RX9) (T := TX9) (N := 7) hx hb hts inX9 hown hK hP q0 he rfl 6 (by decide) (hts _ wd440) (fun _ h => h) hv hdg kk
theorem gfX10_13 (hx : p.tables.exec = Jvm.exec) (hb : c.code = cc) (hts : ∀ w ∈ lw_g, w.before args s = true) (hown : s.vm.findClass RX10 = some m.cls) (hK : va_K D vwCl tys s) (hP : va_P D vwCl ws H) (q0 : Nat) {fs : List Value} (he : ws[q0]? = some (b, .inr (10, fs))) {v : Value} (hv : fs[0]? = some v) (hdg : decode cc pc = .ok (.getfield 13, 3)) (kk : W p l e R s m args below meth c H locs cells slots Q (F0 m (pc + 3) ls (v :: rest))) : W p l e R s m args below meth c H locs cells slots Q (F0 m pc ls (.ref b :: rest)) :=
  va_get (D := D) (ci := 10) (C := RX10) (T := TX10) (N := 10) hx hb hts inX10 hown hK hP q0 he rfl 0 (by decide) (hts _ wd392) (fun _ h => h) hv hdg kk
theorem gfX10_20 (hx : p.tables.exec = Jvm.exec) (hb : c.code = cc) (hts : ∀ w ∈ lw_g, w.before args s = true) (hown : s.vm.findClass RX10 = some m.cls) (hK : va_K D vwCl tys s) (hP : va_P D vwCl ws H) (q0 : Nat) {fs : List Value} (he : ws[q0]? = some (b, .inr (10, fs))) {v : Value} (hv : fs[2]? = some v) (hdg : decode cc pc = .ok (.getfield 20, 3)) (kk : W p l e R s m args below meth c H locs cells slots Q (F0 m (pc + 3) ls (v :: rest))) : W p l e R s m args below meth c H locs cells slots Q (F0 m pc ls (.ref b :: rest)) :=
  va_get (D := D) (ci := 10) (C := RX10) (T := TX10) (N := 10) hx hb hts inX10 hown hK hP q0 he rfl 2 (by decide) (hts _ wd396) (fun _ h => h) hv hdg kk
theorem gfX10_23 (hx : p.tables.exec = Jvm.exec) (hb : c.code = cc) (hts : ∀ w ∈ lw_g, w.before args s = true) (hown : s.vm.findClass RX10 = some m.cls) (hK : va_K D vwCl tys s) (hP : va_P D vwCl ws H) (q0 : Nat) {fs : List Value} (he : ws[q0]? = some (b, .inr (10, fs))) {v : Value} (hv : fs[3]? = some v) (hdg : decode cc pc = .ok (.getfield 23, 3)) (kk : W p l e R s m args below meth c H locs cells slots Q (F0 m (pc + 3) ls (v :: rest))) : W p l e R s m args below meth c H locs cells slots Q (F0 m pc ls (.ref b :: rest)) :=
  va_get (D := D) (ci := 10) (C := RX10) (T := TX10) (N := 10) hx hb hts inX10 hown hK hP q0 he rfl 3 (by decide) (hts _ wd398) (fun _ h => h) hv hdg kk
theorem gfX10_26 (hx : p.tables.exec = Jvm.exec) (hb : c.code = cc) (hts : ∀ w ∈ lw_g, w.before args s = true) (hown : s.vm.findClass RX10 = some m.cls) (hK : va_K D vwCl tys s) (hP : va_P D vwCl ws H) (q0 : Nat) {fs : List Value} (he : ws[q0]? = some (b, .inr (10, fs))) {v : Value} (hv : fs[4]? = some v) (hdg : decode cc pc = .ok (.getfield 26, 3)) (kk : W p l e R s m args below meth c H locs cells slots Q (F0 m (pc + 3) ls (v :: rest))) : W p l e R s m args below meth c H locs cells slots Q (F0 m pc ls (.ref b :: rest)) :=
  va_get (D := D) (ci := 10) (C := RX10) (T := TX10) (N := 10) hx hb hts inX10 hown hK hP q0 he rfl 4 (by decide) (hts _ wd400) (fun _ h => h) hv hdg kk
theorem gfX10_29 (hx : p.tables.exec = Jvm.exec) (hb : c.code = cc) (hts : ∀ w ∈ lw_g, w.before args s = true) (hown : s.vm.findClass RX10 = some m.cls) (hK : va_K D vwCl tys s) (hP : va_P D vwCl ws H) (q0 : Nat) {fs : List Value} (he : ws[q0]? = some (b, .inr (10, fs))) {v : Value} (hv : fs[5]? = some v) (hdg : decode cc pc = .ok (.getfield 29, 3)) (kk : W p l e R s m args below meth c H locs cells slots Q (F0 m (pc + 3) ls (v :: rest))) : W p l e R s m args below meth c H locs cells slots Q (F0 m pc ls (.ref b :: rest)) :=
  va_get (D := D) (ci := 10) (C := RX10) (T := TX10) (N := 10) hx hb hts inX10 hown hK hP q0 he rfl 5 (by decide) (hts _ wd402) (fun _ h => h) hv hdg kk
theorem gfX10_33 (hx : p.tables.exec = Jvm.exec) (hb : c.code = cc) (hts : ∀ w ∈ lw_g, w.before args s = true) (hown : s.vm.findClass RX10 = some m.cls) (hK : va_K D vwCl tys s) (hP : va_P D vwCl ws H) (q0 : Nat) {fs : List Value} (he : ws[q0]? = some (b, .inr (10, fs))) {v : Value} (hv : fs[6]? = some v) (hdg : decode cc pc = .ok (.getfield 33, 3)) (kk : W p l e R s m args below meth c H locs cells slots Q (F0 m (pc + 3) ls (v :: rest))) : W p l e R s m args below meth c H locs cells slots Q (F0 m pc ls (.ref b :: rest)) :=
  va_get (D := D) (ci := 10) (C := RX10) (T := TX10) (N := 10) hx hb hts inX10 hown hK hP q0 he rfl 6 (by decide) (hts _ wd403) (fun _ h => h) hv hdg kk
theorem gfX10_36 (hx : p.tables.exec = Jvm.exec) (hb : c.code = cc) (hts : ∀ w ∈ lw_g, w.before args s = true) (hown : s.vm.findClass RX10 = some m.cls) (hK : va_K D vwCl tys s) (hP : va_P D vwCl ws H) (q0 : Nat) {fs : List Value} (he : ws[q0]? = some (b, .inr (10, fs))) {v : Value} (hv : fs[7]? = some v) (hdg : decode cc pc = .ok (.getfield 36, 3)) (kk : W p l e R s m args below meth c H locs cells slots Q (F0 m (pc + 3) ls (v :: rest))) : W p l e R s m args below meth c H locs cells slots Q (F0 m pc ls (.ref b :: rest)) :=
  va_get (D := D) (ci := 10) (C := RX10) (T := TX10) (N := 10) hx hb hts inX10 hown hK hP q0 he rfl 7 (by decide) (hts _ wd404) (fun _ h => h) hv hdg kk
theorem gfX10_39 (hx : p.tables.exec = Jvm.exec) (hb : c.code = cc) (hts : ∀ w ∈ lw_g, w.before args s = true) (hown : s.vm.findClass RX10 = some m.cls) (hK : va_K D vwCl tys s) (hP : va_P D vwCl ws H) (q0 : Nat) {fs : List Value} (he : ws[q0]? = some (b, .inr (10, fs))) {v : Value} (hv : fs[8]? = some v) (hdg : decode cc pc = .ok (.getfield 39, 3)) (kk : W p l e R s m args below meth c H locs cells slots Q (F0 m (pc + 3) ls (v :: rest))) : W p l e R s m args below meth c H locs cells slots Q (F0 m pc ls (.ref b :: rest)) :=
  va_get (D := D) (ci := 10) (C := RX10) (T := TX10) (N := 10) hx hb hts inX10 hown hK hP q0 he rfl 8 (by decide) (hts _ wd405) (fun _ h => h) hv hdg kk
theorem gfX10_42 (hx : p.tables.exec = Jvm.exec) (hb : c.code = cc) (hts : ∀ w ∈ lw_g, w.before args s = true) (hown : s.vm.findClass RX10 = some m.cls) (hK : va_K D vwCl tys s) (hP : va_P D vwCl ws H) (q0 : Nat) {fs : List Value} (he : ws[q0]? = some (b, .inr (10, fs))) {v : Value} (hv : fs[9]? = some v) (hdg : decode cc pc = .ok (.getfield 42, 3)) (kk : W p l e R s m args below meth c H locs cells slots Q (F0 m (pc + 3) ls (v :: rest))) : W p l e R s m args below meth c H locs cells slots Q (F0 m pc ls (.ref b :: rest)) :=
  va_get (D := D) (ci := 10) (C := RX10) (T := TX10) (N := 10) hx hb hts inX10 hown hK hP q0 he rfl 9 (by decide) (hts _ wd406) (fun _ h => h) hv hdg kk
theorem gfX10_51 (hx : p.tables.exec = Jvm.exec) (hb : c.code = cc) (hts : ∀ w ∈ lw_g, w.before args s = true) (hown : s.vm.findClass RX10 = some m.cls) (hK : va_K D vwCl tys s) (hP : va_P D vwCl ws H) (q0 : Nat) {fs : List Value} (he : ws[q0]? = some (b, .inr (2, fs))) {v : Value} (hv : fs[0]? = some v) (hdg : decode cc pc = .ok (.getfield 51, 3)) (kk : W p l e R s m args below meth c H locs cells slots Q (F0 m (pc + 3) ls (v :: rest))) : W p l e R s m args below meth c H locs cells slots Q (F0 m pc ls (.ref b :: rest)) :=
  va_get (D := D) (ci := 2) (C := RX2) (T := TX2) (N := 3) hx hb hts inX2 hown hK hP q0 he rfl 0 (by decide) (hts _ wd169) (fun _ h => h) hv hdg kk
theorem gfX10_105 (hx : p.tables.exec = Jvm.exec) (hb : c.code = cc) (hts : ∀ w ∈ lw_g, w.before args s = true) (hown : s.vm.findClass RX10 = some m.cls) (hK : va_K D vwCl tys s) (hP : va_P D vwCl ws H) (q0 : Nat) {fs : List Value} (he : ws[q0]? = some (b, .inr (4, fs))) {v : Value} (hv : fs[0]? = some v) (hdg : decode cc pc = .ok (.getfield 105, 3)) (kk : W p l e R s m args below meth c H locs cells slots Q (F0 m (pc + 3) ls (v :: rest))) : W p l e R s m args below meth c H locs cells slots Q (F0 m pc ls (.ref b :: rest)) :=
  va_get (D := D) (ci := 4) (C := RX4) (T := TX4) (N := 11) hx hb hts inX4 hown hK hP q0 he rfl 0 (by decide) (hts _ wd221) (fun _ h => h) hv hdg kk
theorem pfX2_9 (hx : p.tables.exec = Jvm.exec) (hb : c.code = cc) (hts : ∀ w ∈ lw_g, w.before args s = true) (hown : s.vm.findClass RX2 = some m.cls) (hK : va_K D vwCl tys s) (hP : va_P D vwCl ws H) (hD : va_D A ws) (hS : va_S A H0 H locs) (q0 : Nat) {fs : List Value} {x : Int32} (he : ws[q0]? = some (b, .inr (2, fs))) (hl : 0 < fs.length) (hdg : decode cc pc = .ok (.putfield 9, 3)) (kk : ∀ (H1 : Heap) (locs1 : List Loc), va_P D vwCl (ws.set q0 (b, .inr (2, fs.set 0 (.int x)))) H1 → va_D A (ws.set q0 (b, .inr (2, fs.set 0 (.int x)))) → va_S A H0 H1 locs1 → W p l e R s m args below meth c H1 locs1 cells slots Q (F0 m (pc + 3) ls rest)) : W p l e R s m args below meth c H locs cells slots Q (F0 m pc ls (.int x :: .ref b :: rest)) :=
  va_put (D := D) (ci := 2) (ty := (.int)) (C := RX2) (T := TX2) (N := 3) hx hb hts inX2 tyX2 tyX2_ok nmX2 hown hK hP hD hS q0 he rfl 0 (by decide) (hts _ wd168) (fun _ h => h) rfl (by decide +kernel) rfl rfl hl hdg kk
theorem pfX4_9 (hx : p.tables.exec = Jvm.exec) (hb : c.code = cc) (hts : ∀ w ∈ lw_g, w.before args s = true) (hown : s.vm.findClass RX4 = some m.cls) (hK : va_K D vwCl tys s) (hP : va_P D vwCl ws H) (hD : va_D A ws) (hS : va_S A H0 H locs) (q0 : Nat) {fs : List Value} {x : Int32} (he : ws[q0]? = some (b, .inr (4, fs))) (hl : 0 < fs.length) (hdg : decode cc pc = .ok (.putfield 9, 3)) (kk : ∀ (H1 : Heap) (locs1 : List Loc), va_P D vwCl (ws.set q0 (b, .inr (4, fs.set 0 (.int x)))) H1 → va_D A (ws.set q0 (b, .inr (4, fs.set 0 (.int x)))) → va_S A H0 H1 locs1 → W p l e R s m args below meth c H1 locs1 cells slots Q (F0 m (pc + 3) ls rest)) : W p l e R s m args below meth c H locs cells slots Q (F0 m pc ls (.int x :: .ref b :: rest)) :=
  va_put (D := D) (ci := 4) (ty := (.int)) (C := RX4) (T := TX4) (N := 11) hx hb hts inX4 tyX4 tyX4_ok nmX4 hown hK hP hD hS q0 he rfl 0 (by decide) (hts _ wd220) (fun _ h => h) rfl (by decide +kernel) rfl rfl hl hdg kk
theorem pfX4_15 (hx : p.tables.exec = Jvm.exec) (hb : c.code = cc) (hts : ∀ w ∈ lw_g, w.before args s = true) (hown : s.vm.findClass RX4 = some m.cls) (hK : va_K D vwCl tys s) (hP : va_P D vwCl ws H) (hD : va_D A ws) (hS : va_S A H0 H locs) (q0 : Nat) {fs : List Value} {x : Int32} (he : ws[q0]? = some (b, .inr (4, fs))) (hl : 1 < fs.length) (hdg : decode cc pc = .ok (.putfield 15, 3)) (kk : ∀ (H1 : Heap) (locs1 : List Loc), va_P D vwCl (ws.set q0 (b, .inr (4, fs.set 1 (.int x)))) H1 → va_D A (ws.set q0 (b, .inr (4, fs.set 1 (.int x)))) → va_S A H0 H1 locs1 → W p l e R s m args below meth c H1 locs1 cells slots Q (F0 m (pc + 3) ls rest)) : W p l e R s m args below meth c H locs cells slots Q (F0 m pc ls (.int x :: .ref b :: rest)) :=
  va_put (D := D) (ci := 4) (ty := (.int)) (C := RX4) (T := TX4) (N := 11) hx hb hts inX4 tyX4 tyX4_ok nmX4 hown hK hP hD hS q0 he rfl 1 (by decide) (hts _ wd223) (fun _ h => h) rfl (by decide +kernel) rfl rfl hl hdg kk
theorem pfX4_18 (hx : p.tables.exec = Jvm.exec) (hb : c.code = cc) (hts : ∀ w ∈ lw_g, w.before args s = true) (hown : s.vm.findClass RX4 = some m.cls) (hK : va_K D vwCl tys s) (hP : va_P D vwCl ws H) (hD : va_D A ws) (hS : va_S A H0 H locs) (q0 : Nat) {fs : List Value} {x : Int32} (he : ws[q0]? = some (b, .inr (4, fs))) (hl : 2 < fs.length) (hdg : decode cc pc = .ok (.putfield 18, 3)) (kk : ∀ (H1 : Heap) (locs1 : List Loc), va_P D vwCl (ws.set q0 (b, .inr (4, fs.set 2 (.int x)))) H1 → va_D A (ws.set q0 (b, .inr (4, fs.set 2 (.int x)))) → va_S A H0 H1 locs1 → W p l e R s m args below meth c H1 locs1 cells slots Q (F0 m (pc + 3) ls rest)) : W p l e R s m args below meth c H locs cells slots Q (F0 m pc ls (.int x :: .ref b :: rest)) :=
  va_put (D := D) (ci := 4) (ty := (.int)) (C := RX4) (T := TX4) (N := 11) hx hb hts inX4 tyX4 tyX4_ok nmX4 hown hK hP hD hS q0 he rfl 2 (by decide) (hts _ wd225) (fun _ h => h) rfl (by decide +kernel) rfl rfl hl hdg kk
theorem pfX4_21 (hx : p.tables.exec = Jvm.exec) (hb : c.code = cc) (hts : ∀ w ∈ lw_g, w.before args s = true) (hown : s.vm.findClass RX4 = some m.cls) (hK : va_K D vwCl tys s) (hP : va_P D vwCl ws H) (hD : va_D A ws) (hS : va_S A H0 H locs) (q0 : Nat) {fs : List Value} {x : Int32} (he : ws[q0]? = some (b, .inr (4, fs))) (hl : 3 < fs.length) (hdg : decode cc pc = .ok (.putfield 21, 3)) (kk : ∀ (H1 : Heap) (locs1 : List Loc), va_P D vwCl (ws.set q0 (b, .inr (4, fs.set 3 (.int x)))) H1 → va_D A (ws.set q0 (b, .inr (4, fs.set 3 (.int x)))) → va_S A H0 H1 locs1 → W p l e R s m args below meth c H1 locs1 cells slots Q (F0 m (pc + 3) ls rest)) : W p l e R s m args below meth c H locs cells slots Q (F0 m pc ls (.int x :: .ref b :: rest)) :=
  va_put (D := D) (ci := 4) (ty := (.int)) (C := RX4) (T := TX4) (N := 11) hx hb hts inX4 tyX4 tyX4_ok nmX4 hown hK hP hD hS q0 he rfl 3 (by decide) (hts _ wd227) (fun _ h => h) rfl (by decide +kernel) rfl rfl hl hdg kk
theorem pfX4_24 (hx : p.tables.exec = Jvm.exec) (hb : c.code = cc) (hts : ∀ w ∈ lw_g, w.before args s = true) (hown : s.vm.findClass RX4 = some m.cls) (hK : va_K D vwCl tys s) (hP : va_P D vwCl ws H) (hD : va_D A ws) (hS : va_S A H0 H locs) (q0 : Nat) {fs : List Value} {x : Int32} (he : ws[q0]? = some (b, .inr (4, fs))) (hl : 4 < fs.length) (hdg : decode cc pc = .ok (.putfield 24, 3)) (kk : ∀ (H1 : Heap) (locs1 : List Loc), va_P D vwCl (ws.set q0 (b, .inr (4, fs.set 4 (.int x)))) H1 → va_D A (ws.set q0 (b, .inr (4, fs.set 4 (.int x)))) → va_S A H0 H1 locs1 → W p l e R s m args below meth c H1 locs1 cells slots Q (F0 m (pc + 3) ls rest)) : W p l e R s m args below meth c H locs cells slots Q (F0 m pc ls (.int x :: .ref b :: rest)) :=
  va_put (D := D) (ci := 4) (ty := (.int)) (C := RX4) (T := TX4) (N := 11) hx hb hts inX4 tyX4 tyX4_ok nmX4 hown hK hP hD hS q0 he rfl 4 (by decide) (hts _ wd229) (fun _ h => h) rfl (by decide +kernel) rfl rfl hl hdg kk
theorem pfX6_39 (hx : p.tables.exec = Jvm.exec) (hb : c.code = cc) (hts : ∀ w ∈ lw_g, w.before args s = true) (hown : s.vm.findClass RX6 = some m.cls) (hK : va_K D vwCl tys s) (hP : va_P D vwCl ws H) (hD : va_D A ws) (hS : va_S A H0 H locs) (q0 : Nat) {fs : List Value} {x : Int32} (he : ws[q0]? = some (b, .inr (6, fs))) (hl : 4 < fs.length) (hdg : decode cc pc = .ok (.putfield 39, 3)) (kk : ∀ (H1 : Heap) (locs1 : List Loc), va_P D vwCl (ws.set q0 (b, .inr (6, fs.set 4 (.int x)))) H1 → va_D A (ws.set q0 (b, .inr (6, fs.set 4 (.int x)))) → va_S A H0 H1 locs1 → W p l e R s m args below meth c H1 locs1 cells slots Q (F0 m (pc + 3) ls rest)) : W p l e R s m args below meth c H locs cells slots Q (F0 m pc ls (.int x :: .ref b :: rest)) :=
  va_put (D := D) (ci := 6) (ty := (.int)) (C := RX6) (T := TX6) (N := 6) hx hb hts inX6 tyX6 tyX6_ok nmX6 hown hK hP hD hS q0 he rfl 4 (by decide) (hts _ wd272) (fun _ h => h) rfl (by decide +kernel) rfl rfl hl hdg kk
theorem pfX6_43 (hx : p.tables.exec = Jvm.exec) (hb : c.code = cc) (hts : ∀ w ∈ lw_g, w.before args s = true) (hown : s.vm.findClass RX6 = some m.cls) (hK : va_K D vwCl tys s) (hP : va_P D vwCl ws H) (hD : va_D A ws) (hS : va_S A H0 H locs) (q0 : Nat) {fs : List Value} {x : Int32} (he : ws[q0]? = some (b, .inr (6, fs))) (hl : 5 < fs.length) (hdg : decode cc pc = .ok (.putfield 43, 3)) (kk : ∀ (H1 : Heap) (locs1 : List Loc), va_P D vwCl (ws.set q0 (b, .inr (6, fs.set 5 (.int x)))) H1 → va_D A (ws.set q0 (b, .inr (6, fs.set 5 (.int x)))) → va_S A H0 H1 locs1 → W p l e R s m args below meth c H1 locs1 cells slots Q (F0 m (pc + 3) ls rest)) : W p l e R s m args below meth c H locs cells slots Q (F0 m pc ls (.int x :: .ref b :: rest)) :=
  va_put (D := D) (ci := 6) (ty := (.int)) (C := RX6) (T := TX6) (N := 6) hx hb hts inX6 tyX6 tyX6_ok nmX6 hown hK hP hD hS q0 he rfl 5 (by decide) (hts _ wd275) (fun _ h => h) rfl (by decide +kernel) rfl rfl hl hdg kk
theorem pfX7_11 (hx : p.tables.exec = Jvm.exec) (hb : c.code = cc) (hts : ∀ w ∈ lw_g, w.before args s = true) (hown : s.vm.findClass RX7 = some m.cls) (hK : va_K D vwCl tys s) (hP : va_P D vwCl ws H) (hD : va_D A ws) (hS : va_S A H0 H locs) (q0 : Nat) {fs : List Value} {x : Int32} (he : ws[q0]? = some (b, .inr (7, fs))) (hl : 0 < fs.length) (hdg : decode cc pc = .ok (.putfield 11, 3)) (kk : ∀ (H1 : Heap) (locs1 : List Loc), va_P D vwCl (ws.set q0 (b, .inr (7, fs.set 0 (.int x)))) H1 → va_D A (ws.set q0 (b, .inr (7, fs.set 0 (.int x)))) → va_S A H0 H1 locs1 → W p l e R s m args below meth c H1 locs1 cells slots Q (F0 m (pc + 3) ls rest)) : W p l e R s m args below meth c H locs cells slots Q (F0 m pc ls (.int x :: .ref b :: rest)) :=
  va_put (D := D) (ci := 7) (ty := (.int)) (C := RX7) (T := TX7) (N := 3) hx hb hts inX7 tyX7 tyX7_ok nmX7 hown hK hP hD hS q0 he rfl 0 (by decide) (hts _ wd203) (fun _ h => h) rfl (by decide +kernel) rfl rfl hl hdg kk
theorem pfX7_15 (hx : p.tables.exec = Jvm.exec) (hb : c.code = cc) (hts : ∀ w ∈ lw_g, w.before args s = true) (hown : s.vm.findClass RX7 = some m.cls) (hK : va_K D vwCl tys s) (hP : va_P D vwCl ws H) (hD : va_D A ws) (hS : va_S A H0 H locs) (q0 : Nat) {fs : List Value} {x : Int32} (he : ws[q0]? = some (b, .inr (7, fs))) (hl : 1 < fs.length) (hdg : decode cc pc = .ok (.putfield 15, 3)) (kk : ∀ (H1 : Heap) (locs1 : List Loc), va_P D vwCl (ws.set q0 (b, .inr (7, fs.set 1 (.int x)))) H1 → va_D A (ws.set q0 (b, .inr (7, fs.set 1 (.int x)))) → va_S A H0 H1 locs1 → W p l e R s m args below meth c H1 locs1 cells slots Q (F0 m (pc + 3) ls rest)) : W p l e R s m args below meth c H locs cells slots Q (F0 m pc ls (.int x :: .ref b :: rest)) :=
  va_put (D := D) (ci := 7) (ty := (.int)) (C := RX7) (T := TX7) (N := 3) hx hb hts inX7 tyX7 tyX7_ok nmX7 hown hK hP hD hS q0 he rfl 1 (by decide) (hts _ wd205) (fun _ h => h) rfl (by decide +kernel) rfl rfl hl hdg kk
theorem pfX8_9 (hx : p.tables.exec = Jvm.exec) (hb : c.code = cc) (hts : ∀ w ∈ lw_g, w.before args s = true) (hown : s.vm.findClass RX8 = some m.cls) (hK : va_K D vwCl tys s) (hP : va_P D vwCl ws H) (hD : va_D A ws) (hS : va_S A H0 H locs) (q0 : Nat) {fs : List Value} {x : Int32} (he : ws[q0]? = some (b, .inr (8, fs))) (hl : 0 < fs.length) (hdg : decode cc pc = .ok (.putfield 9, 3)) (kk : ∀ (H1 : Heap) (locs1 : List Loc), va_P D vwCl (ws.set q0 (b, .inr (8, fs.set 0 (.int x)))) H1 → va_D A (ws.set q0 (b, .inr (8, fs.set 0 (.int x)))) → va_S A H0 H1 locs1 → W p l e R s m args below meth c H1 locs1 cells slots Q (F0 m (pc + 3) ls rest)) : W p l e R s m args below meth c H locs cells slots Q (F0 m pc ls (.int x :: .ref b :: rest)) :=
  va_put (D := D) (ci := 8) (ty := (.int)) (C := RX8) (T := TX8) (N := 6) hx hb hts inX8 tyX8 tyX8_ok nmX8 hown hK hP hD hS q0 he rfl 0 (by decide) (hts _ wd300) (fun _ h => h) rfl (by decide +kernel) rfl rfl hl hdg kk
theorem pfX8_15 (hx : p.tables.exec = Jvm.exec) (hb : c.code = cc) (hts : ∀ w ∈ lw_g, w.before args s = true) (hown : s.vm.findClass RX8 = some m.cls) (hK : va_K D vwCl tys s) (hP : va_P D vwCl ws H) (hD : va_D A ws) (hS : va_S A H0 H locs) (q0 : Nat) {fs : List Value} {x : Int32} (he : ws[q0]? = some (b, .inr (8, fs))) (hl : 1 < fs.length) (hdg : decode cc pc = .ok (.putfield 15, 3)) (kk : ∀ (H1 : Heap) (locs1 : List Loc), va_P D vwCl (ws.set q0 (b, .inr (8, fs.set 1 (.int x)))) H1 → va_D A (ws.set q0 (b, .inr (8, fs.set 1 (.int x)))) → va_S A H0 H1 locs1 → W p l e R s m args below meth c H1 locs1 cells slots Q (F0 m (pc + 3) ls rest)) : W p l e R s m args below meth c H locs cells slots Q (F0 m pc ls (.int x :: .ref b :: rest)) :=
  va_put (D := D) (ci := 8) (ty := (.int)) (C := RX8) (T := TX8) (N := 6) hx hb hts inX8 tyX8 tyX8_ok nmX8 hown hK hP hD hS q0 he rfl 1 (by decide) (hts _ wd302) (fun _ h => h) rfl (by decide +kernel) rfl rfl hl hdg kk
theorem pfX9_11 (hx : p.tables.exec = Jvm.exec) (hb : c.code = cc) (hts : ∀ w ∈ lw_g, w.before args s = true) (hown : s.vm.findClass RX9 = some m.cls) (hK : va_K D vwCl tys s) (hP : va_P D vwCl ws H) (hD : va_D A ws) (hS : va_S A H0 H locs) (q0 : Nat) {fs : List Value} {x : Int32} (he : ws[q0]? = some (b, .inr (9, fs))) (hl : 0 < fs.length) (hdg : decode cc pc = .ok (.putfield 11, 3)) (kk : ∀ (H1 : Heap) (locs1 : List Loc), va_P D vwCl (ws.set q0 (b, .inr (9, fs.set 0 (.int x)))) H1 → va_D A (ws.set q0 (b, .inr (9, fs.set 0 (.int x)))) → va_S A H0 H1 locs1 → W p l e R s m args below meth c H1 locs1 cells slots Q (F0 m (pc + 3) ls rest)) : W p l e R s m args below meth c H locs cells slots Q (F0 m pc ls (.int x :: .ref b :: rest)) :=
  va_put (D := D) (ci := 9) (ty := (.int)) (C := RX9) (T := TX9) (N := 7) hx hb hts inX9 tyX9 tyX9_ok nmX9 hown hK hP hD hS q0 he rfl 0 (by decide) (hts _ wd433) (fun _ h => h) rfl (by decide +kernel) rfl rfl hl hdg kk
theorem pfX9_17 (hx : p.tables.exec = Jvm.exec) (hb : c.code = cc) (hts : ∀ w ∈ lw_g, w.before args s = true) (hown : s.vm.findClass RX9 = some m.cls) (hK : va_K D vwCl tys s) (hP : va_P D vwCl ws H) (hD : va_D A ws) (hS : va_S A H0 H locs) (q0 : Nat) {fs : List Value} {x : Int32} (he : ws[q0]? = some (b, .inr (9, fs))) (hl : 1 < fs.length) (hdg : decode cc pc = .ok (.putfield 17, 3)) (kk : ∀ (H1 : Heap) (locs1 : List Loc), va_P D vwCl (ws.set q0 (b, .inr (9, fs.set 1 (.int x)))) H1 → va_D A (ws.set q0 (b, .inr (9, fs.set 1 (.int x)))) → va_S A H0 H1 locs1 → W p l e R s m args below meth c H1 locs1 cells slots Q (F0 m (pc + 3) ls rest)) : W p l e R s m args below meth c H locs cells slots Q (F0 m pc ls (.int x :: .ref b :: rest)) :=
  va_put (D := D) (ci := 9) (ty := (.int)) (C := RX9) (T := TX9) (N := 7) hx hb hts inX9 tyX9 tyX9_ok nmX9 hown hK hP hD hS q0 he rfl 1 (by decide) (hts _ wd435) (fun _ h => h) rfl (by decide +kernel) rfl rfl hl hdg kk
theorem pfX9_20 (hx : p.tables.exec = Jvm.exec) (hb : c.code = cc) (hts : ∀ w ∈ lw_g, w.before args s = true) (hown : s.vm.findClass RX9 = some m.cls) (hK : va_K D vwCl tys s) (hP : va_P D vwCl ws H) (hD : va_D A ws) (hS : va_S A H0 H locs) (q0 : Nat) {fs : List Value} {x : Int32} (he : ws[q0]? = some (b, .inr (9, fs))) (hl : 2 < fs.length) (hdg : decode cc pc = .ok (.putfield 20, 3)) (kk : ∀ (H1 : Heap) (locs1 : List Loc), va_P D vwCl (ws.set q0 (b, .inr (9, fs.set 2 (.int x)))) H1 → va_D A (ws.set q0 (b, .inr (9, fs.set 2 (.int x)))) → va_S A H0 H1 locs1 → W p l e R s m args below meth c H1 locs1 cells slots Q (F0 m (pc + 3) ls rest)) : W p l e R s m args below meth c H locs cells slots Q (F0 m pc ls (.int x :: .ref b :: rest)) :=
  va_put (D := D) (ci := 9) (ty := (.int)) (C := RX9) (T := TX9) (N := 7) hx hb hts inX9 tyX9 tyX9_ok nmX9 hown hK hP hD hS q0 he rfl 2 (by decide) (hts _ wd436) (fun _ h => h) rfl (by decide +kernel) rfl rfl hl hdg kk
theorem pfX10_20 (hx : p.tables.exec = Jvm.exec) (hb : c.code = cc) (hts : ∀ w ∈ lw_g, w.before args s = true) (hown : s.vm.findClass RX10 = some m.cls) (hK : va_K D vwCl tys s) (hP : va_P D vwCl ws H) (hD : va_D A ws) (hS : va_S A H0 H locs) (q0 : Nat) {fs : List Value} {x : Int32} (he : ws[q0]? = some (b, .inr (10, fs))) (hl : 2 < fs.length) (hdg : decode cc pc = .ok (.putfield 20, 3)) (kk : ∀ (H1 : Heap) (locs1 : List Loc), va_P D vwCl (ws.set q0 (b, .inr (10, fs.set 2 (.int x)))) H1 → va_D A (ws.set q0 (b, .inr (10, fs.set 2 (.int x)))) → va_S A H0 H1 locs1 → W p l e R s m args below meth c H1 locs1 cells slots Q (F0 m (pc + 3) ls rest)) : W p l e R s m args below meth c H locs cells slots Q (F0 m pc ls (.int x :: .ref b :: rest)) :=
  va_put (D := D) (ci := 10) (ty := (.int)) (C := RX10) (T := TX10) (N := 10) hx hb hts inX10 tyX10 tyX10_ok nmX10 hown hK hP hD hS q0 he rfl 2 (by decide) (hts _ wd396) (fun _ h => h) rfl (by decide +kernel) rfl rfl hl hdg kk
theorem pfX10_23 (hx : p.tables.exec = Jvm.exec) (hb : c.code = cc) (hts : ∀ w ∈ lw_g, w.before args s = true) (hown : s.vm.findClass RX10 = some m.cls) (hK : va_K D vwCl tys s) (hP : va_P D vwCl ws H) (hD : va_D A ws) (hS : va_S A H0 H locs) (q0 : Nat) {fs : List Value} {x : Int32} (he : ws[q0]? = some (b, .inr (10, fs))) (hl : 3 < fs.length) (hdg : decode cc pc = .ok (.putfield 23, 3)) (kk : ∀ (H1 : Heap) (locs1 : List Loc), va_P D vwCl (ws.set q0 (b, .inr (10, fs.set 3 (.int x)))) H1 → va_D A (ws.set q0 (b, .inr (10, fs.set 3 (.int x)))) → va_S A H0 H1 locs1 → W p l e R s m args below meth c H1 locs1 cells slots Q (F0 m (pc + 3) ls rest)) : W p l e R s m args below meth c H locs cells slots Q (F0 m pc ls (.int x :: .ref b :: rest)) :=
  va_put (D := D) (ci := 10) (ty := (.int)) (C := RX10) (T := TX10) (N := 10) hx hb hts inX10 tyX10 tyX10_ok nmX10 hown hK hP hD hS q0 he rfl 3 (by decide) (hts _ wd398) (fun _ h => h) rfl (by decide +kernel) rfl rfl hl hdg kk
theorem pfX10_26 (hx : p.tables.exec = Jvm.exec) (hb : c.code = cc) (hts : ∀ w ∈ lw_g, w.before args s = true) (hown : s.vm.findClass RX10 = some m.cls) (hK : va_K D vwCl tys s) (hP : va_P D vwCl ws H) (hD : va_D A ws) (hS : va_S A H0 H locs) (q0 : Nat) {fs : List Value} {x : Int32} (he : ws[q0]? = some (b, .inr (10, fs))) (hl : 4 < fs.length) (hdg : decode cc pc = .ok (.putfield 26, 3)) (kk : ∀ (H1 : Heap) (locs1 : List Loc), va_P D vwCl (ws.set q0 (b, .inr (10, fs.set 4 (.int x)))) H1 → va_D A (ws.set q0 (b, .inr (10, fs.set 4 (.int x)))) → va_S A H0 H1 locs1 → W p l e R s m args below meth c H1 locs1 cells slots Q (F0 m (pc + 3) ls rest)) : W p l e R s m args below meth c H locs cells slots Q (F0 m pc ls (.int x :: .ref b :: rest)) :=
  va_put (D := D) (ci := 10) (ty := (.int)) (C := RX10) (T := TX10) (N := 10) hx hb hts inX10 tyX10 tyX10_ok nmX10 hown hK hP hD hS q0 he rfl 4 (by decide) (hts _ wd400) (fun _ h => h) rfl (by decide +kernel) rfl rfl hl hdg kk
theorem kwX1_27 (ht : ∀ w ∈ lw_g, w.before args s = true) (hrc : rm.cells = 0) (hrs : rm.slots = 0) (hR : rm.frames + 1 ≤ R.frames ∧ 8 + (1 + 11) + rm.locals ≤ R.locals) : CallW R s args RX1 RX1 27 yX1_count cX1_count 1 (some .int) (mw yX1_count cX1_count 1 (some .int)) rm 0 0 0 :=
  mcw_V 0 ht wd532 wd131 wd535 wd533 wd534 ⟨by decide, by decide, by decide +kernel⟩ hrc hrs hR
theorem kwX1_37 (ht : ∀ w ∈ lw_g, w.before args s = true) (hrc : rm.cells = 0) (hrs : rm.slots = 0) (hR : rm.frames + 1 ≤ R.frames ∧ 8 + (2 + 11) + rm.locals ≤ R.locals) : CallW R s args RX1 RX1 37 yX1_settle cX1_settle 2 none (mw yX1_settle cX1_settle 2 none) rm 0 0 1 :=
  mcw_V 1 ht wd536 wd131 wd539 wd538 wd0 ⟨by decide, by decide, by decide +kernel⟩ hrc hrs hR
theorem kwX1_41 (ht : ∀ w ∈ lw_g, w.before args s = true) (hrc : rm.cells = 0) (hrs : rm.slots = 0) (hR : rm.frames + 1 ≤ R.frames ∧ 8 + (2 + 11) + rm.locals ≤ R.locals) : CallW R s args RX1 RX1 41 yX1_told cX1_told 2 (some .boolean) (mw yX1_told cX1_told 2 (some .boolean)) rm 0 0 1 :=
  mcw_V 1 ht wd540 wd131 wd543 wd541 wd542 ⟨by decide, by decide, by decide +kernel⟩ hrc hrs hR
theorem kwX1_45 (ht : ∀ w ∈ lw_g, w.before args s = true) (hrc : rm.cells = 0) (hrs : rm.slots = 0) (hR : rm.frames + 1 ≤ R.frames ∧ 8 + (4 + 11) + rm.locals ≤ R.locals) : CallW R s args RX1 RX1 45 yX1_set cX1_set 4 none (mw yX1_set cX1_set 4 none) rm 0 0 3 :=
  mcw_V 3 ht wd544 wd131 wd547 wd545 wd546 ⟨by decide, by decide, by decide +kernel⟩ hrc hrs hR
theorem kwX1_49 (ht : ∀ w ∈ lw_g, w.before args s = true) (hrc : rm.cells = 0) (hrs : rm.slots = 0) (hR : rm.frames + 1 ≤ R.frames ∧ 8 + (4 + 11) + rm.locals ≤ R.locals) : CallW R s args RX1 RX1 49 yX1_get cX1_get 4 (some .int) (mw yX1_get cX1_get 4 (some .int)) rm 0 0 2 :=
  mcw_V 2 ht wd1296 wd131 wd812 wd810 wd811 ⟨by decide, by decide, by decide +kernel⟩ hrc hrs hR
theorem kwX1_52 (ht : ∀ w ∈ lw_g, w.before args s = true) (hrc : rm.cells = 0) (hrs : rm.slots = 0) (hR : rm.frames + 1 ≤ R.frames ∧ 8 + (1 + 11) + rm.locals ≤ R.locals) : CallW R s args RX1 RX1 52 yX1_stir cX1_stir 1 none (mw yX1_stir cX1_stir 1 none) rm 0 0 0 :=
  mcw_V 0 ht wd921 wd131 wd924 wd922 wd923 ⟨by decide, by decide, by decide +kernel⟩ hrc hrs hR
theorem kwX1_55 (ht : ∀ w ∈ lw_g, w.before args s = true) (hrc : rm.cells = 0) (hrs : rm.slots = 0) (hR : rm.frames + 1 ≤ R.frames ∧ 8 + (2 + 11) + rm.locals ≤ R.locals) : CallW R s args RX1 RX1 55 yX1_entry cX1_entry 2 (some .int) (mw yX1_entry cX1_entry 2 (some .int)) rm 0 0 1 :=
  mcw_V 1 ht wd1064 wd131 wd1067 wd1066 wd36 ⟨by decide, by decide, by decide +kernel⟩ hrc hrs hR
theorem kwX2_28 (ht : ∀ w ∈ lw_g, w.before args s = true) (hrc : rm.cells = 0) (hrs : rm.slots = 0) (hR : rm.frames + 1 ≤ R.frames ∧ 8 + (2 + 11) + rm.locals ≤ R.locals) : CallW R s args RX2 RX2 28 yX2_told cX2_told 2 (some .boolean) (mw yX2_told cX2_told 2 (some .boolean)) rm 0 0 1 :=
  mcw_V 1 ht wd515 wd130 wd518 wd516 wd517 ⟨by decide, by decide, by decide +kernel⟩ hrc hrs hR
theorem kwX2_32 (ht : ∀ w ∈ lw_g, w.before args s = true) (hrc : rm.cells = 0) (hrs : rm.slots = 0) (hR : rm.frames + 1 ≤ R.frames ∧ 8 + (3 + 11) + rm.locals ≤ R.locals) : CallW R s args RX2 RX2 32 yX2_joined cX2_joined 3 (some .boolean) (mw yX2_joined cX2_joined 3 (some .boolean)) rm 0 0 2 :=
  mcw_V 2 ht wd519 wd130 wd522 wd520 wd521 ⟨by decide, by decide, by decide +kernel⟩ hrc hrs hR
theorem kwX2_36 (ht : ∀ w ∈ lw_g, w.before args s = true) (hrc : rm.cells = 0) (hrs : rm.slots = 0) (hR : rm.frames + 1 ≤ R.frames ∧ 8 + (4 + 11) + rm.locals ≤ R.locals) : CallW R s args RX2 RX2 36 yX2_spread cX2_spread 4 (some .int) (mw yX2_spread cX2_spread 4 (some .int)) rm 0 0 1 :=
  mcw_V 1 ht wd1129 wd130 wd1132 wd1130 wd1131 ⟨by decide, by decide, by decide +kernel⟩ hrc hrs hR
theorem kwX2_40 (ht : ∀ w ∈ lw_g, w.before args s = true) (hrc : rm.cells = 0) (hrs : rm.slots = 0) (hR : rm.frames + 1 ≤ R.frames ∧ 8 + (1 + 11) + rm.locals ≤ R.locals) : CallW R s args RX2 RX2 40 yX2_all cX2_all 1 (some .int) (mw yX2_all cX2_all 1 (some .int)) rm 0 0 0 :=
  mcw_V 0 ht wd1187 wd130 wd1141 wd1139 wd1140 ⟨by decide, by decide, by decide +kernel⟩ hrc hrs hR
theorem kwX2_44 (ht : ∀ w ∈ lw_g, w.before args s = true) (hrc : rm.cells = 0) (hrs : rm.slots = 0) (hR : rm.frames + 1 ≤ R.frames ∧ 8 + (1 + 11) + rm.locals ≤ R.locals) : CallB R s args RX2 44 yJ6_bitCount_0f7a4 cJ6_bitCount_0f7a4 1 (some .int) (mw yJ6_bitCount_0f7a4 cJ6_bitCount_0f7a4 1 (some .int)) rm 0 0 1 ∧ (Cond.static yJ6_bitCount_0f7a4).before args s = true :=
  mcw_S 1 ht wd1188 wd147 wd883 wd882 ⟨by decide, by decide, by decide +kernel⟩ hrc hrs hR
theorem kwX2_49 (ht : ∀ w ∈ lw_g, w.before args s = true) (hrc : rm.cells = 0) (hrs : rm.slots = 0) (hR : rm.frames + 1 ≤ R.frames ∧ 8 + (7 + 11) + rm.locals ≤ R.locals) : CallW R s args RX2 RX2 49 yX2_parts cX2_parts 7 (some .boolean) (mw yX2_parts cX2_parts 7 (some .boolean)) rm 0 0 3 :=
  mcw_V 3 ht wd1197 wd130 wd1200 wd1199 wd42 ⟨by decide, by decide, by decide +kernel⟩ hrc hrs hR
theorem kwX4_52 (ht : ∀ w ∈ lw_g, w.before args s = true) (hrc : rm.cells = 0) (hrs : rm.slots = 0) (hR : rm.frames + 1 ≤ R.frames ∧ 8 + (2 + 11) + rm.locals ≤ R.locals) : CallW R s args RX4 RX4 52 yX4_reported cX4_reported 2 (some .boolean) (mw yX4_reported cX4_reported 2 (some .boolean)) rm 0 0 1 :=
  mcw_V 1 ht wd1225 wd133 wd1228 wd1226 wd1227 ⟨by decide, by decide, by decide +kernel⟩ hrc hrs hR
theorem kwX4_70 (ht : ∀ w ∈ lw_g, w.before args s = true) (hrc : rm.cells = 0) (hrs : rm.slots = 0) (hR : rm.frames + 1 ≤ R.frames ∧ 8 + (4 + 11) + rm.locals ≤ R.locals) : CallW R s args RX4 RX4 70 yX4_gain cX4_gain 4 (some .int) (mw yX4_gain cX4_gain 4 (some .int)) rm 0 0 3 :=
  mcw_V 3 ht wd1267 wd133 wd1270 wd1269 wd45 ⟨by decide, by decide, by decide +kernel⟩ hrc hrs hR
theorem kwX4_74 (ht : ∀ w ∈ lw_g, w.before args s = true) (hl : va_Nw (.methodLinkNest RX4 74 yX11_commonDivisor "WolfsHead") s) (hrc : rm.cells = 0) (hrs : rm.slots = 0) (hR : rm.frames + 1 ≤ R.frames ∧ 8 + (6 + 11) + rm.locals ≤ R.locals) : va_CN R s args RX4 74 yX11_commonDivisor "WolfsHead" cX11_commonDivisor 6 (some .int) (mw yX11_commonDivisor cX11_commonDivisor 6 (some .int)) rm 0 0 2 ∧ (Cond.static yX11_commonDivisor).before args s = true ∧ True :=
  mcw_SN 2 ht hl wd128 wd1115 wd1114 ⟨by decide, by decide, by decide +kernel⟩ hrc hrs hR
theorem kwX6_46 (ht : ∀ w ∈ lw_g, w.before args s = true) (hrc : rm.cells = 0) (hrs : rm.slots = 0) (hR : rm.frames + 1 ≤ R.frames ∧ 8 + (2 + 11) + rm.locals ≤ R.locals) : CallW R s args RX6 RX2 46 yX2_become cX2_become 2 none (mw yX2_become cX2_become 2 none) rm 0 0 1 :=
  mcw_V 1 ht wd1337 wd130 wd1340 wd1338 wd1339 ⟨by decide, by decide, by decide +kernel⟩ hrc hrs hR
theorem kwX6_50 (ht : ∀ w ∈ lw_g, w.before args s = true) (hrc : rm.cells = 0) (hrs : rm.slots = 0) (hR : rm.frames + 1 ≤ R.frames ∧ 8 + (2 + 11) + rm.locals ≤ R.locals) : CallW R s args RX6 RX1 50 yX1_become cX1_become 2 none (mw yX1_become cX1_become 2 none) rm 0 0 1 :=
  mcw_V 1 ht wd1342 wd131 wd1083 wd1081 wd1082 ⟨by decide, by decide, by decide +kernel⟩ hrc hrs hR
theorem kwX6_53 (ht : ∀ w ∈ lw_g, w.before args s = true) (hrc : rm.cells = 0) (hrs : rm.slots = 0) (hR : rm.frames + 1 ≤ R.frames ∧ 8 + (2 + 11) + rm.locals ≤ R.locals) : CallW R s args RX6 RX7 53 yX7_become cX7_become 2 none (mw yX7_become cX7_become 2 none) rm 0 0 1 :=
  mcw_V 1 ht wd1343 wd132 wd1346 wd1344 wd1345 ⟨by decide, by decide, by decide +kernel⟩ hrc hrs hR
theorem kwX6_56 (ht : ∀ w ∈ lw_g, w.before args s = true) (hrc : rm.cells = 0) (hrs : rm.slots = 0) (hR : rm.frames + 1 ≤ R.frames ∧ 8 + (2 + 11) + rm.locals ≤ R.locals) : CallW R s args RX6 RX4 56 yX4_become cX4_become 2 none (mw yX4_become cX4_become 2 none) rm 0 0 1 :=
  mcw_V 1 ht wd1348 wd133 wd1351 wd1349 wd1350 ⟨by decide, by decide, by decide +kernel⟩ hrc hrs hR
theorem kwX7_30 (ht : ∀ w ∈ lw_g, w.before args s = true) (hrc : rm.cells = 0) (hrs : rm.slots = 0) (hR : rm.frames + 1 ≤ R.frames ∧ 8 + (3 + 11) + rm.locals ≤ R.locals) : CallW R s args RX7 RX1 30 yX1_copyTo cX1_copyTo 3 none (mw yX1_copyTo cX1_copyTo 3 none) rm 0 0 2 :=
  mcw_V 2 ht wd793 wd131 wd796 wd794 wd795 ⟨by decide, by decide, by decide +kernel⟩ hrc hrs hR
theorem kwX7_40 (ht : ∀ w ∈ lw_g, w.before args s = true) (hrc : rm.cells = 0) (hrs : rm.slots = 0) (hR : rm.frames + 1 ≤ R.frames ∧ 8 + (6 + 11) + rm.locals ≤ R.locals) : CallW R s args RX7 RX1 40 yX1_takeFrom cX1_takeFrom 6 none (mw yX1_takeFrom cX1_takeFrom 6 none) rm 0 0 2 :=
  mcw_V 2 ht wd1024 wd131 wd1027 wd1025 wd1026 ⟨by decide, by decide, by decide +kernel⟩ hrc hrs hR
theorem kwX8_32 (ht : ∀ w ∈ lw_g, w.before args s = true) (hrc : rm.cells = 0) (hrs : rm.slots = 0) (hR : rm.frames + 1 ≤ R.frames ∧ 8 + (2 + 11) + rm.locals ≤ R.locals) : CallW R s args RX8 RX8 32 yX8_byteAt cX8_byteAt 2 (some .int) (mw yX8_byteAt cX8_byteAt 2 (some .int)) rm 0 0 1 :=
  mcw_V 1 ht wd580 wd134 wd583 wd582 wd1 ⟨by decide, by decide, by decide +kernel⟩ hrc hrs hR
theorem kwX9_36 (ht : ∀ w ∈ lw_g, w.before args s = true) (hrc : rm.cells = 0) (hrs : rm.slots = 0) (hR : rm.frames + 1 ≤ R.frames ∧ 8 + (3 + 11) + rm.locals ≤ R.locals) : CallW R s args RX9 RX9 36 yX9_addPart cX9_addPart 3 none (mw yX9_addPart cX9_addPart 3 none) rm 0 0 1 :=
  mcw_V 1 ht wd693 wd139 wd696 wd694 wd695 ⟨by decide, by decide, by decide +kernel⟩ hrc hrs hR
theorem kwX9_40 (ht : ∀ w ∈ lw_g, w.before args s = true) (hrc : rm.cells = 0) (hrs : rm.slots = 0) (hR : rm.frames + 1 ≤ R.frames ∧ 8 + (3 + 11) + rm.locals ≤ R.locals) : CallW R s args RX9 RX9 40 yX9_put cX9_put 3 none (mw yX9_put cX9_put 3 none) rm 0 0 2 :=
  mcw_V 2 ht wd755 wd139 wd730 wd728 wd729 ⟨by decide, by decide, by decide +kernel⟩ hrc hrs hR
theorem kwX9_44 (ht : ∀ w ∈ lw_g, w.before args s = true) (hrc : rm.cells = 0) (hrs : rm.slots = 0) (hR : rm.frames + 1 ≤ R.frames ∧ 8 + (2 + 11) + rm.locals ≤ R.locals) : CallW R s args RX9 RX9 44 yX9_begun cX9_begun 2 (some .boolean) (mw yX9_begun cX9_begun 2 (some .boolean)) rm 0 0 1 :=
  mcw_V 1 ht wd891 wd139 wd688 wd686 wd687 ⟨by decide, by decide, by decide +kernel⟩ hrc hrs hR
theorem kwX9_54 (ht : ∀ w ∈ lw_g, w.before args s = true) (hrc : rm.cells = 0) (hrs : rm.slots = 0) (hR : rm.frames + 1 ≤ R.frames ∧ 8 + (2 + 11) + rm.locals ≤ R.locals) : CallW R s args RX9 RX1 54 yX1_fearOf cX1_fearOf 2 (some .int) (mw yX1_fearOf cX1_fearOf 2 (some .int)) rm 0 0 1 :=
  mcw_V 1 ht wd895 wd131 wd871 wd869 wd870 ⟨by decide, by decide, by decide +kernel⟩ hrc hrs hR
theorem kwX9_63 (ht : ∀ w ∈ lw_g, w.before args s = true) (hrc : rm.cells = 0) (hrs : rm.slots = 0) (hR : rm.frames + 1 ≤ R.frames ∧ 8 + (1 + 11) + rm.locals ≤ R.locals) : CallB R s args RX9 63 yJ6_bitCount_0f7a4 cJ6_bitCount_0f7a4 1 (some .int) (mw yJ6_bitCount_0f7a4 cJ6_bitCount_0f7a4 1 (some .int)) rm 0 0 1 ∧ (Cond.static yJ6_bitCount_0f7a4).before args s = true :=
  mcw_S 1 ht wd899 wd147 wd883 wd882 ⟨by decide, by decide, by decide +kernel⟩ hrc hrs hR
theorem kwX9_68 (ht : ∀ w ∈ lw_g, w.before args s = true) (hrc : rm.cells = 0) (hrs : rm.slots = 0) (hR : rm.frames + 1 ≤ R.frames ∧ 8 + (5 + 11) + rm.locals ≤ R.locals) : CallB R s args RX9 68 yX9_ofTwo cX9_ofTwo 5 (some .long) (mw yX9_ofTwo cX9_ofTwo 5 (some .long)) rm 0 0 3 ∧ (Cond.static yX9_ofTwo).before args s = true :=
  mcw_S 3 ht wd900 wd139 wd902 wd901 ⟨by decide, by decide, by decide +kernel⟩ hrc hrs hR
theorem kwX10_86 (ht : ∀ w ∈ lw_g, w.before args s = true) (hrc : rm.cells = 0) (hrs : rm.slots = 0) (hR : rm.frames + 1 ≤ R.frames ∧ 8 + (2 + 11) + rm.locals ≤ R.locals) : CallW R s args RX10 RX2 86 yX2_near cX2_near 2 (some .int) (mw yX2_near cX2_near 2 (some .int)) rm 0 0 1 :=
  mcw_V 1 ht wd1102 wd130 wd1047 wd1045 wd1046 ⟨by decide, by decide, by decide +kernel⟩ hrc hrs hR
theorem kwX10_90 (ht : ∀ w ∈ lw_g, w.before args s = true) (hrc : rm.cells = 0) (hrs : rm.slots = 0) (hR : rm.frames + 1 ≤ R.frames ∧ 8 + (4 + 11) + rm.locals ≤ R.locals) : CallW R s args RX10 RX10 90 yX10_bestAfter cX10_bestAfter 4 (some .int) (mw yX10_bestAfter cX10_bestAfter 4 (some .int)) rm 0 0 2 :=
  mcw_V 2 ht wd1103 wd138 wd1106 wd1105 wd38 ⟨by decide, by decide, by decide +kernel⟩ hrc hrs hR
theorem kwX10_98 (ht : ∀ w ∈ lw_g, w.before args s = true) (hrc : rm.cells = 0) (hrs : rm.slots = 0) (hR : rm.frames + 1 ≤ R.frames ∧ 8 + (2 + 11) + rm.locals ≤ R.locals) : CallB R s args RX10 98 yX10_clear cX10_clear 2 none (mw yX10_clear cX10_clear 2 none) rm 0 0 1 ∧ (Cond.static yX10_clear).before args s = true :=
  mcw_S 1 ht wd1162 wd138 wd1164 wd1163 ⟨by decide, by decide, by decide +kernel⟩ hrc hrs hR
theorem kwX10_102 (ht : ∀ w ∈ lw_g, w.before args s = true) (hrc : rm.cells = 0) (hrs : rm.slots = 0) (hR : rm.frames + 1 ≤ R.frames ∧ 8 + (2 + 11) + rm.locals ≤ R.locals) : CallW R s args RX10 RX4 102 yX4_callLand cX4_callLand 2 (some .int) (mw yX4_callLand cX4_callLand 2 (some .int)) rm 0 0 1 :=
  mcw_V 1 ht wd1165 wd133 wd1168 wd1166 wd1167 ⟨by decide, by decide, by decide +kernel⟩ hrc hrs hR
theorem kwX10_114 (ht : ∀ w ∈ lw_g, w.before args s = true) (hrc : rm.cells = 0) (hrs : rm.slots = 0) (hR : rm.frames + 1 ≤ R.frames ∧ 8 + (8 + 11) + rm.locals ≤ R.locals) : CallW R s args RX10 RX10 114 yX10_comeTo cX10_comeTo 8 none (mw yX10_comeTo cX10_comeTo 8 none) rm 0 0 4 :=
  mcw_V 4 ht wd1170 wd138 wd1173 wd1172 wd40 ⟨by decide, by decide, by decide +kernel⟩ hrc hrs hR
theorem kwX10_118 (ht : ∀ w ∈ lw_g, w.before args s = true) (hrc : rm.cells = 0) (hrs : rm.slots = 0) (hR : rm.frames + 1 ≤ R.frames ∧ 8 + (4 + 11) + rm.locals ≤ R.locals) : CallW R s args RX10 RX10 118 yX10_sumUp cX10_sumUp 4 none (mw yX10_sumUp cX10_sumUp 4 none) rm 0 0 1 :=
  mcw_V 1 ht wd1174 wd138 wd1177 wd1176 wd41 ⟨by decide, by decide, by decide +kernel⟩ hrc hrs hR
theorem kwX10_122 (ht : ∀ w ∈ lw_g, w.before args s = true) (hrc : rm.cells = 0) (hrs : rm.slots = 0) (hR : rm.frames + 1 ≤ R.frames ∧ 8 + (1 + 11) + rm.locals ≤ R.locals) : CallB R s args RX10 122 yJ6_bitCount_0f7a4 cJ6_bitCount_0f7a4 1 (some .int) (mw yJ6_bitCount_0f7a4 cJ6_bitCount_0f7a4 1 (some .int)) rm 0 0 1 ∧ (Cond.static yJ6_bitCount_0f7a4).before args s = true :=
  mcw_S 1 ht wd1178 wd147 wd883 wd882 ⟨by decide, by decide, by decide +kernel⟩ hrc hrs hR
end
abbrev W_F_0t1 (qf0 : Nat) (qf1 : Nat) (qf2 : Nat) (qf3 : Nat) (cI cJ cZ cB cT : ClassId) (f_row : Nat → Int32) : va_W := [(qf0, .inr (1, [.ref qf1, .ref qf2, .ref qf3])), (qf1, .inl (cI, 76, .inl f_row))]
abbrev W_L_0 (qd0 : Nat) (qd1 : Nat) (qd2 : Nat) (cI cJ cZ cB cT : ClassId) (d_n : Int32) : va_W := [(qd0, .inr (2, [.int d_n, .ref qd1, .ref qd2]))]
abbrev W_L_0_2 (qd0 : Nat) (qd2 : Nat) (qd1 : Nat) (cI cJ cZ cB cT : ClassId) (d_n : Int32) (d_road : Nat → Int32) : va_W := [(qd0, .inr (2, [.int d_n, .ref qd1, .ref qd2])), (qd2, .inl (cI, 8, .inl d_road))]
abbrev W_F_0t2 (qf0 : Nat) (qf1 : Nat) (qf2 : Nat) (qf3 : Nat) (cI cJ cZ cB cT : ClassId) (f_row : Nat → Int32) (f_fears : Nat → Int32) : va_W := [(qf0, .inr (1, [.ref qf1, .ref qf2, .ref qf3])), (qf1, .inl (cI, 76, .inl f_row)), (qf2, .inl (cI, 6, .inl f_fears))]
abbrev W_L_0t1 (qd0 : Nat) (qd1 : Nat) (qd2 : Nat) (cI cJ cZ cB cT : ClassId) (d_n : Int32) (d_for : Nat → Int32) : va_W := [(qd0, .inr (2, [.int d_n, .ref qd1, .ref qd2])), (qd1, .inl (cI, 8, .inl d_for))]
abbrev W_TX_0_2 (qx0 : Nat) (qx2 : Nat) (qx1 : Nat) (qx3 : Nat) (qx4 : Nat) (cI cJ cZ cB cT : ClassId) (x_cl : Int32) (x_ln : Int32) (x_pt : Int32) (x_st : Nat → Int32) : va_W := [(qx0, .inr (9, [.int x_cl, .int x_ln, .int x_pt, .ref qx1, .ref qx2, .ref qx3, .ref qx4])), (qx2, .inl (cI, 4, .inl x_st))]
abbrev W_TXV_0t3_5t8_10 (qx0 : Nat) (qx1 : Nat) (qx2 : Nat) (qx3 : Nat) (qw1 : Nat) (qf0 : Nat) (qf1 : Nat) (qf2 : Nat) (qw2 : Nat) (qx4 : Nat) (qf3 : Nat) (cI cJ cZ cB cT : ClassId) (x_cl : Int32) (x_ln : Int32) (x_pt : Int32) (x_code : Nat → Int32) (x_st : Nat → Int32) (x_en : Nat → Int32) (w_names : Nat → Int32) (f_row : Nat → Int32) (f_fears : Nat → Int32) (w_stack : Nat → Int32) : va_W := [(qx0, .inr (9, [.int x_cl, .int x_ln, .int x_pt, .ref qx1, .ref qx2, .ref qx3, .ref qx4])), (qx1, .inl (cI, 301, .inl x_code)), (qx2, .inl (cI, 4, .inl x_st)), (qx3, .inl (cI, 4, .inl x_en)), (qw1, .inl (cI, 10, .inl w_names)), (qf0, .inr (1, [.ref qf1, .ref qf2, .ref qf3])), (qf1, .inl (cI, 76, .inl f_row)), (qf2, .inl (cI, 6, .inl f_fears)), (qw2, .inl (cI, 64, .inl w_stack))]
abbrev W_FF_0t7 (qf0 : Nat) (qf1 : Nat) (qf2 : Nat) (qf3 : Nat) (qg0 : Nat) (qg1 : Nat) (qg2 : Nat) (qg3 : Nat) (cI cJ cZ cB cT : ClassId) (f_row : Nat → Int32) (f_fears : Nat → Int32) (f_told : Nat → Int32) (g_row : Nat → Int32) (g_fears : Nat → Int32) (g_told : Nat → Int32) : va_W := [(qf0, .inr (1, [.ref qf1, .ref qf2, .ref qf3])), (qf1, .inl (cI, 76, .inl f_row)), (qf2, .inl (cI, 6, .inl f_fears)), (qf3, .inl (cI, 18, .inl f_told)), (qg0, .inr (1, [.ref qg1, .ref qg2, .ref qg3])), (qg1, .inl (cI, 76, .inl g_row)), (qg2, .inl (cI, 6, .inl g_fears)), (qg3, .inl (cI, 18, .inl g_told))]
abbrev W_FS_0t1_4 (qf0 : Nat) (qf1 : Nat) (qz1 : Nat) (qf2 : Nat) (qf3 : Nat) (cI cJ cZ cB cT : ClassId) (f_row : Nat → Int32) (z_store : Nat → Int32) : va_W := [(qf0, .inr (1, [.ref qf1, .ref qf2, .ref qf3])), (qf1, .inl (cI, 76, .inl f_row)), (qz1, .inl (cI, 2356, .inl z_store))]
abbrev W_F_0t1_3 (qf0 : Nat) (qf1 : Nat) (qf3 : Nat) (qf2 : Nat) (cI cJ cZ cB cT : ClassId) (f_row : Nat → Int32) (f_told : Nat → Int32) : va_W := [(qf0, .inr (1, [.ref qf1, .ref qf2, .ref qf3])), (qf1, .inl (cI, 76, .inl f_row)), (qf3, .inl (cI, 18, .inl f_told))]
abbrev W_FS_0t1_3t4 (qf0 : Nat) (qf1 : Nat) (qf3 : Nat) (qz1 : Nat) (qf2 : Nat) (cI cJ cZ cB cT : ClassId) (f_row : Nat → Int32) (f_told : Nat → Int32) (z_store : Nat → Int32) : va_W := [(qf0, .inr (1, [.ref qf1, .ref qf2, .ref qf3])), (qf1, .inl (cI, 76, .inl f_row)), (qf3, .inl (cI, 18, .inl f_told)), (qz1, .inl (cI, 2356, .inl z_store))]
abbrev W_F_0t3 (qf0 : Nat) (qf1 : Nat) (qf2 : Nat) (qf3 : Nat) (cI cJ cZ cB cT : ClassId) (f_row : Nat → Int32) (f_fears : Nat → Int32) (f_told : Nat → Int32) : va_W := [(qf0, .inr (1, [.ref qf1, .ref qf2, .ref qf3])), (qf1, .inl (cI, 76, .inl f_row)), (qf2, .inl (cI, 6, .inl f_fears)), (qf3, .inl (cI, 18, .inl f_told))]
abbrev W_LL_0t5 (qd0 : Nat) (qd1 : Nat) (qd2 : Nat) (qc0 : Nat) (qc1 : Nat) (qc2 : Nat) (cI cJ cZ cB cT : ClassId) (d_n : Int32) (d_for : Nat → Int32) (d_road : Nat → Int32) (c_n : Int32) (c_for : Nat → Int32) (c_road : Nat → Int32) : va_W := [(qd0, .inr (2, [.int d_n, .ref qd1, .ref qd2])), (qd1, .inl (cI, 8, .inl d_for)), (qd2, .inl (cI, 8, .inl d_road)), (qc0, .inr (2, [.int c_n, .ref qc1, .ref qc2])), (qc1, .inl (cI, 8, .inl c_for)), (qc2, .inl (cI, 8, .inl c_road))]
abbrev W_NN_0t2_4t9_11t13 (qn0 : Nat) (qn1 : Nat) (qn2 : Nat) (qn4 : Nat) (qn5 : Nat) (qn6 : Nat) (qo0 : Nat) (qo1 : Nat) (qo2 : Nat) (qo4 : Nat) (qo5 : Nat) (qo6 : Nat) (qn3 : Nat) (qo3 : Nat) (cI cJ cZ cB cT : ClassId) (n_calls : Int32) (n_bord : Int32) (n_rep : Int32) (n_unl : Int32) (n_pay : Int32) (n_cl : Nat → Int32) (n_ul : Nat → Int32) (n_ga : Nat → Int32) (n_py : Nat → Int32) (n_pr : Nat → Int32) (o_calls : Int32) (o_bord : Int32) (o_rep : Int32) (o_unl : Int32) (o_pay : Int32) (o_cl : Nat → Int32) (o_ul : Nat → Int32) (o_ga : Nat → Int32) (o_py : Nat → Int32) (o_pr : Nat → Int32) : va_W := [(qn0, .inr (4, [.int n_calls, .int n_bord, .int n_rep, .int n_unl, .int n_pay, .ref qn1, .ref qn2, .ref qn3, .ref qn4, .ref qn5, .ref qn6])), (qn1, .inl (cI, 5, .inl n_cl)), (qn2, .inl (cI, 8, .inl n_ul)), (qn4, .inl (cI, 8, .inl n_ga)), (qn5, .inl (cI, 8, .inl n_py)), (qn6, .inl (cI, 8, .inl n_pr)), (qo0, .inr (4, [.int o_calls, .int o_bord, .int o_rep, .int o_unl, .int o_pay, .ref qo1, .ref qo2, .ref qo3, .ref qo4, .ref qo5, .ref qo6])), (qo1, .inl (cI, 5, .inl o_cl)), (qo2, .inl (cI, 8, .inl o_ul)), (qo4, .inl (cI, 8, .inl o_ga)), (qo5, .inl (cI, 8, .inl o_py)), (qo6, .inl (cI, 8, .inl o_pr))]
abbrev W_N_0 (qn0 : Nat) (qn1 : Nat) (qn2 : Nat) (qn3 : Nat) (qn4 : Nat) (qn5 : Nat) (qn6 : Nat) (cI cJ cZ cB cT : ClassId) (n_calls : Int32) (n_bord : Int32) (n_rep : Int32) (n_unl : Int32) (n_pay : Int32) : va_W := [(qn0, .inr (4, [.int n_calls, .int n_bord, .int n_rep, .int n_unl, .int n_pay, .ref qn1, .ref qn2, .ref qn3, .ref qn4, .ref qn5, .ref qn6]))]
abbrev W_N_0t1 (qn0 : Nat) (qn1 : Nat) (qn2 : Nat) (qn3 : Nat) (qn4 : Nat) (qn5 : Nat) (qn6 : Nat) (cI cJ cZ cB cT : ClassId) (n_calls : Int32) (n_bord : Int32) (n_rep : Int32) (n_unl : Int32) (n_pay : Int32) (n_cl : Nat → Int32) : va_W := [(qn0, .inr (4, [.int n_calls, .int n_bord, .int n_rep, .int n_unl, .int n_pay, .ref qn1, .ref qn2, .ref qn3, .ref qn4, .ref qn5, .ref qn6])), (qn1, .inl (cI, 5, .inl n_cl))]
abbrev W_N_0_2 (qn0 : Nat) (qn2 : Nat) (qn1 : Nat) (qn3 : Nat) (qn4 : Nat) (qn5 : Nat) (qn6 : Nat) (cI cJ cZ cB cT : ClassId) (n_calls : Int32) (n_bord : Int32) (n_rep : Int32) (n_unl : Int32) (n_pay : Int32) (n_ul : Nat → Int32) : va_W := [(qn0, .inr (4, [.int n_calls, .int n_bord, .int n_rep, .int n_unl, .int n_pay, .ref qn1, .ref qn2, .ref qn3, .ref qn4, .ref qn5, .ref qn6])), (qn2, .inl (cI, 8, .inl n_ul))]
abbrev W_N_0_2t3 (qn0 : Nat) (qn2 : Nat) (qn3 : Nat) (qn1 : Nat) (qn4 : Nat) (qn5 : Nat) (qn6 : Nat) (cI cJ cZ cB cT : ClassId) (n_calls : Int32) (n_bord : Int32) (n_rep : Int32) (n_unl : Int32) (n_pay : Int32) (n_ul : Nat → Int32) (n_ow : Nat → Int32) : va_W := [(qn0, .inr (4, [.int n_calls, .int n_bord, .int n_rep, .int n_unl, .int n_pay, .ref qn1, .ref qn2, .ref qn3, .ref qn4, .ref qn5, .ref qn6])), (qn2, .inl (cI, 8, .inl n_ul)), (qn3, .inl (cI, 8, .inl n_ow))]
abbrev W_N_0_3 (qn0 : Nat) (qn3 : Nat) (qn1 : Nat) (qn2 : Nat) (qn4 : Nat) (qn5 : Nat) (qn6 : Nat) (cI cJ cZ cB cT : ClassId) (n_calls : Int32) (n_bord : Int32) (n_rep : Int32) (n_unl : Int32) (n_pay : Int32) (n_ow : Nat → Int32) : va_W := [(qn0, .inr (4, [.int n_calls, .int n_bord, .int n_rep, .int n_unl, .int n_pay, .ref qn1, .ref qn2, .ref qn3, .ref qn4, .ref qn5, .ref qn6])), (qn3, .inl (cI, 8, .inl n_ow))]
abbrev W_N_0_4 (qn0 : Nat) (qn4 : Nat) (qn1 : Nat) (qn2 : Nat) (qn3 : Nat) (qn5 : Nat) (qn6 : Nat) (cI cJ cZ cB cT : ClassId) (n_calls : Int32) (n_bord : Int32) (n_rep : Int32) (n_unl : Int32) (n_pay : Int32) (n_ga : Nat → Int32) : va_W := [(qn0, .inr (4, [.int n_calls, .int n_bord, .int n_rep, .int n_unl, .int n_pay, .ref qn1, .ref qn2, .ref qn3, .ref qn4, .ref qn5, .ref qn6])), (qn4, .inl (cI, 8, .inl n_ga))]
abbrev W_N_0_5t6 (qn0 : Nat) (qn5 : Nat) (qn6 : Nat) (qn1 : Nat) (qn2 : Nat) (qn3 : Nat) (qn4 : Nat) (cI cJ cZ cB cT : ClassId) (n_calls : Int32) (n_bord : Int32) (n_rep : Int32) (n_unl : Int32) (n_pay : Int32) (n_py : Nat → Int32) (n_pr : Nat → Int32) : va_W := [(qn0, .inr (4, [.int n_calls, .int n_bord, .int n_rep, .int n_unl, .int n_pay, .ref qn1, .ref qn2, .ref qn3, .ref qn4, .ref qn5, .ref qn6])), (qn5, .inl (cI, 8, .inl n_py)), (qn6, .inl (cI, 8, .inl n_pr))]
abbrev W_N_0_5 (qn0 : Nat) (qn5 : Nat) (qn1 : Nat) (qn2 : Nat) (qn3 : Nat) (qn4 : Nat) (qn6 : Nat) (cI cJ cZ cB cT : ClassId) (n_calls : Int32) (n_bord : Int32) (n_rep : Int32) (n_unl : Int32) (n_pay : Int32) (n_py : Nat → Int32) : va_W := [(qn0, .inr (4, [.int n_calls, .int n_bord, .int n_rep, .int n_unl, .int n_pay, .ref qn1, .ref qn2, .ref qn3, .ref qn4, .ref qn5, .ref qn6])), (qn5, .inl (cI, 8, .inl n_py))]
abbrev W_N_0_6 (qn0 : Nat) (qn6 : Nat) (qn1 : Nat) (qn2 : Nat) (qn3 : Nat) (qn4 : Nat) (qn5 : Nat) (cI cJ cZ cB cT : ClassId) (n_calls : Int32) (n_bord : Int32) (n_rep : Int32) (n_unl : Int32) (n_pay : Int32) (n_pr : Nat → Int32) : va_W := [(qn0, .inr (4, [.int n_calls, .int n_bord, .int n_rep, .int n_unl, .int n_pay, .ref qn1, .ref qn2, .ref qn3, .ref qn4, .ref qn5, .ref qn6])), (qn6, .inl (cI, 8, .inl n_pr))]
abbrev W_SS_0t3 (qz0 : Nat) (qz1 : Nat) (qy0 : Nat) (qy1 : Nat) (cI cJ cZ cB cT : ClassId) (z_cnt : Int32) (z_next : Int32) (z_store : Nat → Int32) (y_cnt : Int32) (y_next : Int32) (y_store : Nat → Int32) : va_W := [(qz0, .inr (7, [.int z_cnt, .int z_next, .ref qz1])), (qz1, .inl (cI, 2356, .inl z_store)), (qy0, .inr (7, [.int y_cnt, .int y_next, .ref qy1])), (qy1, .inl (cI, 2356, .inl y_store))]
abbrev W_R2_0t11_13t28_30t33 (qd0 : Nat) (qd1 : Nat) (qd2 : Nat) (qf0 : Nat) (qf1 : Nat) (qf2 : Nat) (qf3 : Nat) (qz0 : Nat) (qz1 : Nat) (qn0 : Nat) (qn1 : Nat) (qn2 : Nat) (qn4 : Nat) (qn5 : Nat) (qn6 : Nat) (qr0 : Nat) (qc0 : Nat) (qc1 : Nat) (qc2 : Nat) (qg0 : Nat) (qg1 : Nat) (qg2 : Nat) (qg3 : Nat) (qy0 : Nat) (qy1 : Nat) (qo0 : Nat) (qo1 : Nat) (qo2 : Nat) (qo4 : Nat) (qo5 : Nat) (qo6 : Nat) (qk0 : Nat) (qn3 : Nat) (qo3 : Nat) (cI cJ cZ cB cT : ClassId) (d_n : Int32) (d_for : Nat → Int32) (d_road : Nat → Int32) (f_row : Nat → Int32) (f_fears : Nat → Int32) (f_told : Nat → Int32) (z_cnt : Int32) (z_next : Int32) (z_store : Nat → Int32) (n_calls : Int32) (n_bord : Int32) (n_rep : Int32) (n_unl : Int32) (n_pay : Int32) (n_cl : Nat → Int32) (n_ul : Nat → Int32) (n_ga : Nat → Int32) (n_py : Nat → Int32) (n_pr : Nat → Int32) (r_tx : Int32) (r_rul : Int32) (c_n : Int32) (c_for : Nat → Int32) (c_road : Nat → Int32) (g_row : Nat → Int32) (g_fears : Nat → Int32) (g_told : Nat → Int32) (y_cnt : Int32) (y_next : Int32) (y_store : Nat → Int32) (o_calls : Int32) (o_bord : Int32) (o_rep : Int32) (o_unl : Int32) (o_pay : Int32) (o_cl : Nat → Int32) (o_ul : Nat → Int32) (o_ga : Nat → Int32) (o_py : Nat → Int32) (o_pr : Nat → Int32) (k_tx : Int32) (k_rul : Int32) : va_W := [(qd0, .inr (2, [.int d_n, .ref qd1, .ref qd2])), (qd1, .inl (cI, 8, .inl d_for)), (qd2, .inl (cI, 8, .inl d_road)), (qf0, .inr (1, [.ref qf1, .ref qf2, .ref qf3])), (qf1, .inl (cI, 76, .inl f_row)), (qf2, .inl (cI, 6, .inl f_fears)), (qf3, .inl (cI, 18, .inl f_told)), (qz0, .inr (7, [.int z_cnt, .int z_next, .ref qz1])), (qz1, .inl (cI, 2356, .inl z_store)), (qn0, .inr (4, [.int n_calls, .int n_bord, .int n_rep, .int n_unl, .int n_pay, .ref qn1, .ref qn2, .ref qn3, .ref qn4, .ref qn5, .ref qn6])), (qn1, .inl (cI, 5, .inl n_cl)), (qn2, .inl (cI, 8, .inl n_ul)), (qn4, .inl (cI, 8, .inl n_ga)), (qn5, .inl (cI, 8, .inl n_py)), (qn6, .inl (cI, 8, .inl n_pr)), (qr0, .inr (6, [.ref qd0, .ref qf0, .ref qz0, .ref qn0, .int r_tx, .int r_rul])), (qc0, .inr (2, [.int c_n, .ref qc1, .ref qc2])), (qc1, .inl (cI, 8, .inl c_for)), (qc2, .inl (cI, 8, .inl c_road)), (qg0, .inr (1, [.ref qg1, .ref qg2, .ref qg3])), (qg1, .inl (cI, 76, .inl g_row)), (qg2, .inl (cI, 6, .inl g_fears)), (qg3, .inl (cI, 18, .inl g_told)), (qy0, .inr (7, [.int y_cnt, .int y_next, .ref qy1])), (qy1, .inl (cI, 2356, .inl y_store)), (qo0, .inr (4, [.int o_calls, .int o_bord, .int o_rep, .int o_unl, .int o_pay, .ref qo1, .ref qo2, .ref qo3, .ref qo4, .ref qo5, .ref qo6])), (qo1, .inl (cI, 5, .inl o_cl)), (qo2, .inl (cI, 8, .inl o_ul)), (qo4, .inl (cI, 8, .inl o_ga)), (qo5, .inl (cI, 8, .inl o_py)), (qo6, .inl (cI, 8, .inl o_pr)), (qk0, .inr (6, [.ref qc0, .ref qg0, .ref qy0, .ref qo0, .int k_tx, .int k_rul]))]
abbrev W_SF_0t3 (qz0 : Nat) (qz1 : Nat) (qf0 : Nat) (qf1 : Nat) (qf2 : Nat) (qf3 : Nat) (cI cJ cZ cB cT : ClassId) (z_cnt : Int32) (z_next : Int32) (z_store : Nat → Int32) (f_row : Nat → Int32) : va_W := [(qz0, .inr (7, [.int z_cnt, .int z_next, .ref qz1])), (qz1, .inl (cI, 2356, .inl z_store)), (qf0, .inr (1, [.ref qf1, .ref qf2, .ref qf3])), (qf1, .inl (cI, 76, .inl f_row))]
abbrev W_S_0 (qz0 : Nat) (qz1 : Nat) (cI cJ cZ cB cT : ClassId) (z_cnt : Int32) (z_next : Int32) : va_W := [(qz0, .inr (7, [.int z_cnt, .int z_next, .ref qz1]))]
abbrev W_SF_0t3_5 (qz0 : Nat) (qz1 : Nat) (qf0 : Nat) (qf1 : Nat) (qf3 : Nat) (qf2 : Nat) (cI cJ cZ cB cT : ClassId) (z_cnt : Int32) (z_next : Int32) (z_store : Nat → Int32) (f_row : Nat → Int32) (f_told : Nat → Int32) : va_W := [(qz0, .inr (7, [.int z_cnt, .int z_next, .ref qz1])), (qz1, .inl (cI, 2356, .inl z_store)), (qf0, .inr (1, [.ref qf1, .ref qf2, .ref qf3])), (qf1, .inl (cI, 76, .inl f_row)), (qf3, .inl (cI, 18, .inl f_told))]
abbrev W_TP_0 (qt0 : Nat) (qt1 : Nat) (qt2 : Nat) (qt3 : Nat) (qt4 : Nat) (cI cJ cZ cB cT : ClassId) (t_len : Int32) (t_tok : Int32) : va_W := [(qt0, .inr (8, [.int t_len, .int t_tok, .ref qt1, .ref qt2, .ref qt3, .ref qt4]))]
abbrev W_TP_0t1 (qt0 : Nat) (qt1 : Nat) (qt2 : Nat) (qt3 : Nat) (qt4 : Nat) (cI cJ cZ cB cT : ClassId) (t_len : Int32) (t_tok : Int32) (t_by : Nat → Int32) : va_W := [(qt0, .inr (8, [.int t_len, .int t_tok, .ref qt1, .ref qt2, .ref qt3, .ref qt4])), (qt1, .inl (cB, 300, .inl t_by))]
abbrev W_TP_0_2t4 (qt0 : Nat) (qt2 : Nat) (qt3 : Nat) (qt4 : Nat) (qt1 : Nat) (cI cJ cZ cB cT : ClassId) (t_len : Int32) (t_tok : Int32) (t_ki : Nat → Int32) (t_pl : Nat → Int32) (t_nu : Nat → Int32) : va_W := [(qt0, .inr (8, [.int t_len, .int t_tok, .ref qt1, .ref qt2, .ref qt3, .ref qt4])), (qt2, .inl (cI, 301, .inl t_ki)), (qt3, .inl (cI, 301, .inl t_pl)), (qt4, .inl (cI, 301, .inl t_nu))]
abbrev W_TP_0_2 (qt0 : Nat) (qt2 : Nat) (qt1 : Nat) (qt3 : Nat) (qt4 : Nat) (cI cJ cZ cB cT : ClassId) (t_len : Int32) (t_tok : Int32) (t_ki : Nat → Int32) : va_W := [(qt0, .inr (8, [.int t_len, .int t_tok, .ref qt1, .ref qt2, .ref qt3, .ref qt4])), (qt2, .inl (cI, 301, .inl t_ki))]
abbrev W_TP_0_3 (qt0 : Nat) (qt3 : Nat) (qt1 : Nat) (qt2 : Nat) (qt4 : Nat) (cI cJ cZ cB cT : ClassId) (t_len : Int32) (t_tok : Int32) (t_pl : Nat → Int32) : va_W := [(qt0, .inr (8, [.int t_len, .int t_tok, .ref qt1, .ref qt2, .ref qt3, .ref qt4])), (qt3, .inl (cI, 301, .inl t_pl))]
abbrev W_TP_0_4 (qt0 : Nat) (qt4 : Nat) (qt1 : Nat) (qt2 : Nat) (qt3 : Nat) (cI cJ cZ cB cT : ClassId) (t_len : Int32) (t_tok : Int32) (t_nu : Nat → Int32) : va_W := [(qt0, .inr (8, [.int t_len, .int t_tok, .ref qt1, .ref qt2, .ref qt3, .ref qt4])), (qt4, .inl (cI, 301, .inl t_nu))]
abbrev W_TX_0_2t3 (qx0 : Nat) (qx2 : Nat) (qx3 : Nat) (qx1 : Nat) (qx4 : Nat) (cI cJ cZ cB cT : ClassId) (x_cl : Int32) (x_ln : Int32) (x_pt : Int32) (x_st : Nat → Int32) (x_en : Nat → Int32) : va_W := [(qx0, .inr (9, [.int x_cl, .int x_ln, .int x_pt, .ref qx1, .ref qx2, .ref qx3, .ref qx4])), (qx2, .inl (cI, 4, .inl x_st)), (qx3, .inl (cI, 4, .inl x_en))]
abbrev W_TX_0_4 (qx0 : Nat) (qx4 : Nat) (qx1 : Nat) (qx2 : Nat) (qx3 : Nat) (cI cJ cZ cB cT : ClassId) (x_cl : Int32) (x_ln : Int32) (x_pt : Int32) (x_rows : Nat → Int32) : va_W := [(qx0, .inr (9, [.int x_cl, .int x_ln, .int x_pt, .ref qx1, .ref qx2, .ref qx3, .ref qx4])), (qx4, .inl (cI, 120, .inl x_rows))]
abbrev W_TX_0_2_4 (qx0 : Nat) (qx2 : Nat) (qx4 : Nat) (qx1 : Nat) (qx3 : Nat) (cI cJ cZ cB cT : ClassId) (x_cl : Int32) (x_ln : Int32) (x_pt : Int32) (x_st : Nat → Int32) (x_rows : Nat → Int32) : va_W := [(qx0, .inr (9, [.int x_cl, .int x_ln, .int x_pt, .ref qx1, .ref qx2, .ref qx3, .ref qx4])), (qx2, .inl (cI, 4, .inl x_st)), (qx4, .inl (cI, 120, .inl x_rows))]
abbrev W_TX_0_3 (qx0 : Nat) (qx3 : Nat) (qx1 : Nat) (qx2 : Nat) (qx4 : Nat) (cI cJ cZ cB cT : ClassId) (x_cl : Int32) (x_ln : Int32) (x_pt : Int32) (x_en : Nat → Int32) : va_W := [(qx0, .inr (9, [.int x_cl, .int x_ln, .int x_pt, .ref qx1, .ref qx2, .ref qx3, .ref qx4])), (qx3, .inl (cI, 4, .inl x_en))]
abbrev W_TX_0t1 (qx0 : Nat) (qx1 : Nat) (qx2 : Nat) (qx3 : Nat) (qx4 : Nat) (cI cJ cZ cB cT : ClassId) (x_cl : Int32) (x_ln : Int32) (x_pt : Int32) (x_code : Nat → Int32) : va_W := [(qx0, .inr (9, [.int x_cl, .int x_ln, .int x_pt, .ref qx1, .ref qx2, .ref qx3, .ref qx4])), (qx1, .inl (cI, 301, .inl x_code))]
abbrev W_WY_0_2 (qv0 : Nat) (qv2 : Nat) (qv1 : Nat) (qv3 : Nat) (qv4 : Nat) (qv5 : Nat) (cI cJ cZ cB cT : ClassId) (v_up : Int32) (v_low : Int32) (v_gone : Int32) (v_may : Int32) (v_must : Int32) (v_best : Nat → Int32) : va_W := [(qv0, .inr (10, [.int v_up, .int v_low, .int v_gone, .int v_may, .int v_must, .ref qv1, .ref qv2, .ref qv3, .ref qv4, .ref qv5])), (qv2, .inl (cI, 56, .inl v_best))]
abbrev W_WYL_0t2_6_8 (qv0 : Nat) (qv1 : Nat) (qv2 : Nat) (qd0 : Nat) (qd2 : Nat) (qv3 : Nat) (qv4 : Nat) (qv5 : Nat) (qd1 : Nat) (cI cJ cZ cB cT : ClassId) (v_up : Int32) (v_low : Int32) (v_gone : Int32) (v_may : Int32) (v_must : Int32) (v_liv : Nat → Int32) (v_best : Nat → Int32) (d_n : Int32) (d_road : Nat → Int32) : va_W := [(qv0, .inr (10, [.int v_up, .int v_low, .int v_gone, .int v_may, .int v_must, .ref qv1, .ref qv2, .ref qv3, .ref qv4, .ref qv5])), (qv1, .inl (cI, 8, .inl v_liv)), (qv2, .inl (cI, 56, .inl v_best)), (qd0, .inr (2, [.int d_n, .ref qd1, .ref qd2])), (qd2, .inl (cI, 8, .inl d_road))]
abbrev W_WYL_0t3_6_8 (qv0 : Nat) (qv1 : Nat) (qv2 : Nat) (qv3 : Nat) (qd0 : Nat) (qd2 : Nat) (qv4 : Nat) (qv5 : Nat) (qd1 : Nat) (cI cJ cZ cB cT : ClassId) (v_up : Int32) (v_low : Int32) (v_gone : Int32) (v_may : Int32) (v_must : Int32) (v_liv : Nat → Int32) (v_best : Nat → Int32) (v_way : Nat → Int32) (d_n : Int32) (d_road : Nat → Int32) : va_W := [(qv0, .inr (10, [.int v_up, .int v_low, .int v_gone, .int v_may, .int v_must, .ref qv1, .ref qv2, .ref qv3, .ref qv4, .ref qv5])), (qv1, .inl (cI, 8, .inl v_liv)), (qv2, .inl (cI, 56, .inl v_best)), (qv3, .inl (cI, 6, .inl v_way)), (qd0, .inr (2, [.int d_n, .ref qd1, .ref qd2])), (qd2, .inl (cI, 8, .inl d_road))]
abbrev W_WY_0_3 (qv0 : Nat) (qv3 : Nat) (qv1 : Nat) (qv2 : Nat) (qv4 : Nat) (qv5 : Nat) (cI cJ cZ cB cT : ClassId) (v_up : Int32) (v_low : Int32) (v_gone : Int32) (v_may : Int32) (v_must : Int32) (v_way : Nat → Int32) : va_W := [(qv0, .inr (10, [.int v_up, .int v_low, .int v_gone, .int v_may, .int v_must, .ref qv1, .ref qv2, .ref qv3, .ref qv4, .ref qv5])), (qv3, .inl (cI, 6, .inl v_way))]
abbrev W_A1_0 (qa1 : Nat) (cI cJ cZ cB cT : ClassId) (a_c : Nat → Int32) : va_W := [(qa1, .inl (cI, 256, .inl a_c))]
abbrev W_WY_0_4t5 (qv0 : Nat) (qv4 : Nat) (qv5 : Nat) (qv1 : Nat) (qv2 : Nat) (qv3 : Nat) (cI cJ cZ cB cT : ClassId) (v_up : Int32) (v_low : Int32) (v_gone : Int32) (v_may : Int32) (v_must : Int32) (v_ends : Nat → Int32) (v_beg : Nat → Int32) : va_W := [(qv0, .inr (10, [.int v_up, .int v_low, .int v_gone, .int v_may, .int v_must, .ref qv1, .ref qv2, .ref qv3, .ref qv4, .ref qv5])), (qv4, .inl (cI, 256, .inl v_ends)), (qv5, .inl (cI, 256, .inl v_beg))]
abbrev W_WY_0_4 (qv0 : Nat) (qv4 : Nat) (qv1 : Nat) (qv2 : Nat) (qv3 : Nat) (qv5 : Nat) (cI cJ cZ cB cT : ClassId) (v_up : Int32) (v_low : Int32) (v_gone : Int32) (v_may : Int32) (v_must : Int32) (v_ends : Nat → Int32) : va_W := [(qv0, .inr (10, [.int v_up, .int v_low, .int v_gone, .int v_may, .int v_must, .ref qv1, .ref qv2, .ref qv3, .ref qv4, .ref qv5])), (qv4, .inl (cI, 256, .inl v_ends))]
abbrev W_WYLN_0_4t6_8t10 (qv0 : Nat) (qv4 : Nat) (qv5 : Nat) (qd0 : Nat) (qd2 : Nat) (qn0 : Nat) (qn1 : Nat) (qv1 : Nat) (qv2 : Nat) (qv3 : Nat) (qd1 : Nat) (qn2 : Nat) (qn3 : Nat) (qn4 : Nat) (qn5 : Nat) (qn6 : Nat) (cI cJ cZ cB cT : ClassId) (v_up : Int32) (v_low : Int32) (v_gone : Int32) (v_may : Int32) (v_must : Int32) (v_ends : Nat → Int32) (v_beg : Nat → Int32) (d_n : Int32) (d_road : Nat → Int32) (n_calls : Int32) (n_bord : Int32) (n_rep : Int32) (n_unl : Int32) (n_pay : Int32) (n_cl : Nat → Int32) : va_W := [(qv0, .inr (10, [.int v_up, .int v_low, .int v_gone, .int v_may, .int v_must, .ref qv1, .ref qv2, .ref qv3, .ref qv4, .ref qv5])), (qv4, .inl (cI, 256, .inl v_ends)), (qv5, .inl (cI, 256, .inl v_beg)), (qd0, .inr (2, [.int d_n, .ref qd1, .ref qd2])), (qd2, .inl (cI, 8, .inl d_road)), (qn0, .inr (4, [.int n_calls, .int n_bord, .int n_rep, .int n_unl, .int n_pay, .ref qn1, .ref qn2, .ref qn3, .ref qn4, .ref qn5, .ref qn6])), (qn1, .inl (cI, 5, .inl n_cl))]
