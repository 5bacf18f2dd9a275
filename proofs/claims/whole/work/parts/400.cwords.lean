set_option maxRecDepth 100000 in
theorem flX3_26 : Cond.fieldLink RX3 26 "WolfsHead$Laws" "MOST" "[I" ∈ lw_g := in_g (t4_in (List.mem_of_getElem? (i := 10) rfl)) rfl
set_option maxRecDepth 100000 in
theorem mtX0_81 : mtW RX0 81 Lib.Math.min.name Lib.Math.min.code 2 (some .int) := ⟨in_g (t4_in (List.mem_of_getElem? (i := 78) rfl)) rfl, in_g (t3_in (List.mem_of_getElem? (i := 52) rfl)) rfl, in_g (t1_in (List.mem_of_getElem? (i := 18) rfl)) rfl, in_g (t3_in (List.mem_of_getElem? (i := 53) rfl)) rfl⟩
set_option maxRecDepth 100000 in
theorem mtX3_52 : mtW RX3 52 Lib.Math.min.name Lib.Math.min.code 2 (some .int) := ⟨in_g (t4_in (List.mem_of_getElem? (i := 68) rfl)) rfl, in_g (t3_in (List.mem_of_getElem? (i := 52) rfl)) rfl, in_g (t1_in (List.mem_of_getElem? (i := 18) rfl)) rfl, in_g (t3_in (List.mem_of_getElem? (i := 53) rfl)) rfl⟩
set_option maxRecDepth 100000 in
theorem mtX3_58 : mtW RX3 58 Lib.Math.max.name Lib.Math.max.code 2 (some .int) := ⟨in_g (t4_in (List.mem_of_getElem? (i := 69) rfl)) rfl, in_g (t4_in (List.mem_of_getElem? (i := 46) rfl)) rfl, in_g (t1_in (List.mem_of_getElem? (i := 18) rfl)) rfl, in_g (t4_in (List.mem_of_getElem? (i := 47) rfl)) rfl⟩
section
set_option maxRecDepth 100000 in
theorem wd24 : Cond.selects RX0 yX0_alive yX0_alive ∈ lw_g := in_g (tp_in (List.mem_of_getElem? (i := 24) rfl)) rfl
set_option maxRecDepth 100000 in
theorem wd25 : Cond.selects RX0 yX0_outlaw yX0_outlaw ∈ lw_g := in_g (tp_in (List.mem_of_getElem? (i := 25) rfl)) rfl
set_option maxRecDepth 100000 in
theorem wd26 : Cond.selects RX0 yX0_castOut yX0_castOut ∈ lw_g := in_g (tp_in (List.mem_of_getElem? (i := 26) rfl)) rfl
set_option maxRecDepth 100000 in
theorem wd27 : Cond.selects RX0 yX0_meets yX0_meets ∈ lw_g := in_g (tp_in (List.mem_of_getElem? (i := 27) rfl)) rfl
set_option maxRecDepth 100000 in
theorem wd28 : Cond.selects RX3 yX3_fillNames yX3_fillNames ∈ lw_g := in_g (tp_in (List.mem_of_getElem? (i := 28) rfl)) rfl
set_option maxRecDepth 100000 in
theorem wd29 : Cond.selects RX3 yX3_without yX3_without ∈ lw_g := in_g (tp_in (List.mem_of_getElem? (i := 29) rfl)) rfl
set_option maxRecDepth 100000 in
theorem wd30 : Cond.selects RX0 yX0_setFree yX0_setFree ∈ lw_g := in_g (tp_in (List.mem_of_getElem? (i := 30) rfl)) rfl
set_option maxRecDepth 100000 in
theorem wd31 : Cond.selects RX0 yX0_hide yX0_hide ∈ lw_g := in_g (tp_in (List.mem_of_getElem? (i := 31) rfl)) rfl
set_option maxRecDepth 100000 in
theorem wd32 : Cond.selects RX0 yX0_earn yX0_earn ∈ lw_g := in_g (tp_in (List.mem_of_getElem? (i := 32) rfl)) rfl
set_option maxRecDepth 100000 in
theorem wd37 : Cond.selects RX10 yX10_bestFrom yX10_bestFrom ∈ lw_g := in_g (tp_in (List.mem_of_getElem? (i := 37) rfl)) rfl
set_option maxRecDepth 100000 in
theorem wd39 : Cond.selects RX10 yX10_follow yX10_follow ∈ lw_g := in_g (tp_in (List.mem_of_getElem? (i := 39) rfl)) rfl
set_option maxRecDepth 100000 in
theorem wd136 : Cond.initialized RX3 ∈ lw_g := in_g (t1_in (List.mem_of_getElem? (i := 9) rfl)) rfl
set_option maxRecDepth 100000 in
theorem wd137 : Cond.initialized RX0 ∈ lw_g := in_g (t1_in (List.mem_of_getElem? (i := 10) rfl)) rfl
set_option maxRecDepth 100000 in
theorem wd262 : Cond.fieldLink RX10 45 "WolfsHead$Realm" "lands" "LWolfsHead$Lands;" ∈ lw_g := in_g (t1_in (List.mem_of_getElem? (i := 135) rfl)) rfl
set_option maxRecDepth 100000 in
theorem wd263 : Cond.fieldLink RX3 61 "WolfsHead$Realm" "lands" "LWolfsHead$Lands;" ∈ lw_g := in_g (t1_in (List.mem_of_getElem? (i := 136) rfl)) rfl
set_option maxRecDepth 100000 in
theorem wd264 : Cond.fieldLink RX0 39 "WolfsHead$Realm" "lands" "LWolfsHead$Lands;" ∈ lw_g := in_g (t1_in (List.mem_of_getElem? (i := 137) rfl)) rfl
set_option maxRecDepth 100000 in
theorem wd267 : Cond.fieldLink RX10 59 "WolfsHead$Realm" "folk" "LWolfsHead$Folk;" ∈ lw_g := in_g (t1_in (List.mem_of_getElem? (i := 140) rfl)) rfl
set_option maxRecDepth 100000 in
theorem wd273 : Cond.fieldLink RX3 29 "WolfsHead$Realm" "texts" "I" ∈ lw_g := in_g (t1_in (List.mem_of_getElem? (i := 146) rfl)) rfl
set_option maxRecDepth 100000 in
theorem wd276 : Cond.fieldLink RX10 56 "WolfsHead$Realm" "ruling" "I" ∈ lw_g := in_g (t1_in (List.mem_of_getElem? (i := 149) rfl)) rfl
set_option maxRecDepth 100000 in
theorem wd277 : Cond.fieldLink RX0 67 "WolfsHead$Realm" "ruling" "I" ∈ lw_g := in_g (t1_in (List.mem_of_getElem? (i := 150) rfl)) rfl
set_option maxRecDepth 100000 in
theorem wd355 : Cond.fieldLink RX3 18 "WolfsHead$Laws" "realm" "LWolfsHead$Realm;" ∈ lw_g := in_g (t1_in (List.mem_of_getElem? (i := 228) rfl)) rfl
set_option maxRecDepth 100000 in
theorem wd356 : Cond.fieldLink RX3 22 "WolfsHead$Laws" "texts" "[LWolfsHead$Text;" ∈ lw_g := in_g (t1_in (List.mem_of_getElem? (i := 229) rfl)) rfl
set_option maxRecDepth 100000 in
theorem wd357 : Cond.fieldLink RX3 11 "WolfsHead$Laws" "names" "[I" ∈ lw_g := in_g (t1_in (List.mem_of_getElem? (i := 230) rfl)) rfl
set_option maxRecDepth 100000 in
theorem wd358 : Cond.fieldLink RX3 15 "WolfsHead$Laws" "stack" "[I" ∈ lw_g := in_g (t1_in (List.mem_of_getElem? (i := 231) rfl)) rfl
set_option maxRecDepth 100000 in
theorem wd374 : Cond.fieldLink RX0 9 "WolfsHead$Deeds" "realm" "LWolfsHead$Realm;" ∈ lw_g := in_g (t2_in (List.mem_of_getElem? (i := 7) rfl)) rfl
set_option maxRecDepth 100000 in
theorem wd375 : Cond.fieldLink RX0 15 "WolfsHead$Deeds" "folk" "LWolfsHead$Folk;" ∈ lw_g := in_g (t2_in (List.mem_of_getElem? (i := 8) rfl)) rfl
set_option maxRecDepth 100000 in
theorem wd376 : Cond.fieldLink RX0 19 "WolfsHead$Deeds" "laws" "LWolfsHead$Laws;" ∈ lw_g := in_g (t2_in (List.mem_of_getElem? (i := 9) rfl)) rfl
set_option maxRecDepth 100000 in
theorem wd394 : Cond.fieldLink RX10 17 "WolfsHead$Ways" "lower" "I" ∈ lw_g := in_g (t2_in (List.mem_of_getElem? (i := 27) rfl)) rfl
set_option maxRecDepth 100000 in
theorem wd804 : Cond.methodLink RX0 36 yX0_alive ∈ lw_g := in_g (t3_in (List.mem_of_getElem? (i := 197) rfl)) rfl
set_option maxRecDepth 100000 in
theorem wd806 : Cond.instanceMethod yX0_alive ∈ lw_g := in_g (t3_in (List.mem_of_getElem? (i := 199) rfl)) rfl
set_option maxRecDepth 100000 in
theorem wd807 : Cond.code yX0_alive cX0_alive 2 (some .boolean) ∈ lw_g := in_g (t3_in (List.mem_of_getElem? (i := 200) rfl)) rfl
set_option maxRecDepth 100000 in
theorem wd808 : Cond.methodLink RX0 23 yX1_told ∈ lw_g := in_g (t3_in (List.mem_of_getElem? (i := 201) rfl)) rfl
set_option maxRecDepth 100000 in
theorem wd809 : Cond.methodLink RX0 29 yX1_get ∈ lw_g := in_g (t3_in (List.mem_of_getElem? (i := 202) rfl)) rfl
set_option maxRecDepth 100000 in
theorem wd813 : Cond.methodLink RX0 33 yX0_outlaw ∈ lw_g := in_g (t3_in (List.mem_of_getElem? (i := 206) rfl)) rfl
set_option maxRecDepth 100000 in
theorem wd815 : Cond.instanceMethod yX0_outlaw ∈ lw_g := in_g (t3_in (List.mem_of_getElem? (i := 208) rfl)) rfl
set_option maxRecDepth 100000 in
theorem wd816 : Cond.code yX0_outlaw cX0_outlaw 2 (some .boolean) ∈ lw_g := in_g (t3_in (List.mem_of_getElem? (i := 209) rfl)) rfl
set_option maxRecDepth 100000 in
theorem wd817 : Cond.methodLink RX0 45 yX2_told ∈ lw_g := in_g (t3_in (List.mem_of_getElem? (i := 210) rfl)) rfl
set_option maxRecDepth 100000 in
theorem wd818 : Cond.methodLink RX0 48 yX1_set ∈ lw_g := in_g (t3_in (List.mem_of_getElem? (i := 211) rfl)) rfl
set_option maxRecDepth 100000 in
theorem wd819 : Cond.methodLink RX0 52 yX1_write ∈ lw_g := in_g (t3_in (List.mem_of_getElem? (i := 212) rfl)) rfl
set_option maxRecDepth 100000 in
theorem wd820 : Cond.instanceMethod yX1_write ∈ lw_g := in_g (t3_in (List.mem_of_getElem? (i := 213) rfl)) rfl
set_option maxRecDepth 100000 in
theorem wd821 : Cond.selects RX1 yX1_write yX1_write ∈ lw_g := in_g (t3_in (List.mem_of_getElem? (i := 214) rfl)) rfl
set_option maxRecDepth 100000 in
theorem wd822 : Cond.code yX1_write cX1_write 4 none ∈ lw_g := in_g (t3_in (List.mem_of_getElem? (i := 215) rfl)) rfl
set_option maxRecDepth 100000 in
theorem wd823 : Cond.methodLink RX0 56 yX0_castOut ∈ lw_g := in_g (t3_in (List.mem_of_getElem? (i := 216) rfl)) rfl
set_option maxRecDepth 100000 in
theorem wd825 : Cond.instanceMethod yX0_castOut ∈ lw_g := in_g (t3_in (List.mem_of_getElem? (i := 218) rfl)) rfl
set_option maxRecDepth 100000 in
theorem wd826 : Cond.code yX0_castOut cX0_castOut 2 none ∈ lw_g := in_g (t3_in (List.mem_of_getElem? (i := 219) rfl)) rfl
set_option maxRecDepth 100000 in
theorem wd840 : Cond.methodLink RX0 60 yX2_joined ∈ lw_g := in_g (t3_in (List.mem_of_getElem? (i := 233) rfl)) rfl
set_option maxRecDepth 100000 in
theorem wd849 : Cond.methodLink RX0 64 yX0_meets ∈ lw_g := in_g (t4_in (List.mem_of_getElem? (i := 2) rfl)) rfl
set_option maxRecDepth 100000 in
theorem wd851 : Cond.instanceMethod yX0_meets ∈ lw_g := in_g (t4_in (List.mem_of_getElem? (i := 4) rfl)) rfl
set_option maxRecDepth 100000 in
theorem wd852 : Cond.code yX0_meets cX0_meets 3 (some .boolean) ∈ lw_g := in_g (t4_in (List.mem_of_getElem? (i := 5) rfl)) rfl
set_option maxRecDepth 100000 in
theorem wd853 : Cond.methodLink RX0 71 yX3_rule ∈ lw_g := in_g (t4_in (List.mem_of_getElem? (i := 6) rfl)) rfl
set_option maxRecDepth 100000 in
theorem wd854 : Cond.instanceMethod yX3_rule ∈ lw_g := in_g (t4_in (List.mem_of_getElem? (i := 7) rfl)) rfl
set_option maxRecDepth 100000 in
theorem wd855 : Cond.selects RX3 yX3_rule yX3_rule ∈ lw_g := in_g (t4_in (List.mem_of_getElem? (i := 8) rfl)) rfl
set_option maxRecDepth 100000 in
theorem wd856 : Cond.code yX3_rule cX3_rule 8 (some .int) ∈ lw_g := in_g (t4_in (List.mem_of_getElem? (i := 9) rfl)) rfl
set_option maxRecDepth 100000 in
theorem wd859 : Cond.methodLink RX3 34 yX9_begun ∈ lw_g := in_g (t4_in (List.mem_of_getElem? (i := 12) rfl)) rfl
set_option maxRecDepth 100000 in
theorem wd860 : Cond.methodLink RX3 40 yX3_fillNames ∈ lw_g := in_g (t4_in (List.mem_of_getElem? (i := 13) rfl)) rfl
set_option maxRecDepth 100000 in
theorem wd862 : Cond.instanceMethod yX3_fillNames ∈ lw_g := in_g (t4_in (List.mem_of_getElem? (i := 15) rfl)) rfl
set_option maxRecDepth 100000 in
theorem wd863 : Cond.code yX3_fillNames cX3_fillNames 4 none ∈ lw_g := in_g (t4_in (List.mem_of_getElem? (i := 16) rfl)) rfl
set_option maxRecDepth 100000 in
theorem wd864 : Cond.methodLink RX3 78 yX1_monthNow ∈ lw_g := in_g (t4_in (List.mem_of_getElem? (i := 17) rfl)) rfl
set_option maxRecDepth 100000 in
theorem wd865 : Cond.instanceMethod yX1_monthNow ∈ lw_g := in_g (t4_in (List.mem_of_getElem? (i := 18) rfl)) rfl
set_option maxRecDepth 100000 in
theorem wd866 : Cond.selects RX1 yX1_monthNow yX1_monthNow ∈ lw_g := in_g (t4_in (List.mem_of_getElem? (i := 19) rfl)) rfl
set_option maxRecDepth 100000 in
theorem wd867 : Cond.code yX1_monthNow cX1_monthNow 1 (some .int) ∈ lw_g := in_g (t4_in (List.mem_of_getElem? (i := 20) rfl)) rfl
set_option maxRecDepth 100000 in
theorem wd868 : Cond.methodLink RX3 82 yX1_fearOf ∈ lw_g := in_g (t4_in (List.mem_of_getElem? (i := 21) rfl)) rfl
set_option maxRecDepth 100000 in
theorem wd872 : Cond.methodLink RX3 65 yX2_forestOf ∈ lw_g := in_g (t4_in (List.mem_of_getElem? (i := 25) rfl)) rfl
set_option maxRecDepth 100000 in
theorem wd873 : Cond.instanceMethod yX2_forestOf ∈ lw_g := in_g (t4_in (List.mem_of_getElem? (i := 26) rfl)) rfl
set_option maxRecDepth 100000 in
theorem wd874 : Cond.selects RX2 yX2_forestOf yX2_forestOf ∈ lw_g := in_g (t4_in (List.mem_of_getElem? (i := 27) rfl)) rfl
set_option maxRecDepth 100000 in
theorem wd875 : Cond.code yX2_forestOf cX2_forestOf 2 (some .int) ∈ lw_g := in_g (t4_in (List.mem_of_getElem? (i := 28) rfl)) rfl
set_option maxRecDepth 100000 in
theorem wd876 : Cond.methodLink RX3 73 yX1_get ∈ lw_g := in_g (t4_in (List.mem_of_getElem? (i := 29) rfl)) rfl
set_option maxRecDepth 100000 in
theorem wd877 : Cond.methodLink RX3 85 yX1_othersIn ∈ lw_g := in_g (t4_in (List.mem_of_getElem? (i := 30) rfl)) rfl
set_option maxRecDepth 100000 in
theorem wd878 : Cond.instanceMethod yX1_othersIn ∈ lw_g := in_g (t4_in (List.mem_of_getElem? (i := 31) rfl)) rfl
set_option maxRecDepth 100000 in
theorem wd879 : Cond.selects RX1 yX1_othersIn yX1_othersIn ∈ lw_g := in_g (t4_in (List.mem_of_getElem? (i := 32) rfl)) rfl
set_option maxRecDepth 100000 in
theorem wd880 : Cond.code yX1_othersIn cX1_othersIn 6 (some .int) ∈ lw_g := in_g (t4_in (List.mem_of_getElem? (i := 33) rfl)) rfl
set_option maxRecDepth 100000 in
theorem wd881 : Cond.methodLink RX3 88 yJ6_bitCount_0f7a4 ∈ lw_g := in_g (t4_in (List.mem_of_getElem? (i := 34) rfl)) rfl
set_option maxRecDepth 100000 in
theorem wd887 : Cond.methodLink RX3 44 yX9_value ∈ lw_g := in_g (t4_in (List.mem_of_getElem? (i := 40) rfl)) rfl
set_option maxRecDepth 100000 in
theorem wd888 : Cond.instanceMethod yX9_value ∈ lw_g := in_g (t4_in (List.mem_of_getElem? (i := 41) rfl)) rfl
set_option maxRecDepth 100000 in
theorem wd889 : Cond.selects RX9 yX9_value yX9_value ∈ lw_g := in_g (t4_in (List.mem_of_getElem? (i := 42) rfl)) rfl
set_option maxRecDepth 100000 in
theorem wd890 : Cond.code yX9_value cX9_value 14 (some .int) ∈ lw_g := in_g (t4_in (List.mem_of_getElem? (i := 43) rfl)) rfl
set_option maxRecDepth 100000 in
theorem wd911 : Cond.methodLink RX3 48 yX3_without ∈ lw_g := in_g (t4_in (List.mem_of_getElem? (i := 64) rfl)) rfl
set_option maxRecDepth 100000 in
theorem wd913 : Cond.instanceMethod yX3_without ∈ lw_g := in_g (t4_in (List.mem_of_getElem? (i := 66) rfl)) rfl
set_option maxRecDepth 100000 in
theorem wd914 : Cond.code yX3_without cX3_without 5 (some .int) ∈ lw_g := in_g (t4_in (List.mem_of_getElem? (i := 67) rfl)) rfl
set_option maxRecDepth 100000 in
theorem wd917 : Cond.methodLink RX0 77 yX1_drawByTen ∈ lw_g := in_g (t4_in (List.mem_of_getElem? (i := 70) rfl)) rfl
set_option maxRecDepth 100000 in
theorem wd918 : Cond.instanceMethod yX1_drawByTen ∈ lw_g := in_g (t4_in (List.mem_of_getElem? (i := 71) rfl)) rfl
set_option maxRecDepth 100000 in
theorem wd919 : Cond.selects RX1 yX1_drawByTen yX1_drawByTen ∈ lw_g := in_g (t4_in (List.mem_of_getElem? (i := 72) rfl)) rfl
set_option maxRecDepth 100000 in
theorem wd920 : Cond.code yX1_drawByTen cX1_drawByTen 2 (some .int) ∈ lw_g := in_g (t4_in (List.mem_of_getElem? (i := 73) rfl)) rfl
set_option maxRecDepth 100000 in
theorem wd934 : Cond.methodLink RX0 86 yX0_setFree ∈ lw_g := in_g (t4_in (List.mem_of_getElem? (i := 87) rfl)) rfl
set_option maxRecDepth 100000 in
theorem wd936 : Cond.instanceMethod yX0_setFree ∈ lw_g := in_g (t4_in (List.mem_of_getElem? (i := 89) rfl)) rfl
set_option maxRecDepth 100000 in
theorem wd937 : Cond.code yX0_setFree cX0_setFree 2 none ∈ lw_g := in_g (t4_in (List.mem_of_getElem? (i := 90) rfl)) rfl
set_option maxRecDepth 100000 in
theorem wd946 : Cond.methodLink RX0 89 yX0_priceFor ∈ lw_g := in_g (t4_in (List.mem_of_getElem? (i := 99) rfl)) rfl
set_option maxRecDepth 100000 in
theorem wd947 : Cond.instanceMethod yX0_priceFor ∈ lw_g := in_g (t4_in (List.mem_of_getElem? (i := 100) rfl)) rfl
set_option maxRecDepth 100000 in
theorem wd948 : Cond.selects RX0 yX0_priceFor yX0_priceFor ∈ lw_g := in_g (t4_in (List.mem_of_getElem? (i := 101) rfl)) rfl
set_option maxRecDepth 100000 in
theorem wd949 : Cond.code yX0_priceFor cX0_priceFor 5 (some .int) ∈ lw_g := in_g (t4_in (List.mem_of_getElem? (i := 102) rfl)) rfl
set_option maxRecDepth 100000 in
theorem wd959 : Cond.methodLink RX0 92 yX1_monthNow ∈ lw_g := in_g (t4_in (List.mem_of_getElem? (i := 112) rfl)) rfl
set_option maxRecDepth 100000 in
theorem wd960 : Cond.methodLink RX0 95 yX1_count ∈ lw_g := in_g (t4_in (List.mem_of_getElem? (i := 113) rfl)) rfl
set_option maxRecDepth 100000 in
theorem wd961 : Cond.methodLink RX0 98 yX0_hide ∈ lw_g := in_g (t4_in (List.mem_of_getElem? (i := 114) rfl)) rfl
set_option maxRecDepth 100000 in
theorem wd963 : Cond.instanceMethod yX0_hide ∈ lw_g := in_g (t4_in (List.mem_of_getElem? (i := 116) rfl)) rfl
set_option maxRecDepth 100000 in
theorem wd964 : Cond.code yX0_hide cX0_hide 6 (some .boolean) ∈ lw_g := in_g (t4_in (List.mem_of_getElem? (i := 117) rfl)) rfl
set_option maxRecDepth 100000 in
theorem wd965 : Cond.methodLink RX0 101 yX0_earn ∈ lw_g := in_g (t4_in (List.mem_of_getElem? (i := 118) rfl)) rfl
set_option maxRecDepth 100000 in
theorem wd967 : Cond.instanceMethod yX0_earn ∈ lw_g := in_g (t4_in (List.mem_of_getElem? (i := 120) rfl)) rfl
set_option maxRecDepth 100000 in
theorem wd968 : Cond.code yX0_earn cX0_earn 4 none ∈ lw_g := in_g (t4_in (List.mem_of_getElem? (i := 121) rfl)) rfl
set_option maxRecDepth 100000 in
theorem wd969 : Cond.methodLink RX0 104 yX1_nextMonth ∈ lw_g := in_g (t4_in (List.mem_of_getElem? (i := 122) rfl)) rfl
set_option maxRecDepth 100000 in
theorem wd970 : Cond.instanceMethod yX1_nextMonth ∈ lw_g := in_g (t4_in (List.mem_of_getElem? (i := 123) rfl)) rfl
set_option maxRecDepth 100000 in
theorem wd971 : Cond.selects RX1 yX1_nextMonth yX1_nextMonth ∈ lw_g := in_g (t4_in (List.mem_of_getElem? (i := 124) rfl)) rfl
set_option maxRecDepth 100000 in
theorem wd972 : Cond.code yX1_nextMonth cX1_nextMonth 1 none ∈ lw_g := in_g (t4_in (List.mem_of_getElem? (i := 125) rfl)) rfl
set_option maxRecDepth 100000 in
theorem wd1097 : Cond.methodLink RX10 63 yX3_rule ∈ lw_g := in_g (t5_in (List.mem_of_getElem? (i := 10) rfl)) rfl
set_option maxRecDepth 100000 in
theorem wd1098 : Cond.methodLink RX10 69 yX10_bestFrom ∈ lw_g := in_g (t5_in (List.mem_of_getElem? (i := 11) rfl)) rfl
set_option maxRecDepth 100000 in
theorem wd1100 : Cond.instanceMethod yX10_bestFrom ∈ lw_g := in_g (t5_in (List.mem_of_getElem? (i := 13) rfl)) rfl
set_option maxRecDepth 100000 in
theorem wd1101 : Cond.code yX10_bestFrom cX10_bestFrom 7 (some .int) ∈ lw_g := in_g (t5_in (List.mem_of_getElem? (i := 14) rfl)) rfl
set_option maxRecDepth 100000 in
theorem wd1108 : Cond.methodLink RX10 75 yX1_get ∈ lw_g := in_g (t5_in (List.mem_of_getElem? (i := 21) rfl)) rfl
set_option maxRecDepth 100000 in
theorem wd1109 : Cond.methodLink RX10 79 yX10_follow ∈ lw_g := in_g (t5_in (List.mem_of_getElem? (i := 22) rfl)) rfl
set_option maxRecDepth 100000 in
theorem wd1111 : Cond.instanceMethod yX10_follow ∈ lw_g := in_g (t5_in (List.mem_of_getElem? (i := 24) rfl)) rfl
set_option maxRecDepth 100000 in
theorem wd1112 : Cond.code yX10_follow cX10_follow 10 none ∈ lw_g := in_g (t5_in (List.mem_of_getElem? (i := 25) rfl)) rfl
set_option maxRecDepth 100000 in
theorem inX0 : ∀ w ∈ u_ws RX0 TX0 3, w ∈ lw_g := all_k [377, 379, 381] (by decide +kernel) (by decide +kernel)
set_option maxRecDepth 100000 in
theorem inX3 : ∀ w ∈ u_ws RX3 TX3 4, w ∈ lw_g := all_k [359, 361, 363, 365] (by decide +kernel) (by decide +kernel)
variable {p : Program} {l : Launch} {e : Env} {R : Room} {s : State} {m : MethodId} {args : Array Value} {below : List Frame} {meth : Method} {c : Code} {H : Heap} {locs : List Loc} {cells slots : Nat} {Q : State → Prop}
variable {cc bytes : ByteArray} {pc nL maxL index n : Nat} {ls : Array Slot} {rest st : List Value} {A : Nat → Prop} {H0 : Heap} {D : va_G} {tys : List (ClassId × FieldType)} {ws wc wr w1 : va_W} {rm : Room} {b : Addr}
theorem gfX0_9 (hx : p.tables.exec = Jvm.exec) (hb : c.code = cc) (hts : ∀ w ∈ lw_g, w.before args s = true) (hown : s.vm.findClass RX0 = some m.cls) (hK : va_K D vwCl tys s) (hP : va_P D vwCl ws H) (q0 : Nat) {fs : List Value} (he : ws[q0]? = some (b, .inr (0, fs))) {v : Value} (hv : fs[0]? = some v) (hdg : decode cc pc = .ok (.getfield 9, 3)) (kk : W p l e R s m args below meth c H locs cells slots Q (F0 m (pc + 3) ls (v :: rest))) : W p l e R s m args below meth c H locs cells slots Q (F0 m pc ls (.ref b :: rest)) :=
  va_get (D := D) (ci := 0) (C := RX0) (T := TX0) (N := 3) hx hb hts inX0 hown hK hP q0 he rfl 0 (by decide) (hts _ wd374) (fun _ h => h) hv hdg kk
theorem gfX0_15 (hx : p.tables.exec = Jvm.exec) (hb : c.code = cc) (hts : ∀ w ∈ lw_g, w.before args s = true) (hown : s.vm.findClass RX0 = some m.cls) (hK : va_K D vwCl tys s) (hP : va_P D vwCl ws H) (q0 : Nat) {fs : List Value} (he : ws[q0]? = some (b, .inr (0, fs))) {v : Value} (hv : fs[1]? = some v) (hdg : decode cc pc = .ok (.getfield 15, 3)) (kk : W p l e R s m args below meth c H locs cells slots Q (F0 m (pc + 3) ls (v :: rest))) : W p l e R s m args below meth c H locs cells slots Q (F0 m pc ls (.ref b :: rest)) :=
  va_get (D := D) (ci := 0) (C := RX0) (T := TX0) (N := 3) hx hb hts inX0 hown hK hP q0 he rfl 1 (by decide) (hts _ wd375) (fun _ h => h) hv hdg kk
theorem gfX0_19 (hx : p.tables.exec = Jvm.exec) (hb : c.code = cc) (hts : ∀ w ∈ lw_g, w.before args s = true) (hown : s.vm.findClass RX0 = some m.cls) (hK : va_K D vwCl tys s) (hP : va_P D vwCl ws H) (q0 : Nat) {fs : List Value} (he : ws[q0]? = some (b, .inr (0, fs))) {v : Value} (hv : fs[2]? = some v) (hdg : decode cc pc = .ok (.getfield 19, 3)) (kk : W p l e R s m args below meth c H locs cells slots Q (F0 m (pc + 3) ls (v :: rest))) : W p l e R s m args below meth c H locs cells slots Q (F0 m pc ls (.ref b :: rest)) :=
  va_get (D := D) (ci := 0) (C := RX0) (T := TX0) (N := 3) hx hb hts inX0 hown hK hP q0 he rfl 2 (by decide) (hts _ wd376) (fun _ h => h) hv hdg kk
theorem gfX0_39 (hx : p.tables.exec = Jvm.exec) (hb : c.code = cc) (hts : ∀ w ∈ lw_g, w.before args s = true) (hown : s.vm.findClass RX0 = some m.cls) (hK : va_K D vwCl tys s) (hP : va_P D vwCl ws H) (q0 : Nat) {fs : List Value} (he : ws[q0]? = some (b, .inr (6, fs))) {v : Value} (hv : fs[0]? = some v) (hdg : decode cc pc = .ok (.getfield 39, 3)) (kk : W p l e R s m args below meth c H locs cells slots Q (F0 m (pc + 3) ls (v :: rest))) : W p l e R s m args below meth c H locs cells slots Q (F0 m pc ls (.ref b :: rest)) :=
  va_get (D := D) (ci := 6) (C := RX6) (T := TX6) (N := 6) hx hb hts inX6 hown hK hP q0 he rfl 0 (by decide) (hts _ wd264) (fun _ h => h) hv hdg kk
theorem gfX0_67 (hx : p.tables.exec = Jvm.exec) (hb : c.code = cc) (hts : ∀ w ∈ lw_g, w.before args s = true) (hown : s.vm.findClass RX0 = some m.cls) (hK : va_K D vwCl tys s) (hP : va_P D vwCl ws H) (q0 : Nat) {fs : List Value} (he : ws[q0]? = some (b, .inr (6, fs))) {v : Value} (hv : fs[5]? = some v) (hdg : decode cc pc = .ok (.getfield 67, 3)) (kk : W p l e R s m args below meth c H locs cells slots Q (F0 m (pc + 3) ls (v :: rest))) : W p l e R s m args below meth c H locs cells slots Q (F0 m pc ls (.ref b :: rest)) :=
  va_get (D := D) (ci := 6) (C := RX6) (T := TX6) (N := 6) hx hb hts inX6 hown hK hP q0 he rfl 5 (by decide) (hts _ wd277) (fun _ h => h) hv hdg kk
theorem gfX3_11 (hx : p.tables.exec = Jvm.exec) (hb : c.code = cc) (hts : ∀ w ∈ lw_g, w.before args s = true) (hown : s.vm.findClass RX3 = some m.cls) (hK : va_K D vwCl tys s) (hP : va_P D vwCl ws H) (q0 : Nat) {fs : List Value} (he : ws[q0]? = some (b, .inr (3, fs))) {v : Value} (hv : fs[2]? = some v) (hdg : decode cc pc = .ok (.getfield 11, 3)) (kk : W p l e R s m args below meth c H locs cells slots Q (F0 m (pc + 3) ls (v :: rest))) : W p l e R s m args below meth c H locs cells slots Q (F0 m pc ls (.ref b :: rest)) :=
  va_get (D := D) (ci := 3) (C := RX3) (T := TX3) (N := 4) hx hb hts inX3 hown hK hP q0 he rfl 2 (by decide) (hts _ wd357) (fun _ h => h) hv hdg kk
theorem gfX3_15 (hx : p.tables.exec = Jvm.exec) (hb : c.code = cc) (hts : ∀ w ∈ lw_g, w.before args s = true) (hown : s.vm.findClass RX3 = some m.cls) (hK : va_K D vwCl tys s) (hP : va_P D vwCl ws H) (q0 : Nat) {fs : List Value} (he : ws[q0]? = some (b, .inr (3, fs))) {v : Value} (hv : fs[3]? = some v) (hdg : decode cc pc = .ok (.getfield 15, 3)) (kk : W p l e R s m args below meth c H locs cells slots Q (F0 m (pc + 3) ls (v :: rest))) : W p l e R s m args below meth c H locs cells slots Q (F0 m pc ls (.ref b :: rest)) :=
  va_get (D := D) (ci := 3) (C := RX3) (T := TX3) (N := 4) hx hb hts inX3 hown hK hP q0 he rfl 3 (by decide) (hts _ wd358) (fun _ h => h) hv hdg kk
theorem gfX3_18 (hx : p.tables.exec = Jvm.exec) (hb : c.code = cc) (hts : ∀ w ∈ lw_g, w.before args s = true) (hown : s.vm.findClass RX3 = some m.cls) (hK : va_K D vwCl tys s) (hP : va_P D vwCl ws H) (q0 : Nat) {fs : List Value} (he : ws[q0]? = some (b, .inr (3, fs))) {v : Value} (hv : fs[0]? = some v) (hdg : decode cc pc = .ok (.getfield 18, 3)) (kk : W p l e R s m args below meth c H locs cells slots Q (F0 m (pc + 3) ls (v :: rest))) : W p l e R s m args below meth c H locs cells slots Q (F0 m pc ls (.ref b :: rest)) :=
  va_get (D := D) (ci := 3) (C := RX3) (T := TX3) (N := 4) hx hb hts inX3 hown hK hP q0 he rfl 0 (by decide) (hts _ wd355) (fun _ h => h) hv hdg kk
theorem gfX3_22 (hx : p.tables.exec = Jvm.exec) (hb : c.code = cc) (hts : ∀ w ∈ lw_g, w.before args s = true) (hown : s.vm.findClass RX3 = some m.cls) (hK : va_K D vwCl tys s) (hP : va_P D vwCl ws H) (q0 : Nat) {fs : List Value} (he : ws[q0]? = some (b, .inr (3, fs))) {v : Value} (hv : fs[1]? = some v) (hdg : decode cc pc = .ok (.getfield 22, 3)) (kk : W p l e R s m args below meth c H locs cells slots Q (F0 m (pc + 3) ls (v :: rest))) : W p l e R s m args below meth c H locs cells slots Q (F0 m pc ls (.ref b :: rest)) :=
  va_get (D := D) (ci := 3) (C := RX3) (T := TX3) (N := 4) hx hb hts inX3 hown hK hP q0 he rfl 1 (by decide) (hts _ wd356) (fun _ h => h) hv hdg kk
theorem gfX3_29 (hx : p.tables.exec = Jvm.exec) (hb : c.code = cc) (hts : ∀ w ∈ lw_g, w.before args s = true) (hown : s.vm.findClass RX3 = some m.cls) (hK : va_K D vwCl tys s) (hP : va_P D vwCl ws H) (q0 : Nat) {fs : List Value} (he : ws[q0]? = some (b, .inr (6, fs))) {v : Value} (hv : fs[4]? = some v) (hdg : decode cc pc = .ok (.getfield 29, 3)) (kk : W p l e R s m args below meth c H locs cells slots Q (F0 m (pc + 3) ls (v :: rest))) : W p l e R s m args below meth c H locs cells slots Q (F0 m pc ls (.ref b :: rest)) :=
  va_get (D := D) (ci := 6) (C := RX6) (T := TX6) (N := 6) hx hb hts inX6 hown hK hP q0 he rfl 4 (by decide) (hts _ wd273) (fun _ h => h) hv hdg kk
theorem gfX3_61 (hx : p.tables.exec = Jvm.exec) (hb : c.code = cc) (hts : ∀ w ∈ lw_g, w.before args s = true) (hown : s.vm.findClass RX3 = some m.cls) (hK : va_K D vwCl tys s) (hP : va_P D vwCl ws H) (q0 : Nat) {fs : List Value} (he : ws[q0]? = some (b, .inr (6, fs))) {v : Value} (hv : fs[0]? = some v) (hdg : decode cc pc = .ok (.getfield 61, 3)) (kk : W p l e R s m args below meth c H locs cells slots Q (F0 m (pc + 3) ls (v :: rest))) : W p l e R s m args below meth c H locs cells slots Q (F0 m pc ls (.ref b :: rest)) :=
  va_get (D := D) (ci := 6) (C := RX6) (T := TX6) (N := 6) hx hb hts inX6 hown hK hP q0 he rfl 0 (by decide) (hts _ wd263) (fun _ h => h) hv hdg kk
theorem gfX10_17 (hx : p.tables.exec = Jvm.exec) (hb : c.code = cc) (hts : ∀ w ∈ lw_g, w.before args s = true) (hown : s.vm.findClass RX10 = some m.cls) (hK : va_K D vwCl tys s) (hP : va_P D vwCl ws H) (q0 : Nat) {fs : List Value} (he : ws[q0]? = some (b, .inr (10, fs))) {v : Value} (hv : fs[1]? = some v) (hdg : decode cc pc = .ok (.getfield 17, 3)) (kk : W p l e R s m args below meth c H locs cells slots Q (F0 m (pc + 3) ls (v :: rest))) : W p l e R s m args below meth c H locs cells slots Q (F0 m pc ls (.ref b :: rest)) :=
  va_get (D := D) (ci := 10) (C := RX10) (T := TX10) (N := 10) hx hb hts inX10 hown hK hP q0 he rfl 1 (by decide) (hts _ wd394) (fun _ h => h) hv hdg kk
theorem gfX10_45 (hx : p.tables.exec = Jvm.exec) (hb : c.code = cc) (hts : ∀ w ∈ lw_g, w.before args s = true) (hown : s.vm.findClass RX10 = some m.cls) (hK : va_K D vwCl tys s) (hP : va_P D vwCl ws H) (q0 : Nat) {fs : List Value} (he : ws[q0]? = some (b, .inr (6, fs))) {v : Value} (hv : fs[0]? = some v) (hdg : decode cc pc = .ok (.getfield 45, 3)) (kk : W p l e R s m args below meth c H locs cells slots Q (F0 m (pc + 3) ls (v :: rest))) : W p l e R s m args below meth c H locs cells slots Q (F0 m pc ls (.ref b :: rest)) :=
  va_get (D := D) (ci := 6) (C := RX6) (T := TX6) (N := 6) hx hb hts inX6 hown hK hP q0 he rfl 0 (by decide) (hts _ wd262) (fun _ h => h) hv hdg kk
theorem gfX10_56 (hx : p.tables.exec = Jvm.exec) (hb : c.code = cc) (hts : ∀ w ∈ lw_g, w.before args s = true) (hown : s.vm.findClass RX10 = some m.cls) (hK : va_K D vwCl tys s) (hP : va_P D vwCl ws H) (q0 : Nat) {fs : List Value} (he : ws[q0]? = some (b, .inr (6, fs))) {v : Value} (hv : fs[5]? = some v) (hdg : decode cc pc = .ok (.getfield 56, 3)) (kk : W p l e R s m args below meth c H locs cells slots Q (F0 m (pc + 3) ls (v :: rest))) : W p l e R s m args below meth c H locs cells slots Q (F0 m pc ls (.ref b :: rest)) :=
  va_get (D := D) (ci := 6) (C := RX6) (T := TX6) (N := 6) hx hb hts inX6 hown hK hP q0 he rfl 5 (by decide) (hts _ wd276) (fun _ h => h) hv hdg kk
theorem gfX10_59 (hx : p.tables.exec = Jvm.exec) (hb : c.code = cc) (hts : ∀ w ∈ lw_g, w.before args s = true) (hown : s.vm.findClass RX10 = some m.cls) (hK : va_K D vwCl tys s) (hP : va_P D vwCl ws H) (q0 : Nat) {fs : List Value} (he : ws[q0]? = some (b, .inr (6, fs))) {v : Value} (hv : fs[1]? = some v) (hdg : decode cc pc = .ok (.getfield 59, 3)) (kk : W p l e R s m args below meth c H locs cells slots Q (F0 m (pc + 3) ls (v :: rest))) : W p l e R s m args below meth c H locs cells slots Q (F0 m pc ls (.ref b :: rest)) :=
  va_get (D := D) (ci := 6) (C := RX6) (T := TX6) (N := 6) hx hb hts inX6 hown hK hP q0 he rfl 1 (by decide) (hts _ wd267) (fun _ h => h) hv hdg kk
theorem pfX10_13 (hx : p.tables.exec = Jvm.exec) (hb : c.code = cc) (hts : ∀ w ∈ lw_g, w.before args s = true) (hown : s.vm.findClass RX10 = some m.cls) (hK : va_K D vwCl tys s) (hP : va_P D vwCl ws H) (hD : va_D A ws) (hS : va_S A H0 H locs) (q0 : Nat) {fs : List Value} {x : Int32} (he : ws[q0]? = some (b, .inr (10, fs))) (hl : 0 < fs.length) (hdg : decode cc pc = .ok (.putfield 13, 3)) (kk : ∀ (H1 : Heap) (locs1 : List Loc), va_P D vwCl (ws.set q0 (b, .inr (10, fs.set 0 (.int x)))) H1 → va_D A (ws.set q0 (b, .inr (10, fs.set 0 (.int x)))) → va_S A H0 H1 locs1 → W p l e R s m args below meth c H1 locs1 cells slots Q (F0 m (pc + 3) ls rest)) : W p l e R s m args below meth c H locs cells slots Q (F0 m pc ls (.int x :: .ref b :: rest)) :=
  va_put (D := D) (ci := 10) (ty := (.int)) (C := RX10) (T := TX10) (N := 10) hx hb hts inX10 tyX10 tyX10_ok nmX10 hown hK hP hD hS q0 he rfl 0 (by decide) (hts _ wd392) (fun _ h => h) rfl (by decide +kernel) rfl rfl hl hdg kk
theorem pfX10_17 (hx : p.tables.exec = Jvm.exec) (hb : c.code = cc) (hts : ∀ w ∈ lw_g, w.before args s = true) (hown : s.vm.findClass RX10 = some m.cls) (hK : va_K D vwCl tys s) (hP : va_P D vwCl ws H) (hD : va_D A ws) (hS : va_S A H0 H locs) (q0 : Nat) {fs : List Value} {x : Int32} (he : ws[q0]? = some (b, .inr (10, fs))) (hl : 1 < fs.length) (hdg : decode cc pc = .ok (.putfield 17, 3)) (kk : ∀ (H1 : Heap) (locs1 : List Loc), va_P D vwCl (ws.set q0 (b, .inr (10, fs.set 1 (.int x)))) H1 → va_D A (ws.set q0 (b, .inr (10, fs.set 1 (.int x)))) → va_S A H0 H1 locs1 → W p l e R s m args below meth c H1 locs1 cells slots Q (F0 m (pc + 3) ls rest)) : W p l e R s m args below meth c H locs cells slots Q (F0 m pc ls (.int x :: .ref b :: rest)) :=
  va_put (D := D) (ci := 10) (ty := (.int)) (C := RX10) (T := TX10) (N := 10) hx hb hts inX10 tyX10 tyX10_ok nmX10 hown hK hP hD hS q0 he rfl 1 (by decide) (hts _ wd394) (fun _ h => h) rfl (by decide +kernel) rfl rfl hl hdg kk
theorem kwX0_23 (ht : ∀ w ∈ lw_g, w.before args s = true) (hrc : rm.cells = 0) (hrs : rm.slots = 0) (hR : rm.frames + 1 ≤ R.frames ∧ 8 + (2 + 11) + rm.locals ≤ R.locals) : CallW R s args RX0 RX1 23 yX1_told cX1_told 2 (some .boolean) (mw yX1_told cX1_told 2 (some .boolean)) rm 0 0 1 :=
  mcw_V 1 ht wd808 wd131 wd543 wd541 wd542 ⟨by decide, by decide, by decide +kernel⟩ hrc hrs hR
theorem kwX0_29 (ht : ∀ w ∈ lw_g, w.before args s = true) (hrc : rm.cells = 0) (hrs : rm.slots = 0) (hR : rm.frames + 1 ≤ R.frames ∧ 8 + (4 + 11) + rm.locals ≤ R.locals) : CallW R s args RX0 RX1 29 yX1_get cX1_get 4 (some .int) (mw yX1_get cX1_get 4 (some .int)) rm 0 0 2 :=
  mcw_V 2 ht wd809 wd131 wd812 wd810 wd811 ⟨by decide, by decide, by decide +kernel⟩ hrc hrs hR
theorem kwX0_33 (ht : ∀ w ∈ lw_g, w.before args s = true) (hrc : rm.cells = 0) (hrs : rm.slots = 0) (hR : rm.frames + 1 ≤ R.frames ∧ 8 + (2 + 11) + rm.locals ≤ R.locals) : CallW R s args RX0 RX0 33 yX0_outlaw cX0_outlaw 2 (some .boolean) (mw yX0_outlaw cX0_outlaw 2 (some .boolean)) rm 0 0 1 :=
  mcw_V 1 ht wd813 wd137 wd816 wd815 wd25 ⟨by decide, by decide, by decide +kernel⟩ hrc hrs hR
theorem kwX0_36 (ht : ∀ w ∈ lw_g, w.before args s = true) (hrc : rm.cells = 0) (hrs : rm.slots = 0) (hR : rm.frames + 1 ≤ R.frames ∧ 8 + (2 + 11) + rm.locals ≤ R.locals) : CallW R s args RX0 RX0 36 yX0_alive cX0_alive 2 (some .boolean) (mw yX0_alive cX0_alive 2 (some .boolean)) rm 0 0 1 :=
  mcw_V 1 ht wd804 wd137 wd807 wd806 wd24 ⟨by decide, by decide, by decide +kernel⟩ hrc hrs hR
theorem kwX0_45 (ht : ∀ w ∈ lw_g, w.before args s = true) (hrc : rm.cells = 0) (hrs : rm.slots = 0) (hR : rm.frames + 1 ≤ R.frames ∧ 8 + (2 + 11) + rm.locals ≤ R.locals) : CallW R s args RX0 RX2 45 yX2_told cX2_told 2 (some .boolean) (mw yX2_told cX2_told 2 (some .boolean)) rm 0 0 1 :=
  mcw_V 1 ht wd817 wd130 wd518 wd516 wd517 ⟨by decide, by decide, by decide +kernel⟩ hrc hrs hR
theorem kwX0_48 (ht : ∀ w ∈ lw_g, w.before args s = true) (hrc : rm.cells = 0) (hrs : rm.slots = 0) (hR : rm.frames + 1 ≤ R.frames ∧ 8 + (4 + 11) + rm.locals ≤ R.locals) : CallW R s args RX0 RX1 48 yX1_set cX1_set 4 none (mw yX1_set cX1_set 4 none) rm 0 0 3 :=
  mcw_V 3 ht wd818 wd131 wd547 wd545 wd546 ⟨by decide, by decide, by decide +kernel⟩ hrc hrs hR
theorem kwX0_52 (ht : ∀ w ∈ lw_g, w.before args s = true) (hrc : rm.cells = 0) (hrs : rm.slots = 0) (hR : rm.frames + 1 ≤ R.frames ∧ 8 + (4 + 11) + rm.locals ≤ R.locals) : CallW R s args RX0 RX1 52 yX1_write cX1_write 4 none (mw yX1_write cX1_write 4 none) rm 0 0 2 :=
  mcw_V 2 ht wd819 wd131 wd822 wd820 wd821 ⟨by decide, by decide, by decide +kernel⟩ hrc hrs hR
theorem kwX0_56 (ht : ∀ w ∈ lw_g, w.before args s = true) (hrc : rm.cells = 0) (hrs : rm.slots = 0) (hR : rm.frames + 1 ≤ R.frames ∧ 8 + (2 + 11) + rm.locals ≤ R.locals) : CallW R s args RX0 RX0 56 yX0_castOut cX0_castOut 2 none (mw yX0_castOut cX0_castOut 2 none) rm 0 0 1 :=
  mcw_V 1 ht wd823 wd137 wd826 wd825 wd26 ⟨by decide, by decide, by decide +kernel⟩ hrc hrs hR
theorem kwX0_60 (ht : ∀ w ∈ lw_g, w.before args s = true) (hrc : rm.cells = 0) (hrs : rm.slots = 0) (hR : rm.frames + 1 ≤ R.frames ∧ 8 + (3 + 11) + rm.locals ≤ R.locals) : CallW R s args RX0 RX2 60 yX2_joined cX2_joined 3 (some .boolean) (mw yX2_joined cX2_joined 3 (some .boolean)) rm 0 0 2 :=
  mcw_V 2 ht wd840 wd130 wd522 wd520 wd521 ⟨by decide, by decide, by decide +kernel⟩ hrc hrs hR
theorem kwX0_64 (ht : ∀ w ∈ lw_g, w.before args s = true) (hrc : rm.cells = 0) (hrs : rm.slots = 0) (hR : rm.frames + 1 ≤ R.frames ∧ 8 + (3 + 11) + rm.locals ≤ R.locals) : CallW R s args RX0 RX0 64 yX0_meets cX0_meets 3 (some .boolean) (mw yX0_meets cX0_meets 3 (some .boolean)) rm 0 0 2 :=
  mcw_V 2 ht wd849 wd137 wd852 wd851 wd27 ⟨by decide, by decide, by decide +kernel⟩ hrc hrs hR
theorem kwX0_71 (ht : ∀ w ∈ lw_g, w.before args s = true) (hrc : rm.cells = 0) (hrs : rm.slots = 0) (hR : rm.frames + 1 ≤ R.frames ∧ 8 + (8 + 11) + rm.locals ≤ R.locals) : CallW R s args RX0 RX3 71 yX3_rule cX3_rule 8 (some .int) (mw yX3_rule cX3_rule 8 (some .int)) rm 0 0 5 :=
  mcw_V 5 ht wd853 wd136 wd856 wd854 wd855 ⟨by decide, by decide, by decide +kernel⟩ hrc hrs hR
theorem kwX0_77 (ht : ∀ w ∈ lw_g, w.before args s = true) (hrc : rm.cells = 0) (hrs : rm.slots = 0) (hR : rm.frames + 1 ≤ R.frames ∧ 8 + (2 + 11) + rm.locals ≤ R.locals) : CallW R s args RX0 RX1 77 yX1_drawByTen cX1_drawByTen 2 (some .int) (mw yX1_drawByTen cX1_drawByTen 2 (some .int)) rm 0 0 0 :=
  mcw_V 0 ht wd917 wd131 wd920 wd918 wd919 ⟨by decide, by decide, by decide +kernel⟩ hrc hrs hR
theorem kwX0_86 (ht : ∀ w ∈ lw_g, w.before args s = true) (hrc : rm.cells = 0) (hrs : rm.slots = 0) (hR : rm.frames + 1 ≤ R.frames ∧ 8 + (2 + 11) + rm.locals ≤ R.locals) : CallW R s args RX0 RX0 86 yX0_setFree cX0_setFree 2 none (mw yX0_setFree cX0_setFree 2 none) rm 0 0 1 :=
  mcw_V 1 ht wd934 wd137 wd937 wd936 wd30 ⟨by decide, by decide, by decide +kernel⟩ hrc hrs hR
theorem kwX0_89 (ht : ∀ w ∈ lw_g, w.before args s = true) (hrc : rm.cells = 0) (hrs : rm.slots = 0) (hR : rm.frames + 1 ≤ R.frames ∧ 8 + (5 + 11) + rm.locals ≤ R.locals) : CallW R s args RX0 RX0 89 yX0_priceFor cX0_priceFor 5 (some .int) (mw yX0_priceFor cX0_priceFor 5 (some .int)) rm 0 0 2 :=
  mcw_V 2 ht wd946 wd137 wd949 wd947 wd948 ⟨by decide, by decide, by decide +kernel⟩ hrc hrs hR
theorem kwX0_92 (ht : ∀ w ∈ lw_g, w.before args s = true) (hrc : rm.cells = 0) (hrs : rm.slots = 0) (hR : rm.frames + 1 ≤ R.frames ∧ 8 + (1 + 11) + rm.locals ≤ R.locals) : CallW R s args RX0 RX1 92 yX1_monthNow cX1_monthNow 1 (some .int) (mw yX1_monthNow cX1_monthNow 1 (some .int)) rm 0 0 0 :=
  mcw_V 0 ht wd959 wd131 wd867 wd865 wd866 ⟨by decide, by decide, by decide +kernel⟩ hrc hrs hR
theorem kwX0_95 (ht : ∀ w ∈ lw_g, w.before args s = true) (hrc : rm.cells = 0) (hrs : rm.slots = 0) (hR : rm.frames + 1 ≤ R.frames ∧ 8 + (1 + 11) + rm.locals ≤ R.locals) : CallW R s args RX0 RX1 95 yX1_count cX1_count 1 (some .int) (mw yX1_count cX1_count 1 (some .int)) rm 0 0 0 :=
  mcw_V 0 ht wd960 wd131 wd535 wd533 wd534 ⟨by decide, by decide, by decide +kernel⟩ hrc hrs hR
theorem kwX0_98 (ht : ∀ w ∈ lw_g, w.before args s = true) (hrc : rm.cells = 0) (hrs : rm.slots = 0) (hR : rm.frames + 1 ≤ R.frames ∧ 8 + (6 + 11) + rm.locals ≤ R.locals) : CallW R s args RX0 RX0 98 yX0_hide cX0_hide 6 (some .boolean) (mw yX0_hide cX0_hide 6 (some .boolean)) rm 0 0 1 :=
  mcw_V 1 ht wd961 wd137 wd964 wd963 wd31 ⟨by decide, by decide, by decide +kernel⟩ hrc hrs hR
theorem kwX0_101 (ht : ∀ w ∈ lw_g, w.before args s = true) (hrc : rm.cells = 0) (hrs : rm.slots = 0) (hR : rm.frames + 1 ≤ R.frames ∧ 8 + (4 + 11) + rm.locals ≤ R.locals) : CallW R s args RX0 RX0 101 yX0_earn cX0_earn 4 none (mw yX0_earn cX0_earn 4 none) rm 0 0 1 :=
  mcw_V 1 ht wd965 wd137 wd968 wd967 wd32 ⟨by decide, by decide, by decide +kernel⟩ hrc hrs hR
theorem kwX0_104 (ht : ∀ w ∈ lw_g, w.before args s = true) (hrc : rm.cells = 0) (hrs : rm.slots = 0) (hR : rm.frames + 1 ≤ R.frames ∧ 8 + (1 + 11) + rm.locals ≤ R.locals) : CallW R s args RX0 RX1 104 yX1_nextMonth cX1_nextMonth 1 none (mw yX1_nextMonth cX1_nextMonth 1 none) rm 0 0 0 :=
  mcw_V 0 ht wd969 wd131 wd972 wd970 wd971 ⟨by decide, by decide, by decide +kernel⟩ hrc hrs hR
theorem kwX3_34 (ht : ∀ w ∈ lw_g, w.before args s = true) (hrc : rm.cells = 0) (hrs : rm.slots = 0) (hR : rm.frames + 1 ≤ R.frames ∧ 8 + (2 + 11) + rm.locals ≤ R.locals) : CallW R s args RX3 RX9 34 yX9_begun cX9_begun 2 (some .boolean) (mw yX9_begun cX9_begun 2 (some .boolean)) rm 0 0 1 :=
  mcw_V 1 ht wd859 wd139 wd688 wd686 wd687 ⟨by decide, by decide, by decide +kernel⟩ hrc hrs hR
theorem kwX3_40 (ht : ∀ w ∈ lw_g, w.before args s = true) (hrc : rm.cells = 0) (hrs : rm.slots = 0) (hR : rm.frames + 1 ≤ R.frames ∧ 8 + (4 + 11) + rm.locals ≤ R.locals) : CallW R s args RX3 RX3 40 yX3_fillNames cX3_fillNames 4 none (mw yX3_fillNames cX3_fillNames 4 none) rm 0 0 3 :=
  mcw_V 3 ht wd860 wd136 wd863 wd862 wd28 ⟨by decide, by decide, by decide +kernel⟩ hrc hrs hR
theorem kwX3_44 (ht : ∀ w ∈ lw_g, w.before args s = true) (hrc : rm.cells = 0) (hrs : rm.slots = 0) (hR : rm.frames + 1 ≤ R.frames ∧ 8 + (14 + 11) + rm.locals ≤ R.locals) : CallW R s args RX3 RX9 44 yX9_value cX9_value 14 (some .int) (mw yX9_value cX9_value 14 (some .int)) rm 0 0 4 :=
  mcw_V 4 ht wd887 wd139 wd890 wd888 wd889 ⟨by decide, by decide, by decide +kernel⟩ hrc hrs hR
theorem kwX3_48 (ht : ∀ w ∈ lw_g, w.before args s = true) (hrc : rm.cells = 0) (hrs : rm.slots = 0) (hR : rm.frames + 1 ≤ R.frames ∧ 8 + (5 + 11) + rm.locals ≤ R.locals) : CallW R s args RX3 RX3 48 yX3_without cX3_without 5 (some .int) (mw yX3_without cX3_without 5 (some .int)) rm 0 0 4 :=
  mcw_V 4 ht wd911 wd136 wd914 wd913 wd29 ⟨by decide, by decide, by decide +kernel⟩ hrc hrs hR
theorem kwX3_65 (ht : ∀ w ∈ lw_g, w.before args s = true) (hrc : rm.cells = 0) (hrs : rm.slots = 0) (hR : rm.frames + 1 ≤ R.frames ∧ 8 + (2 + 11) + rm.locals ≤ R.locals) : CallW R s args RX3 RX2 65 yX2_forestOf cX2_forestOf 2 (some .int) (mw yX2_forestOf cX2_forestOf 2 (some .int)) rm 0 0 1 :=
  mcw_V 1 ht wd872 wd130 wd875 wd873 wd874 ⟨by decide, by decide, by decide +kernel⟩ hrc hrs hR
theorem kwX3_73 (ht : ∀ w ∈ lw_g, w.before args s = true) (hrc : rm.cells = 0) (hrs : rm.slots = 0) (hR : rm.frames + 1 ≤ R.frames ∧ 8 + (4 + 11) + rm.locals ≤ R.locals) : CallW R s args RX3 RX1 73 yX1_get cX1_get 4 (some .int) (mw yX1_get cX1_get 4 (some .int)) rm 0 0 2 :=
  mcw_V 2 ht wd876 wd131 wd812 wd810 wd811 ⟨by decide, by decide, by decide +kernel⟩ hrc hrs hR
theorem kwX3_78 (ht : ∀ w ∈ lw_g, w.before args s = true) (hrc : rm.cells = 0) (hrs : rm.slots = 0) (hR : rm.frames + 1 ≤ R.frames ∧ 8 + (1 + 11) + rm.locals ≤ R.locals) : CallW R s args RX3 RX1 78 yX1_monthNow cX1_monthNow 1 (some .int) (mw yX1_monthNow cX1_monthNow 1 (some .int)) rm 0 0 0 :=
  mcw_V 0 ht wd864 wd131 wd867 wd865 wd866 ⟨by decide, by decide, by decide +kernel⟩ hrc hrs hR
theorem kwX3_82 (ht : ∀ w ∈ lw_g, w.before args s = true) (hrc : rm.cells = 0) (hrs : rm.slots = 0) (hR : rm.frames + 1 ≤ R.frames ∧ 8 + (2 + 11) + rm.locals ≤ R.locals) : CallW R s args RX3 RX1 82 yX1_fearOf cX1_fearOf 2 (some .int) (mw yX1_fearOf cX1_fearOf 2 (some .int)) rm 0 0 1 :=
  mcw_V 1 ht wd868 wd131 wd871 wd869 wd870 ⟨by decide, by decide, by decide +kernel⟩ hrc hrs hR
theorem kwX3_85 (ht : ∀ w ∈ lw_g, w.before args s = true) (hrc : rm.cells = 0) (hrs : rm.slots = 0) (hR : rm.frames + 1 ≤ R.frames ∧ 8 + (6 + 11) + rm.locals ≤ R.locals) : CallW R s args RX3 RX1 85 yX1_othersIn cX1_othersIn 6 (some .int) (mw yX1_othersIn cX1_othersIn 6 (some .int)) rm 0 0 2 :=
  mcw_V 2 ht wd877 wd131 wd880 wd878 wd879 ⟨by decide, by decide, by decide +kernel⟩ hrc hrs hR
theorem kwX3_88 (ht : ∀ w ∈ lw_g, w.before args s = true) (hrc : rm.cells = 0) (hrs : rm.slots = 0) (hR : rm.frames + 1 ≤ R.frames ∧ 8 + (1 + 11) + rm.locals ≤ R.locals) : CallB R s args RX3 88 yJ6_bitCount_0f7a4 cJ6_bitCount_0f7a4 1 (some .int) (mw yJ6_bitCount_0f7a4 cJ6_bitCount_0f7a4 1 (some .int)) rm 0 0 1 ∧ (Cond.static yJ6_bitCount_0f7a4).before args s = true :=
  mcw_S 1 ht wd881 wd147 wd883 wd882 ⟨by decide, by decide, by decide +kernel⟩ hrc hrs hR
theorem kwX10_63 (ht : ∀ w ∈ lw_g, w.before args s = true) (hrc : rm.cells = 0) (hrs : rm.slots = 0) (hR : rm.frames + 1 ≤ R.frames ∧ 8 + (8 + 11) + rm.locals ≤ R.locals) : CallW R s args RX10 RX3 63 yX3_rule cX3_rule 8 (some .int) (mw yX3_rule cX3_rule 8 (some .int)) rm 0 0 5 :=
  mcw_V 5 ht wd1097 wd136 wd856 wd854 wd855 ⟨by decide, by decide, by decide +kernel⟩ hrc hrs hR
theorem kwX10_69 (ht : ∀ w ∈ lw_g, w.before args s = true) (hrc : rm.cells = 0) (hrs : rm.slots = 0) (hR : rm.frames + 1 ≤ R.frames ∧ 8 + (7 + 11) + rm.locals ≤ R.locals) : CallW R s args RX10 RX10 69 yX10_bestFrom cX10_bestFrom 7 (some .int) (mw yX10_bestFrom cX10_bestFrom 7 (some .int)) rm 0 0 3 :=
  mcw_V 3 ht wd1098 wd138 wd1101 wd1100 wd37 ⟨by decide, by decide, by decide +kernel⟩ hrc hrs hR
theorem kwX10_75 (ht : ∀ w ∈ lw_g, w.before args s = true) (hrc : rm.cells = 0) (hrs : rm.slots = 0) (hR : rm.frames + 1 ≤ R.frames ∧ 8 + (4 + 11) + rm.locals ≤ R.locals) : CallW R s args RX10 RX1 75 yX1_get cX1_get 4 (some .int) (mw yX1_get cX1_get 4 (some .int)) rm 0 0 2 :=
  mcw_V 2 ht wd1108 wd131 wd812 wd810 wd811 ⟨by decide, by decide, by decide +kernel⟩ hrc hrs hR
theorem kwX10_79 (ht : ∀ w ∈ lw_g, w.before args s = true) (hrc : rm.cells = 0) (hrs : rm.slots = 0) (hR : rm.frames + 1 ≤ R.frames ∧ 8 + (10 + 11) + rm.locals ≤ R.locals) : CallW R s args RX10 RX10 79 yX10_follow cX10_follow 10 none (mw yX10_follow cX10_follow 10 none) rm 0 0 3 :=
  mcw_V 3 ht wd1109 wd138 wd1112 wd1111 wd39 ⟨by decide, by decide, by decide +kernel⟩ hrc hrs hR
theorem kwX10_83 (ht : ∀ w ∈ lw_g, w.before args s = true) (hl : va_Nw (.methodLinkNest RX10 83 yX11_commonDivisor "WolfsHead") s) (hrc : rm.cells = 0) (hrs : rm.slots = 0) (hR : rm.frames + 1 ≤ R.frames ∧ 8 + (6 + 11) + rm.locals ≤ R.locals) : va_CN R s args RX10 83 yX11_commonDivisor "WolfsHead" cX11_commonDivisor 6 (some .int) (mw yX11_commonDivisor cX11_commonDivisor 6 (some .int)) rm 0 0 2 ∧ (Cond.static yX11_commonDivisor).before args s = true ∧ True :=
  mcw_SN 2 ht hl wd128 wd1115 wd1114 ⟨by decide, by decide, by decide +kernel⟩ hrc hrs hR
end
abbrev W_LW_0t1_24t25_31_34 (qd0 : Nat) (qd1 : Nat) (qf0 : Nat) (qf1 : Nat) (qr0 : Nat) (qL0 : Nat) (qd2 : Nat) (qf2 : Nat) (qf3 : Nat) (qG1 : Nat) (qG2 : Nat) (qG3 : Nat) (qT : Nat) (qL1 : Nat) (qL2 : Nat) (cI cJ cZ cB cT : ClassId) (d_n : Int32) (d_for : Nat → Int32) (f_row : Nat → Int32) (r_tx : Int32) (r_rul : Int32) : va_W := [(qd0, .inr (2, [.int d_n, .ref qd1, .ref qd2])), (qd1, .inl (cI, 8, .inl d_for)), (qf0, .inr (1, [.ref qf1, .ref qf2, .ref qf3])), (qf1, .inl (cI, 76, .inl f_row)), (qr0, .inr (6, [.ref qd0, .ref qG1, .ref qG2, .ref qG3, .int r_tx, .int r_rul])), (qL0, .inr (3, [.ref qr0, .ref qT, .ref qL1, .ref qL2]))]
abbrev W_LW_0t1_24t26_31t32_34 (qd0 : Nat) (qd1 : Nat) (qf0 : Nat) (qf1 : Nat) (qf2 : Nat) (qr0 : Nat) (qL1 : Nat) (qL0 : Nat) (qd2 : Nat) (qf3 : Nat) (qG1 : Nat) (qG2 : Nat) (qG3 : Nat) (qT : Nat) (qL2 : Nat) (cI cJ cZ cB cT : ClassId) (d_n : Int32) (d_for : Nat → Int32) (f_row : Nat → Int32) (f_fears : Nat → Int32) (r_tx : Int32) (r_rul : Int32) (l_names : Nat → Int32) : va_W := [(qd0, .inr (2, [.int d_n, .ref qd1, .ref qd2])), (qd1, .inl (cI, 8, .inl d_for)), (qf0, .inr (1, [.ref qf1, .ref qf2, .ref qf3])), (qf1, .inl (cI, 76, .inl f_row)), (qf2, .inl (cI, 6, .inl f_fears)), (qr0, .inr (6, [.ref qd0, .ref qG1, .ref qG2, .ref qG3, .int r_tx, .int r_rul])), (qL1, .inl (cI, 10, .inl l_names)), (qL0, .inr (3, [.ref qr0, .ref qT, .ref qL1, .ref qL2]))]
abbrev W_LW_0t1_3t6_8t11_13t16_18t21_23t26_31t34 (qd0 : Nat) (qd1 : Nat) (qt0 : Nat) (qt1 : Nat) (qt2 : Nat) (qt3 : Nat) (qu0 : Nat) (qu1 : Nat) (qu2 : Nat) (qu3 : Nat) (qw0 : Nat) (qw1 : Nat) (qw2 : Nat) (qw3 : Nat) (qx0 : Nat) (qx1 : Nat) (qx2 : Nat) (qx3 : Nat) (qT : Nat) (qf0 : Nat) (qf1 : Nat) (qf2 : Nat) (qr0 : Nat) (qL1 : Nat) (qL2 : Nat) (qL0 : Nat) (qd2 : Nat) (qt4 : Nat) (qu4 : Nat) (qw4 : Nat) (qx4 : Nat) (qf3 : Nat) (qG1 : Nat) (qG2 : Nat) (qG3 : Nat) (cI cJ cZ cB cT : ClassId) (d_n : Int32) (d_for : Nat → Int32) (t_cl : Int32) (t_ln : Int32) (t_pt : Int32) (t_code : Nat → Int32) (t_st : Nat → Int32) (t_en : Nat → Int32) (u_cl : Int32) (u_ln : Int32) (u_pt : Int32) (u_code : Nat → Int32) (u_st : Nat → Int32) (u_en : Nat → Int32) (w_cl : Int32) (w_ln : Int32) (w_pt : Int32) (w_code : Nat → Int32) (w_st : Nat → Int32) (w_en : Nat → Int32) (x_cl : Int32) (x_ln : Int32) (x_pt : Int32) (x_code : Nat → Int32) (x_st : Nat → Int32) (x_en : Nat → Int32) (f_row : Nat → Int32) (f_fears : Nat → Int32) (r_tx : Int32) (r_rul : Int32) (l_names : Nat → Int32) (l_stack : Nat → Int32) : va_W := [(qd0, .inr (2, [.int d_n, .ref qd1, .ref qd2])), (qd1, .inl (cI, 8, .inl d_for)), (qt0, .inr (9, [.int t_cl, .int t_ln, .int t_pt, .ref qt1, .ref qt2, .ref qt3, .ref qt4])), (qt1, .inl (cI, 301, .inl t_code)), (qt2, .inl (cI, 4, .inl t_st)), (qt3, .inl (cI, 4, .inl t_en)), (qu0, .inr (9, [.int u_cl, .int u_ln, .int u_pt, .ref qu1, .ref qu2, .ref qu3, .ref qu4])), (qu1, .inl (cI, 301, .inl u_code)), (qu2, .inl (cI, 4, .inl u_st)), (qu3, .inl (cI, 4, .inl u_en)), (qw0, .inr (9, [.int w_cl, .int w_ln, .int w_pt, .ref qw1, .ref qw2, .ref qw3, .ref qw4])), (qw1, .inl (cI, 301, .inl w_code)), (qw2, .inl (cI, 4, .inl w_st)), (qw3, .inl (cI, 4, .inl w_en)), (qx0, .inr (9, [.int x_cl, .int x_ln, .int x_pt, .ref qx1, .ref qx2, .ref qx3, .ref qx4])), (qx1, .inl (cI, 301, .inl x_code)), (qx2, .inl (cI, 4, .inl x_st)), (qx3, .inl (cI, 4, .inl x_en)), (qT, .inl (cT, 4, .inr (.inr (.inr (.inr (fT qt0 qu0 qw0 qx0)))))), (qf0, .inr (1, [.ref qf1, .ref qf2, .ref qf3])), (qf1, .inl (cI, 76, .inl f_row)), (qf2, .inl (cI, 6, .inl f_fears)), (qr0, .inr (6, [.ref qd0, .ref qG1, .ref qG2, .ref qG3, .int r_tx, .int r_rul])), (qL1, .inl (cI, 10, .inl l_names)), (qL2, .inl (cI, 64, .inl l_stack)), (qL0, .inr (3, [.ref qr0, .ref qT, .ref qL1, .ref qL2]))]
abbrev W_DD_24t25_35 (qf0 : Nat) (qf1 : Nat) (qD0 : Nat) (qf2 : Nat) (qf3 : Nat) (qr0 : Nat) (qL0 : Nat) (cI cJ cZ cB cT : ClassId) (f_row : Nat → Int32) : va_W := [(qf0, .inr (1, [.ref qf1, .ref qf2, .ref qf3])), (qf1, .inl (cI, 76, .inl f_row)), (qD0, .inr (0, [.ref qr0, .ref qf0, .ref qL0]))]
abbrev W_DD_0_24t25_31_35 (qd0 : Nat) (qf0 : Nat) (qf1 : Nat) (qr0 : Nat) (qD0 : Nat) (qd1 : Nat) (qd2 : Nat) (qf2 : Nat) (qf3 : Nat) (qG1 : Nat) (qG2 : Nat) (qG3 : Nat) (qL0 : Nat) (cI cJ cZ cB cT : ClassId) (d_n : Int32) (f_row : Nat → Int32) (r_tx : Int32) (r_rul : Int32) : va_W := [(qd0, .inr (2, [.int d_n, .ref qd1, .ref qd2])), (qf0, .inr (1, [.ref qf1, .ref qf2, .ref qf3])), (qf1, .inl (cI, 76, .inl f_row)), (qr0, .inr (6, [.ref qd0, .ref qG1, .ref qG2, .ref qG3, .int r_tx, .int r_rul])), (qD0, .inr (0, [.ref qr0, .ref qf0, .ref qL0]))]
abbrev W_DD_0_2_24t25_31_35 (qd0 : Nat) (qd2 : Nat) (qf0 : Nat) (qf1 : Nat) (qr0 : Nat) (qD0 : Nat) (qd1 : Nat) (qf2 : Nat) (qf3 : Nat) (qG1 : Nat) (qG2 : Nat) (qG3 : Nat) (qL0 : Nat) (cI cJ cZ cB cT : ClassId) (d_n : Int32) (d_road : Nat → Int32) (f_row : Nat → Int32) (r_tx : Int32) (r_rul : Int32) : va_W := [(qd0, .inr (2, [.int d_n, .ref qd1, .ref qd2])), (qd2, .inl (cI, 8, .inl d_road)), (qf0, .inr (1, [.ref qf1, .ref qf2, .ref qf3])), (qf1, .inl (cI, 76, .inl f_row)), (qr0, .inr (6, [.ref qd0, .ref qG1, .ref qG2, .ref qG3, .int r_tx, .int r_rul])), (qD0, .inr (0, [.ref qr0, .ref qf0, .ref qL0]))]
abbrev W_DD_0t1_3t6_8t11_13t16_18t21_23t26_31t35 (qd0 : Nat) (qd1 : Nat) (qt0 : Nat) (qt1 : Nat) (qt2 : Nat) (qt3 : Nat) (qu0 : Nat) (qu1 : Nat) (qu2 : Nat) (qu3 : Nat) (qw0 : Nat) (qw1 : Nat) (qw2 : Nat) (qw3 : Nat) (qx0 : Nat) (qx1 : Nat) (qx2 : Nat) (qx3 : Nat) (qT : Nat) (qf0 : Nat) (qf1 : Nat) (qf2 : Nat) (qr0 : Nat) (qL1 : Nat) (qL2 : Nat) (qL0 : Nat) (qD0 : Nat) (qd2 : Nat) (qt4 : Nat) (qu4 : Nat) (qw4 : Nat) (qx4 : Nat) (qf3 : Nat) (qG1 : Nat) (qG2 : Nat) (qG3 : Nat) (cI cJ cZ cB cT : ClassId) (d_n : Int32) (d_for : Nat → Int32) (t_cl : Int32) (t_ln : Int32) (t_pt : Int32) (t_code : Nat → Int32) (t_st : Nat → Int32) (t_en : Nat → Int32) (u_cl : Int32) (u_ln : Int32) (u_pt : Int32) (u_code : Nat → Int32) (u_st : Nat → Int32) (u_en : Nat → Int32) (w_cl : Int32) (w_ln : Int32) (w_pt : Int32) (w_code : Nat → Int32) (w_st : Nat → Int32) (w_en : Nat → Int32) (x_cl : Int32) (x_ln : Int32) (x_pt : Int32) (x_code : Nat → Int32) (x_st : Nat → Int32) (x_en : Nat → Int32) (f_row : Nat → Int32) (f_fears : Nat → Int32) (r_tx : Int32) (r_rul : Int32) (l_names : Nat → Int32) (l_stack : Nat → Int32) : va_W := [(qd0, .inr (2, [.int d_n, .ref qd1, .ref qd2])), (qd1, .inl (cI, 8, .inl d_for)), (qt0, .inr (9, [.int t_cl, .int t_ln, .int t_pt, .ref qt1, .ref qt2, .ref qt3, .ref qt4])), (qt1, .inl (cI, 301, .inl t_code)), (qt2, .inl (cI, 4, .inl t_st)), (qt3, .inl (cI, 4, .inl t_en)), (qu0, .inr (9, [.int u_cl, .int u_ln, .int u_pt, .ref qu1, .ref qu2, .ref qu3, .ref qu4])), (qu1, .inl (cI, 301, .inl u_code)), (qu2, .inl (cI, 4, .inl u_st)), (qu3, .inl (cI, 4, .inl u_en)), (qw0, .inr (9, [.int w_cl, .int w_ln, .int w_pt, .ref qw1, .ref qw2, .ref qw3, .ref qw4])), (qw1, .inl (cI, 301, .inl w_code)), (qw2, .inl (cI, 4, .inl w_st)), (qw3, .inl (cI, 4, .inl w_en)), (qx0, .inr (9, [.int x_cl, .int x_ln, .int x_pt, .ref qx1, .ref qx2, .ref qx3, .ref qx4])), (qx1, .inl (cI, 301, .inl x_code)), (qx2, .inl (cI, 4, .inl x_st)), (qx3, .inl (cI, 4, .inl x_en)), (qT, .inl (cT, 4, .inr (.inr (.inr (.inr (fT qt0 qu0 qw0 qx0)))))), (qf0, .inr (1, [.ref qf1, .ref qf2, .ref qf3])), (qf1, .inl (cI, 76, .inl f_row)), (qf2, .inl (cI, 6, .inl f_fears)), (qr0, .inr (6, [.ref qd0, .ref qG1, .ref qG2, .ref qG3, .int r_tx, .int r_rul])), (qL1, .inl (cI, 10, .inl l_names)), (qL2, .inl (cI, 64, .inl l_stack)), (qL0, .inr (3, [.ref qr0, .ref qT, .ref qL1, .ref qL2])), (qD0, .inr (0, [.ref qr0, .ref qf0, .ref qL0]))]
abbrev W_WR_0t3_6t8_10t16_18t21_23t26_28t31_33_36t39 (qv0 : Nat) (qv1 : Nat) (qv2 : Nat) (qv3 : Nat) (qf0 : Nat) (qf1 : Nat) (qf2 : Nat) (qd0 : Nat) (qd1 : Nat) (qd2 : Nat) (qt0 : Nat) (qt1 : Nat) (qt2 : Nat) (qt3 : Nat) (qu0 : Nat) (qu1 : Nat) (qu2 : Nat) (qu3 : Nat) (qw0 : Nat) (qw1 : Nat) (qw2 : Nat) (qw3 : Nat) (qx0 : Nat) (qx1 : Nat) (qx2 : Nat) (qx3 : Nat) (qT : Nat) (qr0 : Nat) (qL1 : Nat) (qL2 : Nat) (qL0 : Nat) (qv4 : Nat) (qv5 : Nat) (qf3 : Nat) (qt4 : Nat) (qu4 : Nat) (qw4 : Nat) (qx4 : Nat) (qG2 : Nat) (qG3 : Nat) (cI cJ cZ cB cT : ClassId) (v_up : Int32) (v_low : Int32) (v_gone : Int32) (v_may : Int32) (v_must : Int32) (v_liv : Nat → Int32) (v_best : Nat → Int32) (v_way : Nat → Int32) (f_row : Nat → Int32) (f_fears : Nat → Int32) (d_n : Int32) (d_for : Nat → Int32) (d_road : Nat → Int32) (t_cl : Int32) (t_ln : Int32) (t_pt : Int32) (t_code : Nat → Int32) (t_st : Nat → Int32) (t_en : Nat → Int32) (u_cl : Int32) (u_ln : Int32) (u_pt : Int32) (u_code : Nat → Int32) (u_st : Nat → Int32) (u_en : Nat → Int32) (w_cl : Int32) (w_ln : Int32) (w_pt : Int32) (w_code : Nat → Int32) (w_st : Nat → Int32) (w_en : Nat → Int32) (x_cl : Int32) (x_ln : Int32) (x_pt : Int32) (x_code : Nat → Int32) (x_st : Nat → Int32) (x_en : Nat → Int32) (r_tx : Int32) (r_rul : Int32) (l_names : Nat → Int32) (l_stack : Nat → Int32) : va_W := [(qv0, .inr (10, [.int v_up, .int v_low, .int v_gone, .int v_may, .int v_must, .ref qv1, .ref qv2, .ref qv3, .ref qv4, .ref qv5])), (qv1, .inl (cI, 8, .inl v_liv)), (qv2, .inl (cI, 56, .inl v_best)), (qv3, .inl (cI, 6, .inl v_way)), (qf0, .inr (1, [.ref qf1, .ref qf2, .ref qf3])), (qf1, .inl (cI, 76, .inl f_row)), (qf2, .inl (cI, 6, .inl f_fears)), (qd0, .inr (2, [.int d_n, .ref qd1, .ref qd2])), (qd1, .inl (cI, 8, .inl d_for)), (qd2, .inl (cI, 8, .inl d_road)), (qt0, .inr (9, [.int t_cl, .int t_ln, .int t_pt, .ref qt1, .ref qt2, .ref qt3, .ref qt4])), (qt1, .inl (cI, 301, .inl t_code)), (qt2, .inl (cI, 4, .inl t_st)), (qt3, .inl (cI, 4, .inl t_en)), (qu0, .inr (9, [.int u_cl, .int u_ln, .int u_pt, .ref qu1, .ref qu2, .ref qu3, .ref qu4])), (qu1, .inl (cI, 301, .inl u_code)), (qu2, .inl (cI, 4, .inl u_st)), (qu3, .inl (cI, 4, .inl u_en)), (qw0, .inr (9, [.int w_cl, .int w_ln, .int w_pt, .ref qw1, .ref qw2, .ref qw3, .ref qw4])), (qw1, .inl (cI, 301, .inl w_code)), (qw2, .inl (cI, 4, .inl w_st)), (qw3, .inl (cI, 4, .inl w_en)), (qx0, .inr (9, [.int x_cl, .int x_ln, .int x_pt, .ref qx1, .ref qx2, .ref qx3, .ref qx4])), (qx1, .inl (cI, 301, .inl x_code)), (qx2, .inl (cI, 4, .inl x_st)), (qx3, .inl (cI, 4, .inl x_en)), (qT, .inl (cT, 4, .inr (.inr (.inr (.inr (fT qt0 qu0 qw0 qx0)))))), (qr0, .inr (6, [.ref qd0, .ref qf0, .ref qG2, .ref qG3, .int r_tx, .int r_rul])), (qL1, .inl (cI, 10, .inl l_names)), (qL2, .inl (cI, 64, .inl l_stack)), (qL0, .inr (3, [.ref qr0, .ref qT, .ref qL1, .ref qL2]))]
