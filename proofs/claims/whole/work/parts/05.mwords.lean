theorem tp_in {w : Cond} (h : w ∈ k2_sels lw_privs) : w ∈ lw_tbl := List.mem_append_left _ h
theorem t1_in {w : Cond} (h : w ∈ tables_1_1) : w ∈ lw_tbl := List.mem_append_right _ (List.mem_append_left _ h)
theorem t2_in {w : Cond} (h : w ∈ tables_1_2) : w ∈ lw_tbl := List.mem_append_right _ (List.mem_append_right _ (List.mem_append_left _ h))
theorem t3_in {w : Cond} (h : w ∈ tables_1_3) : w ∈ lw_tbl := List.mem_append_right _ (List.mem_append_right _ (List.mem_append_right _ (List.mem_append_left _ h)))
theorem t4_in {w : Cond} (h : w ∈ tables_1_4) : w ∈ lw_tbl := List.mem_append_right _ (List.mem_append_right _ (List.mem_append_right _ (List.mem_append_right _ (List.mem_append_left _ h))))
theorem t5_in {w : Cond} (h : w ∈ tables_1_5) : w ∈ lw_tbl := List.mem_append_right _ (List.mem_append_right _ (List.mem_append_right _ (List.mem_append_right _ (List.mem_append_right _ (List.mem_append_left _ h)))))
theorem t6_in {w : Cond} (h : w ∈ tables_1_6) : w ∈ lw_tbl := List.mem_append_right _ (List.mem_append_right _ (List.mem_append_right _ (List.mem_append_right _ (List.mem_append_right _ (List.mem_append_right _ (List.mem_append_left _ h))))))
theorem t7_in {w : Cond} (h : w ∈ tables_1_7) : w ∈ lw_tbl := List.mem_append_right _ (List.mem_append_right _ (List.mem_append_right _ (List.mem_append_right _ (List.mem_append_right _ (List.mem_append_right _ (List.mem_append_right _ (List.mem_append_left _ h)))))))
theorem t8_in {w : Cond} (h : w ∈ tables_1_8) : w ∈ lw_tbl := List.mem_append_right _ (List.mem_append_right _ (List.mem_append_right _ (List.mem_append_right _ (List.mem_append_right _ (List.mem_append_right _ (List.mem_append_right _ (List.mem_append_right _ h)))))))
section
set_option maxRecDepth 100000 in
theorem wd47 : Cond.selects RX12 yX12_isLand yX12_isLand ∈ lw_g := in_g (tp_in (List.mem_of_getElem? (i := 47) rfl)) rfl
set_option maxRecDepth 100000 in
theorem wd48 : Cond.selects RX12 yX12_put yX12_put ∈ lw_g := in_g (tp_in (List.mem_of_getElem? (i := 48) rfl)) rfl
set_option maxRecDepth 100000 in
theorem wd49 : Cond.selects RX12 yX12_begin yX12_begin ∈ lw_g := in_g (tp_in (List.mem_of_getElem? (i := 49) rfl)) rfl
set_option maxRecDepth 100000 in
theorem wd50 : Cond.selects RX12 yX12_get yX12_get ∈ lw_g := in_g (tp_in (List.mem_of_getElem? (i := 50) rfl)) rfl
set_option maxRecDepth 100000 in
theorem wd51 : Cond.selects RX12 yX12_four yX12_four ∈ lw_g := in_g (tp_in (List.mem_of_getElem? (i := 51) rfl)) rfl
set_option maxRecDepth 100000 in
theorem wd52 : Cond.selects RX12 yX12_readText yX12_readText ∈ lw_g := in_g (tp_in (List.mem_of_getElem? (i := 52) rfl)) rfl
set_option maxRecDepth 100000 in
theorem wd53 : Cond.selects RX12 yX12_nextToken yX12_nextToken ∈ lw_g := in_g (tp_in (List.mem_of_getElem? (i := 53) rfl)) rfl
set_option maxRecDepth 100000 in
theorem wd54 : Cond.selects RX12 yX12_byteAt yX12_byteAt ∈ lw_g := in_g (tp_in (List.mem_of_getElem? (i := 54) rfl)) rfl
set_option maxRecDepth 100000 in
theorem wd55 : Cond.selects RX12 yX12_clause yX12_clause ∈ lw_g := in_g (tp_in (List.mem_of_getElem? (i := 55) rfl)) rfl
set_option maxRecDepth 100000 in
theorem wd56 : Cond.selects RX12 yX12_sortOf yX12_sortOf ∈ lw_g := in_g (tp_in (List.mem_of_getElem? (i := 56) rfl)) rfl
set_option maxRecDepth 100000 in
theorem wd57 : Cond.selects RX12 yX12_isHungers yX12_isHungers ∈ lw_g := in_g (tp_in (List.mem_of_getElem? (i := 57) rfl)) rfl
set_option maxRecDepth 100000 in
theorem wd58 : Cond.selects RX12 yX12_isWord yX12_isWord ∈ lw_g := in_g (tp_in (List.mem_of_getElem? (i := 58) rfl)) rfl
set_option maxRecDepth 100000 in
theorem wd59 : Cond.selects RX12 yX12_body yX12_body ∈ lw_g := in_g (tp_in (List.mem_of_getElem? (i := 59) rfl)) rfl
set_option maxRecDepth 100000 in
theorem wd60 : Cond.selects RX12 yX12_figure yX12_figure ∈ lw_g := in_g (tp_in (List.mem_of_getElem? (i := 60) rfl)) rfl
set_option maxRecDepth 100000 in
theorem wd61 : Cond.selects RX12 yX12_pair yX12_pair ∈ lw_g := in_g (tp_in (List.mem_of_getElem? (i := 61) rfl)) rfl
set_option maxRecDepth 100000 in
theorem wd62 : Cond.selects RX12 yX12_worded yX12_worded ∈ lw_g := in_g (tp_in (List.mem_of_getElem? (i := 62) rfl)) rfl
set_option maxRecDepth 100000 in
theorem wd63 : Cond.selects RX12 yX12_personClause yX12_personClause ∈ lw_g := in_g (tp_in (List.mem_of_getElem? (i := 63) rfl)) rfl
set_option maxRecDepth 100000 in
theorem wd64 : Cond.selects RX12 yX12_lawClause yX12_lawClause ∈ lw_g := in_g (tp_in (List.mem_of_getElem? (i := 64) rfl)) rfl
set_option maxRecDepth 100000 in
theorem wd65 : Cond.selects RX12 yX12_summed yX12_summed ∈ lw_g := in_g (tp_in (List.mem_of_getElem? (i := 65) rfl)) rfl
set_option maxRecDepth 100000 in
theorem wd66 : Cond.selects RX12 yX12_behindOne yX12_behindOne ∈ lw_g := in_g (tp_in (List.mem_of_getElem? (i := 66) rfl)) rfl
set_option maxRecDepth 100000 in
theorem wd67 : Cond.selects RX12 yX12_betweenOf yX12_betweenOf ∈ lw_g := in_g (tp_in (List.mem_of_getElem? (i := 67) rfl)) rfl
set_option maxRecDepth 100000 in
theorem wd68 : Cond.selects RX12 yX12_openNow yX12_openNow ∈ lw_g := in_g (tp_in (List.mem_of_getElem? (i := 68) rfl)) rfl
set_option maxRecDepth 100000 in
theorem wd69 : Cond.selects RX12 yX12_openAt yX12_openAt ∈ lw_g := in_g (tp_in (List.mem_of_getElem? (i := 69) rfl)) rfl
set_option maxRecDepth 100000 in
theorem wd70 : Cond.selects RX12 yX12_isCompared yX12_isCompared ∈ lw_g := in_g (tp_in (List.mem_of_getElem? (i := 70) rfl)) rfl
set_option maxRecDepth 100000 in
theorem wd71 : Cond.selects RX12 yX12_compareOf yX12_compareOf ∈ lw_g := in_g (tp_in (List.mem_of_getElem? (i := 71) rfl)) rfl
set_option maxRecDepth 100000 in
theorem wd72 : Cond.selects RX12 yX12_settle yX12_settle ∈ lw_g := in_g (tp_in (List.mem_of_getElem? (i := 72) rfl)) rfl
set_option maxRecDepth 100000 in
theorem wd73 : Cond.selects RX12 yX12_emit yX12_emit ∈ lw_g := in_g (tp_in (List.mem_of_getElem? (i := 73) rfl)) rfl
set_option maxRecDepth 100000 in
theorem wd74 : Cond.selects RX12 yX12_partOf yX12_partOf ∈ lw_g := in_g (tp_in (List.mem_of_getElem? (i := 74) rfl)) rfl
set_option maxRecDepth 100000 in
theorem wd75 : Cond.selects RX12 yX12_beginOne yX12_beginOne ∈ lw_g := in_g (tp_in (List.mem_of_getElem? (i := 75) rfl)) rfl
set_option maxRecDepth 100000 in
theorem wd76 : Cond.selects RX12 yX12_nameOf yX12_nameOf ∈ lw_g := in_g (tp_in (List.mem_of_getElem? (i := 76) rfl)) rfl
set_option maxRecDepth 100000 in
theorem wd77 : Cond.selects RX12 yX12_isOf yX12_isOf ∈ lw_g := in_g (tp_in (List.mem_of_getElem? (i := 77) rfl)) rfl
set_option maxRecDepth 100000 in
theorem wd78 : Cond.selects RX12 yX12_opened yX12_opened ∈ lw_g := in_g (tp_in (List.mem_of_getElem? (i := 78) rfl)) rfl
set_option maxRecDepth 100000 in
theorem wd79 : Cond.selects RX12 yX12_isAskAhead yX12_isAskAhead ∈ lw_g := in_g (tp_in (List.mem_of_getElem? (i := 79) rfl)) rfl
set_option maxRecDepth 100000 in
theorem wd80 : Cond.selects RX12 yX12_canCall yX12_canCall ∈ lw_g := in_g (tp_in (List.mem_of_getElem? (i := 80) rfl)) rfl
set_option maxRecDepth 100000 in
theorem wd81 : Cond.selects RX12 yX12_isAlive yX12_isAlive ∈ lw_g := in_g (tp_in (List.mem_of_getElem? (i := 81) rfl)) rfl
set_option maxRecDepth 100000 in
theorem wd82 : Cond.selects RX12 yX12_isPerson yX12_isPerson ∈ lw_g := in_g (tp_in (List.mem_of_getElem? (i := 82) rfl)) rfl
set_option maxRecDepth 100000 in
theorem wd83 : Cond.selects RX12 yX12_keep yX12_keep ∈ lw_g := in_g (tp_in (List.mem_of_getElem? (i := 83) rfl)) rfl
set_option maxRecDepth 100000 in
theorem wd84 : Cond.selects RX12 yX12_callNow yX12_callNow ∈ lw_g := in_g (tp_in (List.mem_of_getElem? (i := 84) rfl)) rfl
set_option maxRecDepth 100000 in
theorem wd85 : Cond.selects RX12 yX12_write yX12_write ∈ lw_g := in_g (tp_in (List.mem_of_getElem? (i := 85) rfl)) rfl
set_option maxRecDepth 100000 in
theorem wd86 : Cond.selects RX12 yX12_canMove yX12_canMove ∈ lw_g := in_g (tp_in (List.mem_of_getElem? (i := 86) rfl)) rfl
set_option maxRecDepth 100000 in
theorem wd87 : Cond.selects RX12 yX12_areBeside yX12_areBeside ∈ lw_g := in_g (tp_in (List.mem_of_getElem? (i := 87) rfl)) rfl
set_option maxRecDepth 100000 in
theorem wd88 : Cond.selects RX12 yX12_isOutlaw yX12_isOutlaw ∈ lw_g := in_g (tp_in (List.mem_of_getElem? (i := 88) rfl)) rfl
set_option maxRecDepth 100000 in
theorem wd89 : Cond.selects RX12 yX12_feedNow yX12_feedNow ∈ lw_g := in_g (tp_in (List.mem_of_getElem? (i := 89) rfl)) rfl
set_option maxRecDepth 100000 in
theorem wd90 : Cond.selects RX12 yX12_findsOf yX12_findsOf ∈ lw_g := in_g (tp_in (List.mem_of_getElem? (i := 90) rfl)) rfl
set_option maxRecDepth 100000 in
theorem wd91 : Cond.selects RX12 yX12_findsIn yX12_findsIn ∈ lw_g := in_g (tp_in (List.mem_of_getElem? (i := 91) rfl)) rfl
set_option maxRecDepth 100000 in
theorem wd92 : Cond.selects RX12 yX12_nameIn yX12_nameIn ∈ lw_g := in_g (tp_in (List.mem_of_getElem? (i := 92) rfl)) rfl
set_option maxRecDepth 100000 in
theorem wd93 : Cond.selects RX12 yX12_crowdOf yX12_crowdOf ∈ lw_g := in_g (tp_in (List.mem_of_getElem? (i := 93) rfl)) rfl
set_option maxRecDepth 100000 in
theorem wd94 : Cond.selects RX12 yX12_says yX12_says ∈ lw_g := in_g (tp_in (List.mem_of_getElem? (i := 94) rfl)) rfl
set_option maxRecDepth 100000 in
theorem wd95 : Cond.selects RX12 yX12_summedUp yX12_summedUp ∈ lw_g := in_g (tp_in (List.mem_of_getElem? (i := 95) rfl)) rfl
set_option maxRecDepth 100000 in
theorem wd96 : Cond.selects RX12 yX12_prefixed yX12_prefixed ∈ lw_g := in_g (tp_in (List.mem_of_getElem? (i := 96) rfl)) rfl
set_option maxRecDepth 100000 in
theorem wd97 : Cond.selects RX12 yX12_fearOf yX12_fearOf ∈ lw_g := in_g (tp_in (List.mem_of_getElem? (i := 97) rfl)) rfl
set_option maxRecDepth 100000 in
theorem wd98 : Cond.selects RX12 yX12_drawn yX12_drawn ∈ lw_g := in_g (tp_in (List.mem_of_getElem? (i := 98) rfl)) rfl
set_option maxRecDepth 100000 in
theorem wd99 : Cond.selects RX12 yX12_anew yX12_anew ∈ lw_g := in_g (tp_in (List.mem_of_getElem? (i := 99) rfl)) rfl
set_option maxRecDepth 100000 in
theorem wd100 : Cond.selects RX12 yX12_killNow yX12_killNow ∈ lw_g := in_g (tp_in (List.mem_of_getElem? (i := 100) rfl)) rfl
set_option maxRecDepth 100000 in
theorem wd101 : Cond.selects RX12 yX12_die yX12_die ∈ lw_g := in_g (tp_in (List.mem_of_getElem? (i := 101) rfl)) rfl
set_option maxRecDepth 100000 in
theorem wd102 : Cond.selects RX12 yX12_pardonNow yX12_pardonNow ∈ lw_g := in_g (tp_in (List.mem_of_getElem? (i := 102) rfl)) rfl
set_option maxRecDepth 100000 in
theorem wd103 : Cond.selects RX12 yX12_canPardon yX12_canPardon ∈ lw_g := in_g (tp_in (List.mem_of_getElem? (i := 103) rfl)) rfl
set_option maxRecDepth 100000 in
theorem wd104 : Cond.selects RX12 yX12_priceOf yX12_priceOf ∈ lw_g := in_g (tp_in (List.mem_of_getElem? (i := 104) rfl)) rfl
set_option maxRecDepth 100000 in
theorem wd105 : Cond.selects RX12 yX12_payNow yX12_payNow ∈ lw_g := in_g (tp_in (List.mem_of_getElem? (i := 105) rfl)) rfl
set_option maxRecDepth 100000 in
theorem wd106 : Cond.selects RX12 yX12_arePassed yX12_arePassed ∈ lw_g := in_g (tp_in (List.mem_of_getElem? (i := 106) rfl)) rfl
set_option maxRecDepth 100000 in
theorem wd107 : Cond.selects RX12 yX12_goOn yX12_goOn ∈ lw_g := in_g (tp_in (List.mem_of_getElem? (i := 107) rfl)) rfl
set_option maxRecDepth 100000 in
theorem wd108 : Cond.selects RX12 yX12_live yX12_live ∈ lw_g := in_g (tp_in (List.mem_of_getElem? (i := 108) rfl)) rfl
set_option maxRecDepth 100000 in
theorem wd109 : Cond.selects RX12 yX12_earnsOf yX12_earnsOf ∈ lw_g := in_g (tp_in (List.mem_of_getElem? (i := 109) rfl)) rfl
set_option maxRecDepth 100000 in
theorem wd110 : Cond.selects RX12 yX12_hungersOf yX12_hungersOf ∈ lw_g := in_g (tp_in (List.mem_of_getElem? (i := 110) rfl)) rfl
set_option maxRecDepth 100000 in
theorem wd111 : Cond.selects RX12 yX12_isPlayed yX12_isPlayed ∈ lw_g := in_g (tp_in (List.mem_of_getElem? (i := 111) rfl)) rfl
set_option maxRecDepth 100000 in
theorem wd112 : Cond.selects RX12 yX12_happens yX12_happens ∈ lw_g := in_g (tp_in (List.mem_of_getElem? (i := 112) rfl)) rfl
set_option maxRecDepth 100000 in
theorem wd113 : Cond.selects RX12 yX12_aliveIn yX12_aliveIn ∈ lw_g := in_g (tp_in (List.mem_of_getElem? (i := 113) rfl)) rfl
set_option maxRecDepth 100000 in
theorem wd114 : Cond.selects RX12 yX12_shown yX12_shown ∈ lw_g := in_g (tp_in (List.mem_of_getElem? (i := 114) rfl)) rfl
set_option maxRecDepth 100000 in
theorem wd115 : Cond.selects RX12 yX12_entry yX12_entry ∈ lw_g := in_g (tp_in (List.mem_of_getElem? (i := 115) rfl)) rfl
set_option maxRecDepth 100000 in
theorem wd116 : Cond.selects RX12 yX12_setAside yX12_setAside ∈ lw_g := in_g (tp_in (List.mem_of_getElem? (i := 116) rfl)) rfl
set_option maxRecDepth 100000 in
theorem wd117 : Cond.selects RX12 yX12_putBack yX12_putBack ∈ lw_g := in_g (tp_in (List.mem_of_getElem? (i := 117) rfl)) rfl
set_option maxRecDepth 100000 in
theorem wd118 : Cond.selects RX12 yX12_layLikely yX12_layLikely ∈ lw_g := in_g (tp_in (List.mem_of_getElem? (i := 118) rfl)) rfl
set_option maxRecDepth 100000 in
theorem wd119 : Cond.selects RX12 yX12_nextFrom yX12_nextFrom ∈ lw_g := in_g (tp_in (List.mem_of_getElem? (i := 119) rfl)) rfl
set_option maxRecDepth 100000 in
theorem wd120 : Cond.selects RX12 yX12_reachOf yX12_reachOf ∈ lw_g := in_g (tp_in (List.mem_of_getElem? (i := 120) rfl)) rfl
set_option maxRecDepth 100000 in
theorem wd121 : Cond.selects RX12 yX12_lowestFrom yX12_lowestFrom ∈ lw_g := in_g (tp_in (List.mem_of_getElem? (i := 121) rfl)) rfl
set_option maxRecDepth 100000 in
theorem wd122 : Cond.selects RX12 yX12_spread yX12_spread ∈ lw_g := in_g (tp_in (List.mem_of_getElem? (i := 122) rfl)) rfl
set_option maxRecDepth 100000 in
theorem wd123 : Cond.selects RX12 yX12_isJoined yX12_isJoined ∈ lw_g := in_g (tp_in (List.mem_of_getElem? (i := 123) rfl)) rfl
set_option maxRecDepth 100000 in
theorem wd124 : Cond.selects RX12 yX12_wasAt yX12_wasAt ∈ lw_g := in_g (tp_in (List.mem_of_getElem? (i := 124) rfl)) rfl
set_option maxRecDepth 100000 in
theorem wd125 : Cond.selects RX12 yX12_isExplained yX12_isExplained ∈ lw_g := in_g (tp_in (List.mem_of_getElem? (i := 125) rfl)) rfl
set_option maxRecDepth 100000 in
theorem wd126 : Cond.selects RX12 yX12_canBe yX12_canBe ∈ lw_g := in_g (tp_in (List.mem_of_getElem? (i := 126) rfl)) rfl
set_option maxRecDepth 100000 in
theorem wd140 : Cond.initialized RX12 ∈ lw_g := in_g (t1_in (List.mem_of_getElem? (i := 13) rfl)) rfl
set_option maxRecDepth 100000 in
theorem wd1367 : Cond.methodLink RX12 59 yX12_copy ∈ lw_g := in_g (t6_in (List.mem_of_getElem? (i := 40) rfl)) rfl
set_option maxRecDepth 100000 in
theorem wd1368 : Cond.static yX12_copy ∈ lw_g := in_g (t6_in (List.mem_of_getElem? (i := 41) rfl)) rfl
set_option maxRecDepth 100000 in
theorem wd1369 : Cond.code yX12_copy cX12_copy 3 none ∈ lw_g := in_g (t6_in (List.mem_of_getElem? (i := 42) rfl)) rfl
set_option maxRecDepth 100000 in
theorem wd1370 : Cond.fieldLink RX12 7 "WolfsHeadModel" "a" "[I" ∈ lw_g := in_g (t6_in (List.mem_of_getElem? (i := 43) rfl)) rfl
set_option maxRecDepth 100000 in
theorem wd1371 : Cond.fieldLink RX12 13 "WolfsHeadModel" "image" "[I" ∈ lw_g := in_g (t6_in (List.mem_of_getElem? (i := 44) rfl)) rfl
set_option maxRecDepth 100000 in
theorem wd1372 : Cond.fieldLink RX12 16 "WolfsHeadModel" "texts" "[I" ∈ lw_g := in_g (t6_in (List.mem_of_getElem? (i := 45) rfl)) rfl
set_option maxRecDepth 100000 in
theorem wd1373 : Cond.fieldLink RX12 19 "WolfsHeadModel" "tape" "[I" ∈ lw_g := in_g (t6_in (List.mem_of_getElem? (i := 46) rfl)) rfl
set_option maxRecDepth 100000 in
theorem wd1374 : Cond.fieldLink RX12 90 "WolfsHeadModel" "taped" "I" ∈ lw_g := in_g (t6_in (List.mem_of_getElem? (i := 47) rfl)) rfl
set_option maxRecDepth 100000 in
theorem wd1375 : Cond.fieldLink RX12 22 "WolfsHeadModel" "fault" "I" ∈ lw_g := in_g (t6_in (List.mem_of_getElem? (i := 48) rfl)) rfl
set_option maxRecDepth 100000 in
theorem wd1376 : Cond.fieldLink RX12 26 "WolfsHeadModel" "faultPlace" "I" ∈ lw_g := in_g (t6_in (List.mem_of_getElem? (i := 49) rfl)) rfl
set_option maxRecDepth 100000 in
theorem wd1377 : Cond.fieldLink RX12 96 "WolfsHeadModel" "at" "I" ∈ lw_g := in_g (t6_in (List.mem_of_getElem? (i := 50) rfl)) rfl
set_option maxRecDepth 100000 in
theorem wd1378 : Cond.fieldLink RX12 103 "WolfsHeadModel" "place" "I" ∈ lw_g := in_g (t6_in (List.mem_of_getElem? (i := 51) rfl)) rfl
set_option maxRecDepth 100000 in
theorem wd1379 : Cond.fieldLink RX12 106 "WolfsHeadModel" "token" "I" ∈ lw_g := in_g (t6_in (List.mem_of_getElem? (i := 52) rfl)) rfl
set_option maxRecDepth 100000 in
theorem wd1380 : Cond.fieldLink RX12 112 "WolfsHeadModel" "number" "I" ∈ lw_g := in_g (t6_in (List.mem_of_getElem? (i := 53) rfl)) rfl
set_option maxRecDepth 100000 in
theorem wd1381 : Cond.fieldLink RX12 119 "WolfsHeadModel" "word" "J" ∈ lw_g := in_g (t6_in (List.mem_of_getElem? (i := 54) rfl)) rfl
set_option maxRecDepth 100000 in
theorem wd1382 : Cond.fieldLink RX12 144 "WolfsHeadModel" "text0" "I" ∈ lw_g := in_g (t6_in (List.mem_of_getElem? (i := 55) rfl)) rfl
set_option maxRecDepth 100000 in
theorem wd1383 : Cond.fieldLink RX12 147 "WolfsHeadModel" "written" "I" ∈ lw_g := in_g (t6_in (List.mem_of_getElem? (i := 56) rfl)) rfl
set_option maxRecDepth 100000 in
theorem wd1384 : Cond.fieldLink RX12 154 "WolfsHeadModel" "sort0" "I" ∈ lw_g := in_g (t6_in (List.mem_of_getElem? (i := 57) rfl)) rfl
set_option maxRecDepth 100000 in
theorem wd1385 : Cond.fieldLink RX12 29 "WolfsHeadModel" "pile" "[I" ∈ lw_g := in_g (t6_in (List.mem_of_getElem? (i := 58) rfl)) rfl
set_option maxRecDepth 100000 in
theorem wd1386 : Cond.fieldLink RX12 157 "WolfsHeadModel" "piled" "I" ∈ lw_g := in_g (t6_in (List.mem_of_getElem? (i := 59) rfl)) rfl
set_option maxRecDepth 100000 in
theorem wd1387 : Cond.fieldLink RX12 167 "WolfsHeadModel" "opens" "I" ∈ lw_g := in_g (t6_in (List.mem_of_getElem? (i := 60) rfl)) rfl
set_option maxRecDepth 100000 in
theorem wd1388 : Cond.fieldLink RX12 186 "WolfsHeadModel" "isWhole" "Z" ∈ lw_g := in_g (t6_in (List.mem_of_getElem? (i := 61) rfl)) rfl
set_option maxRecDepth 100000 in
theorem wd1389 : Cond.fieldLink RX12 248 "WolfsHeadModel" "once" "I" ∈ lw_g := in_g (t6_in (List.mem_of_getElem? (i := 62) rfl)) rfl
set_option maxRecDepth 100000 in
theorem wd1390 : Cond.fieldLink RX12 32 "WolfsHeadModel" "named" "[I" ∈ lw_g := in_g (t6_in (List.mem_of_getElem? (i := 63) rfl)) rfl
set_option maxRecDepth 100000 in
theorem wd1391 : Cond.fieldLink RX12 35 "WolfsHeadModel" "values" "[J" ∈ lw_g := in_g (t6_in (List.mem_of_getElem? (i := 64) rfl)) rfl
set_option maxRecDepth 100000 in
theorem wd1392 : Cond.fieldLink RX12 39 "WolfsHeadModel" "truth" "[Z" ∈ lw_g := in_g (t6_in (List.mem_of_getElem? (i := 65) rfl)) rfl
set_option maxRecDepth 100000 in
theorem wd1393 : Cond.fieldLink RX12 43 "WolfsHeadModel" "isWritten" "Z" ∈ lw_g := in_g (t6_in (List.mem_of_getElem? (i := 66) rfl)) rfl
set_option maxRecDepth 100000 in
theorem wd1394 : Cond.fieldLink RX12 322 "WolfsHeadModel" "died" "I" ∈ lw_g := in_g (t6_in (List.mem_of_getElem? (i := 67) rfl)) rfl
set_option maxRecDepth 100000 in
theorem wd1395 : Cond.fieldLink RX12 47 "WolfsHeadModel" "aside" "[I" ∈ lw_g := in_g (t6_in (List.mem_of_getElem? (i := 68) rfl)) rfl
set_option maxRecDepth 100000 in
theorem wd1396 : Cond.fieldLink RX12 50 "WolfsHeadModel" "likely" "[I" ∈ lw_g := in_g (t6_in (List.mem_of_getElem? (i := 69) rfl)) rfl
set_option maxRecDepth 100000 in
theorem wd1397 : Cond.fieldLink RX12 53 "WolfsHeadModel" "safe" "[I" ∈ lw_g := in_g (t6_in (List.mem_of_getElem? (i := 70) rfl)) rfl
set_option maxRecDepth 100000 in
theorem wd1398 : Cond.fieldLink RX12 56 "WolfsHeadModel" "headOf" "[I" ∈ lw_g := in_g (t6_in (List.mem_of_getElem? (i := 71) rfl)) rfl
set_option maxRecDepth 100000 in
theorem wd1461 : Cond.instanceMethod yX12_land ∈ lw_g := in_g (t6_in (List.mem_of_getElem? (i := 134) rfl)) rfl
set_option maxRecDepth 100000 in
theorem wd1462 : Cond.selects RX12 yX12_land yX12_land ∈ lw_g := in_g (t6_in (List.mem_of_getElem? (i := 135) rfl)) rfl
set_option maxRecDepth 100000 in
theorem wd1463 : Cond.code yX12_land cX12_land 2 (some .int) ∈ lw_g := in_g (t6_in (List.mem_of_getElem? (i := 136) rfl)) rfl
set_option maxRecDepth 100000 in
theorem wd1464 : Cond.methodLink RX12 63 yX12_isIn ∈ lw_g := in_g (t6_in (List.mem_of_getElem? (i := 137) rfl)) rfl
set_option maxRecDepth 100000 in
theorem wd1465 : Cond.static yX12_isIn ∈ lw_g := in_g (t6_in (List.mem_of_getElem? (i := 138) rfl)) rfl
set_option maxRecDepth 100000 in
theorem wd1466 : Cond.code yX12_isIn cX12_isIn 3 (some .boolean) ∈ lw_g := in_g (t6_in (List.mem_of_getElem? (i := 139) rfl)) rfl
set_option maxRecDepth 100000 in
theorem wd1468 : Cond.instanceMethod yX12_road ∈ lw_g := in_g (t6_in (List.mem_of_getElem? (i := 141) rfl)) rfl
set_option maxRecDepth 100000 in
theorem wd1469 : Cond.selects RX12 yX12_road yX12_road ∈ lw_g := in_g (t6_in (List.mem_of_getElem? (i := 142) rfl)) rfl
set_option maxRecDepth 100000 in
theorem wd1470 : Cond.code yX12_road cX12_road 3 (some .boolean) ∈ lw_g := in_g (t6_in (List.mem_of_getElem? (i := 143) rfl)) rfl
set_option maxRecDepth 100000 in
theorem wd1471 : Cond.methodLink RX12 75 yX12_isLand ∈ lw_g := in_g (t6_in (List.mem_of_getElem? (i := 144) rfl)) rfl
set_option maxRecDepth 100000 in
theorem wd1473 : Cond.instanceMethod yX12_isLand ∈ lw_g := in_g (t6_in (List.mem_of_getElem? (i := 146) rfl)) rfl
set_option maxRecDepth 100000 in
theorem wd1474 : Cond.code yX12_isLand cX12_isLand 2 (some .boolean) ∈ lw_g := in_g (t6_in (List.mem_of_getElem? (i := 147) rfl)) rfl
set_option maxRecDepth 100000 in
theorem wd1475 : Cond.methodLink RX12 78 yX12_isWith ∈ lw_g := in_g (t6_in (List.mem_of_getElem? (i := 148) rfl)) rfl
set_option maxRecDepth 100000 in
theorem wd1476 : Cond.static yX12_isWith ∈ lw_g := in_g (t6_in (List.mem_of_getElem? (i := 149) rfl)) rfl
set_option maxRecDepth 100000 in
theorem wd1477 : Cond.code yX12_isWith cX12_isWith 2 (some .boolean) ∈ lw_g := in_g (t6_in (List.mem_of_getElem? (i := 150) rfl)) rfl
set_option maxRecDepth 100000 in
theorem wd1479 : Cond.instanceMethod yX12_person ∈ lw_g := in_g (t6_in (List.mem_of_getElem? (i := 152) rfl)) rfl
set_option maxRecDepth 100000 in
theorem wd1480 : Cond.selects RX12 yX12_person yX12_person ∈ lw_g := in_g (t6_in (List.mem_of_getElem? (i := 153) rfl)) rfl
set_option maxRecDepth 100000 in
theorem wd1481 : Cond.code yX12_person cX12_person 6 (some .int) ∈ lw_g := in_g (t6_in (List.mem_of_getElem? (i := 154) rfl)) rfl
set_option maxRecDepth 100000 in
theorem wd1482 : Cond.methodLink RX12 82 yX12_put ∈ lw_g := in_g (t6_in (List.mem_of_getElem? (i := 155) rfl)) rfl
set_option maxRecDepth 100000 in
theorem wd1484 : Cond.instanceMethod yX12_put ∈ lw_g := in_g (t6_in (List.mem_of_getElem? (i := 157) rfl)) rfl
set_option maxRecDepth 100000 in
theorem wd1485 : Cond.code yX12_put cX12_put 4 none ∈ lw_g := in_g (t6_in (List.mem_of_getElem? (i := 158) rfl)) rfl
set_option maxRecDepth 100000 in
theorem wd1486 : Cond.methodLink RX12 86 yX12_begin ∈ lw_g := in_g (t6_in (List.mem_of_getElem? (i := 159) rfl)) rfl
set_option maxRecDepth 100000 in
theorem wd1488 : Cond.instanceMethod yX12_begin ∈ lw_g := in_g (t6_in (List.mem_of_getElem? (i := 161) rfl)) rfl
set_option maxRecDepth 100000 in
theorem wd1489 : Cond.code yX12_begin cX12_begin 3 none ∈ lw_g := in_g (t6_in (List.mem_of_getElem? (i := 162) rfl)) rfl
set_option maxRecDepth 100000 in
theorem wd1490 : Cond.methodLink RX12 71 yX12_get ∈ lw_g := in_g (t6_in (List.mem_of_getElem? (i := 163) rfl)) rfl
set_option maxRecDepth 100000 in
theorem wd1492 : Cond.instanceMethod yX12_get ∈ lw_g := in_g (t6_in (List.mem_of_getElem? (i := 165) rfl)) rfl
set_option maxRecDepth 100000 in
theorem wd1493 : Cond.code yX12_get cX12_get 3 (some .int) ∈ lw_g := in_g (t6_in (List.mem_of_getElem? (i := 166) rfl)) rfl
set_option maxRecDepth 100000 in
theorem wd1498 : Cond.methodLink RX12 93 yX12_four ∈ lw_g := in_g (t6_in (List.mem_of_getElem? (i := 171) rfl)) rfl
set_option maxRecDepth 100000 in
theorem wd1500 : Cond.instanceMethod yX12_four ∈ lw_g := in_g (t6_in (List.mem_of_getElem? (i := 173) rfl)) rfl
set_option maxRecDepth 100000 in
theorem wd1501 : Cond.code yX12_four cX12_four 3 none ∈ lw_g := in_g (t6_in (List.mem_of_getElem? (i := 174) rfl)) rfl
set_option maxRecDepth 100000 in
theorem wd1510 : Cond.methodLink RX12 257 yX12_readText ∈ lw_g := in_g (t6_in (List.mem_of_getElem? (i := 183) rfl)) rfl
set_option maxRecDepth 100000 in
theorem wd1512 : Cond.instanceMethod yX12_readText ∈ lw_g := in_g (t6_in (List.mem_of_getElem? (i := 185) rfl)) rfl
set_option maxRecDepth 100000 in
theorem wd1513 : Cond.code yX12_readText cX12_readText 2 (some .int) ∈ lw_g := in_g (t6_in (List.mem_of_getElem? (i := 186) rfl)) rfl
set_option maxRecDepth 100000 in
theorem wd1514 : Cond.methodLink RX12 177 yX12_nextToken ∈ lw_g := in_g (t6_in (List.mem_of_getElem? (i := 187) rfl)) rfl
set_option maxRecDepth 100000 in
theorem wd1516 : Cond.instanceMethod yX12_nextToken ∈ lw_g := in_g (t6_in (List.mem_of_getElem? (i := 189) rfl)) rfl
set_option maxRecDepth 100000 in
theorem wd1517 : Cond.code yX12_nextToken cX12_nextToken 2 none ∈ lw_g := in_g (t6_in (List.mem_of_getElem? (i := 190) rfl)) rfl
set_option maxRecDepth 100000 in
theorem wd1518 : Cond.methodLink RX12 99 yX12_byteAt ∈ lw_g := in_g (t6_in (List.mem_of_getElem? (i := 191) rfl)) rfl
set_option maxRecDepth 100000 in
theorem wd1520 : Cond.instanceMethod yX12_byteAt ∈ lw_g := in_g (t6_in (List.mem_of_getElem? (i := 193) rfl)) rfl
set_option maxRecDepth 100000 in
theorem wd1521 : Cond.code yX12_byteAt cX12_byteAt 2 (some .int) ∈ lw_g := in_g (t6_in (List.mem_of_getElem? (i := 194) rfl)) rfl
set_option maxRecDepth 100000 in
theorem wd1522 : Cond.methodLink RX12 109 yX12_isFigure ∈ lw_g := in_g (t6_in (List.mem_of_getElem? (i := 195) rfl)) rfl
set_option maxRecDepth 100000 in
theorem wd1523 : Cond.static yX12_isFigure ∈ lw_g := in_g (t6_in (List.mem_of_getElem? (i := 196) rfl)) rfl
set_option maxRecDepth 100000 in
theorem wd1524 : Cond.code yX12_isFigure cX12_isFigure 1 (some .boolean) ∈ lw_g := in_g (t6_in (List.mem_of_getElem? (i := 197) rfl)) rfl
set_option maxRecDepth 100000 in
theorem wd1526 : Cond.methodLink RX12 116 yX12_isLetterByte ∈ lw_g := in_g (t6_in (List.mem_of_getElem? (i := 199) rfl)) rfl
set_option maxRecDepth 100000 in
theorem wd1527 : Cond.static yX12_isLetterByte ∈ lw_g := in_g (t6_in (List.mem_of_getElem? (i := 200) rfl)) rfl
set_option maxRecDepth 100000 in
theorem wd1528 : Cond.code yX12_isLetterByte cX12_isLetterByte 1 (some .boolean) ∈ lw_g := in_g (t6_in (List.mem_of_getElem? (i := 201) rfl)) rfl
set_option maxRecDepth 100000 in
theorem wd1530 : Cond.methodLink RX12 125 yX12_isSign ∈ lw_g := in_g (t6_in (List.mem_of_getElem? (i := 203) rfl)) rfl
set_option maxRecDepth 100000 in
theorem wd1531 : Cond.static yX12_isSign ∈ lw_g := in_g (t6_in (List.mem_of_getElem? (i := 204) rfl)) rfl
set_option maxRecDepth 100000 in
theorem wd1532 : Cond.code yX12_isSign cX12_isSign 1 (some .boolean) ∈ lw_g := in_g (t6_in (List.mem_of_getElem? (i := 205) rfl)) rfl
set_option maxRecDepth 100000 in
theorem wd1533 : Cond.methodLink RX12 254 yX12_clause ∈ lw_g := in_g (t6_in (List.mem_of_getElem? (i := 206) rfl)) rfl
set_option maxRecDepth 100000 in
theorem wd1535 : Cond.instanceMethod yX12_clause ∈ lw_g := in_g (t6_in (List.mem_of_getElem? (i := 208) rfl)) rfl
set_option maxRecDepth 100000 in
theorem wd1536 : Cond.code yX12_clause cX12_clause 5 (some .int) ∈ lw_g := in_g (t6_in (List.mem_of_getElem? (i := 209) rfl)) rfl
set_option maxRecDepth 100000 in
theorem wd1537 : Cond.methodLink RX12 245 yX12_sortOf ∈ lw_g := in_g (t6_in (List.mem_of_getElem? (i := 210) rfl)) rfl
set_option maxRecDepth 100000 in
theorem wd1539 : Cond.instanceMethod yX12_sortOf ∈ lw_g := in_g (t6_in (List.mem_of_getElem? (i := 212) rfl)) rfl
set_option maxRecDepth 100000 in
theorem wd1540 : Cond.code yX12_sortOf cX12_sortOf 1 (some .int) ∈ lw_g := in_g (t6_in (List.mem_of_getElem? (i := 213) rfl)) rfl
set_option maxRecDepth 100000 in
theorem wd1541 : Cond.methodLink RX12 242 yX12_isHungers ∈ lw_g := in_g (t6_in (List.mem_of_getElem? (i := 214) rfl)) rfl
set_option maxRecDepth 100000 in
theorem wd1543 : Cond.instanceMethod yX12_isHungers ∈ lw_g := in_g (t6_in (List.mem_of_getElem? (i := 216) rfl)) rfl
set_option maxRecDepth 100000 in
theorem wd1544 : Cond.code yX12_isHungers cX12_isHungers 1 (some .boolean) ∈ lw_g := in_g (t6_in (List.mem_of_getElem? (i := 217) rfl)) rfl
set_option maxRecDepth 100000 in
theorem wd1545 : Cond.methodLink RX12 136 yX12_w4 ∈ lw_g := in_g (t6_in (List.mem_of_getElem? (i := 218) rfl)) rfl
set_option maxRecDepth 100000 in
theorem wd1546 : Cond.static yX12_w4 ∈ lw_g := in_g (t6_in (List.mem_of_getElem? (i := 219) rfl)) rfl
set_option maxRecDepth 100000 in
theorem wd1547 : Cond.code yX12_w4 cX12_w4 4 (some .long) ∈ lw_g := in_g (t6_in (List.mem_of_getElem? (i := 220) rfl)) rfl
set_option maxRecDepth 100000 in
theorem wd1548 : Cond.methodLink RX12 132 yX12_w3 ∈ lw_g := in_g (t6_in (List.mem_of_getElem? (i := 221) rfl)) rfl
set_option maxRecDepth 100000 in
theorem wd1549 : Cond.static yX12_w3 ∈ lw_g := in_g (t6_in (List.mem_of_getElem? (i := 222) rfl)) rfl
set_option maxRecDepth 100000 in
theorem wd1550 : Cond.code yX12_w3 cX12_w3 3 (some .long) ∈ lw_g := in_g (t6_in (List.mem_of_getElem? (i := 223) rfl)) rfl
set_option maxRecDepth 100000 in
theorem wd1551 : Cond.methodLink RX12 128 yX12_w2 ∈ lw_g := in_g (t6_in (List.mem_of_getElem? (i := 224) rfl)) rfl
set_option maxRecDepth 100000 in
theorem wd1552 : Cond.static yX12_w2 ∈ lw_g := in_g (t6_in (List.mem_of_getElem? (i := 225) rfl)) rfl
set_option maxRecDepth 100000 in
theorem wd1553 : Cond.code yX12_w2 cX12_w2 2 (some .long) ∈ lw_g := in_g (t6_in (List.mem_of_getElem? (i := 226) rfl)) rfl
set_option maxRecDepth 100000 in
theorem wd1554 : Cond.methodLink RX12 140 yX12_w5 ∈ lw_g := in_g (t6_in (List.mem_of_getElem? (i := 227) rfl)) rfl
set_option maxRecDepth 100000 in
theorem wd1555 : Cond.static yX12_w5 ∈ lw_g := in_g (t6_in (List.mem_of_getElem? (i := 228) rfl)) rfl
set_option maxRecDepth 100000 in
theorem wd1556 : Cond.code yX12_w5 cX12_w5 5 (some .long) ∈ lw_g := in_g (t6_in (List.mem_of_getElem? (i := 229) rfl)) rfl
set_option maxRecDepth 100000 in
theorem wd1557 : Cond.methodLink RX12 195 yX12_isWord ∈ lw_g := in_g (t6_in (List.mem_of_getElem? (i := 230) rfl)) rfl
set_option maxRecDepth 100000 in
theorem wd1559 : Cond.instanceMethod yX12_isWord ∈ lw_g := in_g (t6_in (List.mem_of_getElem? (i := 232) rfl)) rfl
set_option maxRecDepth 100000 in
theorem wd1560 : Cond.code yX12_isWord cX12_isWord 3 (some .boolean) ∈ lw_g := in_g (t6_in (List.mem_of_getElem? (i := 233) rfl)) rfl
set_option maxRecDepth 100000 in
theorem wd1561 : Cond.methodLink RX12 150 yX12_w6 ∈ lw_g := in_g (t6_in (List.mem_of_getElem? (i := 234) rfl)) rfl
set_option maxRecDepth 100000 in
theorem wd1562 : Cond.static yX12_w6 ∈ lw_g := in_g (t6_in (List.mem_of_getElem? (i := 235) rfl)) rfl
set_option maxRecDepth 100000 in
theorem wd1563 : Cond.code yX12_w6 cX12_w6 6 (some .long) ∈ lw_g := in_g (t6_in (List.mem_of_getElem? (i := 236) rfl)) rfl
set_option maxRecDepth 100000 in
theorem wd1564 : Cond.methodLink RX12 251 yX12_body ∈ lw_g := in_g (t6_in (List.mem_of_getElem? (i := 237) rfl)) rfl
set_option maxRecDepth 100000 in
theorem wd1566 : Cond.instanceMethod yX12_body ∈ lw_g := in_g (t6_in (List.mem_of_getElem? (i := 239) rfl)) rfl
set_option maxRecDepth 100000 in
theorem wd1567 : Cond.code yX12_body cX12_body 3 (some .int) ∈ lw_g := in_g (t7_in (List.mem_of_getElem? (i := 0) rfl)) rfl
set_option maxRecDepth 100000 in
theorem wd1568 : Cond.methodLink RX12 221 yX12_figure ∈ lw_g := in_g (t7_in (List.mem_of_getElem? (i := 1) rfl)) rfl
set_option maxRecDepth 100000 in
theorem wd1570 : Cond.instanceMethod yX12_figure ∈ lw_g := in_g (t7_in (List.mem_of_getElem? (i := 3) rfl)) rfl
set_option maxRecDepth 100000 in
theorem wd1571 : Cond.code yX12_figure cX12_figure 4 (some .int) ∈ lw_g := in_g (t7_in (List.mem_of_getElem? (i := 4) rfl)) rfl
set_option maxRecDepth 100000 in
theorem wd1572 : Cond.methodLink RX12 232 yX12_pair ∈ lw_g := in_g (t7_in (List.mem_of_getElem? (i := 5) rfl)) rfl
set_option maxRecDepth 100000 in
theorem wd1574 : Cond.instanceMethod yX12_pair ∈ lw_g := in_g (t7_in (List.mem_of_getElem? (i := 7) rfl)) rfl
set_option maxRecDepth 100000 in
theorem wd1575 : Cond.code yX12_pair cX12_pair 7 (some .int) ∈ lw_g := in_g (t7_in (List.mem_of_getElem? (i := 8) rfl)) rfl
set_option maxRecDepth 100000 in
theorem wd1576 : Cond.methodLink RX12 228 yX12_worded ∈ lw_g := in_g (t7_in (List.mem_of_getElem? (i := 9) rfl)) rfl
set_option maxRecDepth 100000 in
theorem wd1578 : Cond.instanceMethod yX12_worded ∈ lw_g := in_g (t7_in (List.mem_of_getElem? (i := 11) rfl)) rfl
set_option maxRecDepth 100000 in
theorem wd1579 : Cond.code yX12_worded cX12_worded 5 (some .int) ∈ lw_g := in_g (t7_in (List.mem_of_getElem? (i := 12) rfl)) rfl
set_option maxRecDepth 100000 in
theorem wd1580 : Cond.methodLink RX12 236 yX12_personClause ∈ lw_g := in_g (t7_in (List.mem_of_getElem? (i := 13) rfl)) rfl
set_option maxRecDepth 100000 in
theorem wd1582 : Cond.instanceMethod yX12_personClause ∈ lw_g := in_g (t7_in (List.mem_of_getElem? (i := 15) rfl)) rfl
set_option maxRecDepth 100000 in
theorem wd1583 : Cond.code yX12_personClause cX12_personClause 3 (some .int) ∈ lw_g := in_g (t7_in (List.mem_of_getElem? (i := 16) rfl)) rfl
set_option maxRecDepth 100000 in
theorem wd1584 : Cond.methodLink RX12 239 yX12_lawClause ∈ lw_g := in_g (t7_in (List.mem_of_getElem? (i := 17) rfl)) rfl
set_option maxRecDepth 100000 in
theorem wd1586 : Cond.instanceMethod yX12_lawClause ∈ lw_g := in_g (t7_in (List.mem_of_getElem? (i := 19) rfl)) rfl
set_option maxRecDepth 100000 in
theorem wd1587 : Cond.code yX12_lawClause cX12_lawClause 3 (some .int) ∈ lw_g := in_g (t7_in (List.mem_of_getElem? (i := 20) rfl)) rfl
set_option maxRecDepth 100000 in
theorem wd1588 : Cond.methodLink RX12 225 yX12_summed ∈ lw_g := in_g (t7_in (List.mem_of_getElem? (i := 21) rfl)) rfl
set_option maxRecDepth 100000 in
theorem wd1590 : Cond.instanceMethod yX12_summed ∈ lw_g := in_g (t7_in (List.mem_of_getElem? (i := 23) rfl)) rfl
set_option maxRecDepth 100000 in
theorem wd1591 : Cond.code yX12_summed cX12_summed 2 (some .int) ∈ lw_g := in_g (t7_in (List.mem_of_getElem? (i := 24) rfl)) rfl
set_option maxRecDepth 100000 in
theorem wd1592 : Cond.methodLink RX12 215 yX12_behindOne ∈ lw_g := in_g (t7_in (List.mem_of_getElem? (i := 25) rfl)) rfl
set_option maxRecDepth 100000 in
theorem wd1594 : Cond.instanceMethod yX12_behindOne ∈ lw_g := in_g (t7_in (List.mem_of_getElem? (i := 27) rfl)) rfl
set_option maxRecDepth 100000 in
theorem wd1595 : Cond.code yX12_behindOne cX12_behindOne 4 (some .boolean) ∈ lw_g := in_g (t7_in (List.mem_of_getElem? (i := 28) rfl)) rfl
set_option maxRecDepth 100000 in
theorem wd1596 : Cond.methodLink RX12 209 yX12_betweenOf ∈ lw_g := in_g (t7_in (List.mem_of_getElem? (i := 29) rfl)) rfl
set_option maxRecDepth 100000 in
theorem wd1598 : Cond.instanceMethod yX12_betweenOf ∈ lw_g := in_g (t7_in (List.mem_of_getElem? (i := 31) rfl)) rfl
set_option maxRecDepth 100000 in
theorem wd1599 : Cond.code yX12_betweenOf cX12_betweenOf 1 (some .int) ∈ lw_g := in_g (t7_in (List.mem_of_getElem? (i := 32) rfl)) rfl
set_option maxRecDepth 100000 in
theorem wd1600 : Cond.methodLink RX12 174 yX12_openNow ∈ lw_g := in_g (t7_in (List.mem_of_getElem? (i := 33) rfl)) rfl
set_option maxRecDepth 100000 in
theorem wd1602 : Cond.instanceMethod yX12_openNow ∈ lw_g := in_g (t7_in (List.mem_of_getElem? (i := 35) rfl)) rfl
set_option maxRecDepth 100000 in
theorem wd1603 : Cond.code yX12_openNow cX12_openNow 1 (some .int) ∈ lw_g := in_g (t7_in (List.mem_of_getElem? (i := 36) rfl)) rfl
set_option maxRecDepth 100000 in
theorem wd1604 : Cond.methodLink RX12 170 yX12_openAt ∈ lw_g := in_g (t7_in (List.mem_of_getElem? (i := 37) rfl)) rfl
set_option maxRecDepth 100000 in
theorem wd1606 : Cond.instanceMethod yX12_openAt ∈ lw_g := in_g (t7_in (List.mem_of_getElem? (i := 39) rfl)) rfl
set_option maxRecDepth 100000 in
theorem wd1607 : Cond.code yX12_openAt cX12_openAt 2 (some .int) ∈ lw_g := in_g (t7_in (List.mem_of_getElem? (i := 40) rfl)) rfl
set_option maxRecDepth 100000 in
theorem wd1608 : Cond.methodLink RX12 203 yX12_isCompared ∈ lw_g := in_g (t7_in (List.mem_of_getElem? (i := 41) rfl)) rfl
set_option maxRecDepth 100000 in
theorem wd1610 : Cond.instanceMethod yX12_isCompared ∈ lw_g := in_g (t7_in (List.mem_of_getElem? (i := 43) rfl)) rfl
set_option maxRecDepth 100000 in
theorem wd1611 : Cond.code yX12_isCompared cX12_isCompared 2 (some .boolean) ∈ lw_g := in_g (t7_in (List.mem_of_getElem? (i := 44) rfl)) rfl
set_option maxRecDepth 100000 in
theorem wd1612 : Cond.methodLink RX12 160 yX12_rank ∈ lw_g := in_g (t7_in (List.mem_of_getElem? (i := 45) rfl)) rfl
set_option maxRecDepth 100000 in
theorem wd1613 : Cond.static yX12_rank ∈ lw_g := in_g (t7_in (List.mem_of_getElem? (i := 46) rfl)) rfl
set_option maxRecDepth 100000 in
theorem wd1614 : Cond.code yX12_rank cX12_rank 1 (some .int) ∈ lw_g := in_g (t7_in (List.mem_of_getElem? (i := 47) rfl)) rfl
set_option maxRecDepth 100000 in
theorem wd1615 : Cond.methodLink RX12 206 yX12_compareOf ∈ lw_g := in_g (t7_in (List.mem_of_getElem? (i := 48) rfl)) rfl
set_option maxRecDepth 100000 in
theorem wd1617 : Cond.instanceMethod yX12_compareOf ∈ lw_g := in_g (t7_in (List.mem_of_getElem? (i := 50) rfl)) rfl
set_option maxRecDepth 100000 in
theorem wd1618 : Cond.code yX12_compareOf cX12_compareOf 1 (some .int) ∈ lw_g := in_g (t7_in (List.mem_of_getElem? (i := 51) rfl)) rfl
set_option maxRecDepth 100000 in
theorem wd1619 : Cond.methodLink RX12 189 yX12_settle ∈ lw_g := in_g (t7_in (List.mem_of_getElem? (i := 52) rfl)) rfl
set_option maxRecDepth 100000 in
theorem wd1621 : Cond.instanceMethod yX12_settle ∈ lw_g := in_g (t7_in (List.mem_of_getElem? (i := 54) rfl)) rfl
set_option maxRecDepth 100000 in
theorem wd1622 : Cond.code yX12_settle cX12_settle 2 none ∈ lw_g := in_g (t7_in (List.mem_of_getElem? (i := 55) rfl)) rfl
set_option maxRecDepth 100000 in
theorem wd1623 : Cond.methodLink RX12 163 yX12_emit ∈ lw_g := in_g (t7_in (List.mem_of_getElem? (i := 56) rfl)) rfl
set_option maxRecDepth 100000 in
theorem wd1625 : Cond.instanceMethod yX12_emit ∈ lw_g := in_g (t7_in (List.mem_of_getElem? (i := 58) rfl)) rfl
set_option maxRecDepth 100000 in
theorem wd1626 : Cond.code yX12_emit cX12_emit 3 none ∈ lw_g := in_g (t7_in (List.mem_of_getElem? (i := 59) rfl)) rfl
set_option maxRecDepth 100000 in
theorem wd1627 : Cond.methodLink RX12 212 yX12_partOf ∈ lw_g := in_g (t7_in (List.mem_of_getElem? (i := 60) rfl)) rfl
set_option maxRecDepth 100000 in
theorem wd1629 : Cond.instanceMethod yX12_partOf ∈ lw_g := in_g (t7_in (List.mem_of_getElem? (i := 62) rfl)) rfl
set_option maxRecDepth 100000 in
theorem wd1630 : Cond.code yX12_partOf cX12_partOf 2 (some .int) ∈ lw_g := in_g (t7_in (List.mem_of_getElem? (i := 63) rfl)) rfl
set_option maxRecDepth 100000 in
theorem wd1631 : Cond.methodLink RX12 218 yX12_beginOne ∈ lw_g := in_g (t7_in (List.mem_of_getElem? (i := 64) rfl)) rfl
set_option maxRecDepth 100000 in
theorem wd1633 : Cond.instanceMethod yX12_beginOne ∈ lw_g := in_g (t7_in (List.mem_of_getElem? (i := 66) rfl)) rfl
set_option maxRecDepth 100000 in
theorem wd1634 : Cond.code yX12_beginOne cX12_beginOne 2 (some .int) ∈ lw_g := in_g (t7_in (List.mem_of_getElem? (i := 67) rfl)) rfl
set_option maxRecDepth 100000 in
theorem wd1635 : Cond.methodLink RX12 180 yX12_nameOf ∈ lw_g := in_g (t7_in (List.mem_of_getElem? (i := 68) rfl)) rfl
set_option maxRecDepth 100000 in
theorem wd1637 : Cond.instanceMethod yX12_nameOf ∈ lw_g := in_g (t7_in (List.mem_of_getElem? (i := 70) rfl)) rfl
set_option maxRecDepth 100000 in
theorem wd1638 : Cond.code yX12_nameOf cX12_nameOf 1 (some .int) ∈ lw_g := in_g (t7_in (List.mem_of_getElem? (i := 71) rfl)) rfl
set_option maxRecDepth 100000 in
theorem wd1639 : Cond.methodLink RX12 183 yX12_isOf ∈ lw_g := in_g (t7_in (List.mem_of_getElem? (i := 72) rfl)) rfl
set_option maxRecDepth 100000 in
theorem wd1641 : Cond.instanceMethod yX12_isOf ∈ lw_g := in_g (t7_in (List.mem_of_getElem? (i := 74) rfl)) rfl
set_option maxRecDepth 100000 in
theorem wd1642 : Cond.code yX12_isOf cX12_isOf 2 (some .boolean) ∈ lw_g := in_g (t7_in (List.mem_of_getElem? (i := 75) rfl)) rfl
set_option maxRecDepth 100000 in
theorem wd1643 : Cond.methodLink RX12 192 yX12_opened ∈ lw_g := in_g (t7_in (List.mem_of_getElem? (i := 76) rfl)) rfl
set_option maxRecDepth 100000 in
theorem wd1645 : Cond.instanceMethod yX12_opened ∈ lw_g := in_g (t7_in (List.mem_of_getElem? (i := 78) rfl)) rfl
set_option maxRecDepth 100000 in
theorem wd1646 : Cond.code yX12_opened cX12_opened 2 (some .int) ∈ lw_g := in_g (t7_in (List.mem_of_getElem? (i := 79) rfl)) rfl
set_option maxRecDepth 100000 in
theorem wd1647 : Cond.methodLink RX12 199 yX12_isAskAhead ∈ lw_g := in_g (t7_in (List.mem_of_getElem? (i := 80) rfl)) rfl
set_option maxRecDepth 100000 in
theorem wd1649 : Cond.instanceMethod yX12_isAskAhead ∈ lw_g := in_g (t7_in (List.mem_of_getElem? (i := 82) rfl)) rfl
set_option maxRecDepth 100000 in
theorem wd1650 : Cond.code yX12_isAskAhead cX12_isAskAhead 1 (some .boolean) ∈ lw_g := in_g (t7_in (List.mem_of_getElem? (i := 83) rfl)) rfl
set_option maxRecDepth 100000 in
theorem wd1664 : Cond.instanceMethod yX12_call ∈ lw_g := in_g (t7_in (List.mem_of_getElem? (i := 97) rfl)) rfl
set_option maxRecDepth 100000 in
theorem wd1665 : Cond.selects RX12 yX12_call yX12_call ∈ lw_g := in_g (t7_in (List.mem_of_getElem? (i := 98) rfl)) rfl
set_option maxRecDepth 100000 in
theorem wd1666 : Cond.code yX12_call cX12_call 3 (some .int) ∈ lw_g := in_g (t7_in (List.mem_of_getElem? (i := 99) rfl)) rfl
set_option maxRecDepth 100000 in
theorem wd1667 : Cond.methodLink RX12 346 yX12_canCall ∈ lw_g := in_g (t7_in (List.mem_of_getElem? (i := 100) rfl)) rfl
set_option maxRecDepth 100000 in
theorem wd1669 : Cond.instanceMethod yX12_canCall ∈ lw_g := in_g (t7_in (List.mem_of_getElem? (i := 102) rfl)) rfl
set_option maxRecDepth 100000 in
theorem wd1670 : Cond.code yX12_canCall cX12_canCall 3 (some .boolean) ∈ lw_g := in_g (t7_in (List.mem_of_getElem? (i := 103) rfl)) rfl
set_option maxRecDepth 100000 in
theorem wd1671 : Cond.methodLink RX12 343 yX12_isAlive ∈ lw_g := in_g (t7_in (List.mem_of_getElem? (i := 104) rfl)) rfl
set_option maxRecDepth 100000 in
theorem wd1673 : Cond.instanceMethod yX12_isAlive ∈ lw_g := in_g (t7_in (List.mem_of_getElem? (i := 106) rfl)) rfl
set_option maxRecDepth 100000 in
theorem wd1674 : Cond.code yX12_isAlive cX12_isAlive 2 (some .boolean) ∈ lw_g := in_g (t7_in (List.mem_of_getElem? (i := 107) rfl)) rfl
set_option maxRecDepth 100000 in
theorem wd1675 : Cond.methodLink RX12 67 yX12_isPerson ∈ lw_g := in_g (t7_in (List.mem_of_getElem? (i := 108) rfl)) rfl
set_option maxRecDepth 100000 in
theorem wd1677 : Cond.instanceMethod yX12_isPerson ∈ lw_g := in_g (t7_in (List.mem_of_getElem? (i := 110) rfl)) rfl
set_option maxRecDepth 100000 in
theorem wd1678 : Cond.code yX12_isPerson cX12_isPerson 2 (some .boolean) ∈ lw_g := in_g (t7_in (List.mem_of_getElem? (i := 111) rfl)) rfl
set_option maxRecDepth 100000 in
theorem wd1679 : Cond.methodLink RX12 349 yX12_keep ∈ lw_g := in_g (t7_in (List.mem_of_getElem? (i := 112) rfl)) rfl
set_option maxRecDepth 100000 in
theorem wd1681 : Cond.instanceMethod yX12_keep ∈ lw_g := in_g (t7_in (List.mem_of_getElem? (i := 114) rfl)) rfl
set_option maxRecDepth 100000 in
theorem wd1682 : Cond.code yX12_keep cX12_keep 4 none ∈ lw_g := in_g (t7_in (List.mem_of_getElem? (i := 115) rfl)) rfl
set_option maxRecDepth 100000 in
theorem wd1683 : Cond.methodLink RX12 352 yX12_callNow ∈ lw_g := in_g (t7_in (List.mem_of_getElem? (i := 116) rfl)) rfl
set_option maxRecDepth 100000 in
theorem wd1685 : Cond.instanceMethod yX12_callNow ∈ lw_g := in_g (t7_in (List.mem_of_getElem? (i := 118) rfl)) rfl
set_option maxRecDepth 100000 in
theorem wd1686 : Cond.code yX12_callNow cX12_callNow 4 none ∈ lw_g := in_g (t7_in (List.mem_of_getElem? (i := 119) rfl)) rfl
set_option maxRecDepth 100000 in
theorem wd1687 : Cond.methodLink RX12 319 yX12_write ∈ lw_g := in_g (t7_in (List.mem_of_getElem? (i := 120) rfl)) rfl
set_option maxRecDepth 100000 in
theorem wd1689 : Cond.instanceMethod yX12_write ∈ lw_g := in_g (t7_in (List.mem_of_getElem? (i := 122) rfl)) rfl
set_option maxRecDepth 100000 in
theorem wd1690 : Cond.code yX12_write cX12_write 3 none ∈ lw_g := in_g (t7_in (List.mem_of_getElem? (i := 123) rfl)) rfl
set_option maxRecDepth 100000 in
theorem wd1692 : Cond.instanceMethod yX12_move ∈ lw_g := in_g (t7_in (List.mem_of_getElem? (i := 125) rfl)) rfl
set_option maxRecDepth 100000 in
theorem wd1693 : Cond.selects RX12 yX12_move yX12_move ∈ lw_g := in_g (t7_in (List.mem_of_getElem? (i := 126) rfl)) rfl
set_option maxRecDepth 100000 in
theorem wd1694 : Cond.code yX12_move cX12_move 3 (some .boolean) ∈ lw_g := in_g (t7_in (List.mem_of_getElem? (i := 127) rfl)) rfl
set_option maxRecDepth 100000 in
theorem wd1695 : Cond.methodLink RX12 355 yX12_canMove ∈ lw_g := in_g (t7_in (List.mem_of_getElem? (i := 128) rfl)) rfl
set_option maxRecDepth 100000 in
theorem wd1697 : Cond.instanceMethod yX12_canMove ∈ lw_g := in_g (t7_in (List.mem_of_getElem? (i := 130) rfl)) rfl
set_option maxRecDepth 100000 in
theorem wd1698 : Cond.code yX12_canMove cX12_canMove 3 (some .boolean) ∈ lw_g := in_g (t7_in (List.mem_of_getElem? (i := 131) rfl)) rfl
set_option maxRecDepth 100000 in
theorem wd1700 : Cond.instanceMethod yX12_feeds ∈ lw_g := in_g (t7_in (List.mem_of_getElem? (i := 133) rfl)) rfl
set_option maxRecDepth 100000 in
theorem wd1701 : Cond.selects RX12 yX12_feeds yX12_feeds ∈ lw_g := in_g (t7_in (List.mem_of_getElem? (i := 134) rfl)) rfl
set_option maxRecDepth 100000 in
theorem wd1702 : Cond.code yX12_feeds cX12_feeds 3 (some .int) ∈ lw_g := in_g (t7_in (List.mem_of_getElem? (i := 135) rfl)) rfl
set_option maxRecDepth 100000 in
theorem wd1703 : Cond.methodLink RX12 361 yX12_areBeside ∈ lw_g := in_g (t7_in (List.mem_of_getElem? (i := 136) rfl)) rfl
set_option maxRecDepth 100000 in
theorem wd1705 : Cond.instanceMethod yX12_areBeside ∈ lw_g := in_g (t7_in (List.mem_of_getElem? (i := 138) rfl)) rfl
set_option maxRecDepth 100000 in
theorem wd1706 : Cond.code yX12_areBeside cX12_areBeside 3 (some .boolean) ∈ lw_g := in_g (t7_in (List.mem_of_getElem? (i := 139) rfl)) rfl
set_option maxRecDepth 100000 in
theorem wd1707 : Cond.methodLink RX12 358 yX12_isOutlaw ∈ lw_g := in_g (t7_in (List.mem_of_getElem? (i := 140) rfl)) rfl
set_option maxRecDepth 100000 in
theorem wd1709 : Cond.instanceMethod yX12_isOutlaw ∈ lw_g := in_g (t7_in (List.mem_of_getElem? (i := 142) rfl)) rfl
set_option maxRecDepth 100000 in
theorem wd1710 : Cond.code yX12_isOutlaw cX12_isOutlaw 2 (some .boolean) ∈ lw_g := in_g (t7_in (List.mem_of_getElem? (i := 143) rfl)) rfl
set_option maxRecDepth 100000 in
theorem wd1711 : Cond.methodLink RX12 364 yX12_feedNow ∈ lw_g := in_g (t7_in (List.mem_of_getElem? (i := 144) rfl)) rfl
set_option maxRecDepth 100000 in
theorem wd1713 : Cond.instanceMethod yX12_feedNow ∈ lw_g := in_g (t7_in (List.mem_of_getElem? (i := 146) rfl)) rfl
set_option maxRecDepth 100000 in
theorem wd1714 : Cond.code yX12_feedNow cX12_feedNow 4 none ∈ lw_g := in_g (t7_in (List.mem_of_getElem? (i := 147) rfl)) rfl
set_option maxRecDepth 100000 in
theorem wd1715 : Cond.methodLink RX12 334 yX12_findsOf ∈ lw_g := in_g (t7_in (List.mem_of_getElem? (i := 148) rfl)) rfl
set_option maxRecDepth 100000 in
theorem wd1717 : Cond.instanceMethod yX12_findsOf ∈ lw_g := in_g (t7_in (List.mem_of_getElem? (i := 150) rfl)) rfl
set_option maxRecDepth 100000 in
theorem wd1718 : Cond.code yX12_findsOf cX12_findsOf 2 (some .int) ∈ lw_g := in_g (t7_in (List.mem_of_getElem? (i := 151) rfl)) rfl
set_option maxRecDepth 100000 in
theorem wd1719 : Cond.methodLink RX12 307 yX12_findsIn ∈ lw_g := in_g (t7_in (List.mem_of_getElem? (i := 152) rfl)) rfl
set_option maxRecDepth 100000 in
theorem wd1721 : Cond.instanceMethod yX12_findsIn ∈ lw_g := in_g (t7_in (List.mem_of_getElem? (i := 154) rfl)) rfl
set_option maxRecDepth 100000 in
theorem wd1722 : Cond.code yX12_findsIn cX12_findsIn 3 (some .int) ∈ lw_g := in_g (t7_in (List.mem_of_getElem? (i := 155) rfl)) rfl
set_option maxRecDepth 100000 in
theorem wd1723 : Cond.methodLink RX12 300 yX12_nameIn ∈ lw_g := in_g (t7_in (List.mem_of_getElem? (i := 156) rfl)) rfl
set_option maxRecDepth 100000 in
theorem wd1725 : Cond.instanceMethod yX12_nameIn ∈ lw_g := in_g (t7_in (List.mem_of_getElem? (i := 158) rfl)) rfl
set_option maxRecDepth 100000 in
theorem wd1726 : Cond.code yX12_nameIn cX12_nameIn 3 none ∈ lw_g := in_g (t7_in (List.mem_of_getElem? (i := 159) rfl)) rfl
set_option maxRecDepth 100000 in
theorem wd1727 : Cond.methodLink RX12 297 yX12_crowdOf ∈ lw_g := in_g (t7_in (List.mem_of_getElem? (i := 160) rfl)) rfl
set_option maxRecDepth 100000 in
theorem wd1729 : Cond.instanceMethod yX12_crowdOf ∈ lw_g := in_g (t7_in (List.mem_of_getElem? (i := 162) rfl)) rfl
set_option maxRecDepth 100000 in
theorem wd1730 : Cond.code yX12_crowdOf cX12_crowdOf 5 (some .int) ∈ lw_g := in_g (t7_in (List.mem_of_getElem? (i := 163) rfl)) rfl
set_option maxRecDepth 100000 in
theorem wd1731 : Cond.methodLink RX12 303 yX12_says ∈ lw_g := in_g (t7_in (List.mem_of_getElem? (i := 164) rfl)) rfl
set_option maxRecDepth 100000 in
theorem wd1733 : Cond.instanceMethod yX12_says ∈ lw_g := in_g (t7_in (List.mem_of_getElem? (i := 166) rfl)) rfl
set_option maxRecDepth 100000 in
theorem wd1734 : Cond.code yX12_says cX12_says 6 (some .int) ∈ lw_g := in_g (t7_in (List.mem_of_getElem? (i := 167) rfl)) rfl
set_option maxRecDepth 100000 in
theorem wd1735 : Cond.methodLink RX12 291 yX12_summedUp ∈ lw_g := in_g (t7_in (List.mem_of_getElem? (i := 168) rfl)) rfl
set_option maxRecDepth 100000 in
theorem wd1737 : Cond.instanceMethod yX12_summedUp ∈ lw_g := in_g (t7_in (List.mem_of_getElem? (i := 170) rfl)) rfl
set_option maxRecDepth 100000 in
theorem wd1738 : Cond.code yX12_summedUp cX12_summedUp 10 (some .long) ∈ lw_g := in_g (t7_in (List.mem_of_getElem? (i := 171) rfl)) rfl
set_option maxRecDepth 100000 in
theorem wd1739 : Cond.methodLink RX12 275 yX12_prefixed ∈ lw_g := in_g (t7_in (List.mem_of_getElem? (i := 172) rfl)) rfl
set_option maxRecDepth 100000 in
theorem wd1741 : Cond.instanceMethod yX12_prefixed ∈ lw_g := in_g (t7_in (List.mem_of_getElem? (i := 174) rfl)) rfl
set_option maxRecDepth 100000 in
theorem wd1742 : Cond.code yX12_prefixed cX12_prefixed 4 (some .long) ∈ lw_g := in_g (t7_in (List.mem_of_getElem? (i := 175) rfl)) rfl
set_option maxRecDepth 100000 in
theorem wd1743 : Cond.methodLink RX12 268 yX12_bits ∈ lw_g := in_g (t7_in (List.mem_of_getElem? (i := 176) rfl)) rfl
set_option maxRecDepth 100000 in
theorem wd1744 : Cond.static yX12_bits ∈ lw_g := in_g (t7_in (List.mem_of_getElem? (i := 177) rfl)) rfl
set_option maxRecDepth 100000 in
theorem wd1745 : Cond.code yX12_bits cX12_bits 5 (some .int) ∈ lw_g := in_g (t7_in (List.mem_of_getElem? (i := 178) rfl)) rfl
set_option maxRecDepth 100000 in
theorem wd1746 : Cond.methodLink RX12 272 yX12_fearOf ∈ lw_g := in_g (t7_in (List.mem_of_getElem? (i := 179) rfl)) rfl
set_option maxRecDepth 100000 in
theorem wd1748 : Cond.instanceMethod yX12_fearOf ∈ lw_g := in_g (t7_in (List.mem_of_getElem? (i := 181) rfl)) rfl
set_option maxRecDepth 100000 in
theorem wd1749 : Cond.code yX12_fearOf cX12_fearOf 3 (some .long) ∈ lw_g := in_g (t7_in (List.mem_of_getElem? (i := 182) rfl)) rfl
set_option maxRecDepth 100000 in
theorem wd1750 : Cond.methodLink RX12 279 yX12_two ∈ lw_g := in_g (t7_in (List.mem_of_getElem? (i := 183) rfl)) rfl
set_option maxRecDepth 100000 in
theorem wd1751 : Cond.static yX12_two ∈ lw_g := in_g (t7_in (List.mem_of_getElem? (i := 184) rfl)) rfl
set_option maxRecDepth 100000 in
theorem wd1752 : Cond.code yX12_two cX12_two 5 (some .long) ∈ lw_g := in_g (t7_in (List.mem_of_getElem? (i := 185) rfl)) rfl
set_option maxRecDepth 100000 in
theorem wd1753 : Cond.methodLink RX12 264 yX12_clip ∈ lw_g := in_g (t7_in (List.mem_of_getElem? (i := 186) rfl)) rfl
set_option maxRecDepth 100000 in
theorem wd1754 : Cond.static yX12_clip ∈ lw_g := in_g (t7_in (List.mem_of_getElem? (i := 187) rfl)) rfl
set_option maxRecDepth 100000 in
theorem wd1755 : Cond.code yX12_clip cX12_clip 2 (some .long) ∈ lw_g := in_g (t7_in (List.mem_of_getElem? (i := 188) rfl)) rfl
set_option maxRecDepth 100000 in
theorem wd1758 : Cond.methodLink RX12 283 yX12_isAsked ∈ lw_g := in_g (t7_in (List.mem_of_getElem? (i := 191) rfl)) rfl
set_option maxRecDepth 100000 in
theorem wd1759 : Cond.static yX12_isAsked ∈ lw_g := in_g (t7_in (List.mem_of_getElem? (i := 192) rfl)) rfl
set_option maxRecDepth 100000 in
theorem wd1760 : Cond.code yX12_isAsked cX12_isAsked 5 (some .boolean) ∈ lw_g := in_g (t7_in (List.mem_of_getElem? (i := 193) rfl)) rfl
set_option maxRecDepth 100000 in
theorem wd1761 : Cond.methodLink RX12 287 yX12_joined ∈ lw_g := in_g (t7_in (List.mem_of_getElem? (i := 194) rfl)) rfl
set_option maxRecDepth 100000 in
theorem wd1762 : Cond.static yX12_joined ∈ lw_g := in_g (t7_in (List.mem_of_getElem? (i := 195) rfl)) rfl
set_option maxRecDepth 100000 in
theorem wd1763 : Cond.code yX12_joined cX12_joined 3 (some .boolean) ∈ lw_g := in_g (t7_in (List.mem_of_getElem? (i := 196) rfl)) rfl
set_option maxRecDepth 100000 in
theorem wd1764 : Cond.methodLink RX12 294 yX12_cut ∈ lw_g := in_g (t7_in (List.mem_of_getElem? (i := 197) rfl)) rfl
set_option maxRecDepth 100000 in
theorem wd1765 : Cond.static yX12_cut ∈ lw_g := in_g (t7_in (List.mem_of_getElem? (i := 198) rfl)) rfl
set_option maxRecDepth 100000 in
theorem wd1766 : Cond.code yX12_cut cX12_cut 4 (some .int) ∈ lw_g := in_g (t7_in (List.mem_of_getElem? (i := 199) rfl)) rfl
set_option maxRecDepth 100000 in
theorem wd1767 : Cond.methodLink RX12 337 yX12_drawn ∈ lw_g := in_g (t7_in (List.mem_of_getElem? (i := 200) rfl)) rfl
set_option maxRecDepth 100000 in
theorem wd1769 : Cond.instanceMethod yX12_drawn ∈ lw_g := in_g (t7_in (List.mem_of_getElem? (i := 202) rfl)) rfl
set_option maxRecDepth 100000 in
theorem wd1770 : Cond.code yX12_drawn cX12_drawn 3 (some .int) ∈ lw_g := in_g (t7_in (List.mem_of_getElem? (i := 203) rfl)) rfl
set_option maxRecDepth 100000 in
theorem wd1771 : Cond.methodLink RX12 310 yX12_anew ∈ lw_g := in_g (t7_in (List.mem_of_getElem? (i := 204) rfl)) rfl
set_option maxRecDepth 100000 in
theorem wd1773 : Cond.instanceMethod yX12_anew ∈ lw_g := in_g (t7_in (List.mem_of_getElem? (i := 206) rfl)) rfl
set_option maxRecDepth 100000 in
theorem wd1774 : Cond.code yX12_anew cX12_anew 1 none ∈ lw_g := in_g (t7_in (List.mem_of_getElem? (i := 207) rfl)) rfl
set_option maxRecDepth 100000 in
theorem wd1779 : Cond.instanceMethod yX12_kill ∈ lw_g := in_g (t7_in (List.mem_of_getElem? (i := 212) rfl)) rfl
set_option maxRecDepth 100000 in
theorem wd1780 : Cond.selects RX12 yX12_kill yX12_kill ∈ lw_g := in_g (t7_in (List.mem_of_getElem? (i := 213) rfl)) rfl
set_option maxRecDepth 100000 in
theorem wd1781 : Cond.code yX12_kill cX12_kill 3 (some .boolean) ∈ lw_g := in_g (t7_in (List.mem_of_getElem? (i := 214) rfl)) rfl
set_option maxRecDepth 100000 in
theorem wd1782 : Cond.methodLink RX12 370 yX12_killNow ∈ lw_g := in_g (t7_in (List.mem_of_getElem? (i := 215) rfl)) rfl
set_option maxRecDepth 100000 in
theorem wd1784 : Cond.instanceMethod yX12_killNow ∈ lw_g := in_g (t7_in (List.mem_of_getElem? (i := 217) rfl)) rfl
set_option maxRecDepth 100000 in
theorem wd1785 : Cond.code yX12_killNow cX12_killNow 3 none ∈ lw_g := in_g (t7_in (List.mem_of_getElem? (i := 218) rfl)) rfl
set_option maxRecDepth 100000 in
theorem wd1786 : Cond.methodLink RX12 331 yX12_die ∈ lw_g := in_g (t7_in (List.mem_of_getElem? (i := 219) rfl)) rfl
set_option maxRecDepth 100000 in
theorem wd1788 : Cond.instanceMethod yX12_die ∈ lw_g := in_g (t7_in (List.mem_of_getElem? (i := 221) rfl)) rfl
set_option maxRecDepth 100000 in
theorem wd1789 : Cond.code yX12_die cX12_die 3 none ∈ lw_g := in_g (t7_in (List.mem_of_getElem? (i := 222) rfl)) rfl
set_option maxRecDepth 100000 in
theorem wd1790 : Cond.methodLink RX12 367 yX12_pardonNow ∈ lw_g := in_g (t7_in (List.mem_of_getElem? (i := 223) rfl)) rfl
set_option maxRecDepth 100000 in
theorem wd1792 : Cond.instanceMethod yX12_pardonNow ∈ lw_g := in_g (t7_in (List.mem_of_getElem? (i := 225) rfl)) rfl
set_option maxRecDepth 100000 in
theorem wd1793 : Cond.code yX12_pardonNow cX12_pardonNow 2 none ∈ lw_g := in_g (t7_in (List.mem_of_getElem? (i := 226) rfl)) rfl
set_option maxRecDepth 100000 in
theorem wd1795 : Cond.instanceMethod yX12_pardon ∈ lw_g := in_g (t7_in (List.mem_of_getElem? (i := 228) rfl)) rfl
set_option maxRecDepth 100000 in
theorem wd1796 : Cond.selects RX12 yX12_pardon yX12_pardon ∈ lw_g := in_g (t7_in (List.mem_of_getElem? (i := 229) rfl)) rfl
set_option maxRecDepth 100000 in
theorem wd1797 : Cond.code yX12_pardon cX12_pardon 3 (some .int) ∈ lw_g := in_g (t7_in (List.mem_of_getElem? (i := 230) rfl)) rfl
set_option maxRecDepth 100000 in
theorem wd1798 : Cond.methodLink RX12 376 yX12_canPardon ∈ lw_g := in_g (t7_in (List.mem_of_getElem? (i := 231) rfl)) rfl
set_option maxRecDepth 100000 in
theorem wd1800 : Cond.instanceMethod yX12_canPardon ∈ lw_g := in_g (t7_in (List.mem_of_getElem? (i := 233) rfl)) rfl
set_option maxRecDepth 100000 in
theorem wd1801 : Cond.code yX12_canPardon cX12_canPardon 3 (some .boolean) ∈ lw_g := in_g (t7_in (List.mem_of_getElem? (i := 234) rfl)) rfl
set_option maxRecDepth 100000 in
theorem wd1802 : Cond.methodLink RX12 373 yX12_priceOf ∈ lw_g := in_g (t7_in (List.mem_of_getElem? (i := 235) rfl)) rfl
set_option maxRecDepth 100000 in
theorem wd1804 : Cond.instanceMethod yX12_priceOf ∈ lw_g := in_g (t7_in (List.mem_of_getElem? (i := 237) rfl)) rfl
set_option maxRecDepth 100000 in
theorem wd1805 : Cond.code yX12_priceOf cX12_priceOf 3 (some .int) ∈ lw_g := in_g (t7_in (List.mem_of_getElem? (i := 238) rfl)) rfl
set_option maxRecDepth 100000 in
theorem wd1806 : Cond.methodLink RX12 379 yX12_payNow ∈ lw_g := in_g (t7_in (List.mem_of_getElem? (i := 239) rfl)) rfl
set_option maxRecDepth 100000 in
theorem wd1808 : Cond.instanceMethod yX12_payNow ∈ lw_g := in_g (t8_in (List.mem_of_getElem? (i := 1) rfl)) rfl
set_option maxRecDepth 100000 in
theorem wd1809 : Cond.code yX12_payNow cX12_payNow 4 (some .int) ∈ lw_g := in_g (t8_in (List.mem_of_getElem? (i := 2) rfl)) rfl
set_option maxRecDepth 100000 in
theorem wd1814 : Cond.methodLink RX12 385 yX12_arePassed ∈ lw_g := in_g (t8_in (List.mem_of_getElem? (i := 7) rfl)) rfl
set_option maxRecDepth 100000 in
theorem wd1816 : Cond.instanceMethod yX12_arePassed ∈ lw_g := in_g (t8_in (List.mem_of_getElem? (i := 9) rfl)) rfl
set_option maxRecDepth 100000 in
theorem wd1817 : Cond.code yX12_arePassed cX12_arePassed 3 (some .boolean) ∈ lw_g := in_g (t8_in (List.mem_of_getElem? (i := 10) rfl)) rfl
set_option maxRecDepth 100000 in
theorem wd1818 : Cond.methodLink RX12 382 yX12_goOn ∈ lw_g := in_g (t8_in (List.mem_of_getElem? (i := 11) rfl)) rfl
set_option maxRecDepth 100000 in
theorem wd1820 : Cond.instanceMethod yX12_goOn ∈ lw_g := in_g (t8_in (List.mem_of_getElem? (i := 13) rfl)) rfl
set_option maxRecDepth 100000 in
theorem wd1821 : Cond.code yX12_goOn cX12_goOn 2 none ∈ lw_g := in_g (t8_in (List.mem_of_getElem? (i := 14) rfl)) rfl
set_option maxRecDepth 100000 in
theorem wd1822 : Cond.methodLink RX12 340 yX12_live ∈ lw_g := in_g (t8_in (List.mem_of_getElem? (i := 15) rfl)) rfl
set_option maxRecDepth 100000 in
theorem wd1824 : Cond.instanceMethod yX12_live ∈ lw_g := in_g (t8_in (List.mem_of_getElem? (i := 17) rfl)) rfl
set_option maxRecDepth 100000 in
theorem wd1825 : Cond.code yX12_live cX12_live 3 none ∈ lw_g := in_g (t8_in (List.mem_of_getElem? (i := 18) rfl)) rfl
set_option maxRecDepth 100000 in
theorem wd1826 : Cond.methodLink RX12 325 yX12_earnsOf ∈ lw_g := in_g (t8_in (List.mem_of_getElem? (i := 19) rfl)) rfl
set_option maxRecDepth 100000 in
theorem wd1828 : Cond.instanceMethod yX12_earnsOf ∈ lw_g := in_g (t8_in (List.mem_of_getElem? (i := 21) rfl)) rfl
set_option maxRecDepth 100000 in
theorem wd1829 : Cond.code yX12_earnsOf cX12_earnsOf 2 (some .int) ∈ lw_g := in_g (t8_in (List.mem_of_getElem? (i := 22) rfl)) rfl
set_option maxRecDepth 100000 in
theorem wd1830 : Cond.methodLink RX12 328 yX12_hungersOf ∈ lw_g := in_g (t8_in (List.mem_of_getElem? (i := 23) rfl)) rfl
set_option maxRecDepth 100000 in
theorem wd1832 : Cond.instanceMethod yX12_hungersOf ∈ lw_g := in_g (t8_in (List.mem_of_getElem? (i := 25) rfl)) rfl
set_option maxRecDepth 100000 in
theorem wd1833 : Cond.code yX12_hungersOf cX12_hungersOf 2 (some .int) ∈ lw_g := in_g (t8_in (List.mem_of_getElem? (i := 26) rfl)) rfl
set_option maxRecDepth 100000 in
theorem wd1838 : Cond.methodLink RX12 412 yX12_isPlayed ∈ lw_g := in_g (t8_in (List.mem_of_getElem? (i := 31) rfl)) rfl
set_option maxRecDepth 100000 in
theorem wd1840 : Cond.instanceMethod yX12_isPlayed ∈ lw_g := in_g (t8_in (List.mem_of_getElem? (i := 33) rfl)) rfl
set_option maxRecDepth 100000 in
theorem wd1841 : Cond.code yX12_isPlayed cX12_isPlayed 4 (some .boolean) ∈ lw_g := in_g (t8_in (List.mem_of_getElem? (i := 34) rfl)) rfl
set_option maxRecDepth 100000 in
theorem wd1842 : Cond.methodLink RX12 388 yX12_land ∈ lw_g := in_g (t8_in (List.mem_of_getElem? (i := 35) rfl)) rfl
set_option maxRecDepth 100000 in
theorem wd1843 : Cond.methodLink RX12 391 yX12_road ∈ lw_g := in_g (t8_in (List.mem_of_getElem? (i := 36) rfl)) rfl
set_option maxRecDepth 100000 in
theorem wd1844 : Cond.methodLink RX12 394 yX12_person ∈ lw_g := in_g (t8_in (List.mem_of_getElem? (i := 37) rfl)) rfl
set_option maxRecDepth 100000 in
theorem wd1845 : Cond.methodLink RX12 397 yX12_call ∈ lw_g := in_g (t8_in (List.mem_of_getElem? (i := 38) rfl)) rfl
set_option maxRecDepth 100000 in
theorem wd1846 : Cond.methodLink RX12 400 yX12_move ∈ lw_g := in_g (t8_in (List.mem_of_getElem? (i := 39) rfl)) rfl
set_option maxRecDepth 100000 in
theorem wd1847 : Cond.methodLink RX12 403 yX12_feeds ∈ lw_g := in_g (t8_in (List.mem_of_getElem? (i := 40) rfl)) rfl
set_option maxRecDepth 100000 in
theorem wd1848 : Cond.methodLink RX12 406 yX12_kill ∈ lw_g := in_g (t8_in (List.mem_of_getElem? (i := 41) rfl)) rfl
set_option maxRecDepth 100000 in
theorem wd1849 : Cond.methodLink RX12 409 yX12_pardon ∈ lw_g := in_g (t8_in (List.mem_of_getElem? (i := 42) rfl)) rfl
set_option maxRecDepth 100000 in
theorem wd1854 : Cond.methodLink RX12 415 yX12_happens ∈ lw_g := in_g (t8_in (List.mem_of_getElem? (i := 47) rfl)) rfl
set_option maxRecDepth 100000 in
theorem wd1856 : Cond.instanceMethod yX12_happens ∈ lw_g := in_g (t8_in (List.mem_of_getElem? (i := 49) rfl)) rfl
set_option maxRecDepth 100000 in
theorem wd1857 : Cond.code yX12_happens cX12_happens 5 none ∈ lw_g := in_g (t8_in (List.mem_of_getElem? (i := 50) rfl)) rfl
set_option maxRecDepth 100000 in
theorem wd1866 : Cond.methodLink RX12 418 yX12_aliveIn ∈ lw_g := in_g (t8_in (List.mem_of_getElem? (i := 59) rfl)) rfl
set_option maxRecDepth 100000 in
theorem wd1868 : Cond.instanceMethod yX12_aliveIn ∈ lw_g := in_g (t8_in (List.mem_of_getElem? (i := 61) rfl)) rfl
set_option maxRecDepth 100000 in
theorem wd1869 : Cond.code yX12_aliveIn cX12_aliveIn 4 (some .int) ∈ lw_g := in_g (t8_in (List.mem_of_getElem? (i := 62) rfl)) rfl
set_option maxRecDepth 100000 in
theorem wd1878 : Cond.methodLink RX12 421 yX12_shown ∈ lw_g := in_g (t8_in (List.mem_of_getElem? (i := 71) rfl)) rfl
set_option maxRecDepth 100000 in
theorem wd1880 : Cond.instanceMethod yX12_shown ∈ lw_g := in_g (t8_in (List.mem_of_getElem? (i := 73) rfl)) rfl
set_option maxRecDepth 100000 in
theorem wd1881 : Cond.code yX12_shown cX12_shown 1 (some .int) ∈ lw_g := in_g (t8_in (List.mem_of_getElem? (i := 74) rfl)) rfl
set_option maxRecDepth 100000 in
theorem wd1882 : Cond.methodLink RX12 424 yX12_entry ∈ lw_g := in_g (t8_in (List.mem_of_getElem? (i := 75) rfl)) rfl
set_option maxRecDepth 100000 in
theorem wd1884 : Cond.instanceMethod yX12_entry ∈ lw_g := in_g (t8_in (List.mem_of_getElem? (i := 77) rfl)) rfl
set_option maxRecDepth 100000 in
theorem wd1885 : Cond.code yX12_entry cX12_entry 4 (some .int) ∈ lw_g := in_g (t8_in (List.mem_of_getElem? (i := 78) rfl)) rfl
set_option maxRecDepth 100000 in
theorem wd1895 : Cond.instanceMethod yX12_wolves ∈ lw_g := in_g (t8_in (List.mem_of_getElem? (i := 88) rfl)) rfl
set_option maxRecDepth 100000 in
theorem wd1896 : Cond.selects RX12 yX12_wolves yX12_wolves ∈ lw_g := in_g (t8_in (List.mem_of_getElem? (i := 89) rfl)) rfl
set_option maxRecDepth 100000 in
theorem wd1897 : Cond.code yX12_wolves cX12_wolves 3 (some .int) ∈ lw_g := in_g (t8_in (List.mem_of_getElem? (i := 90) rfl)) rfl
set_option maxRecDepth 100000 in
theorem wd1902 : Cond.methodLink RX12 427 yX12_wolves ∈ lw_g := in_g (t8_in (List.mem_of_getElem? (i := 95) rfl)) rfl
set_option maxRecDepth 100000 in
theorem wd1907 : Cond.methodLink RX12 430 yX12_setAside ∈ lw_g := in_g (t8_in (List.mem_of_getElem? (i := 100) rfl)) rfl
set_option maxRecDepth 100000 in
theorem wd1909 : Cond.instanceMethod yX12_setAside ∈ lw_g := in_g (t8_in (List.mem_of_getElem? (i := 102) rfl)) rfl
set_option maxRecDepth 100000 in
theorem wd1910 : Cond.code yX12_setAside cX12_setAside 2 none ∈ lw_g := in_g (t8_in (List.mem_of_getElem? (i := 103) rfl)) rfl
set_option maxRecDepth 100000 in
theorem wd1911 : Cond.methodLink RX12 433 yX12_putBack ∈ lw_g := in_g (t8_in (List.mem_of_getElem? (i := 104) rfl)) rfl
set_option maxRecDepth 100000 in
theorem wd1913 : Cond.instanceMethod yX12_putBack ∈ lw_g := in_g (t8_in (List.mem_of_getElem? (i := 106) rfl)) rfl
set_option maxRecDepth 100000 in
theorem wd1914 : Cond.code yX12_putBack cX12_putBack 2 none ∈ lw_g := in_g (t8_in (List.mem_of_getElem? (i := 107) rfl)) rfl
set_option maxRecDepth 100000 in
theorem wd1923 : Cond.methodLink RX12 442 yX12_layLikely ∈ lw_g := in_g (t8_in (List.mem_of_getElem? (i := 116) rfl)) rfl
set_option maxRecDepth 100000 in
theorem wd1925 : Cond.instanceMethod yX12_layLikely ∈ lw_g := in_g (t8_in (List.mem_of_getElem? (i := 118) rfl)) rfl
set_option maxRecDepth 100000 in
theorem wd1926 : Cond.code yX12_layLikely cX12_layLikely 6 none ∈ lw_g := in_g (t8_in (List.mem_of_getElem? (i := 119) rfl)) rfl
set_option maxRecDepth 100000 in
theorem wd1927 : Cond.methodLink RX12 439 yX12_nextFrom ∈ lw_g := in_g (t8_in (List.mem_of_getElem? (i := 120) rfl)) rfl
set_option maxRecDepth 100000 in
theorem wd1929 : Cond.instanceMethod yX12_nextFrom ∈ lw_g := in_g (t8_in (List.mem_of_getElem? (i := 122) rfl)) rfl
set_option maxRecDepth 100000 in
theorem wd1930 : Cond.code yX12_nextFrom cX12_nextFrom 5 (some .int) ∈ lw_g := in_g (t8_in (List.mem_of_getElem? (i := 123) rfl)) rfl
set_option maxRecDepth 100000 in
theorem wd1931 : Cond.methodLink RX12 436 yX12_reachOf ∈ lw_g := in_g (t8_in (List.mem_of_getElem? (i := 124) rfl)) rfl
set_option maxRecDepth 100000 in
theorem wd1933 : Cond.instanceMethod yX12_reachOf ∈ lw_g := in_g (t8_in (List.mem_of_getElem? (i := 126) rfl)) rfl
set_option maxRecDepth 100000 in
theorem wd1934 : Cond.code yX12_reachOf cX12_reachOf 2 (some .int) ∈ lw_g := in_g (t8_in (List.mem_of_getElem? (i := 127) rfl)) rfl
set_option maxRecDepth 100000 in
theorem wd1935 : Cond.methodLink RX12 445 yX12_common ∈ lw_g := in_g (t8_in (List.mem_of_getElem? (i := 128) rfl)) rfl
set_option maxRecDepth 100000 in
theorem wd1936 : Cond.static yX12_common ∈ lw_g := in_g (t8_in (List.mem_of_getElem? (i := 129) rfl)) rfl
set_option maxRecDepth 100000 in
theorem wd1937 : Cond.code yX12_common cX12_common 5 (some .int) ∈ lw_g := in_g (t8_in (List.mem_of_getElem? (i := 130) rfl)) rfl
set_option maxRecDepth 100000 in
theorem wd1938 : Cond.methodLink RX12 448 yX12_lowestFrom ∈ lw_g := in_g (t8_in (List.mem_of_getElem? (i := 131) rfl)) rfl
set_option maxRecDepth 100000 in
theorem wd1940 : Cond.instanceMethod yX12_lowestFrom ∈ lw_g := in_g (t8_in (List.mem_of_getElem? (i := 133) rfl)) rfl
set_option maxRecDepth 100000 in
theorem wd1941 : Cond.code yX12_lowestFrom cX12_lowestFrom 3 (some .int) ∈ lw_g := in_g (t8_in (List.mem_of_getElem? (i := 134) rfl)) rfl
set_option maxRecDepth 100000 in
theorem wd1946 : Cond.methodLink RX12 451 yX12_spread ∈ lw_g := in_g (t8_in (List.mem_of_getElem? (i := 139) rfl)) rfl
set_option maxRecDepth 100000 in
theorem wd1948 : Cond.instanceMethod yX12_spread ∈ lw_g := in_g (t8_in (List.mem_of_getElem? (i := 141) rfl)) rfl
set_option maxRecDepth 100000 in
theorem wd1949 : Cond.code yX12_spread cX12_spread 5 (some .int) ∈ lw_g := in_g (t8_in (List.mem_of_getElem? (i := 142) rfl)) rfl
set_option maxRecDepth 100000 in
theorem wd1970 : Cond.methodLink RX12 454 yX12_isJoined ∈ lw_g := in_g (t8_in (List.mem_of_getElem? (i := 163) rfl)) rfl
set_option maxRecDepth 100000 in
theorem wd1972 : Cond.instanceMethod yX12_isJoined ∈ lw_g := in_g (t8_in (List.mem_of_getElem? (i := 165) rfl)) rfl
set_option maxRecDepth 100000 in
theorem wd1973 : Cond.code yX12_isJoined cX12_isJoined 6 (some .boolean) ∈ lw_g := in_g (t8_in (List.mem_of_getElem? (i := 166) rfl)) rfl
set_option maxRecDepth 100000 in
theorem wd1982 : Cond.methodLink RX12 457 yX12_wasAt ∈ lw_g := in_g (t8_in (List.mem_of_getElem? (i := 175) rfl)) rfl
set_option maxRecDepth 100000 in
theorem wd1984 : Cond.instanceMethod yX12_wasAt ∈ lw_g := in_g (t8_in (List.mem_of_getElem? (i := 177) rfl)) rfl
set_option maxRecDepth 100000 in
theorem wd1985 : Cond.code yX12_wasAt cX12_wasAt 8 (some .int) ∈ lw_g := in_g (t8_in (List.mem_of_getElem? (i := 178) rfl)) rfl
set_option maxRecDepth 100000 in
theorem wd1998 : Cond.methodLink RX12 463 yX12_isExplained ∈ lw_g := in_g (t8_in (List.mem_of_getElem? (i := 191) rfl)) rfl
set_option maxRecDepth 100000 in
theorem wd2000 : Cond.instanceMethod yX12_isExplained ∈ lw_g := in_g (t8_in (List.mem_of_getElem? (i := 193) rfl)) rfl
set_option maxRecDepth 100000 in
theorem wd2001 : Cond.code yX12_isExplained cX12_isExplained 4 (some .boolean) ∈ lw_g := in_g (t8_in (List.mem_of_getElem? (i := 194) rfl)) rfl
set_option maxRecDepth 100000 in
theorem wd2002 : Cond.methodLink RX12 460 yX12_canBe ∈ lw_g := in_g (t8_in (List.mem_of_getElem? (i := 195) rfl)) rfl
set_option maxRecDepth 100000 in
theorem wd2004 : Cond.instanceMethod yX12_canBe ∈ lw_g := in_g (t8_in (List.mem_of_getElem? (i := 197) rfl)) rfl
set_option maxRecDepth 100000 in
theorem wd2005 : Cond.code yX12_canBe cX12_canBe 6 (some .boolean) ∈ lw_g := in_g (t8_in (List.mem_of_getElem? (i := 198) rfl)) rfl
set_option maxRecDepth 100000 in
theorem ctX12_115 : Cond.constant RX12 115 (99999 : Int32) ∈ lw_g := in_g (t6_in (List.mem_of_getElem? (i := 198) rfl)) rfl
set_option maxRecDepth 100000 in
theorem ctX12_123 : Cond.constantLong RX12 123 (1152921504606846976 : Int64) ∈ lw_g := in_g (t6_in (List.mem_of_getElem? (i := 202) rfl)) rfl
set_option maxRecDepth 100000 in
theorem ctX12_260 : Cond.constantLong RX12 260 (1000000 : Int64) ∈ lw_g := in_g (t7_in (List.mem_of_getElem? (i := 189) rfl)) rfl
set_option maxRecDepth 100000 in
theorem ctX12_262 : Cond.constantLong RX12 262 (-1000000 : Int64) ∈ lw_g := in_g (t7_in (List.mem_of_getElem? (i := 190) rfl)) rfl
set_option maxRecDepth 100000 in
theorem ctX12_313 : Cond.constantLong RX12 313 (379 : Int64) ∈ lw_g := in_g (t7_in (List.mem_of_getElem? (i := 208) rfl)) rfl
set_option maxRecDepth 100000 in
theorem ctX12_315 : Cond.constantLong RX12 315 (257 : Int64) ∈ lw_g := in_g (t7_in (List.mem_of_getElem? (i := 209) rfl)) rfl
set_option maxRecDepth 100000 in
theorem ctX12_317 : Cond.constantLong RX12 317 (30469 : Int64) ∈ lw_g := in_g (t7_in (List.mem_of_getElem? (i := 210) rfl)) rfl
set_option maxRecDepth 100000 in
theorem inX12 : ∀ w ∈ u_ws RX12 TX12 29, w ∈ lw_g := all_k [1399, 1401, 1403, 1405, 1407, 1409, 1411, 1413, 1415, 1417, 1419, 1421, 1423, 1425, 1427, 1429, 1431, 1433, 1435, 1437, 1439, 1441, 1443, 1445, 1447, 1449, 1451, 1453, 1455] (by decide +kernel) (by decide +kernel)
variable {p : Program} {l : Launch} {e : Env} {R : Room} {s : State} {m : MethodId} {args : Array Value} {below : List Frame} {meth : Method} {c : Code} {H : Heap} {locs : List Loc} {cells slots : Nat} {Q : State → Prop}
variable {cc bytes : ByteArray} {pc nL maxL index n : Nat} {ls : Array Slot} {rest st : List Value} {A : Nat → Prop} {H0 : Heap} {D : va_G} {tys : List (ClassId × FieldType)} {ws wc wr w1 : va_W} {rm : Room} {b : Addr}
theorem gfX12_7 (hx : p.tables.exec = Jvm.exec) (hb : c.code = cc) (hts : ∀ w ∈ lw_g, w.before args s = true) (hown : s.vm.findClass RX12 = some m.cls) (hK : va_K D vwCl tys s) (hP : va_P D vwCl ws H) (q0 : Nat) {fs : List Value} (he : ws[q0]? = some (b, .inr (12, fs))) {v : Value} (hv : fs[0]? = some v) (hdg : decode cc pc = .ok (.getfield 7, 3)) (kk : W p l e R s m args below meth c H locs cells slots Q (F0 m (pc + 3) ls (v :: rest))) : W p l e R s m args below meth c H locs cells slots Q (F0 m pc ls (.ref b :: rest)) :=
  va_get (D := D) (ci := 12) (C := RX12) (T := TX12) (N := 29) hx hb hts inX12 hown hK hP q0 he rfl 0 (by decide) (hts _ wd1370) (fun _ h => h) hv hdg kk
theorem gfX12_13 (hx : p.tables.exec = Jvm.exec) (hb : c.code = cc) (hts : ∀ w ∈ lw_g, w.before args s = true) (hown : s.vm.findClass RX12 = some m.cls) (hK : va_K D vwCl tys s) (hP : va_P D vwCl ws H) (q0 : Nat) {fs : List Value} (he : ws[q0]? = some (b, .inr (12, fs))) {v : Value} (hv : fs[1]? = some v) (hdg : decode cc pc = .ok (.getfield 13, 3)) (kk : W p l e R s m args below meth c H locs cells slots Q (F0 m (pc + 3) ls (v :: rest))) : W p l e R s m args below meth c H locs cells slots Q (F0 m pc ls (.ref b :: rest)) :=
  va_get (D := D) (ci := 12) (C := RX12) (T := TX12) (N := 29) hx hb hts inX12 hown hK hP q0 he rfl 1 (by decide) (hts _ wd1371) (fun _ h => h) hv hdg kk
theorem gfX12_16 (hx : p.tables.exec = Jvm.exec) (hb : c.code = cc) (hts : ∀ w ∈ lw_g, w.before args s = true) (hown : s.vm.findClass RX12 = some m.cls) (hK : va_K D vwCl tys s) (hP : va_P D vwCl ws H) (q0 : Nat) {fs : List Value} (he : ws[q0]? = some (b, .inr (12, fs))) {v : Value} (hv : fs[2]? = some v) (hdg : decode cc pc = .ok (.getfield 16, 3)) (kk : W p l e R s m args below meth c H locs cells slots Q (F0 m (pc + 3) ls (v :: rest))) : W p l e R s m args below meth c H locs cells slots Q (F0 m pc ls (.ref b :: rest)) :=
  va_get (D := D) (ci := 12) (C := RX12) (T := TX12) (N := 29) hx hb hts inX12 hown hK hP q0 he rfl 2 (by decide) (hts _ wd1372) (fun _ h => h) hv hdg kk
theorem gfX12_19 (hx : p.tables.exec = Jvm.exec) (hb : c.code = cc) (hts : ∀ w ∈ lw_g, w.before args s = true) (hown : s.vm.findClass RX12 = some m.cls) (hK : va_K D vwCl tys s) (hP : va_P D vwCl ws H) (q0 : Nat) {fs : List Value} (he : ws[q0]? = some (b, .inr (12, fs))) {v : Value} (hv : fs[3]? = some v) (hdg : decode cc pc = .ok (.getfield 19, 3)) (kk : W p l e R s m args below meth c H locs cells slots Q (F0 m (pc + 3) ls (v :: rest))) : W p l e R s m args below meth c H locs cells slots Q (F0 m pc ls (.ref b :: rest)) :=
  va_get (D := D) (ci := 12) (C := RX12) (T := TX12) (N := 29) hx hb hts inX12 hown hK hP q0 he rfl 3 (by decide) (hts _ wd1373) (fun _ h => h) hv hdg kk
theorem gfX12_22 (hx : p.tables.exec = Jvm.exec) (hb : c.code = cc) (hts : ∀ w ∈ lw_g, w.before args s = true) (hown : s.vm.findClass RX12 = some m.cls) (hK : va_K D vwCl tys s) (hP : va_P D vwCl ws H) (q0 : Nat) {fs : List Value} (he : ws[q0]? = some (b, .inr (12, fs))) {v : Value} (hv : fs[5]? = some v) (hdg : decode cc pc = .ok (.getfield 22, 3)) (kk : W p l e R s m args below meth c H locs cells slots Q (F0 m (pc + 3) ls (v :: rest))) : W p l e R s m args below meth c H locs cells slots Q (F0 m pc ls (.ref b :: rest)) :=
  va_get (D := D) (ci := 12) (C := RX12) (T := TX12) (N := 29) hx hb hts inX12 hown hK hP q0 he rfl 5 (by decide) (hts _ wd1375) (fun _ h => h) hv hdg kk
theorem gfX12_26 (hx : p.tables.exec = Jvm.exec) (hb : c.code = cc) (hts : ∀ w ∈ lw_g, w.before args s = true) (hown : s.vm.findClass RX12 = some m.cls) (hK : va_K D vwCl tys s) (hP : va_P D vwCl ws H) (q0 : Nat) {fs : List Value} (he : ws[q0]? = some (b, .inr (12, fs))) {v : Value} (hv : fs[6]? = some v) (hdg : decode cc pc = .ok (.getfield 26, 3)) (kk : W p l e R s m args below meth c H locs cells slots Q (F0 m (pc + 3) ls (v :: rest))) : W p l e R s m args below meth c H locs cells slots Q (F0 m pc ls (.ref b :: rest)) :=
  va_get (D := D) (ci := 12) (C := RX12) (T := TX12) (N := 29) hx hb hts inX12 hown hK hP q0 he rfl 6 (by decide) (hts _ wd1376) (fun _ h => h) hv hdg kk
theorem gfX12_29 (hx : p.tables.exec = Jvm.exec) (hb : c.code = cc) (hts : ∀ w ∈ lw_g, w.before args s = true) (hown : s.vm.findClass RX12 = some m.cls) (hK : va_K D vwCl tys s) (hP : va_P D vwCl ws H) (q0 : Nat) {fs : List Value} (he : ws[q0]? = some (b, .inr (12, fs))) {v : Value} (hv : fs[15]? = some v) (hdg : decode cc pc = .ok (.getfield 29, 3)) (kk : W p l e R s m args below meth c H locs cells slots Q (F0 m (pc + 3) ls (v :: rest))) : W p l e R s m args below meth c H locs cells slots Q (F0 m pc ls (.ref b :: rest)) :=
  va_get (D := D) (ci := 12) (C := RX12) (T := TX12) (N := 29) hx hb hts inX12 hown hK hP q0 he rfl 15 (by decide) (hts _ wd1385) (fun _ h => h) hv hdg kk
theorem gfX12_32 (hx : p.tables.exec = Jvm.exec) (hb : c.code = cc) (hts : ∀ w ∈ lw_g, w.before args s = true) (hown : s.vm.findClass RX12 = some m.cls) (hK : va_K D vwCl tys s) (hP : va_P D vwCl ws H) (q0 : Nat) {fs : List Value} (he : ws[q0]? = some (b, .inr (12, fs))) {v : Value} (hv : fs[20]? = some v) (hdg : decode cc pc = .ok (.getfield 32, 3)) (kk : W p l e R s m args below meth c H locs cells slots Q (F0 m (pc + 3) ls (v :: rest))) : W p l e R s m args below meth c H locs cells slots Q (F0 m pc ls (.ref b :: rest)) :=
  va_get (D := D) (ci := 12) (C := RX12) (T := TX12) (N := 29) hx hb hts inX12 hown hK hP q0 he rfl 20 (by decide) (hts _ wd1390) (fun _ h => h) hv hdg kk
theorem gfX12_35 (hx : p.tables.exec = Jvm.exec) (hb : c.code = cc) (hts : ∀ w ∈ lw_g, w.before args s = true) (hown : s.vm.findClass RX12 = some m.cls) (hK : va_K D vwCl tys s) (hP : va_P D vwCl ws H) (q0 : Nat) {fs : List Value} (he : ws[q0]? = some (b, .inr (12, fs))) {v : Value} (hv : fs[21]? = some v) (hdg : decode cc pc = .ok (.getfield 35, 3)) (kk : W p l e R s m args below meth c H locs cells slots Q (F0 m (pc + 3) ls (v :: rest))) : W p l e R s m args below meth c H locs cells slots Q (F0 m pc ls (.ref b :: rest)) :=
  va_get (D := D) (ci := 12) (C := RX12) (T := TX12) (N := 29) hx hb hts inX12 hown hK hP q0 he rfl 21 (by decide) (hts _ wd1391) (fun _ h => h) hv hdg kk
theorem gfX12_39 (hx : p.tables.exec = Jvm.exec) (hb : c.code = cc) (hts : ∀ w ∈ lw_g, w.before args s = true) (hown : s.vm.findClass RX12 = some m.cls) (hK : va_K D vwCl tys s) (hP : va_P D vwCl ws H) (q0 : Nat) {fs : List Value} (he : ws[q0]? = some (b, .inr (12, fs))) {v : Value} (hv : fs[22]? = some v) (hdg : decode cc pc = .ok (.getfield 39, 3)) (kk : W p l e R s m args below meth c H locs cells slots Q (F0 m (pc + 3) ls (v :: rest))) : W p l e R s m args below meth c H locs cells slots Q (F0 m pc ls (.ref b :: rest)) :=
  va_get (D := D) (ci := 12) (C := RX12) (T := TX12) (N := 29) hx hb hts inX12 hown hK hP q0 he rfl 22 (by decide) (hts _ wd1392) (fun _ h => h) hv hdg kk
theorem gfX12_43 (hx : p.tables.exec = Jvm.exec) (hb : c.code = cc) (hts : ∀ w ∈ lw_g, w.before args s = true) (hown : s.vm.findClass RX12 = some m.cls) (hK : va_K D vwCl tys s) (hP : va_P D vwCl ws H) (q0 : Nat) {fs : List Value} (he : ws[q0]? = some (b, .inr (12, fs))) {v : Value} (hv : fs[23]? = some v) (hdg : decode cc pc = .ok (.getfield 43, 3)) (kk : W p l e R s m args below meth c H locs cells slots Q (F0 m (pc + 3) ls (v :: rest))) : W p l e R s m args below meth c H locs cells slots Q (F0 m pc ls (.ref b :: rest)) :=
  va_get (D := D) (ci := 12) (C := RX12) (T := TX12) (N := 29) hx hb hts inX12 hown hK hP q0 he rfl 23 (by decide) (hts _ wd1393) (fun _ h => h) hv hdg kk
theorem gfX12_47 (hx : p.tables.exec = Jvm.exec) (hb : c.code = cc) (hts : ∀ w ∈ lw_g, w.before args s = true) (hown : s.vm.findClass RX12 = some m.cls) (hK : va_K D vwCl tys s) (hP : va_P D vwCl ws H) (q0 : Nat) {fs : List Value} (he : ws[q0]? = some (b, .inr (12, fs))) {v : Value} (hv : fs[25]? = some v) (hdg : decode cc pc = .ok (.getfield 47, 3)) (kk : W p l e R s m args below meth c H locs cells slots Q (F0 m (pc + 3) ls (v :: rest))) : W p l e R s m args below meth c H locs cells slots Q (F0 m pc ls (.ref b :: rest)) :=
  va_get (D := D) (ci := 12) (C := RX12) (T := TX12) (N := 29) hx hb hts inX12 hown hK hP q0 he rfl 25 (by decide) (hts _ wd1395) (fun _ h => h) hv hdg kk
theorem gfX12_50 (hx : p.tables.exec = Jvm.exec) (hb : c.code = cc) (hts : ∀ w ∈ lw_g, w.before args s = true) (hown : s.vm.findClass RX12 = some m.cls) (hK : va_K D vwCl tys s) (hP : va_P D vwCl ws H) (q0 : Nat) {fs : List Value} (he : ws[q0]? = some (b, .inr (12, fs))) {v : Value} (hv : fs[26]? = some v) (hdg : decode cc pc = .ok (.getfield 50, 3)) (kk : W p l e R s m args below meth c H locs cells slots Q (F0 m (pc + 3) ls (v :: rest))) : W p l e R s m args below meth c H locs cells slots Q (F0 m pc ls (.ref b :: rest)) :=
  va_get (D := D) (ci := 12) (C := RX12) (T := TX12) (N := 29) hx hb hts inX12 hown hK hP q0 he rfl 26 (by decide) (hts _ wd1396) (fun _ h => h) hv hdg kk
theorem gfX12_53 (hx : p.tables.exec = Jvm.exec) (hb : c.code = cc) (hts : ∀ w ∈ lw_g, w.before args s = true) (hown : s.vm.findClass RX12 = some m.cls) (hK : va_K D vwCl tys s) (hP : va_P D vwCl ws H) (q0 : Nat) {fs : List Value} (he : ws[q0]? = some (b, .inr (12, fs))) {v : Value} (hv : fs[27]? = some v) (hdg : decode cc pc = .ok (.getfield 53, 3)) (kk : W p l e R s m args below meth c H locs cells slots Q (F0 m (pc + 3) ls (v :: rest))) : W p l e R s m args below meth c H locs cells slots Q (F0 m pc ls (.ref b :: rest)) :=
  va_get (D := D) (ci := 12) (C := RX12) (T := TX12) (N := 29) hx hb hts inX12 hown hK hP q0 he rfl 27 (by decide) (hts _ wd1397) (fun _ h => h) hv hdg kk
theorem gfX12_56 (hx : p.tables.exec = Jvm.exec) (hb : c.code = cc) (hts : ∀ w ∈ lw_g, w.before args s = true) (hown : s.vm.findClass RX12 = some m.cls) (hK : va_K D vwCl tys s) (hP : va_P D vwCl ws H) (q0 : Nat) {fs : List Value} (he : ws[q0]? = some (b, .inr (12, fs))) {v : Value} (hv : fs[28]? = some v) (hdg : decode cc pc = .ok (.getfield 56, 3)) (kk : W p l e R s m args below meth c H locs cells slots Q (F0 m (pc + 3) ls (v :: rest))) : W p l e R s m args below meth c H locs cells slots Q (F0 m pc ls (.ref b :: rest)) :=
  va_get (D := D) (ci := 12) (C := RX12) (T := TX12) (N := 29) hx hb hts inX12 hown hK hP q0 he rfl 28 (by decide) (hts _ wd1398) (fun _ h => h) hv hdg kk
theorem gfX12_90 (hx : p.tables.exec = Jvm.exec) (hb : c.code = cc) (hts : ∀ w ∈ lw_g, w.before args s = true) (hown : s.vm.findClass RX12 = some m.cls) (hK : va_K D vwCl tys s) (hP : va_P D vwCl ws H) (q0 : Nat) {fs : List Value} (he : ws[q0]? = some (b, .inr (12, fs))) {v : Value} (hv : fs[4]? = some v) (hdg : decode cc pc = .ok (.getfield 90, 3)) (kk : W p l e R s m args below meth c H locs cells slots Q (F0 m (pc + 3) ls (v :: rest))) : W p l e R s m args below meth c H locs cells slots Q (F0 m pc ls (.ref b :: rest)) :=
  va_get (D := D) (ci := 12) (C := RX12) (T := TX12) (N := 29) hx hb hts inX12 hown hK hP q0 he rfl 4 (by decide) (hts _ wd1374) (fun _ h => h) hv hdg kk
theorem gfX12_96 (hx : p.tables.exec = Jvm.exec) (hb : c.code = cc) (hts : ∀ w ∈ lw_g, w.before args s = true) (hown : s.vm.findClass RX12 = some m.cls) (hK : va_K D vwCl tys s) (hP : va_P D vwCl ws H) (q0 : Nat) {fs : List Value} (he : ws[q0]? = some (b, .inr (12, fs))) {v : Value} (hv : fs[7]? = some v) (hdg : decode cc pc = .ok (.getfield 96, 3)) (kk : W p l e R s m args below meth c H locs cells slots Q (F0 m (pc + 3) ls (v :: rest))) : W p l e R s m args below meth c H locs cells slots Q (F0 m pc ls (.ref b :: rest)) :=
  va_get (D := D) (ci := 12) (C := RX12) (T := TX12) (N := 29) hx hb hts inX12 hown hK hP q0 he rfl 7 (by decide) (hts _ wd1377) (fun _ h => h) hv hdg kk
theorem gfX12_103 (hx : p.tables.exec = Jvm.exec) (hb : c.code = cc) (hts : ∀ w ∈ lw_g, w.before args s = true) (hown : s.vm.findClass RX12 = some m.cls) (hK : va_K D vwCl tys s) (hP : va_P D vwCl ws H) (q0 : Nat) {fs : List Value} (he : ws[q0]? = some (b, .inr (12, fs))) {v : Value} (hv : fs[8]? = some v) (hdg : decode cc pc = .ok (.getfield 103, 3)) (kk : W p l e R s m args below meth c H locs cells slots Q (F0 m (pc + 3) ls (v :: rest))) : W p l e R s m args below meth c H locs cells slots Q (F0 m pc ls (.ref b :: rest)) :=
  va_get (D := D) (ci := 12) (C := RX12) (T := TX12) (N := 29) hx hb hts inX12 hown hK hP q0 he rfl 8 (by decide) (hts _ wd1378) (fun _ h => h) hv hdg kk
theorem gfX12_106 (hx : p.tables.exec = Jvm.exec) (hb : c.code = cc) (hts : ∀ w ∈ lw_g, w.before args s = true) (hown : s.vm.findClass RX12 = some m.cls) (hK : va_K D vwCl tys s) (hP : va_P D vwCl ws H) (q0 : Nat) {fs : List Value} (he : ws[q0]? = some (b, .inr (12, fs))) {v : Value} (hv : fs[9]? = some v) (hdg : decode cc pc = .ok (.getfield 106, 3)) (kk : W p l e R s m args below meth c H locs cells slots Q (F0 m (pc + 3) ls (v :: rest))) : W p l e R s m args below meth c H locs cells slots Q (F0 m pc ls (.ref b :: rest)) :=
  va_get (D := D) (ci := 12) (C := RX12) (T := TX12) (N := 29) hx hb hts inX12 hown hK hP q0 he rfl 9 (by decide) (hts _ wd1379) (fun _ h => h) hv hdg kk
theorem gfX12_112 (hx : p.tables.exec = Jvm.exec) (hb : c.code = cc) (hts : ∀ w ∈ lw_g, w.before args s = true) (hown : s.vm.findClass RX12 = some m.cls) (hK : va_K D vwCl tys s) (hP : va_P D vwCl ws H) (q0 : Nat) {fs : List Value} (he : ws[q0]? = some (b, .inr (12, fs))) {v : Value} (hv : fs[10]? = some v) (hdg : decode cc pc = .ok (.getfield 112, 3)) (kk : W p l e R s m args below meth c H locs cells slots Q (F0 m (pc + 3) ls (v :: rest))) : W p l e R s m args below meth c H locs cells slots Q (F0 m pc ls (.ref b :: rest)) :=
  va_get (D := D) (ci := 12) (C := RX12) (T := TX12) (N := 29) hx hb hts inX12 hown hK hP q0 he rfl 10 (by decide) (hts _ wd1380) (fun _ h => h) hv hdg kk
theorem gfX12_119 (hx : p.tables.exec = Jvm.exec) (hb : c.code = cc) (hts : ∀ w ∈ lw_g, w.before args s = true) (hown : s.vm.findClass RX12 = some m.cls) (hK : va_K D vwCl tys s) (hP : va_P D vwCl ws H) (q0 : Nat) {fs : List Value} (he : ws[q0]? = some (b, .inr (12, fs))) {v : Value} (hv : fs[11]? = some v) (hdg : decode cc pc = .ok (.getfield 119, 3)) (kk : W p l e R s m args below meth c H locs cells slots Q (F0 m (pc + 3) ls (v :: rest))) : W p l e R s m args below meth c H locs cells slots Q (F0 m pc ls (.ref b :: rest)) :=
  va_get (D := D) (ci := 12) (C := RX12) (T := TX12) (N := 29) hx hb hts inX12 hown hK hP q0 he rfl 11 (by decide) (hts _ wd1381) (fun _ h => h) hv hdg kk
theorem gfX12_144 (hx : p.tables.exec = Jvm.exec) (hb : c.code = cc) (hts : ∀ w ∈ lw_g, w.before args s = true) (hown : s.vm.findClass RX12 = some m.cls) (hK : va_K D vwCl tys s) (hP : va_P D vwCl ws H) (q0 : Nat) {fs : List Value} (he : ws[q0]? = some (b, .inr (12, fs))) {v : Value} (hv : fs[12]? = some v) (hdg : decode cc pc = .ok (.getfield 144, 3)) (kk : W p l e R s m args below meth c H locs cells slots Q (F0 m (pc + 3) ls (v :: rest))) : W p l e R s m args below meth c H locs cells slots Q (F0 m pc ls (.ref b :: rest)) :=
  va_get (D := D) (ci := 12) (C := RX12) (T := TX12) (N := 29) hx hb hts inX12 hown hK hP q0 he rfl 12 (by decide) (hts _ wd1382) (fun _ h => h) hv hdg kk
theorem gfX12_147 (hx : p.tables.exec = Jvm.exec) (hb : c.code = cc) (hts : ∀ w ∈ lw_g, w.before args s = true) (hown : s.vm.findClass RX12 = some m.cls) (hK : va_K D vwCl tys s) (hP : va_P D vwCl ws H) (q0 : Nat) {fs : List Value} (he : ws[q0]? = some (b, .inr (12, fs))) {v : Value} (hv : fs[13]? = some v) (hdg : decode cc pc = .ok (.getfield 147, 3)) (kk : W p l e R s m args below meth c H locs cells slots Q (F0 m (pc + 3) ls (v :: rest))) : W p l e R s m args below meth c H locs cells slots Q (F0 m pc ls (.ref b :: rest)) :=
  va_get (D := D) (ci := 12) (C := RX12) (T := TX12) (N := 29) hx hb hts inX12 hown hK hP q0 he rfl 13 (by decide) (hts _ wd1383) (fun _ h => h) hv hdg kk
theorem gfX12_154 (hx : p.tables.exec = Jvm.exec) (hb : c.code = cc) (hts : ∀ w ∈ lw_g, w.before args s = true) (hown : s.vm.findClass RX12 = some m.cls) (hK : va_K D vwCl tys s) (hP : va_P D vwCl ws H) (q0 : Nat) {fs : List Value} (he : ws[q0]? = some (b, .inr (12, fs))) {v : Value} (hv : fs[14]? = some v) (hdg : decode cc pc = .ok (.getfield 154, 3)) (kk : W p l e R s m args below meth c H locs cells slots Q (F0 m (pc + 3) ls (v :: rest))) : W p l e R s m args below meth c H locs cells slots Q (F0 m pc ls (.ref b :: rest)) :=
  va_get (D := D) (ci := 12) (C := RX12) (T := TX12) (N := 29) hx hb hts inX12 hown hK hP q0 he rfl 14 (by decide) (hts _ wd1384) (fun _ h => h) hv hdg kk
theorem gfX12_157 (hx : p.tables.exec = Jvm.exec) (hb : c.code = cc) (hts : ∀ w ∈ lw_g, w.before args s = true) (hown : s.vm.findClass RX12 = some m.cls) (hK : va_K D vwCl tys s) (hP : va_P D vwCl ws H) (q0 : Nat) {fs : List Value} (he : ws[q0]? = some (b, .inr (12, fs))) {v : Value} (hv : fs[16]? = some v) (hdg : decode cc pc = .ok (.getfield 157, 3)) (kk : W p l e R s m args below meth c H locs cells slots Q (F0 m (pc + 3) ls (v :: rest))) : W p l e R s m args below meth c H locs cells slots Q (F0 m pc ls (.ref b :: rest)) :=
  va_get (D := D) (ci := 12) (C := RX12) (T := TX12) (N := 29) hx hb hts inX12 hown hK hP q0 he rfl 16 (by decide) (hts _ wd1386) (fun _ h => h) hv hdg kk
theorem gfX12_167 (hx : p.tables.exec = Jvm.exec) (hb : c.code = cc) (hts : ∀ w ∈ lw_g, w.before args s = true) (hown : s.vm.findClass RX12 = some m.cls) (hK : va_K D vwCl tys s) (hP : va_P D vwCl ws H) (q0 : Nat) {fs : List Value} (he : ws[q0]? = some (b, .inr (12, fs))) {v : Value} (hv : fs[17]? = some v) (hdg : decode cc pc = .ok (.getfield 167, 3)) (kk : W p l e R s m args below meth c H locs cells slots Q (F0 m (pc + 3) ls (v :: rest))) : W p l e R s m args below meth c H locs cells slots Q (F0 m pc ls (.ref b :: rest)) :=
  va_get (D := D) (ci := 12) (C := RX12) (T := TX12) (N := 29) hx hb hts inX12 hown hK hP q0 he rfl 17 (by decide) (hts _ wd1387) (fun _ h => h) hv hdg kk
theorem gfX12_186 (hx : p.tables.exec = Jvm.exec) (hb : c.code = cc) (hts : ∀ w ∈ lw_g, w.before args s = true) (hown : s.vm.findClass RX12 = some m.cls) (hK : va_K D vwCl tys s) (hP : va_P D vwCl ws H) (q0 : Nat) {fs : List Value} (he : ws[q0]? = some (b, .inr (12, fs))) {v : Value} (hv : fs[18]? = some v) (hdg : decode cc pc = .ok (.getfield 186, 3)) (kk : W p l e R s m args below meth c H locs cells slots Q (F0 m (pc + 3) ls (v :: rest))) : W p l e R s m args below meth c H locs cells slots Q (F0 m pc ls (.ref b :: rest)) :=
  va_get (D := D) (ci := 12) (C := RX12) (T := TX12) (N := 29) hx hb hts inX12 hown hK hP q0 he rfl 18 (by decide) (hts _ wd1388) (fun _ h => h) hv hdg kk
theorem gfX12_248 (hx : p.tables.exec = Jvm.exec) (hb : c.code = cc) (hts : ∀ w ∈ lw_g, w.before args s = true) (hown : s.vm.findClass RX12 = some m.cls) (hK : va_K D vwCl tys s) (hP : va_P D vwCl ws H) (q0 : Nat) {fs : List Value} (he : ws[q0]? = some (b, .inr (12, fs))) {v : Value} (hv : fs[19]? = some v) (hdg : decode cc pc = .ok (.getfield 248, 3)) (kk : W p l e R s m args below meth c H locs cells slots Q (F0 m (pc + 3) ls (v :: rest))) : W p l e R s m args below meth c H locs cells slots Q (F0 m pc ls (.ref b :: rest)) :=
  va_get (D := D) (ci := 12) (C := RX12) (T := TX12) (N := 29) hx hb hts inX12 hown hK hP q0 he rfl 19 (by decide) (hts _ wd1389) (fun _ h => h) hv hdg kk
theorem gfX12_322 (hx : p.tables.exec = Jvm.exec) (hb : c.code = cc) (hts : ∀ w ∈ lw_g, w.before args s = true) (hown : s.vm.findClass RX12 = some m.cls) (hK : va_K D vwCl tys s) (hP : va_P D vwCl ws H) (q0 : Nat) {fs : List Value} (he : ws[q0]? = some (b, .inr (12, fs))) {v : Value} (hv : fs[24]? = some v) (hdg : decode cc pc = .ok (.getfield 322, 3)) (kk : W p l e R s m args below meth c H locs cells slots Q (F0 m (pc + 3) ls (v :: rest))) : W p l e R s m args below meth c H locs cells slots Q (F0 m pc ls (.ref b :: rest)) :=
  va_get (D := D) (ci := 12) (C := RX12) (T := TX12) (N := 29) hx hb hts inX12 hown hK hP q0 he rfl 24 (by decide) (hts _ wd1394) (fun _ h => h) hv hdg kk
theorem pfX12_22 (hx : p.tables.exec = Jvm.exec) (hb : c.code = cc) (hts : ∀ w ∈ lw_g, w.before args s = true) (hown : s.vm.findClass RX12 = some m.cls) (hK : va_K D vwCl tys s) (hP : va_P D vwCl ws H) (hD : va_D A ws) (hS : va_S A H0 H locs) (q0 : Nat) {fs : List Value} {x : Int32} (he : ws[q0]? = some (b, .inr (12, fs))) (hl : 5 < fs.length) (hdg : decode cc pc = .ok (.putfield 22, 3)) (kk : ∀ (H1 : Heap) (locs1 : List Loc), va_P D vwCl (ws.set q0 (b, .inr (12, fs.set 5 (.int x)))) H1 → va_D A (ws.set q0 (b, .inr (12, fs.set 5 (.int x)))) → va_S A H0 H1 locs1 → W p l e R s m args below meth c H1 locs1 cells slots Q (F0 m (pc + 3) ls rest)) : W p l e R s m args below meth c H locs cells slots Q (F0 m pc ls (.int x :: .ref b :: rest)) :=
  va_put (D := D) (ci := 12) (ty := (.int)) (C := RX12) (T := TX12) (N := 29) hx hb hts inX12 tyX12 tyX12_ok nmX12 hown hK hP hD hS q0 he rfl 5 (by decide) (hts _ wd1375) (fun _ h => h) rfl (by decide +kernel) rfl rfl hl hdg kk
theorem pfX12_26 (hx : p.tables.exec = Jvm.exec) (hb : c.code = cc) (hts : ∀ w ∈ lw_g, w.before args s = true) (hown : s.vm.findClass RX12 = some m.cls) (hK : va_K D vwCl tys s) (hP : va_P D vwCl ws H) (hD : va_D A ws) (hS : va_S A H0 H locs) (q0 : Nat) {fs : List Value} {x : Int32} (he : ws[q0]? = some (b, .inr (12, fs))) (hl : 6 < fs.length) (hdg : decode cc pc = .ok (.putfield 26, 3)) (kk : ∀ (H1 : Heap) (locs1 : List Loc), va_P D vwCl (ws.set q0 (b, .inr (12, fs.set 6 (.int x)))) H1 → va_D A (ws.set q0 (b, .inr (12, fs.set 6 (.int x)))) → va_S A H0 H1 locs1 → W p l e R s m args below meth c H1 locs1 cells slots Q (F0 m (pc + 3) ls rest)) : W p l e R s m args below meth c H locs cells slots Q (F0 m pc ls (.int x :: .ref b :: rest)) :=
  va_put (D := D) (ci := 12) (ty := (.int)) (C := RX12) (T := TX12) (N := 29) hx hb hts inX12 tyX12 tyX12_ok nmX12 hown hK hP hD hS q0 he rfl 6 (by decide) (hts _ wd1376) (fun _ h => h) rfl (by decide +kernel) rfl rfl hl hdg kk
theorem pfX12_43 (hx : p.tables.exec = Jvm.exec) (hb : c.code = cc) (hts : ∀ w ∈ lw_g, w.before args s = true) (hown : s.vm.findClass RX12 = some m.cls) (hK : va_K D vwCl tys s) (hP : va_P D vwCl ws H) (hD : va_D A ws) (hS : va_S A H0 H locs) (q0 : Nat) {fs : List Value} {x : Int32} (he : ws[q0]? = some (b, .inr (12, fs))) (hB : mB x) (hB2 : fits .boolean (.int x) = true) (hl : 23 < fs.length) (hdg : decode cc pc = .ok (.putfield 43, 3)) (kk : ∀ (H1 : Heap) (locs1 : List Loc), va_P D vwCl (ws.set q0 (b, .inr (12, fs.set 23 (.int x)))) H1 → va_D A (ws.set q0 (b, .inr (12, fs.set 23 (.int x)))) → va_S A H0 H1 locs1 → W p l e R s m args below meth c H1 locs1 cells slots Q (F0 m (pc + 3) ls rest)) : W p l e R s m args below meth c H locs cells slots Q (F0 m pc ls (.int x :: .ref b :: rest)) :=
  va_put (D := D) (ci := 12) (ty := (.boolean)) (C := RX12) (T := TX12) (N := 29) hx hb hts inX12 tyX12 tyX12_ok nmX12 hown hK hP hD hS q0 he rfl 23 (by decide) (hts _ wd1393) (fun _ h => h) rfl (by decide +kernel) hB hB2 hl hdg kk
theorem pfX12_90 (hx : p.tables.exec = Jvm.exec) (hb : c.code = cc) (hts : ∀ w ∈ lw_g, w.before args s = true) (hown : s.vm.findClass RX12 = some m.cls) (hK : va_K D vwCl tys s) (hP : va_P D vwCl ws H) (hD : va_D A ws) (hS : va_S A H0 H locs) (q0 : Nat) {fs : List Value} {x : Int32} (he : ws[q0]? = some (b, .inr (12, fs))) (hl : 4 < fs.length) (hdg : decode cc pc = .ok (.putfield 90, 3)) (kk : ∀ (H1 : Heap) (locs1 : List Loc), va_P D vwCl (ws.set q0 (b, .inr (12, fs.set 4 (.int x)))) H1 → va_D A (ws.set q0 (b, .inr (12, fs.set 4 (.int x)))) → va_S A H0 H1 locs1 → W p l e R s m args below meth c H1 locs1 cells slots Q (F0 m (pc + 3) ls rest)) : W p l e R s m args below meth c H locs cells slots Q (F0 m pc ls (.int x :: .ref b :: rest)) :=
  va_put (D := D) (ci := 12) (ty := (.int)) (C := RX12) (T := TX12) (N := 29) hx hb hts inX12 tyX12 tyX12_ok nmX12 hown hK hP hD hS q0 he rfl 4 (by decide) (hts _ wd1374) (fun _ h => h) rfl (by decide +kernel) rfl rfl hl hdg kk
theorem pfX12_96 (hx : p.tables.exec = Jvm.exec) (hb : c.code = cc) (hts : ∀ w ∈ lw_g, w.before args s = true) (hown : s.vm.findClass RX12 = some m.cls) (hK : va_K D vwCl tys s) (hP : va_P D vwCl ws H) (hD : va_D A ws) (hS : va_S A H0 H locs) (q0 : Nat) {fs : List Value} {x : Int32} (he : ws[q0]? = some (b, .inr (12, fs))) (hl : 7 < fs.length) (hdg : decode cc pc = .ok (.putfield 96, 3)) (kk : ∀ (H1 : Heap) (locs1 : List Loc), va_P D vwCl (ws.set q0 (b, .inr (12, fs.set 7 (.int x)))) H1 → va_D A (ws.set q0 (b, .inr (12, fs.set 7 (.int x)))) → va_S A H0 H1 locs1 → W p l e R s m args below meth c H1 locs1 cells slots Q (F0 m (pc + 3) ls rest)) : W p l e R s m args below meth c H locs cells slots Q (F0 m pc ls (.int x :: .ref b :: rest)) :=
  va_put (D := D) (ci := 12) (ty := (.int)) (C := RX12) (T := TX12) (N := 29) hx hb hts inX12 tyX12 tyX12_ok nmX12 hown hK hP hD hS q0 he rfl 7 (by decide) (hts _ wd1377) (fun _ h => h) rfl (by decide +kernel) rfl rfl hl hdg kk
theorem pfX12_103 (hx : p.tables.exec = Jvm.exec) (hb : c.code = cc) (hts : ∀ w ∈ lw_g, w.before args s = true) (hown : s.vm.findClass RX12 = some m.cls) (hK : va_K D vwCl tys s) (hP : va_P D vwCl ws H) (hD : va_D A ws) (hS : va_S A H0 H locs) (q0 : Nat) {fs : List Value} {x : Int32} (he : ws[q0]? = some (b, .inr (12, fs))) (hl : 8 < fs.length) (hdg : decode cc pc = .ok (.putfield 103, 3)) (kk : ∀ (H1 : Heap) (locs1 : List Loc), va_P D vwCl (ws.set q0 (b, .inr (12, fs.set 8 (.int x)))) H1 → va_D A (ws.set q0 (b, .inr (12, fs.set 8 (.int x)))) → va_S A H0 H1 locs1 → W p l e R s m args below meth c H1 locs1 cells slots Q (F0 m (pc + 3) ls rest)) : W p l e R s m args below meth c H locs cells slots Q (F0 m pc ls (.int x :: .ref b :: rest)) :=
  va_put (D := D) (ci := 12) (ty := (.int)) (C := RX12) (T := TX12) (N := 29) hx hb hts inX12 tyX12 tyX12_ok nmX12 hown hK hP hD hS q0 he rfl 8 (by decide) (hts _ wd1378) (fun _ h => h) rfl (by decide +kernel) rfl rfl hl hdg kk
theorem pfX12_106 (hx : p.tables.exec = Jvm.exec) (hb : c.code = cc) (hts : ∀ w ∈ lw_g, w.before args s = true) (hown : s.vm.findClass RX12 = some m.cls) (hK : va_K D vwCl tys s) (hP : va_P D vwCl ws H) (hD : va_D A ws) (hS : va_S A H0 H locs) (q0 : Nat) {fs : List Value} {x : Int32} (he : ws[q0]? = some (b, .inr (12, fs))) (hl : 9 < fs.length) (hdg : decode cc pc = .ok (.putfield 106, 3)) (kk : ∀ (H1 : Heap) (locs1 : List Loc), va_P D vwCl (ws.set q0 (b, .inr (12, fs.set 9 (.int x)))) H1 → va_D A (ws.set q0 (b, .inr (12, fs.set 9 (.int x)))) → va_S A H0 H1 locs1 → W p l e R s m args below meth c H1 locs1 cells slots Q (F0 m (pc + 3) ls rest)) : W p l e R s m args below meth c H locs cells slots Q (F0 m pc ls (.int x :: .ref b :: rest)) :=
  va_put (D := D) (ci := 12) (ty := (.int)) (C := RX12) (T := TX12) (N := 29) hx hb hts inX12 tyX12 tyX12_ok nmX12 hown hK hP hD hS q0 he rfl 9 (by decide) (hts _ wd1379) (fun _ h => h) rfl (by decide +kernel) rfl rfl hl hdg kk
theorem pfX12_112 (hx : p.tables.exec = Jvm.exec) (hb : c.code = cc) (hts : ∀ w ∈ lw_g, w.before args s = true) (hown : s.vm.findClass RX12 = some m.cls) (hK : va_K D vwCl tys s) (hP : va_P D vwCl ws H) (hD : va_D A ws) (hS : va_S A H0 H locs) (q0 : Nat) {fs : List Value} {x : Int32} (he : ws[q0]? = some (b, .inr (12, fs))) (hl : 10 < fs.length) (hdg : decode cc pc = .ok (.putfield 112, 3)) (kk : ∀ (H1 : Heap) (locs1 : List Loc), va_P D vwCl (ws.set q0 (b, .inr (12, fs.set 10 (.int x)))) H1 → va_D A (ws.set q0 (b, .inr (12, fs.set 10 (.int x)))) → va_S A H0 H1 locs1 → W p l e R s m args below meth c H1 locs1 cells slots Q (F0 m (pc + 3) ls rest)) : W p l e R s m args below meth c H locs cells slots Q (F0 m pc ls (.int x :: .ref b :: rest)) :=
  va_put (D := D) (ci := 12) (ty := (.int)) (C := RX12) (T := TX12) (N := 29) hx hb hts inX12 tyX12 tyX12_ok nmX12 hown hK hP hD hS q0 he rfl 10 (by decide) (hts _ wd1380) (fun _ h => h) rfl (by decide +kernel) rfl rfl hl hdg kk
theorem pfX12_119 (hx : p.tables.exec = Jvm.exec) (hb : c.code = cc) (hts : ∀ w ∈ lw_g, w.before args s = true) (hown : s.vm.findClass RX12 = some m.cls) (hK : va_K D vwCl tys s) (hP : va_P D vwCl ws H) (hD : va_D A ws) (hS : va_S A H0 H locs) (q0 : Nat) {fs : List Value} {x : Int64} (he : ws[q0]? = some (b, .inr (12, fs))) (hl : 11 < fs.length) (hdg : decode cc pc = .ok (.putfield 119, 3)) (kk : ∀ (H1 : Heap) (locs1 : List Loc), va_P D vwCl (ws.set q0 (b, .inr (12, fs.set 11 (.long x)))) H1 → va_D A (ws.set q0 (b, .inr (12, fs.set 11 (.long x)))) → va_S A H0 H1 locs1 → W p l e R s m args below meth c H1 locs1 cells slots Q (F0 m (pc + 3) ls rest)) : W p l e R s m args below meth c H locs cells slots Q (F0 m pc ls (.long x :: .ref b :: rest)) :=
  va_put (D := D) (ci := 12) (ty := (.long)) (C := RX12) (T := TX12) (N := 29) hx hb hts inX12 tyX12 tyX12_ok nmX12 hown hK hP hD hS q0 he rfl 11 (by decide) (hts _ wd1381) (fun _ h => h) rfl (by decide +kernel) rfl rfl hl hdg kk
theorem pfX12_144 (hx : p.tables.exec = Jvm.exec) (hb : c.code = cc) (hts : ∀ w ∈ lw_g, w.before args s = true) (hown : s.vm.findClass RX12 = some m.cls) (hK : va_K D vwCl tys s) (hP : va_P D vwCl ws H) (hD : va_D A ws) (hS : va_S A H0 H locs) (q0 : Nat) {fs : List Value} {x : Int32} (he : ws[q0]? = some (b, .inr (12, fs))) (hl : 12 < fs.length) (hdg : decode cc pc = .ok (.putfield 144, 3)) (kk : ∀ (H1 : Heap) (locs1 : List Loc), va_P D vwCl (ws.set q0 (b, .inr (12, fs.set 12 (.int x)))) H1 → va_D A (ws.set q0 (b, .inr (12, fs.set 12 (.int x)))) → va_S A H0 H1 locs1 → W p l e R s m args below meth c H1 locs1 cells slots Q (F0 m (pc + 3) ls rest)) : W p l e R s m args below meth c H locs cells slots Q (F0 m pc ls (.int x :: .ref b :: rest)) :=
  va_put (D := D) (ci := 12) (ty := (.int)) (C := RX12) (T := TX12) (N := 29) hx hb hts inX12 tyX12 tyX12_ok nmX12 hown hK hP hD hS q0 he rfl 12 (by decide) (hts _ wd1382) (fun _ h => h) rfl (by decide +kernel) rfl rfl hl hdg kk
theorem pfX12_147 (hx : p.tables.exec = Jvm.exec) (hb : c.code = cc) (hts : ∀ w ∈ lw_g, w.before args s = true) (hown : s.vm.findClass RX12 = some m.cls) (hK : va_K D vwCl tys s) (hP : va_P D vwCl ws H) (hD : va_D A ws) (hS : va_S A H0 H locs) (q0 : Nat) {fs : List Value} {x : Int32} (he : ws[q0]? = some (b, .inr (12, fs))) (hl : 13 < fs.length) (hdg : decode cc pc = .ok (.putfield 147, 3)) (kk : ∀ (H1 : Heap) (locs1 : List Loc), va_P D vwCl (ws.set q0 (b, .inr (12, fs.set 13 (.int x)))) H1 → va_D A (ws.set q0 (b, .inr (12, fs.set 13 (.int x)))) → va_S A H0 H1 locs1 → W p l e R s m args below meth c H1 locs1 cells slots Q (F0 m (pc + 3) ls rest)) : W p l e R s m args below meth c H locs cells slots Q (F0 m pc ls (.int x :: .ref b :: rest)) :=
  va_put (D := D) (ci := 12) (ty := (.int)) (C := RX12) (T := TX12) (N := 29) hx hb hts inX12 tyX12 tyX12_ok nmX12 hown hK hP hD hS q0 he rfl 13 (by decide) (hts _ wd1383) (fun _ h => h) rfl (by decide +kernel) rfl rfl hl hdg kk
theorem pfX12_154 (hx : p.tables.exec = Jvm.exec) (hb : c.code = cc) (hts : ∀ w ∈ lw_g, w.before args s = true) (hown : s.vm.findClass RX12 = some m.cls) (hK : va_K D vwCl tys s) (hP : va_P D vwCl ws H) (hD : va_D A ws) (hS : va_S A H0 H locs) (q0 : Nat) {fs : List Value} {x : Int32} (he : ws[q0]? = some (b, .inr (12, fs))) (hl : 14 < fs.length) (hdg : decode cc pc = .ok (.putfield 154, 3)) (kk : ∀ (H1 : Heap) (locs1 : List Loc), va_P D vwCl (ws.set q0 (b, .inr (12, fs.set 14 (.int x)))) H1 → va_D A (ws.set q0 (b, .inr (12, fs.set 14 (.int x)))) → va_S A H0 H1 locs1 → W p l e R s m args below meth c H1 locs1 cells slots Q (F0 m (pc + 3) ls rest)) : W p l e R s m args below meth c H locs cells slots Q (F0 m pc ls (.int x :: .ref b :: rest)) :=
  va_put (D := D) (ci := 12) (ty := (.int)) (C := RX12) (T := TX12) (N := 29) hx hb hts inX12 tyX12 tyX12_ok nmX12 hown hK hP hD hS q0 he rfl 14 (by decide) (hts _ wd1384) (fun _ h => h) rfl (by decide +kernel) rfl rfl hl hdg kk
theorem pfX12_157 (hx : p.tables.exec = Jvm.exec) (hb : c.code = cc) (hts : ∀ w ∈ lw_g, w.before args s = true) (hown : s.vm.findClass RX12 = some m.cls) (hK : va_K D vwCl tys s) (hP : va_P D vwCl ws H) (hD : va_D A ws) (hS : va_S A H0 H locs) (q0 : Nat) {fs : List Value} {x : Int32} (he : ws[q0]? = some (b, .inr (12, fs))) (hl : 16 < fs.length) (hdg : decode cc pc = .ok (.putfield 157, 3)) (kk : ∀ (H1 : Heap) (locs1 : List Loc), va_P D vwCl (ws.set q0 (b, .inr (12, fs.set 16 (.int x)))) H1 → va_D A (ws.set q0 (b, .inr (12, fs.set 16 (.int x)))) → va_S A H0 H1 locs1 → W p l e R s m args below meth c H1 locs1 cells slots Q (F0 m (pc + 3) ls rest)) : W p l e R s m args below meth c H locs cells slots Q (F0 m pc ls (.int x :: .ref b :: rest)) :=
  va_put (D := D) (ci := 12) (ty := (.int)) (C := RX12) (T := TX12) (N := 29) hx hb hts inX12 tyX12 tyX12_ok nmX12 hown hK hP hD hS q0 he rfl 16 (by decide) (hts _ wd1386) (fun _ h => h) rfl (by decide +kernel) rfl rfl hl hdg kk
theorem pfX12_167 (hx : p.tables.exec = Jvm.exec) (hb : c.code = cc) (hts : ∀ w ∈ lw_g, w.before args s = true) (hown : s.vm.findClass RX12 = some m.cls) (hK : va_K D vwCl tys s) (hP : va_P D vwCl ws H) (hD : va_D A ws) (hS : va_S A H0 H locs) (q0 : Nat) {fs : List Value} {x : Int32} (he : ws[q0]? = some (b, .inr (12, fs))) (hl : 17 < fs.length) (hdg : decode cc pc = .ok (.putfield 167, 3)) (kk : ∀ (H1 : Heap) (locs1 : List Loc), va_P D vwCl (ws.set q0 (b, .inr (12, fs.set 17 (.int x)))) H1 → va_D A (ws.set q0 (b, .inr (12, fs.set 17 (.int x)))) → va_S A H0 H1 locs1 → W p l e R s m args below meth c H1 locs1 cells slots Q (F0 m (pc + 3) ls rest)) : W p l e R s m args below meth c H locs cells slots Q (F0 m pc ls (.int x :: .ref b :: rest)) :=
  va_put (D := D) (ci := 12) (ty := (.int)) (C := RX12) (T := TX12) (N := 29) hx hb hts inX12 tyX12 tyX12_ok nmX12 hown hK hP hD hS q0 he rfl 17 (by decide) (hts _ wd1387) (fun _ h => h) rfl (by decide +kernel) rfl rfl hl hdg kk
theorem pfX12_186 (hx : p.tables.exec = Jvm.exec) (hb : c.code = cc) (hts : ∀ w ∈ lw_g, w.before args s = true) (hown : s.vm.findClass RX12 = some m.cls) (hK : va_K D vwCl tys s) (hP : va_P D vwCl ws H) (hD : va_D A ws) (hS : va_S A H0 H locs) (q0 : Nat) {fs : List Value} {x : Int32} (he : ws[q0]? = some (b, .inr (12, fs))) (hB : mB x) (hB2 : fits .boolean (.int x) = true) (hl : 18 < fs.length) (hdg : decode cc pc = .ok (.putfield 186, 3)) (kk : ∀ (H1 : Heap) (locs1 : List Loc), va_P D vwCl (ws.set q0 (b, .inr (12, fs.set 18 (.int x)))) H1 → va_D A (ws.set q0 (b, .inr (12, fs.set 18 (.int x)))) → va_S A H0 H1 locs1 → W p l e R s m args below meth c H1 locs1 cells slots Q (F0 m (pc + 3) ls rest)) : W p l e R s m args below meth c H locs cells slots Q (F0 m pc ls (.int x :: .ref b :: rest)) :=
  va_put (D := D) (ci := 12) (ty := (.boolean)) (C := RX12) (T := TX12) (N := 29) hx hb hts inX12 tyX12 tyX12_ok nmX12 hown hK hP hD hS q0 he rfl 18 (by decide) (hts _ wd1388) (fun _ h => h) rfl (by decide +kernel) hB hB2 hl hdg kk
theorem pfX12_248 (hx : p.tables.exec = Jvm.exec) (hb : c.code = cc) (hts : ∀ w ∈ lw_g, w.before args s = true) (hown : s.vm.findClass RX12 = some m.cls) (hK : va_K D vwCl tys s) (hP : va_P D vwCl ws H) (hD : va_D A ws) (hS : va_S A H0 H locs) (q0 : Nat) {fs : List Value} {x : Int32} (he : ws[q0]? = some (b, .inr (12, fs))) (hl : 19 < fs.length) (hdg : decode cc pc = .ok (.putfield 248, 3)) (kk : ∀ (H1 : Heap) (locs1 : List Loc), va_P D vwCl (ws.set q0 (b, .inr (12, fs.set 19 (.int x)))) H1 → va_D A (ws.set q0 (b, .inr (12, fs.set 19 (.int x)))) → va_S A H0 H1 locs1 → W p l e R s m args below meth c H1 locs1 cells slots Q (F0 m (pc + 3) ls rest)) : W p l e R s m args below meth c H locs cells slots Q (F0 m pc ls (.int x :: .ref b :: rest)) :=
  va_put (D := D) (ci := 12) (ty := (.int)) (C := RX12) (T := TX12) (N := 29) hx hb hts inX12 tyX12 tyX12_ok nmX12 hown hK hP hD hS q0 he rfl 19 (by decide) (hts _ wd1389) (fun _ h => h) rfl (by decide +kernel) rfl rfl hl hdg kk
theorem pfX12_322 (hx : p.tables.exec = Jvm.exec) (hb : c.code = cc) (hts : ∀ w ∈ lw_g, w.before args s = true) (hown : s.vm.findClass RX12 = some m.cls) (hK : va_K D vwCl tys s) (hP : va_P D vwCl ws H) (hD : va_D A ws) (hS : va_S A H0 H locs) (q0 : Nat) {fs : List Value} {x : Int32} (he : ws[q0]? = some (b, .inr (12, fs))) (hl : 24 < fs.length) (hdg : decode cc pc = .ok (.putfield 322, 3)) (kk : ∀ (H1 : Heap) (locs1 : List Loc), va_P D vwCl (ws.set q0 (b, .inr (12, fs.set 24 (.int x)))) H1 → va_D A (ws.set q0 (b, .inr (12, fs.set 24 (.int x)))) → va_S A H0 H1 locs1 → W p l e R s m args below meth c H1 locs1 cells slots Q (F0 m (pc + 3) ls rest)) : W p l e R s m args below meth c H locs cells slots Q (F0 m pc ls (.int x :: .ref b :: rest)) :=
  va_put (D := D) (ci := 12) (ty := (.int)) (C := RX12) (T := TX12) (N := 29) hx hb hts inX12 tyX12 tyX12_ok nmX12 hown hK hP hD hS q0 he rfl 24 (by decide) (hts _ wd1394) (fun _ h => h) rfl (by decide +kernel) rfl rfl hl hdg kk
theorem kwX12_59 (ht : ∀ w ∈ lw_g, w.before args s = true) (hrc : rm.cells = 0) (hrs : rm.slots = 0) (hR : rm.frames + 1 ≤ R.frames ∧ 8 + (3 + 11) + rm.locals ≤ R.locals) : CallB R s args RX12 59 yX12_copy cX12_copy 3 none (mw yX12_copy cX12_copy 3 none) rm 0 0 2 ∧ (Cond.static yX12_copy).before args s = true :=
  mcw_S 2 ht wd1367 wd140 wd1369 wd1368 ⟨by decide, by decide, by decide +kernel⟩ hrc hrs hR
theorem kwX12_63 (ht : ∀ w ∈ lw_g, w.before args s = true) (hrc : rm.cells = 0) (hrs : rm.slots = 0) (hR : rm.frames + 1 ≤ R.frames ∧ 8 + (3 + 11) + rm.locals ≤ R.locals) : CallB R s args RX12 63 yX12_isIn cX12_isIn 3 (some .boolean) (mw yX12_isIn cX12_isIn 3 (some .boolean)) rm 0 0 3 ∧ (Cond.static yX12_isIn).before args s = true :=
  mcw_S 3 ht wd1464 wd140 wd1466 wd1465 ⟨by decide, by decide, by decide +kernel⟩ hrc hrs hR
theorem kwX12_67 (ht : ∀ w ∈ lw_g, w.before args s = true) (hrc : rm.cells = 0) (hrs : rm.slots = 0) (hR : rm.frames + 1 ≤ R.frames ∧ 8 + (2 + 11) + rm.locals ≤ R.locals) : CallW R s args RX12 RX12 67 yX12_isPerson cX12_isPerson 2 (some .boolean) (mw yX12_isPerson cX12_isPerson 2 (some .boolean)) rm 0 0 1 :=
  mcw_V 1 ht wd1675 wd140 wd1678 wd1677 wd82 ⟨by decide, by decide, by decide +kernel⟩ hrc hrs hR
theorem kwX12_71 (ht : ∀ w ∈ lw_g, w.before args s = true) (hrc : rm.cells = 0) (hrs : rm.slots = 0) (hR : rm.frames + 1 ≤ R.frames ∧ 8 + (3 + 11) + rm.locals ≤ R.locals) : CallW R s args RX12 RX12 71 yX12_get cX12_get 3 (some .int) (mw yX12_get cX12_get 3 (some .int)) rm 0 0 2 :=
  mcw_V 2 ht wd1490 wd140 wd1493 wd1492 wd50 ⟨by decide, by decide, by decide +kernel⟩ hrc hrs hR
theorem kwX12_75 (ht : ∀ w ∈ lw_g, w.before args s = true) (hrc : rm.cells = 0) (hrs : rm.slots = 0) (hR : rm.frames + 1 ≤ R.frames ∧ 8 + (2 + 11) + rm.locals ≤ R.locals) : CallW R s args RX12 RX12 75 yX12_isLand cX12_isLand 2 (some .boolean) (mw yX12_isLand cX12_isLand 2 (some .boolean)) rm 0 0 1 :=
  mcw_V 1 ht wd1471 wd140 wd1474 wd1473 wd47 ⟨by decide, by decide, by decide +kernel⟩ hrc hrs hR
theorem kwX12_78 (ht : ∀ w ∈ lw_g, w.before args s = true) (hrc : rm.cells = 0) (hrs : rm.slots = 0) (hR : rm.frames + 1 ≤ R.frames ∧ 8 + (2 + 11) + rm.locals ≤ R.locals) : CallB R s args RX12 78 yX12_isWith cX12_isWith 2 (some .boolean) (mw yX12_isWith cX12_isWith 2 (some .boolean)) rm 0 0 2 ∧ (Cond.static yX12_isWith).before args s = true :=
  mcw_S 2 ht wd1475 wd140 wd1477 wd1476 ⟨by decide, by decide, by decide +kernel⟩ hrc hrs hR
theorem kwX12_82 (ht : ∀ w ∈ lw_g, w.before args s = true) (hrc : rm.cells = 0) (hrs : rm.slots = 0) (hR : rm.frames + 1 ≤ R.frames ∧ 8 + (4 + 11) + rm.locals ≤ R.locals) : CallW R s args RX12 RX12 82 yX12_put cX12_put 4 none (mw yX12_put cX12_put 4 none) rm 0 0 3 :=
  mcw_V 3 ht wd1482 wd140 wd1485 wd1484 wd48 ⟨by decide, by decide, by decide +kernel⟩ hrc hrs hR
theorem kwX12_86 (ht : ∀ w ∈ lw_g, w.before args s = true) (hrc : rm.cells = 0) (hrs : rm.slots = 0) (hR : rm.frames + 1 ≤ R.frames ∧ 8 + (3 + 11) + rm.locals ≤ R.locals) : CallW R s args RX12 RX12 86 yX12_begin cX12_begin 3 none (mw yX12_begin cX12_begin 3 none) rm 0 0 1 :=
  mcw_V 1 ht wd1486 wd140 wd1489 wd1488 wd49 ⟨by decide, by decide, by decide +kernel⟩ hrc hrs hR
theorem kwX12_93 (ht : ∀ w ∈ lw_g, w.before args s = true) (hrc : rm.cells = 0) (hrs : rm.slots = 0) (hR : rm.frames + 1 ≤ R.frames ∧ 8 + (3 + 11) + rm.locals ≤ R.locals) : CallW R s args RX12 RX12 93 yX12_four cX12_four 3 none (mw yX12_four cX12_four 3 none) rm 0 0 1 :=
  mcw_V 1 ht wd1498 wd140 wd1501 wd1500 wd51 ⟨by decide, by decide, by decide +kernel⟩ hrc hrs hR
theorem kwX12_99 (ht : ∀ w ∈ lw_g, w.before args s = true) (hrc : rm.cells = 0) (hrs : rm.slots = 0) (hR : rm.frames + 1 ≤ R.frames ∧ 8 + (2 + 11) + rm.locals ≤ R.locals) : CallW R s args RX12 RX12 99 yX12_byteAt cX12_byteAt 2 (some .int) (mw yX12_byteAt cX12_byteAt 2 (some .int)) rm 0 0 1 :=
  mcw_V 1 ht wd1518 wd140 wd1521 wd1520 wd54 ⟨by decide, by decide, by decide +kernel⟩ hrc hrs hR
theorem kwX12_109 (ht : ∀ w ∈ lw_g, w.before args s = true) (hrc : rm.cells = 0) (hrs : rm.slots = 0) (hR : rm.frames + 1 ≤ R.frames ∧ 8 + (1 + 11) + rm.locals ≤ R.locals) : CallB R s args RX12 109 yX12_isFigure cX12_isFigure 1 (some .boolean) (mw yX12_isFigure cX12_isFigure 1 (some .boolean)) rm 0 0 1 ∧ (Cond.static yX12_isFigure).before args s = true :=
  mcw_S 1 ht wd1522 wd140 wd1524 wd1523 ⟨by decide, by decide, by decide +kernel⟩ hrc hrs hR
theorem kwX12_116 (ht : ∀ w ∈ lw_g, w.before args s = true) (hrc : rm.cells = 0) (hrs : rm.slots = 0) (hR : rm.frames + 1 ≤ R.frames ∧ 8 + (1 + 11) + rm.locals ≤ R.locals) : CallB R s args RX12 116 yX12_isLetterByte cX12_isLetterByte 1 (some .boolean) (mw yX12_isLetterByte cX12_isLetterByte 1 (some .boolean)) rm 0 0 1 ∧ (Cond.static yX12_isLetterByte).before args s = true :=
  mcw_S 1 ht wd1526 wd140 wd1528 wd1527 ⟨by decide, by decide, by decide +kernel⟩ hrc hrs hR
theorem kwX12_125 (ht : ∀ w ∈ lw_g, w.before args s = true) (hrc : rm.cells = 0) (hrs : rm.slots = 0) (hR : rm.frames + 1 ≤ R.frames ∧ 8 + (1 + 11) + rm.locals ≤ R.locals) : CallB R s args RX12 125 yX12_isSign cX12_isSign 1 (some .boolean) (mw yX12_isSign cX12_isSign 1 (some .boolean)) rm 0 0 1 ∧ (Cond.static yX12_isSign).before args s = true :=
  mcw_S 1 ht wd1530 wd140 wd1532 wd1531 ⟨by decide, by decide, by decide +kernel⟩ hrc hrs hR
theorem kwX12_128 (ht : ∀ w ∈ lw_g, w.before args s = true) (hrc : rm.cells = 0) (hrs : rm.slots = 0) (hR : rm.frames + 1 ≤ R.frames ∧ 8 + (2 + 11) + rm.locals ≤ R.locals) : CallB R s args RX12 128 yX12_w2 cX12_w2 2 (some .long) (mw yX12_w2 cX12_w2 2 (some .long)) rm 0 0 2 ∧ (Cond.static yX12_w2).before args s = true :=
  mcw_S 2 ht wd1551 wd140 wd1553 wd1552 ⟨by decide, by decide, by decide +kernel⟩ hrc hrs hR
theorem kwX12_132 (ht : ∀ w ∈ lw_g, w.before args s = true) (hrc : rm.cells = 0) (hrs : rm.slots = 0) (hR : rm.frames + 1 ≤ R.frames ∧ 8 + (3 + 11) + rm.locals ≤ R.locals) : CallB R s args RX12 132 yX12_w3 cX12_w3 3 (some .long) (mw yX12_w3 cX12_w3 3 (some .long)) rm 0 0 3 ∧ (Cond.static yX12_w3).before args s = true :=
  mcw_S 3 ht wd1548 wd140 wd1550 wd1549 ⟨by decide, by decide, by decide +kernel⟩ hrc hrs hR
theorem kwX12_136 (ht : ∀ w ∈ lw_g, w.before args s = true) (hrc : rm.cells = 0) (hrs : rm.slots = 0) (hR : rm.frames + 1 ≤ R.frames ∧ 8 + (4 + 11) + rm.locals ≤ R.locals) : CallB R s args RX12 136 yX12_w4 cX12_w4 4 (some .long) (mw yX12_w4 cX12_w4 4 (some .long)) rm 0 0 4 ∧ (Cond.static yX12_w4).before args s = true :=
  mcw_S 4 ht wd1545 wd140 wd1547 wd1546 ⟨by decide, by decide, by decide +kernel⟩ hrc hrs hR
theorem kwX12_140 (ht : ∀ w ∈ lw_g, w.before args s = true) (hrc : rm.cells = 0) (hrs : rm.slots = 0) (hR : rm.frames + 1 ≤ R.frames ∧ 8 + (5 + 11) + rm.locals ≤ R.locals) : CallB R s args RX12 140 yX12_w5 cX12_w5 5 (some .long) (mw yX12_w5 cX12_w5 5 (some .long)) rm 0 0 5 ∧ (Cond.static yX12_w5).before args s = true :=
  mcw_S 5 ht wd1554 wd140 wd1556 wd1555 ⟨by decide, by decide, by decide +kernel⟩ hrc hrs hR
theorem kwX12_150 (ht : ∀ w ∈ lw_g, w.before args s = true) (hrc : rm.cells = 0) (hrs : rm.slots = 0) (hR : rm.frames + 1 ≤ R.frames ∧ 8 + (6 + 11) + rm.locals ≤ R.locals) : CallB R s args RX12 150 yX12_w6 cX12_w6 6 (some .long) (mw yX12_w6 cX12_w6 6 (some .long)) rm 0 0 6 ∧ (Cond.static yX12_w6).before args s = true :=
  mcw_S 6 ht wd1561 wd140 wd1563 wd1562 ⟨by decide, by decide, by decide +kernel⟩ hrc hrs hR
theorem kwX12_160 (ht : ∀ w ∈ lw_g, w.before args s = true) (hrc : rm.cells = 0) (hrs : rm.slots = 0) (hR : rm.frames + 1 ≤ R.frames ∧ 8 + (1 + 11) + rm.locals ≤ R.locals) : CallB R s args RX12 160 yX12_rank cX12_rank 1 (some .int) (mw yX12_rank cX12_rank 1 (some .int)) rm 0 0 1 ∧ (Cond.static yX12_rank).before args s = true :=
  mcw_S 1 ht wd1612 wd140 wd1614 wd1613 ⟨by decide, by decide, by decide +kernel⟩ hrc hrs hR
theorem kwX12_163 (ht : ∀ w ∈ lw_g, w.before args s = true) (hrc : rm.cells = 0) (hrs : rm.slots = 0) (hR : rm.frames + 1 ≤ R.frames ∧ 8 + (3 + 11) + rm.locals ≤ R.locals) : CallW R s args RX12 RX12 163 yX12_emit cX12_emit 3 none (mw yX12_emit cX12_emit 3 none) rm 0 0 2 :=
  mcw_V 2 ht wd1623 wd140 wd1626 wd1625 wd73 ⟨by decide, by decide, by decide +kernel⟩ hrc hrs hR
theorem kwX12_170 (ht : ∀ w ∈ lw_g, w.before args s = true) (hrc : rm.cells = 0) (hrs : rm.slots = 0) (hR : rm.frames + 1 ≤ R.frames ∧ 8 + (2 + 11) + rm.locals ≤ R.locals) : CallW R s args RX12 RX12 170 yX12_openAt cX12_openAt 2 (some .int) (mw yX12_openAt cX12_openAt 2 (some .int)) rm 0 0 0 :=
  mcw_V 0 ht wd1604 wd140 wd1607 wd1606 wd69 ⟨by decide, by decide, by decide +kernel⟩ hrc hrs hR
theorem kwX12_174 (ht : ∀ w ∈ lw_g, w.before args s = true) (hrc : rm.cells = 0) (hrs : rm.slots = 0) (hR : rm.frames + 1 ≤ R.frames ∧ 8 + (1 + 11) + rm.locals ≤ R.locals) : CallW R s args RX12 RX12 174 yX12_openNow cX12_openNow 1 (some .int) (mw yX12_openNow cX12_openNow 1 (some .int)) rm 0 0 0 :=
  mcw_V 0 ht wd1600 wd140 wd1603 wd1602 wd68 ⟨by decide, by decide, by decide +kernel⟩ hrc hrs hR
theorem kwX12_177 (ht : ∀ w ∈ lw_g, w.before args s = true) (hrc : rm.cells = 0) (hrs : rm.slots = 0) (hR : rm.frames + 1 ≤ R.frames ∧ 8 + (2 + 11) + rm.locals ≤ R.locals) : CallW R s args RX12 RX12 177 yX12_nextToken cX12_nextToken 2 none (mw yX12_nextToken cX12_nextToken 2 none) rm 0 0 0 :=
  mcw_V 0 ht wd1514 wd140 wd1517 wd1516 wd53 ⟨by decide, by decide, by decide +kernel⟩ hrc hrs hR
theorem kwX12_180 (ht : ∀ w ∈ lw_g, w.before args s = true) (hrc : rm.cells = 0) (hrs : rm.slots = 0) (hR : rm.frames + 1 ≤ R.frames ∧ 8 + (1 + 11) + rm.locals ≤ R.locals) : CallW R s args RX12 RX12 180 yX12_nameOf cX12_nameOf 1 (some .int) (mw yX12_nameOf cX12_nameOf 1 (some .int)) rm 0 0 0 :=
  mcw_V 0 ht wd1635 wd140 wd1638 wd1637 wd76 ⟨by decide, by decide, by decide +kernel⟩ hrc hrs hR
theorem kwX12_183 (ht : ∀ w ∈ lw_g, w.before args s = true) (hrc : rm.cells = 0) (hrs : rm.slots = 0) (hR : rm.frames + 1 ≤ R.frames ∧ 8 + (2 + 11) + rm.locals ≤ R.locals) : CallW R s args RX12 RX12 183 yX12_isOf cX12_isOf 2 (some .boolean) (mw yX12_isOf cX12_isOf 2 (some .boolean)) rm 0 0 1 :=
  mcw_V 1 ht wd1639 wd140 wd1642 wd1641 wd77 ⟨by decide, by decide, by decide +kernel⟩ hrc hrs hR
theorem kwX12_189 (ht : ∀ w ∈ lw_g, w.before args s = true) (hrc : rm.cells = 0) (hrs : rm.slots = 0) (hR : rm.frames + 1 ≤ R.frames ∧ 8 + (2 + 11) + rm.locals ≤ R.locals) : CallW R s args RX12 RX12 189 yX12_settle cX12_settle 2 none (mw yX12_settle cX12_settle 2 none) rm 0 0 1 :=
  mcw_V 1 ht wd1619 wd140 wd1622 wd1621 wd72 ⟨by decide, by decide, by decide +kernel⟩ hrc hrs hR
theorem kwX12_192 (ht : ∀ w ∈ lw_g, w.before args s = true) (hrc : rm.cells = 0) (hrs : rm.slots = 0) (hR : rm.frames + 1 ≤ R.frames ∧ 8 + (2 + 11) + rm.locals ≤ R.locals) : CallW R s args RX12 RX12 192 yX12_opened cX12_opened 2 (some .int) (mw yX12_opened cX12_opened 2 (some .int)) rm 0 0 1 :=
  mcw_V 1 ht wd1643 wd140 wd1646 wd1645 wd78 ⟨by decide, by decide, by decide +kernel⟩ hrc hrs hR
theorem kwX12_195 (ht : ∀ w ∈ lw_g, w.before args s = true) (hrc : rm.cells = 0) (hrs : rm.slots = 0) (hR : rm.frames + 1 ≤ R.frames ∧ 8 + (3 + 11) + rm.locals ≤ R.locals) : CallW R s args RX12 RX12 195 yX12_isWord cX12_isWord 3 (some .boolean) (mw yX12_isWord cX12_isWord 3 (some .boolean)) rm 0 0 1 :=
  mcw_V 1 ht wd1557 wd140 wd1560 wd1559 wd58 ⟨by decide, by decide, by decide +kernel⟩ hrc hrs hR
theorem kwX12_199 (ht : ∀ w ∈ lw_g, w.before args s = true) (hrc : rm.cells = 0) (hrs : rm.slots = 0) (hR : rm.frames + 1 ≤ R.frames ∧ 8 + (1 + 11) + rm.locals ≤ R.locals) : CallW R s args RX12 RX12 199 yX12_isAskAhead cX12_isAskAhead 1 (some .boolean) (mw yX12_isAskAhead cX12_isAskAhead 1 (some .boolean)) rm 0 0 0 :=
  mcw_V 0 ht wd1647 wd140 wd1650 wd1649 wd79 ⟨by decide, by decide, by decide +kernel⟩ hrc hrs hR
theorem kwX12_203 (ht : ∀ w ∈ lw_g, w.before args s = true) (hrc : rm.cells = 0) (hrs : rm.slots = 0) (hR : rm.frames + 1 ≤ R.frames ∧ 8 + (2 + 11) + rm.locals ≤ R.locals) : CallW R s args RX12 RX12 203 yX12_isCompared cX12_isCompared 2 (some .boolean) (mw yX12_isCompared cX12_isCompared 2 (some .boolean)) rm 0 0 0 :=
  mcw_V 0 ht wd1608 wd140 wd1611 wd1610 wd70 ⟨by decide, by decide, by decide +kernel⟩ hrc hrs hR
theorem kwX12_206 (ht : ∀ w ∈ lw_g, w.before args s = true) (hrc : rm.cells = 0) (hrs : rm.slots = 0) (hR : rm.frames + 1 ≤ R.frames ∧ 8 + (1 + 11) + rm.locals ≤ R.locals) : CallW R s args RX12 RX12 206 yX12_compareOf cX12_compareOf 1 (some .int) (mw yX12_compareOf cX12_compareOf 1 (some .int)) rm 0 0 0 :=
  mcw_V 0 ht wd1615 wd140 wd1618 wd1617 wd71 ⟨by decide, by decide, by decide +kernel⟩ hrc hrs hR
theorem kwX12_209 (ht : ∀ w ∈ lw_g, w.before args s = true) (hrc : rm.cells = 0) (hrs : rm.slots = 0) (hR : rm.frames + 1 ≤ R.frames ∧ 8 + (1 + 11) + rm.locals ≤ R.locals) : CallW R s args RX12 RX12 209 yX12_betweenOf cX12_betweenOf 1 (some .int) (mw yX12_betweenOf cX12_betweenOf 1 (some .int)) rm 0 0 0 :=
  mcw_V 0 ht wd1596 wd140 wd1599 wd1598 wd67 ⟨by decide, by decide, by decide +kernel⟩ hrc hrs hR
theorem kwX12_212 (ht : ∀ w ∈ lw_g, w.before args s = true) (hrc : rm.cells = 0) (hrs : rm.slots = 0) (hR : rm.frames + 1 ≤ R.frames ∧ 8 + (2 + 11) + rm.locals ≤ R.locals) : CallW R s args RX12 RX12 212 yX12_partOf cX12_partOf 2 (some .int) (mw yX12_partOf cX12_partOf 2 (some .int)) rm 0 0 1 :=
  mcw_V 1 ht wd1627 wd140 wd1630 wd1629 wd74 ⟨by decide, by decide, by decide +kernel⟩ hrc hrs hR
theorem kwX12_215 (ht : ∀ w ∈ lw_g, w.before args s = true) (hrc : rm.cells = 0) (hrs : rm.slots = 0) (hR : rm.frames + 1 ≤ R.frames ∧ 8 + (4 + 11) + rm.locals ≤ R.locals) : CallW R s args RX12 RX12 215 yX12_behindOne cX12_behindOne 4 (some .boolean) (mw yX12_behindOne cX12_behindOne 4 (some .boolean)) rm 0 0 0 :=
  mcw_V 0 ht wd1592 wd140 wd1595 wd1594 wd66 ⟨by decide, by decide, by decide +kernel⟩ hrc hrs hR
theorem kwX12_218 (ht : ∀ w ∈ lw_g, w.before args s = true) (hrc : rm.cells = 0) (hrs : rm.slots = 0) (hR : rm.frames + 1 ≤ R.frames ∧ 8 + (2 + 11) + rm.locals ≤ R.locals) : CallW R s args RX12 RX12 218 yX12_beginOne cX12_beginOne 2 (some .int) (mw yX12_beginOne cX12_beginOne 2 (some .int)) rm 0 0 0 :=
  mcw_V 0 ht wd1631 wd140 wd1634 wd1633 wd75 ⟨by decide, by decide, by decide +kernel⟩ hrc hrs hR
theorem kwX12_221 (ht : ∀ w ∈ lw_g, w.before args s = true) (hrc : rm.cells = 0) (hrs : rm.slots = 0) (hR : rm.frames + 1 ≤ R.frames ∧ 8 + (4 + 11) + rm.locals ≤ R.locals) : CallW R s args RX12 RX12 221 yX12_figure cX12_figure 4 (some .int) (mw yX12_figure cX12_figure 4 (some .int)) rm 0 0 3 :=
  mcw_V 3 ht wd1568 wd140 wd1571 wd1570 wd60 ⟨by decide, by decide, by decide +kernel⟩ hrc hrs hR
theorem kwX12_225 (ht : ∀ w ∈ lw_g, w.before args s = true) (hrc : rm.cells = 0) (hrs : rm.slots = 0) (hR : rm.frames + 1 ≤ R.frames ∧ 8 + (2 + 11) + rm.locals ≤ R.locals) : CallW R s args RX12 RX12 225 yX12_summed cX12_summed 2 (some .int) (mw yX12_summed cX12_summed 2 (some .int)) rm 0 0 0 :=
  mcw_V 0 ht wd1588 wd140 wd1591 wd1590 wd65 ⟨by decide, by decide, by decide +kernel⟩ hrc hrs hR
theorem kwX12_228 (ht : ∀ w ∈ lw_g, w.before args s = true) (hrc : rm.cells = 0) (hrs : rm.slots = 0) (hR : rm.frames + 1 ≤ R.frames ∧ 8 + (5 + 11) + rm.locals ≤ R.locals) : CallW R s args RX12 RX12 228 yX12_worded cX12_worded 5 (some .int) (mw yX12_worded cX12_worded 5 (some .int)) rm 0 0 3 :=
  mcw_V 3 ht wd1576 wd140 wd1579 wd1578 wd62 ⟨by decide, by decide, by decide +kernel⟩ hrc hrs hR
theorem kwX12_232 (ht : ∀ w ∈ lw_g, w.before args s = true) (hrc : rm.cells = 0) (hrs : rm.slots = 0) (hR : rm.frames + 1 ≤ R.frames ∧ 8 + (7 + 11) + rm.locals ≤ R.locals) : CallW R s args RX12 RX12 232 yX12_pair cX12_pair 7 (some .int) (mw yX12_pair cX12_pair 7 (some .int)) rm 0 0 4 :=
  mcw_V 4 ht wd1572 wd140 wd1575 wd1574 wd61 ⟨by decide, by decide, by decide +kernel⟩ hrc hrs hR
theorem kwX12_236 (ht : ∀ w ∈ lw_g, w.before args s = true) (hrc : rm.cells = 0) (hrs : rm.slots = 0) (hR : rm.frames + 1 ≤ R.frames ∧ 8 + (3 + 11) + rm.locals ≤ R.locals) : CallW R s args RX12 RX12 236 yX12_personClause cX12_personClause 3 (some .int) (mw yX12_personClause cX12_personClause 3 (some .int)) rm 0 0 1 :=
  mcw_V 1 ht wd1580 wd140 wd1583 wd1582 wd63 ⟨by decide, by decide, by decide +kernel⟩ hrc hrs hR
theorem kwX12_239 (ht : ∀ w ∈ lw_g, w.before args s = true) (hrc : rm.cells = 0) (hrs : rm.slots = 0) (hR : rm.frames + 1 ≤ R.frames ∧ 8 + (3 + 11) + rm.locals ≤ R.locals) : CallW R s args RX12 RX12 239 yX12_lawClause cX12_lawClause 3 (some .int) (mw yX12_lawClause cX12_lawClause 3 (some .int)) rm 0 0 1 :=
  mcw_V 1 ht wd1584 wd140 wd1587 wd1586 wd64 ⟨by decide, by decide, by decide +kernel⟩ hrc hrs hR
theorem kwX12_242 (ht : ∀ w ∈ lw_g, w.before args s = true) (hrc : rm.cells = 0) (hrs : rm.slots = 0) (hR : rm.frames + 1 ≤ R.frames ∧ 8 + (1 + 11) + rm.locals ≤ R.locals) : CallW R s args RX12 RX12 242 yX12_isHungers cX12_isHungers 1 (some .boolean) (mw yX12_isHungers cX12_isHungers 1 (some .boolean)) rm 0 0 0 :=
  mcw_V 0 ht wd1541 wd140 wd1544 wd1543 wd57 ⟨by decide, by decide, by decide +kernel⟩ hrc hrs hR
theorem kwX12_245 (ht : ∀ w ∈ lw_g, w.before args s = true) (hrc : rm.cells = 0) (hrs : rm.slots = 0) (hR : rm.frames + 1 ≤ R.frames ∧ 8 + (1 + 11) + rm.locals ≤ R.locals) : CallW R s args RX12 RX12 245 yX12_sortOf cX12_sortOf 1 (some .int) (mw yX12_sortOf cX12_sortOf 1 (some .int)) rm 0 0 0 :=
  mcw_V 0 ht wd1537 wd140 wd1540 wd1539 wd56 ⟨by decide, by decide, by decide +kernel⟩ hrc hrs hR
theorem kwX12_251 (ht : ∀ w ∈ lw_g, w.before args s = true) (hrc : rm.cells = 0) (hrs : rm.slots = 0) (hR : rm.frames + 1 ≤ R.frames ∧ 8 + (3 + 11) + rm.locals ≤ R.locals) : CallW R s args RX12 RX12 251 yX12_body cX12_body 3 (some .int) (mw yX12_body cX12_body 3 (some .int)) rm 0 0 2 :=
  mcw_V 2 ht wd1564 wd140 wd1567 wd1566 wd59 ⟨by decide, by decide, by decide +kernel⟩ hrc hrs hR
theorem kwX12_254 (ht : ∀ w ∈ lw_g, w.before args s = true) (hrc : rm.cells = 0) (hrs : rm.slots = 0) (hR : rm.frames + 1 ≤ R.frames ∧ 8 + (5 + 11) + rm.locals ≤ R.locals) : CallW R s args RX12 RX12 254 yX12_clause cX12_clause 5 (some .int) (mw yX12_clause cX12_clause 5 (some .int)) rm 0 0 0 :=
  mcw_V 0 ht wd1533 wd140 wd1536 wd1535 wd55 ⟨by decide, by decide, by decide +kernel⟩ hrc hrs hR
theorem kwX12_257 (ht : ∀ w ∈ lw_g, w.before args s = true) (hrc : rm.cells = 0) (hrs : rm.slots = 0) (hR : rm.frames + 1 ≤ R.frames ∧ 8 + (2 + 11) + rm.locals ≤ R.locals) : CallW R s args RX12 RX12 257 yX12_readText cX12_readText 2 (some .int) (mw yX12_readText cX12_readText 2 (some .int)) rm 0 0 0 :=
  mcw_V 0 ht wd1510 wd140 wd1513 wd1512 wd52 ⟨by decide, by decide, by decide +kernel⟩ hrc hrs hR
theorem kwX12_264 (ht : ∀ w ∈ lw_g, w.before args s = true) (hrc : rm.cells = 0) (hrs : rm.slots = 0) (hR : rm.frames + 1 ≤ R.frames ∧ 8 + (2 + 11) + rm.locals ≤ R.locals) : CallB R s args RX12 264 yX12_clip cX12_clip 2 (some .long) (mw yX12_clip cX12_clip 2 (some .long)) rm 0 0 1 ∧ (Cond.static yX12_clip).before args s = true :=
  mcw_S 1 ht wd1753 wd140 wd1755 wd1754 ⟨by decide, by decide, by decide +kernel⟩ hrc hrs hR
theorem kwX12_268 (ht : ∀ w ∈ lw_g, w.before args s = true) (hrc : rm.cells = 0) (hrs : rm.slots = 0) (hR : rm.frames + 1 ≤ R.frames ∧ 8 + (5 + 11) + rm.locals ≤ R.locals) : CallB R s args RX12 268 yX12_bits cX12_bits 5 (some .int) (mw yX12_bits cX12_bits 5 (some .int)) rm 0 0 1 ∧ (Cond.static yX12_bits).before args s = true :=
  mcw_S 1 ht wd1743 wd140 wd1745 wd1744 ⟨by decide, by decide, by decide +kernel⟩ hrc hrs hR
theorem kwX12_272 (ht : ∀ w ∈ lw_g, w.before args s = true) (hrc : rm.cells = 0) (hrs : rm.slots = 0) (hR : rm.frames + 1 ≤ R.frames ∧ 8 + (3 + 11) + rm.locals ≤ R.locals) : CallW R s args RX12 RX12 272 yX12_fearOf cX12_fearOf 3 (some .long) (mw yX12_fearOf cX12_fearOf 3 (some .long)) rm 0 0 1 :=
  mcw_V 1 ht wd1746 wd140 wd1749 wd1748 wd97 ⟨by decide, by decide, by decide +kernel⟩ hrc hrs hR
theorem kwX12_275 (ht : ∀ w ∈ lw_g, w.before args s = true) (hrc : rm.cells = 0) (hrs : rm.slots = 0) (hR : rm.frames + 1 ≤ R.frames ∧ 8 + (4 + 11) + rm.locals ≤ R.locals) : CallW R s args RX12 RX12 275 yX12_prefixed cX12_prefixed 4 (some .long) (mw yX12_prefixed cX12_prefixed 4 (some .long)) rm 0 0 2 :=
  mcw_V 2 ht wd1739 wd140 wd1742 wd1741 wd96 ⟨by decide, by decide, by decide +kernel⟩ hrc hrs hR
theorem kwX12_279 (ht : ∀ w ∈ lw_g, w.before args s = true) (hrc : rm.cells = 0) (hrs : rm.slots = 0) (hR : rm.frames + 1 ≤ R.frames ∧ 8 + (5 + 11) + rm.locals ≤ R.locals) : CallB R s args RX12 279 yX12_two cX12_two 5 (some .long) (mw yX12_two cX12_two 5 (some .long)) rm 0 0 3 ∧ (Cond.static yX12_two).before args s = true :=
  mcw_S 3 ht wd1750 wd140 wd1752 wd1751 ⟨by decide, by decide, by decide +kernel⟩ hrc hrs hR
theorem kwX12_283 (ht : ∀ w ∈ lw_g, w.before args s = true) (hrc : rm.cells = 0) (hrs : rm.slots = 0) (hR : rm.frames + 1 ≤ R.frames ∧ 8 + (5 + 11) + rm.locals ≤ R.locals) : CallB R s args RX12 283 yX12_isAsked cX12_isAsked 5 (some .boolean) (mw yX12_isAsked cX12_isAsked 5 (some .boolean)) rm 0 0 3 ∧ (Cond.static yX12_isAsked).before args s = true :=
  mcw_S 3 ht wd1758 wd140 wd1760 wd1759 ⟨by decide, by decide, by decide +kernel⟩ hrc hrs hR
theorem kwX12_287 (ht : ∀ w ∈ lw_g, w.before args s = true) (hrc : rm.cells = 0) (hrs : rm.slots = 0) (hR : rm.frames + 1 ≤ R.frames ∧ 8 + (3 + 11) + rm.locals ≤ R.locals) : CallB R s args RX12 287 yX12_joined cX12_joined 3 (some .boolean) (mw yX12_joined cX12_joined 3 (some .boolean)) rm 0 0 3 ∧ (Cond.static yX12_joined).before args s = true :=
  mcw_S 3 ht wd1761 wd140 wd1763 wd1762 ⟨by decide, by decide, by decide +kernel⟩ hrc hrs hR
theorem kwX12_291 (ht : ∀ w ∈ lw_g, w.before args s = true) (hrc : rm.cells = 0) (hrs : rm.slots = 0) (hR : rm.frames + 1 ≤ R.frames ∧ 8 + (10 + 11) + rm.locals ≤ R.locals) : CallW R s args RX12 RX12 291 yX12_summedUp cX12_summedUp 10 (some .long) (mw yX12_summedUp cX12_summedUp 10 (some .long)) rm 0 0 2 :=
  mcw_V 2 ht wd1735 wd140 wd1738 wd1737 wd95 ⟨by decide, by decide, by decide +kernel⟩ hrc hrs hR
theorem kwX12_294 (ht : ∀ w ∈ lw_g, w.before args s = true) (hrc : rm.cells = 0) (hrs : rm.slots = 0) (hR : rm.frames + 1 ≤ R.frames ∧ 8 + (4 + 11) + rm.locals ≤ R.locals) : CallB R s args RX12 294 yX12_cut cX12_cut 4 (some .int) (mw yX12_cut cX12_cut 4 (some .int)) rm 0 0 3 ∧ (Cond.static yX12_cut).before args s = true :=
  mcw_S 3 ht wd1764 wd140 wd1766 wd1765 ⟨by decide, by decide, by decide +kernel⟩ hrc hrs hR
theorem kwX12_297 (ht : ∀ w ∈ lw_g, w.before args s = true) (hrc : rm.cells = 0) (hrs : rm.slots = 0) (hR : rm.frames + 1 ≤ R.frames ∧ 8 + (5 + 11) + rm.locals ≤ R.locals) : CallW R s args RX12 RX12 297 yX12_crowdOf cX12_crowdOf 5 (some .int) (mw yX12_crowdOf cX12_crowdOf 5 (some .int)) rm 0 0 2 :=
  mcw_V 2 ht wd1727 wd140 wd1730 wd1729 wd93 ⟨by decide, by decide, by decide +kernel⟩ hrc hrs hR
theorem kwX12_300 (ht : ∀ w ∈ lw_g, w.before args s = true) (hrc : rm.cells = 0) (hrs : rm.slots = 0) (hR : rm.frames + 1 ≤ R.frames ∧ 8 + (3 + 11) + rm.locals ≤ R.locals) : CallW R s args RX12 RX12 300 yX12_nameIn cX12_nameIn 3 none (mw yX12_nameIn cX12_nameIn 3 none) rm 0 0 2 :=
  mcw_V 2 ht wd1723 wd140 wd1726 wd1725 wd92 ⟨by decide, by decide, by decide +kernel⟩ hrc hrs hR
theorem kwX12_303 (ht : ∀ w ∈ lw_g, w.before args s = true) (hrc : rm.cells = 0) (hrs : rm.slots = 0) (hR : rm.frames + 1 ≤ R.frames ∧ 8 + (6 + 11) + rm.locals ≤ R.locals) : CallW R s args RX12 RX12 303 yX12_says cX12_says 6 (some .int) (mw yX12_says cX12_says 6 (some .int)) rm 0 0 4 :=
  mcw_V 4 ht wd1731 wd140 wd1734 wd1733 wd94 ⟨by decide, by decide, by decide +kernel⟩ hrc hrs hR
theorem kwX12_307 (ht : ∀ w ∈ lw_g, w.before args s = true) (hrc : rm.cells = 0) (hrs : rm.slots = 0) (hR : rm.frames + 1 ≤ R.frames ∧ 8 + (3 + 11) + rm.locals ≤ R.locals) : CallW R s args RX12 RX12 307 yX12_findsIn cX12_findsIn 3 (some .int) (mw yX12_findsIn cX12_findsIn 3 (some .int)) rm 0 0 2 :=
  mcw_V 2 ht wd1719 wd140 wd1722 wd1721 wd91 ⟨by decide, by decide, by decide +kernel⟩ hrc hrs hR
theorem kwX12_310 (ht : ∀ w ∈ lw_g, w.before args s = true) (hrc : rm.cells = 0) (hrs : rm.slots = 0) (hR : rm.frames + 1 ≤ R.frames ∧ 8 + (1 + 11) + rm.locals ≤ R.locals) : CallW R s args RX12 RX12 310 yX12_anew cX12_anew 1 none (mw yX12_anew cX12_anew 1 none) rm 0 0 0 :=
  mcw_V 0 ht wd1771 wd140 wd1774 wd1773 wd99 ⟨by decide, by decide, by decide +kernel⟩ hrc hrs hR
theorem kwX12_319 (ht : ∀ w ∈ lw_g, w.before args s = true) (hrc : rm.cells = 0) (hrs : rm.slots = 0) (hR : rm.frames + 1 ≤ R.frames ∧ 8 + (3 + 11) + rm.locals ≤ R.locals) : CallW R s args RX12 RX12 319 yX12_write cX12_write 3 none (mw yX12_write cX12_write 3 none) rm 0 0 2 :=
  mcw_V 2 ht wd1687 wd140 wd1690 wd1689 wd85 ⟨by decide, by decide, by decide +kernel⟩ hrc hrs hR
theorem kwX12_325 (ht : ∀ w ∈ lw_g, w.before args s = true) (hrc : rm.cells = 0) (hrs : rm.slots = 0) (hR : rm.frames + 1 ≤ R.frames ∧ 8 + (2 + 11) + rm.locals ≤ R.locals) : CallW R s args RX12 RX12 325 yX12_earnsOf cX12_earnsOf 2 (some .int) (mw yX12_earnsOf cX12_earnsOf 2 (some .int)) rm 0 0 1 :=
  mcw_V 1 ht wd1826 wd140 wd1829 wd1828 wd109 ⟨by decide, by decide, by decide +kernel⟩ hrc hrs hR
theorem kwX12_328 (ht : ∀ w ∈ lw_g, w.before args s = true) (hrc : rm.cells = 0) (hrs : rm.slots = 0) (hR : rm.frames + 1 ≤ R.frames ∧ 8 + (2 + 11) + rm.locals ≤ R.locals) : CallW R s args RX12 RX12 328 yX12_hungersOf cX12_hungersOf 2 (some .int) (mw yX12_hungersOf cX12_hungersOf 2 (some .int)) rm 0 0 1 :=
  mcw_V 1 ht wd1830 wd140 wd1833 wd1832 wd110 ⟨by decide, by decide, by decide +kernel⟩ hrc hrs hR
theorem kwX12_331 (ht : ∀ w ∈ lw_g, w.before args s = true) (hrc : rm.cells = 0) (hrs : rm.slots = 0) (hR : rm.frames + 1 ≤ R.frames ∧ 8 + (3 + 11) + rm.locals ≤ R.locals) : CallW R s args RX12 RX12 331 yX12_die cX12_die 3 none (mw yX12_die cX12_die 3 none) rm 0 0 2 :=
  mcw_V 2 ht wd1786 wd140 wd1789 wd1788 wd101 ⟨by decide, by decide, by decide +kernel⟩ hrc hrs hR
theorem kwX12_334 (ht : ∀ w ∈ lw_g, w.before args s = true) (hrc : rm.cells = 0) (hrs : rm.slots = 0) (hR : rm.frames + 1 ≤ R.frames ∧ 8 + (2 + 11) + rm.locals ≤ R.locals) : CallW R s args RX12 RX12 334 yX12_findsOf cX12_findsOf 2 (some .int) (mw yX12_findsOf cX12_findsOf 2 (some .int)) rm 0 0 1 :=
  mcw_V 1 ht wd1715 wd140 wd1718 wd1717 wd90 ⟨by decide, by decide, by decide +kernel⟩ hrc hrs hR
theorem kwX12_337 (ht : ∀ w ∈ lw_g, w.before args s = true) (hrc : rm.cells = 0) (hrs : rm.slots = 0) (hR : rm.frames + 1 ≤ R.frames ∧ 8 + (3 + 11) + rm.locals ≤ R.locals) : CallW R s args RX12 RX12 337 yX12_drawn cX12_drawn 3 (some .int) (mw yX12_drawn cX12_drawn 3 (some .int)) rm 0 0 1 :=
  mcw_V 1 ht wd1767 wd140 wd1770 wd1769 wd98 ⟨by decide, by decide, by decide +kernel⟩ hrc hrs hR
theorem kwX12_340 (ht : ∀ w ∈ lw_g, w.before args s = true) (hrc : rm.cells = 0) (hrs : rm.slots = 0) (hR : rm.frames + 1 ≤ R.frames ∧ 8 + (3 + 11) + rm.locals ≤ R.locals) : CallW R s args RX12 RX12 340 yX12_live cX12_live 3 none (mw yX12_live cX12_live 3 none) rm 0 0 1 :=
  mcw_V 1 ht wd1822 wd140 wd1825 wd1824 wd108 ⟨by decide, by decide, by decide +kernel⟩ hrc hrs hR
theorem kwX12_343 (ht : ∀ w ∈ lw_g, w.before args s = true) (hrc : rm.cells = 0) (hrs : rm.slots = 0) (hR : rm.frames + 1 ≤ R.frames ∧ 8 + (2 + 11) + rm.locals ≤ R.locals) : CallW R s args RX12 RX12 343 yX12_isAlive cX12_isAlive 2 (some .boolean) (mw yX12_isAlive cX12_isAlive 2 (some .boolean)) rm 0 0 1 :=
  mcw_V 1 ht wd1671 wd140 wd1674 wd1673 wd81 ⟨by decide, by decide, by decide +kernel⟩ hrc hrs hR
theorem kwX12_346 (ht : ∀ w ∈ lw_g, w.before args s = true) (hrc : rm.cells = 0) (hrs : rm.slots = 0) (hR : rm.frames + 1 ≤ R.frames ∧ 8 + (3 + 11) + rm.locals ≤ R.locals) : CallW R s args RX12 RX12 346 yX12_canCall cX12_canCall 3 (some .boolean) (mw yX12_canCall cX12_canCall 3 (some .boolean)) rm 0 0 2 :=
  mcw_V 2 ht wd1667 wd140 wd1670 wd1669 wd80 ⟨by decide, by decide, by decide +kernel⟩ hrc hrs hR
theorem kwX12_349 (ht : ∀ w ∈ lw_g, w.before args s = true) (hrc : rm.cells = 0) (hrs : rm.slots = 0) (hR : rm.frames + 1 ≤ R.frames ∧ 8 + (4 + 11) + rm.locals ≤ R.locals) : CallW R s args RX12 RX12 349 yX12_keep cX12_keep 4 none (mw yX12_keep cX12_keep 4 none) rm 0 0 0 :=
  mcw_V 0 ht wd1679 wd140 wd1682 wd1681 wd83 ⟨by decide, by decide, by decide +kernel⟩ hrc hrs hR
theorem kwX12_352 (ht : ∀ w ∈ lw_g, w.before args s = true) (hrc : rm.cells = 0) (hrs : rm.slots = 0) (hR : rm.frames + 1 ≤ R.frames ∧ 8 + (4 + 11) + rm.locals ≤ R.locals) : CallW R s args RX12 RX12 352 yX12_callNow cX12_callNow 4 none (mw yX12_callNow cX12_callNow 4 none) rm 0 0 2 :=
  mcw_V 2 ht wd1683 wd140 wd1686 wd1685 wd84 ⟨by decide, by decide, by decide +kernel⟩ hrc hrs hR
theorem kwX12_355 (ht : ∀ w ∈ lw_g, w.before args s = true) (hrc : rm.cells = 0) (hrs : rm.slots = 0) (hR : rm.frames + 1 ≤ R.frames ∧ 8 + (3 + 11) + rm.locals ≤ R.locals) : CallW R s args RX12 RX12 355 yX12_canMove cX12_canMove 3 (some .boolean) (mw yX12_canMove cX12_canMove 3 (some .boolean)) rm 0 0 2 :=
  mcw_V 2 ht wd1695 wd140 wd1698 wd1697 wd86 ⟨by decide, by decide, by decide +kernel⟩ hrc hrs hR
theorem kwX12_358 (ht : ∀ w ∈ lw_g, w.before args s = true) (hrc : rm.cells = 0) (hrs : rm.slots = 0) (hR : rm.frames + 1 ≤ R.frames ∧ 8 + (2 + 11) + rm.locals ≤ R.locals) : CallW R s args RX12 RX12 358 yX12_isOutlaw cX12_isOutlaw 2 (some .boolean) (mw yX12_isOutlaw cX12_isOutlaw 2 (some .boolean)) rm 0 0 1 :=
  mcw_V 1 ht wd1707 wd140 wd1710 wd1709 wd88 ⟨by decide, by decide, by decide +kernel⟩ hrc hrs hR
theorem kwX12_361 (ht : ∀ w ∈ lw_g, w.before args s = true) (hrc : rm.cells = 0) (hrs : rm.slots = 0) (hR : rm.frames + 1 ≤ R.frames ∧ 8 + (3 + 11) + rm.locals ≤ R.locals) : CallW R s args RX12 RX12 361 yX12_areBeside cX12_areBeside 3 (some .boolean) (mw yX12_areBeside cX12_areBeside 3 (some .boolean)) rm 0 0 2 :=
  mcw_V 2 ht wd1703 wd140 wd1706 wd1705 wd87 ⟨by decide, by decide, by decide +kernel⟩ hrc hrs hR
theorem kwX12_364 (ht : ∀ w ∈ lw_g, w.before args s = true) (hrc : rm.cells = 0) (hrs : rm.slots = 0) (hR : rm.frames + 1 ≤ R.frames ∧ 8 + (4 + 11) + rm.locals ≤ R.locals) : CallW R s args RX12 RX12 364 yX12_feedNow cX12_feedNow 4 none (mw yX12_feedNow cX12_feedNow 4 none) rm 0 0 2 :=
  mcw_V 2 ht wd1711 wd140 wd1714 wd1713 wd89 ⟨by decide, by decide, by decide +kernel⟩ hrc hrs hR
theorem kwX12_367 (ht : ∀ w ∈ lw_g, w.before args s = true) (hrc : rm.cells = 0) (hrs : rm.slots = 0) (hR : rm.frames + 1 ≤ R.frames ∧ 8 + (2 + 11) + rm.locals ≤ R.locals) : CallW R s args RX12 RX12 367 yX12_pardonNow cX12_pardonNow 2 none (mw yX12_pardonNow cX12_pardonNow 2 none) rm 0 0 1 :=
  mcw_V 1 ht wd1790 wd140 wd1793 wd1792 wd102 ⟨by decide, by decide, by decide +kernel⟩ hrc hrs hR
theorem kwX12_370 (ht : ∀ w ∈ lw_g, w.before args s = true) (hrc : rm.cells = 0) (hrs : rm.slots = 0) (hR : rm.frames + 1 ≤ R.frames ∧ 8 + (3 + 11) + rm.locals ≤ R.locals) : CallW R s args RX12 RX12 370 yX12_killNow cX12_killNow 3 none (mw yX12_killNow cX12_killNow 3 none) rm 0 0 2 :=
  mcw_V 2 ht wd1782 wd140 wd1785 wd1784 wd100 ⟨by decide, by decide, by decide +kernel⟩ hrc hrs hR
theorem kwX12_373 (ht : ∀ w ∈ lw_g, w.before args s = true) (hrc : rm.cells = 0) (hrs : rm.slots = 0) (hR : rm.frames + 1 ≤ R.frames ∧ 8 + (3 + 11) + rm.locals ≤ R.locals) : CallW R s args RX12 RX12 373 yX12_priceOf cX12_priceOf 3 (some .int) (mw yX12_priceOf cX12_priceOf 3 (some .int)) rm 0 0 2 :=
  mcw_V 2 ht wd1802 wd140 wd1805 wd1804 wd104 ⟨by decide, by decide, by decide +kernel⟩ hrc hrs hR
theorem kwX12_376 (ht : ∀ w ∈ lw_g, w.before args s = true) (hrc : rm.cells = 0) (hrs : rm.slots = 0) (hR : rm.frames + 1 ≤ R.frames ∧ 8 + (3 + 11) + rm.locals ≤ R.locals) : CallW R s args RX12 RX12 376 yX12_canPardon cX12_canPardon 3 (some .boolean) (mw yX12_canPardon cX12_canPardon 3 (some .boolean)) rm 0 0 2 :=
  mcw_V 2 ht wd1798 wd140 wd1801 wd1800 wd103 ⟨by decide, by decide, by decide +kernel⟩ hrc hrs hR
theorem kwX12_379 (ht : ∀ w ∈ lw_g, w.before args s = true) (hrc : rm.cells = 0) (hrs : rm.slots = 0) (hR : rm.frames + 1 ≤ R.frames ∧ 8 + (4 + 11) + rm.locals ≤ R.locals) : CallW R s args RX12 RX12 379 yX12_payNow cX12_payNow 4 (some .int) (mw yX12_payNow cX12_payNow 4 (some .int)) rm 0 0 2 :=
  mcw_V 2 ht wd1806 wd140 wd1809 wd1808 wd105 ⟨by decide, by decide, by decide +kernel⟩ hrc hrs hR
theorem kwX12_382 (ht : ∀ w ∈ lw_g, w.before args s = true) (hrc : rm.cells = 0) (hrs : rm.slots = 0) (hR : rm.frames + 1 ≤ R.frames ∧ 8 + (2 + 11) + rm.locals ≤ R.locals) : CallW R s args RX12 RX12 382 yX12_goOn cX12_goOn 2 none (mw yX12_goOn cX12_goOn 2 none) rm 0 0 0 :=
  mcw_V 0 ht wd1818 wd140 wd1821 wd1820 wd107 ⟨by decide, by decide, by decide +kernel⟩ hrc hrs hR
theorem kwX12_385 (ht : ∀ w ∈ lw_g, w.before args s = true) (hrc : rm.cells = 0) (hrs : rm.slots = 0) (hR : rm.frames + 1 ≤ R.frames ∧ 8 + (3 + 11) + rm.locals ≤ R.locals) : CallW R s args RX12 RX12 385 yX12_arePassed cX12_arePassed 3 (some .boolean) (mw yX12_arePassed cX12_arePassed 3 (some .boolean)) rm 0 0 1 :=
  mcw_V 1 ht wd1814 wd140 wd1817 wd1816 wd106 ⟨by decide, by decide, by decide +kernel⟩ hrc hrs hR
theorem kwX12_388 (ht : ∀ w ∈ lw_g, w.before args s = true) (hrc : rm.cells = 0) (hrs : rm.slots = 0) (hR : rm.frames + 1 ≤ R.frames ∧ 8 + (2 + 11) + rm.locals ≤ R.locals) : CallW R s args RX12 RX12 388 yX12_land cX12_land 2 (some .int) (mw yX12_land cX12_land 2 (some .int)) rm 0 0 1 :=
  mcw_V 1 ht wd1842 wd140 wd1463 wd1461 wd1462 ⟨by decide, by decide, by decide +kernel⟩ hrc hrs hR
theorem kwX12_391 (ht : ∀ w ∈ lw_g, w.before args s = true) (hrc : rm.cells = 0) (hrs : rm.slots = 0) (hR : rm.frames + 1 ≤ R.frames ∧ 8 + (3 + 11) + rm.locals ≤ R.locals) : CallW R s args RX12 RX12 391 yX12_road cX12_road 3 (some .boolean) (mw yX12_road cX12_road 3 (some .boolean)) rm 0 0 2 :=
  mcw_V 2 ht wd1843 wd140 wd1470 wd1468 wd1469 ⟨by decide, by decide, by decide +kernel⟩ hrc hrs hR
theorem kwX12_394 (ht : ∀ w ∈ lw_g, w.before args s = true) (hrc : rm.cells = 0) (hrs : rm.slots = 0) (hR : rm.frames + 1 ≤ R.frames ∧ 8 + (6 + 11) + rm.locals ≤ R.locals) : CallW R s args RX12 RX12 394 yX12_person cX12_person 6 (some .int) (mw yX12_person cX12_person 6 (some .int)) rm 0 0 4 :=
  mcw_V 4 ht wd1844 wd140 wd1481 wd1479 wd1480 ⟨by decide, by decide, by decide +kernel⟩ hrc hrs hR
theorem kwX12_397 (ht : ∀ w ∈ lw_g, w.before args s = true) (hrc : rm.cells = 0) (hrs : rm.slots = 0) (hR : rm.frames + 1 ≤ R.frames ∧ 8 + (3 + 11) + rm.locals ≤ R.locals) : CallW R s args RX12 RX12 397 yX12_call cX12_call 3 (some .int) (mw yX12_call cX12_call 3 (some .int)) rm 0 0 2 :=
  mcw_V 2 ht wd1845 wd140 wd1666 wd1664 wd1665 ⟨by decide, by decide, by decide +kernel⟩ hrc hrs hR
theorem kwX12_400 (ht : ∀ w ∈ lw_g, w.before args s = true) (hrc : rm.cells = 0) (hrs : rm.slots = 0) (hR : rm.frames + 1 ≤ R.frames ∧ 8 + (3 + 11) + rm.locals ≤ R.locals) : CallW R s args RX12 RX12 400 yX12_move cX12_move 3 (some .boolean) (mw yX12_move cX12_move 3 (some .boolean)) rm 0 0 2 :=
  mcw_V 2 ht wd1846 wd140 wd1694 wd1692 wd1693 ⟨by decide, by decide, by decide +kernel⟩ hrc hrs hR
theorem kwX12_403 (ht : ∀ w ∈ lw_g, w.before args s = true) (hrc : rm.cells = 0) (hrs : rm.slots = 0) (hR : rm.frames + 1 ≤ R.frames ∧ 8 + (3 + 11) + rm.locals ≤ R.locals) : CallW R s args RX12 RX12 403 yX12_feeds cX12_feeds 3 (some .int) (mw yX12_feeds cX12_feeds 3 (some .int)) rm 0 0 2 :=
  mcw_V 2 ht wd1847 wd140 wd1702 wd1700 wd1701 ⟨by decide, by decide, by decide +kernel⟩ hrc hrs hR
theorem kwX12_406 (ht : ∀ w ∈ lw_g, w.before args s = true) (hrc : rm.cells = 0) (hrs : rm.slots = 0) (hR : rm.frames + 1 ≤ R.frames ∧ 8 + (3 + 11) + rm.locals ≤ R.locals) : CallW R s args RX12 RX12 406 yX12_kill cX12_kill 3 (some .boolean) (mw yX12_kill cX12_kill 3 (some .boolean)) rm 0 0 2 :=
  mcw_V 2 ht wd1848 wd140 wd1781 wd1779 wd1780 ⟨by decide, by decide, by decide +kernel⟩ hrc hrs hR
theorem kwX12_409 (ht : ∀ w ∈ lw_g, w.before args s = true) (hrc : rm.cells = 0) (hrs : rm.slots = 0) (hR : rm.frames + 1 ≤ R.frames ∧ 8 + (3 + 11) + rm.locals ≤ R.locals) : CallW R s args RX12 RX12 409 yX12_pardon cX12_pardon 3 (some .int) (mw yX12_pardon cX12_pardon 3 (some .int)) rm 0 0 2 :=
  mcw_V 2 ht wd1849 wd140 wd1797 wd1795 wd1796 ⟨by decide, by decide, by decide +kernel⟩ hrc hrs hR
theorem kwX12_412 (ht : ∀ w ∈ lw_g, w.before args s = true) (hrc : rm.cells = 0) (hrs : rm.slots = 0) (hR : rm.frames + 1 ≤ R.frames ∧ 8 + (4 + 11) + rm.locals ≤ R.locals) : CallW R s args RX12 RX12 412 yX12_isPlayed cX12_isPlayed 4 (some .boolean) (mw yX12_isPlayed cX12_isPlayed 4 (some .boolean)) rm 0 0 1 :=
  mcw_V 1 ht wd1838 wd140 wd1841 wd1840 wd111 ⟨by decide, by decide, by decide +kernel⟩ hrc hrs hR
theorem kwX12_415 (ht : ∀ w ∈ lw_g, w.before args s = true) (hrc : rm.cells = 0) (hrs : rm.slots = 0) (hR : rm.frames + 1 ≤ R.frames ∧ 8 + (5 + 11) + rm.locals ≤ R.locals) : CallW R s args RX12 RX12 415 yX12_happens cX12_happens 5 none (mw yX12_happens cX12_happens 5 none) rm 0 0 1 :=
  mcw_V 1 ht wd1854 wd140 wd1857 wd1856 wd112 ⟨by decide, by decide, by decide +kernel⟩ hrc hrs hR
theorem kwX12_418 (ht : ∀ w ∈ lw_g, w.before args s = true) (hrc : rm.cells = 0) (hrs : rm.slots = 0) (hR : rm.frames + 1 ≤ R.frames ∧ 8 + (4 + 11) + rm.locals ≤ R.locals) : CallW R s args RX12 RX12 418 yX12_aliveIn cX12_aliveIn 4 (some .int) (mw yX12_aliveIn cX12_aliveIn 4 (some .int)) rm 0 0 1 :=
  mcw_V 1 ht wd1866 wd140 wd1869 wd1868 wd113 ⟨by decide, by decide, by decide +kernel⟩ hrc hrs hR
theorem kwX12_421 (ht : ∀ w ∈ lw_g, w.before args s = true) (hrc : rm.cells = 0) (hrs : rm.slots = 0) (hR : rm.frames + 1 ≤ R.frames ∧ 8 + (1 + 11) + rm.locals ≤ R.locals) : CallW R s args RX12 RX12 421 yX12_shown cX12_shown 1 (some .int) (mw yX12_shown cX12_shown 1 (some .int)) rm 0 0 0 :=
  mcw_V 0 ht wd1878 wd140 wd1881 wd1880 wd114 ⟨by decide, by decide, by decide +kernel⟩ hrc hrs hR
theorem kwX12_424 (ht : ∀ w ∈ lw_g, w.before args s = true) (hrc : rm.cells = 0) (hrs : rm.slots = 0) (hR : rm.frames + 1 ≤ R.frames ∧ 8 + (4 + 11) + rm.locals ≤ R.locals) : CallW R s args RX12 RX12 424 yX12_entry cX12_entry 4 (some .int) (mw yX12_entry cX12_entry 4 (some .int)) rm 0 0 2 :=
  mcw_V 2 ht wd1882 wd140 wd1885 wd1884 wd115 ⟨by decide, by decide, by decide +kernel⟩ hrc hrs hR
theorem kwX12_427 (ht : ∀ w ∈ lw_g, w.before args s = true) (hrc : rm.cells = 0) (hrs : rm.slots = 0) (hR : rm.frames + 1 ≤ R.frames ∧ 8 + (3 + 11) + rm.locals ≤ R.locals) : CallW R s args RX12 RX12 427 yX12_wolves cX12_wolves 3 (some .int) (mw yX12_wolves cX12_wolves 3 (some .int)) rm 0 0 0 :=
  mcw_V 0 ht wd1902 wd140 wd1897 wd1895 wd1896 ⟨by decide, by decide, by decide +kernel⟩ hrc hrs hR
theorem kwX12_430 (ht : ∀ w ∈ lw_g, w.before args s = true) (hrc : rm.cells = 0) (hrs : rm.slots = 0) (hR : rm.frames + 1 ≤ R.frames ∧ 8 + (2 + 11) + rm.locals ≤ R.locals) : CallW R s args RX12 RX12 430 yX12_setAside cX12_setAside 2 none (mw yX12_setAside cX12_setAside 2 none) rm 0 0 0 :=
  mcw_V 0 ht wd1907 wd140 wd1910 wd1909 wd116 ⟨by decide, by decide, by decide +kernel⟩ hrc hrs hR
theorem kwX12_433 (ht : ∀ w ∈ lw_g, w.before args s = true) (hrc : rm.cells = 0) (hrs : rm.slots = 0) (hR : rm.frames + 1 ≤ R.frames ∧ 8 + (2 + 11) + rm.locals ≤ R.locals) : CallW R s args RX12 RX12 433 yX12_putBack cX12_putBack 2 none (mw yX12_putBack cX12_putBack 2 none) rm 0 0 0 :=
  mcw_V 0 ht wd1911 wd140 wd1914 wd1913 wd117 ⟨by decide, by decide, by decide +kernel⟩ hrc hrs hR
theorem kwX12_436 (ht : ∀ w ∈ lw_g, w.before args s = true) (hrc : rm.cells = 0) (hrs : rm.slots = 0) (hR : rm.frames + 1 ≤ R.frames ∧ 8 + (2 + 11) + rm.locals ≤ R.locals) : CallW R s args RX12 RX12 436 yX12_reachOf cX12_reachOf 2 (some .int) (mw yX12_reachOf cX12_reachOf 2 (some .int)) rm 0 0 1 :=
  mcw_V 1 ht wd1931 wd140 wd1934 wd1933 wd120 ⟨by decide, by decide, by decide +kernel⟩ hrc hrs hR
theorem kwX12_439 (ht : ∀ w ∈ lw_g, w.before args s = true) (hrc : rm.cells = 0) (hrs : rm.slots = 0) (hR : rm.frames + 1 ≤ R.frames ∧ 8 + (5 + 11) + rm.locals ≤ R.locals) : CallW R s args RX12 RX12 439 yX12_nextFrom cX12_nextFrom 5 (some .int) (mw yX12_nextFrom cX12_nextFrom 5 (some .int)) rm 0 0 2 :=
  mcw_V 2 ht wd1927 wd140 wd1930 wd1929 wd119 ⟨by decide, by decide, by decide +kernel⟩ hrc hrs hR
theorem kwX12_442 (ht : ∀ w ∈ lw_g, w.before args s = true) (hrc : rm.cells = 0) (hrs : rm.slots = 0) (hR : rm.frames + 1 ≤ R.frames ∧ 8 + (6 + 11) + rm.locals ≤ R.locals) : CallW R s args RX12 RX12 442 yX12_layLikely cX12_layLikely 6 none (mw yX12_layLikely cX12_layLikely 6 none) rm 0 0 2 :=
  mcw_V 2 ht wd1923 wd140 wd1926 wd1925 wd118 ⟨by decide, by decide, by decide +kernel⟩ hrc hrs hR
theorem kwX12_445 (ht : ∀ w ∈ lw_g, w.before args s = true) (hrc : rm.cells = 0) (hrs : rm.slots = 0) (hR : rm.frames + 1 ≤ R.frames ∧ 8 + (5 + 11) + rm.locals ≤ R.locals) : CallB R s args RX12 445 yX12_common cX12_common 5 (some .int) (mw yX12_common cX12_common 5 (some .int)) rm 0 0 2 ∧ (Cond.static yX12_common).before args s = true :=
  mcw_S 2 ht wd1935 wd140 wd1937 wd1936 ⟨by decide, by decide, by decide +kernel⟩ hrc hrs hR
theorem kwX12_448 (ht : ∀ w ∈ lw_g, w.before args s = true) (hrc : rm.cells = 0) (hrs : rm.slots = 0) (hR : rm.frames + 1 ≤ R.frames ∧ 8 + (3 + 11) + rm.locals ≤ R.locals) : CallW R s args RX12 RX12 448 yX12_lowestFrom cX12_lowestFrom 3 (some .int) (mw yX12_lowestFrom cX12_lowestFrom 3 (some .int)) rm 0 0 1 :=
  mcw_V 1 ht wd1938 wd140 wd1941 wd1940 wd121 ⟨by decide, by decide, by decide +kernel⟩ hrc hrs hR
theorem kwX12_451 (ht : ∀ w ∈ lw_g, w.before args s = true) (hrc : rm.cells = 0) (hrs : rm.slots = 0) (hR : rm.frames + 1 ≤ R.frames ∧ 8 + (5 + 11) + rm.locals ≤ R.locals) : CallW R s args RX12 RX12 451 yX12_spread cX12_spread 5 (some .int) (mw yX12_spread cX12_spread 5 (some .int)) rm 0 0 2 :=
  mcw_V 2 ht wd1946 wd140 wd1949 wd1948 wd122 ⟨by decide, by decide, by decide +kernel⟩ hrc hrs hR
theorem kwX12_454 (ht : ∀ w ∈ lw_g, w.before args s = true) (hrc : rm.cells = 0) (hrs : rm.slots = 0) (hR : rm.frames + 1 ≤ R.frames ∧ 8 + (6 + 11) + rm.locals ≤ R.locals) : CallW R s args RX12 RX12 454 yX12_isJoined cX12_isJoined 6 (some .boolean) (mw yX12_isJoined cX12_isJoined 6 (some .boolean)) rm 0 0 3 :=
  mcw_V 3 ht wd1970 wd140 wd1973 wd1972 wd123 ⟨by decide, by decide, by decide +kernel⟩ hrc hrs hR
theorem kwX12_457 (ht : ∀ w ∈ lw_g, w.before args s = true) (hrc : rm.cells = 0) (hrs : rm.slots = 0) (hR : rm.frames + 1 ≤ R.frames ∧ 8 + (8 + 11) + rm.locals ≤ R.locals) : CallW R s args RX12 RX12 457 yX12_wasAt cX12_wasAt 8 (some .int) (mw yX12_wasAt cX12_wasAt 8 (some .int)) rm 0 0 2 :=
  mcw_V 2 ht wd1982 wd140 wd1985 wd1984 wd124 ⟨by decide, by decide, by decide +kernel⟩ hrc hrs hR
theorem kwX12_460 (ht : ∀ w ∈ lw_g, w.before args s = true) (hrc : rm.cells = 0) (hrs : rm.slots = 0) (hR : rm.frames + 1 ≤ R.frames ∧ 8 + (6 + 11) + rm.locals ≤ R.locals) : CallW R s args RX12 RX12 460 yX12_canBe cX12_canBe 6 (some .boolean) (mw yX12_canBe cX12_canBe 6 (some .boolean)) rm 0 0 2 :=
  mcw_V 2 ht wd2002 wd140 wd2005 wd2004 wd126 ⟨by decide, by decide, by decide +kernel⟩ hrc hrs hR
theorem kwX12_463 (ht : ∀ w ∈ lw_g, w.before args s = true) (hrc : rm.cells = 0) (hrs : rm.slots = 0) (hR : rm.frames + 1 ≤ R.frames ∧ 8 + (4 + 11) + rm.locals ≤ R.locals) : CallW R s args RX12 RX12 463 yX12_isExplained cX12_isExplained 4 (some .boolean) (mw yX12_isExplained cX12_isExplained 4 (some .boolean)) rm 0 0 1 :=
  mcw_V 1 ht wd1998 wd140 wd2001 wd2000 wd125 ⟨by decide, by decide, by decide +kernel⟩ hrc hrs hR
end
abbrev WM (h : Nat) (q : Nat → Nat) (cI cJ cZ : ClassId) (v_a : Nat → Int32) (v_image : Nat → Int32) (v_texts : Nat → Int32) (v_tape : Nat → Int32) (v_taped : Int32) (v_fault : Int32) (v_faultPlace : Int32) (v_at : Int32) (v_place : Int32) (v_token : Int32) (v_number : Int32) (v_word : Int64) (v_text0 : Int32) (v_written : Int32) (v_sort0 : Int32) (v_pile : Nat → Int32) (v_piled : Int32) (v_opens : Int32) (v_isWhole : Int32) (v_once : Int32) (v_named : Nat → Int32) (v_values : Nat → Int64) (v_truth : Nat → Int32) (v_isWritten : Int32) (v_died : Int32) (v_aside : Nat → Int32) (v_likely : Nat → Int32) (v_safe : Nat → Int32) (v_headOf : Nat → Int32) : va_W := [(h, .inr (12, [.ref (q 0), .ref (q 1), .ref (q 2), .ref (q 3), .int v_taped, .int v_fault, .int v_faultPlace, .int v_at, .int v_place, .int v_token, .int v_number, .long v_word, .int v_text0, .int v_written, .int v_sort0, .ref (q 4), .int v_piled, .int v_opens, .int v_isWhole, .int v_once, .ref (q 5), .ref (q 6), .ref (q 7), .int v_isWritten, .int v_died, .ref (q 8), .ref (q 9), .ref (q 10), .ref (q 11)])), ((q 0), .inl (cI, 8762, .inl v_a)), ((q 1), .inl (cI, 8762, .inl v_image)), ((q 2), .inl (cI, 2916, .inl v_texts)), ((q 3), .inl (cI, 300, .inl v_tape)), ((q 4), .inl (cI, 160, .inl v_pile)), ((q 5), .inl (cI, 10, .inl v_named)), ((q 6), .inl (cJ, 330, .inr (.inl v_values))), ((q 7), .inl (cZ, 330, .inl v_truth)), ((q 8), .inl (cI, 80, .inl v_aside)), ((q 9), .inl (cI, 56, .inl v_likely)), ((q 10), .inl (cI, 8, .inl v_safe)), ((q 11), .inl (cI, 8, .inl v_headOf))]
abbrev WC2 (qa qb : Nat) (cI : ClassId) (fr to : Nat → Int32) : va_W := [(qa, .inl (cI, 8762, .inl fr)), (qb, .inl (cI, 8762, .inl to))]
