set_option maxRecDepth 100000 in
theorem cw0 : Cond.methodLink RX2 3 Lib.objectInit ∈ lw_g := in_g (t1_in (List.mem_of_getElem? (i := 40) rfl)) rfl
set_option maxRecDepth 100000 in
theorem cw1 : Cond.instanceMethod Lib.objectInit ∈ lw_g := in_g (t1_in (List.mem_of_getElem? (i := 27) rfl)) rfl
set_option maxRecDepth 100000 in
theorem cw2 : Cond.code Lib.objectInit ⟨#[0xb1]⟩ 1 none ∈ lw_g := in_g (t1_in (List.mem_of_getElem? (i := 28) rfl)) rfl
set_option maxRecDepth 100000 in
theorem cw3 : Cond.fieldLink RX2 9 "WolfsHead$Lands" "count" "I" ∈ lw_g := in_g (t1_in (List.mem_of_getElem? (i := 41) rfl)) rfl
set_option maxRecDepth 100000 in
theorem cw4 : Cond.arrayClass .int ∈ lw_g := in_g (t1_in (List.mem_of_getElem? (i := 53) rfl)) rfl
set_option maxRecDepth 100000 in
theorem cw5 : Cond.fieldLink RX2 15 "WolfsHead$Lands" "forests" "[I" ∈ lw_g := in_g (t1_in (List.mem_of_getElem? (i := 44) rfl)) rfl
set_option maxRecDepth 100000 in
theorem cw6 : Cond.fieldLink RX2 19 "WolfsHead$Lands" "roads" "[I" ∈ lw_g := in_g (t1_in (List.mem_of_getElem? (i := 45) rfl)) rfl
set_option maxRecDepth 100000 in
theorem cw7 : Cond.methodLink RX1 5 Lib.objectInit ∈ lw_g := in_g (t1_in (List.mem_of_getElem? (i := 59) rfl)) rfl
set_option maxRecDepth 100000 in
theorem cw8 : Cond.fieldLink RX1 11 "WolfsHead$Folk" "row" "[I" ∈ lw_g := in_g (t1_in (List.mem_of_getElem? (i := 60) rfl)) rfl
set_option maxRecDepth 100000 in
theorem cw9 : Cond.fieldLink RX1 15 "WolfsHead$Folk" "fears" "[I" ∈ lw_g := in_g (t1_in (List.mem_of_getElem? (i := 61) rfl)) rfl
set_option maxRecDepth 100000 in
theorem cw10 : Cond.fieldLink RX1 18 "WolfsHead$Folk" "asTold" "[I" ∈ lw_g := in_g (t1_in (List.mem_of_getElem? (i := 62) rfl)) rfl
set_option maxRecDepth 100000 in
theorem cw11 : Cond.methodLink RX7 5 Lib.objectInit ∈ lw_g := in_g (t1_in (List.mem_of_getElem? (i := 75) rfl)) rfl
set_option maxRecDepth 100000 in
theorem cw12 : Cond.fieldLink RX7 11 "WolfsHead$Steps" "count" "I" ∈ lw_g := in_g (t1_in (List.mem_of_getElem? (i := 76) rfl)) rfl
set_option maxRecDepth 100000 in
theorem cw13 : Cond.fieldLink RX7 15 "WolfsHead$Steps" "next" "I" ∈ lw_g := in_g (t1_in (List.mem_of_getElem? (i := 78) rfl)) rfl
set_option maxRecDepth 100000 in
theorem cw14 : Cond.fieldLink RX7 20 "WolfsHead$Steps" "store" "[I" ∈ lw_g := in_g (t1_in (List.mem_of_getElem? (i := 79) rfl)) rfl
set_option maxRecDepth 100000 in
theorem cw15 : Cond.methodLink RX4 3 Lib.objectInit ∈ lw_g := in_g (t1_in (List.mem_of_getElem? (i := 92) rfl)) rfl
set_option maxRecDepth 100000 in
theorem cw16 : Cond.fieldLink RX4 9 "WolfsHead$Notes" "calls" "I" ∈ lw_g := in_g (t1_in (List.mem_of_getElem? (i := 93) rfl)) rfl
set_option maxRecDepth 100000 in
theorem cw17 : Cond.fieldLink RX4 15 "WolfsHead$Notes" "bordering" "I" ∈ lw_g := in_g (t1_in (List.mem_of_getElem? (i := 96) rfl)) rfl
set_option maxRecDepth 100000 in
theorem cw18 : Cond.fieldLink RX4 18 "WolfsHead$Notes" "reportCount" "I" ∈ lw_g := in_g (t1_in (List.mem_of_getElem? (i := 98) rfl)) rfl
set_option maxRecDepth 100000 in
theorem cw19 : Cond.fieldLink RX4 21 "WolfsHead$Notes" "unlikes" "I" ∈ lw_g := in_g (t1_in (List.mem_of_getElem? (i := 100) rfl)) rfl
set_option maxRecDepth 100000 in
theorem cw20 : Cond.fieldLink RX4 24 "WolfsHead$Notes" "payments" "I" ∈ lw_g := in_g (t1_in (List.mem_of_getElem? (i := 102) rfl)) rfl
set_option maxRecDepth 100000 in
theorem cw21 : Cond.fieldLink RX4 27 "WolfsHead$Notes" "callLands" "[I" ∈ lw_g := in_g (t1_in (List.mem_of_getElem? (i := 104) rfl)) rfl
set_option maxRecDepth 100000 in
theorem cw22 : Cond.fieldLink RX4 31 "WolfsHead$Notes" "unlikeTo" "[I" ∈ lw_g := in_g (t1_in (List.mem_of_getElem? (i := 105) rfl)) rfl
set_option maxRecDepth 100000 in
theorem cw23 : Cond.fieldLink RX4 34 "WolfsHead$Notes" "owners" "[I" ∈ lw_g := in_g (t1_in (List.mem_of_getElem? (i := 106) rfl)) rfl
set_option maxRecDepth 100000 in
theorem cw24 : Cond.fieldLink RX4 37 "WolfsHead$Notes" "gains" "[I" ∈ lw_g := in_g (t1_in (List.mem_of_getElem? (i := 107) rfl)) rfl
set_option maxRecDepth 100000 in
theorem cw25 : Cond.fieldLink RX4 40 "WolfsHead$Notes" "payers" "[I" ∈ lw_g := in_g (t1_in (List.mem_of_getElem? (i := 108) rfl)) rfl
set_option maxRecDepth 100000 in
theorem cw26 : Cond.fieldLink RX4 43 "WolfsHead$Notes" "prices" "[I" ∈ lw_g := in_g (t1_in (List.mem_of_getElem? (i := 109) rfl)) rfl
set_option maxRecDepth 100000 in
theorem cw27 : Cond.methodLink RX8 3 Lib.objectInit ∈ lw_g := in_g (t1_in (List.mem_of_getElem? (i := 172) rfl)) rfl
set_option maxRecDepth 100000 in
theorem cw28 : Cond.fieldLink RX8 9 "WolfsHead$Tape" "length" "I" ∈ lw_g := in_g (t1_in (List.mem_of_getElem? (i := 173) rfl)) rfl
set_option maxRecDepth 100000 in
theorem cw29 : Cond.fieldLink RX8 15 "WolfsHead$Tape" "tokens" "I" ∈ lw_g := in_g (t1_in (List.mem_of_getElem? (i := 175) rfl)) rfl
set_option maxRecDepth 100000 in
theorem cw30 : Cond.arrayClass .byte ∈ lw_g := in_g (t1_in (List.mem_of_getElem? (i := 194) rfl)) rfl
set_option maxRecDepth 100000 in
theorem cw31 : Cond.fieldLink RX8 18 "WolfsHead$Tape" "bytes" "[B" ∈ lw_g := in_g (t1_in (List.mem_of_getElem? (i := 177) rfl)) rfl
set_option maxRecDepth 100000 in
theorem cw32 : Cond.fieldLink RX8 22 "WolfsHead$Tape" "kinds" "[I" ∈ lw_g := in_g (t1_in (List.mem_of_getElem? (i := 178) rfl)) rfl
set_option maxRecDepth 100000 in
theorem cw33 : Cond.fieldLink RX8 26 "WolfsHead$Tape" "places" "[I" ∈ lw_g := in_g (t1_in (List.mem_of_getElem? (i := 179) rfl)) rfl
set_option maxRecDepth 100000 in
theorem cw34 : Cond.fieldLink RX8 29 "WolfsHead$Tape" "numbers" "[I" ∈ lw_g := in_g (t1_in (List.mem_of_getElem? (i := 180) rfl)) rfl
set_option maxRecDepth 100000 in
theorem cw35 : Cond.methodLink RX9 5 Lib.objectInit ∈ lw_g := in_g (t2_in (List.mem_of_getElem? (i := 65) rfl)) rfl
set_option maxRecDepth 100000 in
theorem cw36 : Cond.fieldLink RX9 11 "WolfsHead$Text" "clauses" "I" ∈ lw_g := in_g (t2_in (List.mem_of_getElem? (i := 66) rfl)) rfl
set_option maxRecDepth 100000 in
theorem cw37 : Cond.fieldLink RX9 17 "WolfsHead$Text" "length" "I" ∈ lw_g := in_g (t2_in (List.mem_of_getElem? (i := 68) rfl)) rfl
set_option maxRecDepth 100000 in
theorem cw38 : Cond.fieldLink RX9 20 "WolfsHead$Text" "parts" "I" ∈ lw_g := in_g (t2_in (List.mem_of_getElem? (i := 69) rfl)) rfl
set_option maxRecDepth 100000 in
theorem cw39 : Cond.fieldLink RX9 23 "WolfsHead$Text" "code" "[I" ∈ lw_g := in_g (t2_in (List.mem_of_getElem? (i := 70) rfl)) rfl
set_option maxRecDepth 100000 in
theorem cw40 : Cond.fieldLink RX9 27 "WolfsHead$Text" "starts" "[I" ∈ lw_g := in_g (t2_in (List.mem_of_getElem? (i := 71) rfl)) rfl
set_option maxRecDepth 100000 in
theorem cw41 : Cond.fieldLink RX9 30 "WolfsHead$Text" "ends" "[I" ∈ lw_g := in_g (t2_in (List.mem_of_getElem? (i := 72) rfl)) rfl
set_option maxRecDepth 100000 in
theorem cw42 : Cond.fieldLink RX9 33 "WolfsHead$Text" "rows" "[I" ∈ lw_g := in_g (t2_in (List.mem_of_getElem? (i := 73) rfl)) rfl
set_option maxRecDepth 100000 in
theorem cw43 : Cond.methodLink RX10 7 Lib.objectInit ∈ lw_g := in_g (t2_in (List.mem_of_getElem? (i := 24) rfl)) rfl
set_option maxRecDepth 100000 in
theorem cw44 : Cond.fieldLink RX10 13 "WolfsHead$Ways" "upper" "I" ∈ lw_g := in_g (t2_in (List.mem_of_getElem? (i := 25) rfl)) rfl
set_option maxRecDepth 100000 in
theorem cw45 : Cond.fieldLink RX10 17 "WolfsHead$Ways" "lower" "I" ∈ lw_g := in_g (t2_in (List.mem_of_getElem? (i := 27) rfl)) rfl
set_option maxRecDepth 100000 in
theorem cw46 : Cond.fieldLink RX10 20 "WolfsHead$Ways" "gone" "I" ∈ lw_g := in_g (t2_in (List.mem_of_getElem? (i := 29) rfl)) rfl
set_option maxRecDepth 100000 in
theorem cw47 : Cond.fieldLink RX10 23 "WolfsHead$Ways" "may" "I" ∈ lw_g := in_g (t2_in (List.mem_of_getElem? (i := 31) rfl)) rfl
set_option maxRecDepth 100000 in
theorem cw48 : Cond.fieldLink RX10 26 "WolfsHead$Ways" "must" "I" ∈ lw_g := in_g (t2_in (List.mem_of_getElem? (i := 33) rfl)) rfl
set_option maxRecDepth 100000 in
theorem cw49 : Cond.fieldLink RX10 29 "WolfsHead$Ways" "lives" "[I" ∈ lw_g := in_g (t2_in (List.mem_of_getElem? (i := 35) rfl)) rfl
set_option maxRecDepth 100000 in
theorem cw50 : Cond.fieldLink RX10 33 "WolfsHead$Ways" "best" "[I" ∈ lw_g := in_g (t2_in (List.mem_of_getElem? (i := 36) rfl)) rfl
set_option maxRecDepth 100000 in
theorem cw51 : Cond.fieldLink RX10 36 "WolfsHead$Ways" "way" "[I" ∈ lw_g := in_g (t2_in (List.mem_of_getElem? (i := 37) rfl)) rfl
set_option maxRecDepth 100000 in
theorem cw52 : Cond.fieldLink RX10 39 "WolfsHead$Ways" "ends" "[I" ∈ lw_g := in_g (t2_in (List.mem_of_getElem? (i := 38) rfl)) rfl
set_option maxRecDepth 100000 in
theorem cw53 : Cond.fieldLink RX10 42 "WolfsHead$Ways" "begins" "[I" ∈ lw_g := in_g (t2_in (List.mem_of_getElem? (i := 39) rfl)) rfl
set_option maxRecDepth 100000 in
theorem cw54 : Cond.methodLink RX5 3 Lib.objectInit ∈ lw_g := in_g (t1_in (List.mem_of_getElem? (i := 200) rfl)) rfl
set_option maxRecDepth 100000 in
theorem cw55 : Cond.fieldLink RX5 9 "WolfsHead$Reader" "fault" "I" ∈ lw_g := in_g (t1_in (List.mem_of_getElem? (i := 201) rfl)) rfl
set_option maxRecDepth 100000 in
theorem cw56 : Cond.fieldLink RX5 15 "WolfsHead$Reader" "place" "I" ∈ lw_g := in_g (t1_in (List.mem_of_getElem? (i := 203) rfl)) rfl
set_option maxRecDepth 100000 in
theorem cw57 : Cond.fieldLink RX5 18 "WolfsHead$Reader" "text" "LWolfsHead$Text;" ∈ lw_g := in_g (t1_in (List.mem_of_getElem? (i := 206) rfl)) rfl
set_option maxRecDepth 100000 in
theorem cw58 : Cond.fieldLink RX5 22 "WolfsHead$Reader" "at" "I" ∈ lw_g := in_g (t1_in (List.mem_of_getElem? (i := 207) rfl)) rfl
set_option maxRecDepth 100000 in
theorem cw59 : Cond.fieldLink RX5 25 "WolfsHead$Reader" "law" "I" ∈ lw_g := in_g (t1_in (List.mem_of_getElem? (i := 208) rfl)) rfl
set_option maxRecDepth 100000 in
theorem cw60 : Cond.fieldLink RX5 28 "WolfsHead$Reader" "tape" "LWolfsHead$Tape;" ∈ lw_g := in_g (t1_in (List.mem_of_getElem? (i := 205) rfl)) rfl
set_option maxRecDepth 100000 in
theorem cw61 : Cond.methodLink RX3 3 Lib.objectInit ∈ lw_g := in_g (t1_in (List.mem_of_getElem? (i := 227) rfl)) rfl
set_option maxRecDepth 100000 in
theorem cw62 : Cond.fieldLink RX3 11 "WolfsHead$Laws" "names" "[I" ∈ lw_g := in_g (t1_in (List.mem_of_getElem? (i := 230) rfl)) rfl
set_option maxRecDepth 100000 in
theorem cw63 : Cond.fieldLink RX3 15 "WolfsHead$Laws" "stack" "[I" ∈ lw_g := in_g (t1_in (List.mem_of_getElem? (i := 231) rfl)) rfl
set_option maxRecDepth 100000 in
theorem cw64 : Cond.fieldLink RX3 18 "WolfsHead$Laws" "realm" "LWolfsHead$Realm;" ∈ lw_g := in_g (t1_in (List.mem_of_getElem? (i := 228) rfl)) rfl
set_option maxRecDepth 100000 in
theorem cw65 : Cond.fieldLink RX3 22 "WolfsHead$Laws" "texts" "[LWolfsHead$Text;" ∈ lw_g := in_g (t1_in (List.mem_of_getElem? (i := 229) rfl)) rfl
set_option maxRecDepth 100000 in
theorem cw66 : Cond.methodLink RX0 3 Lib.objectInit ∈ lw_g := in_g (t2_in (List.mem_of_getElem? (i := 6) rfl)) rfl
set_option maxRecDepth 100000 in
theorem cw67 : Cond.fieldLink RX0 9 "WolfsHead$Deeds" "realm" "LWolfsHead$Realm;" ∈ lw_g := in_g (t2_in (List.mem_of_getElem? (i := 7) rfl)) rfl
set_option maxRecDepth 100000 in
theorem cw68 : Cond.fieldLink RX0 15 "WolfsHead$Deeds" "folk" "LWolfsHead$Folk;" ∈ lw_g := in_g (t2_in (List.mem_of_getElem? (i := 8) rfl)) rfl
set_option maxRecDepth 100000 in
theorem cw69 : Cond.fieldLink RX0 19 "WolfsHead$Deeds" "laws" "LWolfsHead$Laws;" ∈ lw_g := in_g (t2_in (List.mem_of_getElem? (i := 9) rfl)) rfl
set_option maxRecDepth 100000 in
theorem cw70 : Cond.methodLink RX6 3 Lib.objectInit ∈ lw_g := in_g (t1_in (List.mem_of_getElem? (i := 34) rfl)) rfl
set_option maxRecDepth 100000 in
theorem cw71 : Cond.classLink RX6 9 RX2 ∈ lw_g := in_g (t1_in (List.mem_of_getElem? (i := 35) rfl)) rfl
set_option maxRecDepth 100000 in
theorem cw72 : Cond.instantiable RX2 3 ∈ lw_g := in_g (t1_in (List.mem_of_getElem? (i := 36) rfl)) rfl
set_option maxRecDepth 100000 in
theorem cw73 : Cond.initialized RX2 ∈ lw_g := in_g (t1_in (List.mem_of_getElem? (i := 3) rfl)) rfl
set_option maxRecDepth 100000 in
theorem cw74 : Cond.instanceMethod yX2_init ∈ lw_g := in_g (t1_in (List.mem_of_getElem? (i := 38) rfl)) rfl
set_option maxRecDepth 100000 in
theorem cw75 : Cond.code yX2_init cX2_init 1 none ∈ lw_g := in_g (t1_in (List.mem_of_getElem? (i := 39) rfl)) rfl
set_option maxRecDepth 100000 in
theorem cw76 : Cond.fieldLink RX6 12 "WolfsHead$Realm" "lands" "LWolfsHead$Lands;" ∈ lw_g := in_g (t1_in (List.mem_of_getElem? (i := 133) rfl)) rfl
set_option maxRecDepth 100000 in
theorem cw77 : Cond.classLink RX6 18 RX1 ∈ lw_g := in_g (t1_in (List.mem_of_getElem? (i := 54) rfl)) rfl
set_option maxRecDepth 100000 in
theorem cw78 : Cond.instantiable RX1 3 ∈ lw_g := in_g (t1_in (List.mem_of_getElem? (i := 55) rfl)) rfl
set_option maxRecDepth 100000 in
theorem cw79 : Cond.initialized RX1 ∈ lw_g := in_g (t1_in (List.mem_of_getElem? (i := 4) rfl)) rfl
set_option maxRecDepth 100000 in
theorem cw80 : Cond.instanceMethod yX1_init ∈ lw_g := in_g (t1_in (List.mem_of_getElem? (i := 57) rfl)) rfl
set_option maxRecDepth 100000 in
theorem cw81 : Cond.code yX1_init cX1_init 1 none ∈ lw_g := in_g (t1_in (List.mem_of_getElem? (i := 58) rfl)) rfl
set_option maxRecDepth 100000 in
theorem cw82 : Cond.methodLink RX6 20 yX1_init ∈ lw_g := in_g (t1_in (List.mem_of_getElem? (i := 56) rfl)) rfl
set_option maxRecDepth 100000 in
theorem cw83 : Cond.fieldLink RX6 21 "WolfsHead$Realm" "folk" "LWolfsHead$Folk;" ∈ lw_g := in_g (t1_in (List.mem_of_getElem? (i := 138) rfl)) rfl
set_option maxRecDepth 100000 in
theorem cw84 : Cond.classLink RX6 25 RX7 ∈ lw_g := in_g (t1_in (List.mem_of_getElem? (i := 70) rfl)) rfl
set_option maxRecDepth 100000 in
theorem cw85 : Cond.instantiable RX7 3 ∈ lw_g := in_g (t1_in (List.mem_of_getElem? (i := 71) rfl)) rfl
set_option maxRecDepth 100000 in
theorem cw86 : Cond.initialized RX7 ∈ lw_g := in_g (t1_in (List.mem_of_getElem? (i := 5) rfl)) rfl
set_option maxRecDepth 100000 in
theorem cw87 : Cond.instanceMethod yX7_init ∈ lw_g := in_g (t1_in (List.mem_of_getElem? (i := 73) rfl)) rfl
set_option maxRecDepth 100000 in
theorem cw88 : Cond.code yX7_init cX7_init 1 none ∈ lw_g := in_g (t1_in (List.mem_of_getElem? (i := 74) rfl)) rfl
set_option maxRecDepth 100000 in
theorem cw89 : Cond.fieldLink RX6 28 "WolfsHead$Realm" "taken" "LWolfsHead$Steps;" ∈ lw_g := in_g (t1_in (List.mem_of_getElem? (i := 141) rfl)) rfl
set_option maxRecDepth 100000 in
theorem cw90 : Cond.classLink RX6 32 RX4 ∈ lw_g := in_g (t1_in (List.mem_of_getElem? (i := 87) rfl)) rfl
set_option maxRecDepth 100000 in
theorem cw91 : Cond.instantiable RX4 11 ∈ lw_g := in_g (t1_in (List.mem_of_getElem? (i := 88) rfl)) rfl
set_option maxRecDepth 100000 in
theorem cw92 : Cond.initialized RX4 ∈ lw_g := in_g (t1_in (List.mem_of_getElem? (i := 6) rfl)) rfl
set_option maxRecDepth 100000 in
theorem cw93 : Cond.instanceMethod yX4_init ∈ lw_g := in_g (t1_in (List.mem_of_getElem? (i := 90) rfl)) rfl
set_option maxRecDepth 100000 in
theorem cw94 : Cond.code yX4_init cX4_init 1 none ∈ lw_g := in_g (t1_in (List.mem_of_getElem? (i := 91) rfl)) rfl
set_option maxRecDepth 100000 in
theorem cw95 : Cond.fieldLink RX6 35 "WolfsHead$Realm" "notes" "LWolfsHead$Notes;" ∈ lw_g := in_g (t1_in (List.mem_of_getElem? (i := 143) rfl)) rfl
set_option maxRecDepth 100000 in
theorem cw96 : Cond.fieldLink RX6 39 "WolfsHead$Realm" "texts" "I" ∈ lw_g := in_g (t1_in (List.mem_of_getElem? (i := 145) rfl)) rfl
set_option maxRecDepth 100000 in
theorem cw97 : Cond.fieldLink RX6 43 "WolfsHead$Realm" "ruling" "I" ∈ lw_g := in_g (t1_in (List.mem_of_getElem? (i := 148) rfl)) rfl
set_option maxRecDepth 100000 in
theorem cw98 : Cond.methodLink RX11 1 Lib.objectInit ∈ lw_g := in_g (t1_in (List.mem_of_getElem? (i := 26) rfl)) rfl
set_option maxRecDepth 100000 in
theorem cw99 : Cond.classLink RX11 7 RX6 ∈ lw_g := in_g (t1_in (List.mem_of_getElem? (i := 29) rfl)) rfl
set_option maxRecDepth 100000 in
theorem cw100 : Cond.instantiable RX6 6 ∈ lw_g := in_g (t1_in (List.mem_of_getElem? (i := 30) rfl)) rfl
set_option maxRecDepth 100000 in
theorem cw101 : Cond.initialized RX6 ∈ lw_g := in_g (t1_in (List.mem_of_getElem? (i := 2) rfl)) rfl
set_option maxRecDepth 100000 in
theorem cw102 : Cond.instanceMethod yX6_init ∈ lw_g := in_g (t1_in (List.mem_of_getElem? (i := 32) rfl)) rfl
set_option maxRecDepth 100000 in
theorem cw103 : Cond.code yX6_init cX6_init 1 none ∈ lw_g := in_g (t1_in (List.mem_of_getElem? (i := 33) rfl)) rfl
set_option maxRecDepth 100000 in
theorem cw104 : Cond.fieldLink RX11 10 "WolfsHead" "realm" "LWolfsHead$Realm;" ∈ lw_g := in_g (t2_in (List.mem_of_getElem? (i := 89) rfl)) rfl
set_option maxRecDepth 100000 in
theorem cw105 : Cond.fieldLink RX11 16 "WolfsHead" "kept" "LWolfsHead$Realm;" ∈ lw_g := in_g (t2_in (List.mem_of_getElem? (i := 90) rfl)) rfl
set_option maxRecDepth 100000 in
theorem cw106 : Cond.classLink RX11 19 "WolfsHead$Text" ∈ lw_g := in_g (t1_in (List.mem_of_getElem? (i := 165) rfl)) rfl
set_option maxRecDepth 100000 in
theorem cw107 : Cond.fieldLink RX11 21 "WolfsHead" "texts" "[LWolfsHead$Text;" ∈ lw_g := in_g (t2_in (List.mem_of_getElem? (i := 91) rfl)) rfl
set_option maxRecDepth 100000 in
theorem cw108 : Cond.classLink RX11 25 RX8 ∈ lw_g := in_g (t1_in (List.mem_of_getElem? (i := 167) rfl)) rfl
set_option maxRecDepth 100000 in
theorem cw109 : Cond.instantiable RX8 6 ∈ lw_g := in_g (t1_in (List.mem_of_getElem? (i := 168) rfl)) rfl
set_option maxRecDepth 100000 in
theorem cw110 : Cond.initialized RX8 ∈ lw_g := in_g (t1_in (List.mem_of_getElem? (i := 7) rfl)) rfl
set_option maxRecDepth 100000 in
theorem cw111 : Cond.instanceMethod yX8_init ∈ lw_g := in_g (t1_in (List.mem_of_getElem? (i := 170) rfl)) rfl
set_option maxRecDepth 100000 in
theorem cw112 : Cond.code yX8_init cX8_init 1 none ∈ lw_g := in_g (t1_in (List.mem_of_getElem? (i := 171) rfl)) rfl
set_option maxRecDepth 100000 in
theorem cw113 : Cond.fieldLink RX11 28 "WolfsHead" "tape" "LWolfsHead$Tape;" ∈ lw_g := in_g (t2_in (List.mem_of_getElem? (i := 92) rfl)) rfl
set_option maxRecDepth 100000 in
theorem cw114 : Cond.classLink RX11 32 RX5 ∈ lw_g := in_g (t1_in (List.mem_of_getElem? (i := 195) rfl)) rfl
set_option maxRecDepth 100000 in
theorem cw115 : Cond.instantiable RX5 6 ∈ lw_g := in_g (t1_in (List.mem_of_getElem? (i := 196) rfl)) rfl
set_option maxRecDepth 100000 in
theorem cw116 : Cond.initialized RX5 ∈ lw_g := in_g (t1_in (List.mem_of_getElem? (i := 8) rfl)) rfl
set_option maxRecDepth 100000 in
theorem cw117 : Cond.instanceMethod yX5_init ∈ lw_g := in_g (t1_in (List.mem_of_getElem? (i := 198) rfl)) rfl
set_option maxRecDepth 100000 in
theorem cw118 : Cond.code yX5_init cX5_init 2 none ∈ lw_g := in_g (t1_in (List.mem_of_getElem? (i := 199) rfl)) rfl
set_option maxRecDepth 100000 in
theorem cw119 : Cond.methodLink RX11 34 yX5_init ∈ lw_g := in_g (t1_in (List.mem_of_getElem? (i := 197) rfl)) rfl
set_option maxRecDepth 100000 in
theorem cw120 : Cond.fieldLink RX11 37 "WolfsHead" "reader" "LWolfsHead$Reader;" ∈ lw_g := in_g (t2_in (List.mem_of_getElem? (i := 93) rfl)) rfl
set_option maxRecDepth 100000 in
theorem cw121 : Cond.classLink RX11 41 RX3 ∈ lw_g := in_g (t1_in (List.mem_of_getElem? (i := 222) rfl)) rfl
set_option maxRecDepth 100000 in
theorem cw122 : Cond.instantiable RX3 4 ∈ lw_g := in_g (t1_in (List.mem_of_getElem? (i := 223) rfl)) rfl
set_option maxRecDepth 100000 in
theorem cw123 : Cond.initialized RX3 ∈ lw_g := in_g (t1_in (List.mem_of_getElem? (i := 9) rfl)) rfl
set_option maxRecDepth 100000 in
theorem cw124 : Cond.instanceMethod yX3_init ∈ lw_g := in_g (t1_in (List.mem_of_getElem? (i := 225) rfl)) rfl
set_option maxRecDepth 100000 in
theorem cw125 : Cond.code yX3_init cX3_init 3 none ∈ lw_g := in_g (t1_in (List.mem_of_getElem? (i := 226) rfl)) rfl
set_option maxRecDepth 100000 in
theorem cw126 : Cond.methodLink RX11 43 yX3_init ∈ lw_g := in_g (t1_in (List.mem_of_getElem? (i := 224) rfl)) rfl
set_option maxRecDepth 100000 in
theorem cw127 : Cond.fieldLink RX11 46 "WolfsHead" "laws" "LWolfsHead$Laws;" ∈ lw_g := in_g (t2_in (List.mem_of_getElem? (i := 94) rfl)) rfl
set_option maxRecDepth 100000 in
theorem cw128 : Cond.fieldLink RX11 50 "WolfsHead$Realm" "folk" "LWolfsHead$Folk;" ∈ lw_g := in_g (t1_in (List.mem_of_getElem? (i := 139) rfl)) rfl
set_option maxRecDepth 100000 in
theorem cw129 : Cond.fieldLink RX11 54 "WolfsHead" "folk" "LWolfsHead$Folk;" ∈ lw_g := in_g (t2_in (List.mem_of_getElem? (i := 95) rfl)) rfl
set_option maxRecDepth 100000 in
theorem cw130 : Cond.fieldLink RX11 55 "WolfsHead$Realm" "lands" "LWolfsHead$Lands;" ∈ lw_g := in_g (t1_in (List.mem_of_getElem? (i := 134) rfl)) rfl
set_option maxRecDepth 100000 in
theorem cw131 : Cond.fieldLink RX11 59 "WolfsHead" "lands" "LWolfsHead$Lands;" ∈ lw_g := in_g (t2_in (List.mem_of_getElem? (i := 96) rfl)) rfl
set_option maxRecDepth 100000 in
theorem cw132 : Cond.fieldLink RX11 60 "WolfsHead$Realm" "notes" "LWolfsHead$Notes;" ∈ lw_g := in_g (t1_in (List.mem_of_getElem? (i := 144) rfl)) rfl
set_option maxRecDepth 100000 in
theorem cw133 : Cond.fieldLink RX11 64 "WolfsHead" "notes" "LWolfsHead$Notes;" ∈ lw_g := in_g (t2_in (List.mem_of_getElem? (i := 97) rfl)) rfl
set_option maxRecDepth 100000 in
theorem cw134 : Cond.fieldLink RX11 65 "WolfsHead$Realm" "taken" "LWolfsHead$Steps;" ∈ lw_g := in_g (t1_in (List.mem_of_getElem? (i := 142) rfl)) rfl
set_option maxRecDepth 100000 in
theorem cw135 : Cond.fieldLink RX11 69 "WolfsHead" "taken" "LWolfsHead$Steps;" ∈ lw_g := in_g (t2_in (List.mem_of_getElem? (i := 98) rfl)) rfl
set_option maxRecDepth 100000 in
theorem cw136 : Cond.classLink RX11 70 RX0 ∈ lw_g := in_g (t2_in (List.mem_of_getElem? (i := 1) rfl)) rfl
set_option maxRecDepth 100000 in
theorem cw137 : Cond.instantiable RX0 3 ∈ lw_g := in_g (t2_in (List.mem_of_getElem? (i := 2) rfl)) rfl
set_option maxRecDepth 100000 in
theorem cw138 : Cond.initialized RX0 ∈ lw_g := in_g (t1_in (List.mem_of_getElem? (i := 10) rfl)) rfl
set_option maxRecDepth 100000 in
theorem cw139 : Cond.instanceMethod yX0_init ∈ lw_g := in_g (t2_in (List.mem_of_getElem? (i := 4) rfl)) rfl
set_option maxRecDepth 100000 in
theorem cw140 : Cond.code yX0_init cX0_init 4 none ∈ lw_g := in_g (t2_in (List.mem_of_getElem? (i := 5) rfl)) rfl
set_option maxRecDepth 100000 in
theorem cw141 : Cond.methodLink RX11 72 yX0_init ∈ lw_g := in_g (t2_in (List.mem_of_getElem? (i := 3) rfl)) rfl
set_option maxRecDepth 100000 in
theorem cw142 : Cond.fieldLink RX11 75 "WolfsHead" "deeds" "LWolfsHead$Deeds;" ∈ lw_g := in_g (t2_in (List.mem_of_getElem? (i := 99) rfl)) rfl
set_option maxRecDepth 100000 in
theorem cw143 : Cond.classLink RX11 79 RX1 ∈ lw_g := in_g (t2_in (List.mem_of_getElem? (i := 17) rfl)) rfl
set_option maxRecDepth 100000 in
theorem cw144 : Cond.methodLink RX11 81 yX1_init ∈ lw_g := in_g (t2_in (List.mem_of_getElem? (i := 18) rfl)) rfl
set_option maxRecDepth 100000 in
theorem cw145 : Cond.fieldLink RX11 82 "WolfsHead" "dreamt" "LWolfsHead$Folk;" ∈ lw_g := in_g (t2_in (List.mem_of_getElem? (i := 100) rfl)) rfl
set_option maxRecDepth 100000 in
theorem cw146 : Cond.fieldLink RX11 85 "WolfsHead" "dream" "LWolfsHead$Deeds;" ∈ lw_g := in_g (t2_in (List.mem_of_getElem? (i := 101) rfl)) rfl
set_option maxRecDepth 100000 in
theorem cw147 : Cond.classLink RX11 88 RX10 ∈ lw_g := in_g (t2_in (List.mem_of_getElem? (i := 19) rfl)) rfl
set_option maxRecDepth 100000 in
theorem cw148 : Cond.instantiable RX10 10 ∈ lw_g := in_g (t2_in (List.mem_of_getElem? (i := 20) rfl)) rfl
set_option maxRecDepth 100000 in
theorem cw149 : Cond.initialized RX10 ∈ lw_g := in_g (t1_in (List.mem_of_getElem? (i := 11) rfl)) rfl
set_option maxRecDepth 100000 in
theorem cw150 : Cond.instanceMethod yX10_init ∈ lw_g := in_g (t2_in (List.mem_of_getElem? (i := 22) rfl)) rfl
set_option maxRecDepth 100000 in
theorem cw151 : Cond.code yX10_init cX10_init 1 none ∈ lw_g := in_g (t2_in (List.mem_of_getElem? (i := 23) rfl)) rfl
set_option maxRecDepth 100000 in
theorem cw152 : Cond.fieldLink RX11 91 "WolfsHead" "ways" "LWolfsHead$Ways;" ∈ lw_g := in_g (t2_in (List.mem_of_getElem? (i := 102) rfl)) rfl
set_option maxRecDepth 100000 in
theorem cw153 : Cond.classLink RX11 19 RX9 ∈ lw_g := in_g (t1_in (List.mem_of_getElem? (i := 165) rfl)) rfl
set_option maxRecDepth 100000 in
theorem cw154 : Cond.instantiable RX9 7 ∈ lw_g := in_g (t2_in (List.mem_of_getElem? (i := 61) rfl)) rfl
set_option maxRecDepth 100000 in
theorem cw155 : Cond.initialized RX9 ∈ lw_g := in_g (t1_in (List.mem_of_getElem? (i := 12) rfl)) rfl
set_option maxRecDepth 100000 in
theorem cw156 : Cond.instanceMethod yX9_init ∈ lw_g := in_g (t2_in (List.mem_of_getElem? (i := 63) rfl)) rfl
set_option maxRecDepth 100000 in
theorem cw157 : Cond.code yX9_init cX9_init 1 none ∈ lw_g := in_g (t2_in (List.mem_of_getElem? (i := 64) rfl)) rfl
set_option maxRecDepth 100000 in
theorem cw158 : Cond.methodLink RX12 1 Lib.objectInit ∈ lw_g := in_g (t6_in (List.mem_of_getElem? (i := 39) rfl)) rfl
set_option maxRecDepth 100000 in
theorem cw159 : Cond.fieldLink RX12 7 "WolfsHeadModel" "a" "[I" ∈ lw_g := in_g (t6_in (List.mem_of_getElem? (i := 43) rfl)) rfl
set_option maxRecDepth 100000 in
theorem cw160 : Cond.fieldLink RX12 13 "WolfsHeadModel" "image" "[I" ∈ lw_g := in_g (t6_in (List.mem_of_getElem? (i := 44) rfl)) rfl
set_option maxRecDepth 100000 in
theorem cw161 : Cond.fieldLink RX12 16 "WolfsHeadModel" "texts" "[I" ∈ lw_g := in_g (t6_in (List.mem_of_getElem? (i := 45) rfl)) rfl
set_option maxRecDepth 100000 in
theorem cw162 : Cond.fieldLink RX12 19 "WolfsHeadModel" "tape" "[I" ∈ lw_g := in_g (t6_in (List.mem_of_getElem? (i := 46) rfl)) rfl
set_option maxRecDepth 100000 in
theorem cw163 : Cond.fieldLink RX12 22 "WolfsHeadModel" "fault" "I" ∈ lw_g := in_g (t6_in (List.mem_of_getElem? (i := 48) rfl)) rfl
set_option maxRecDepth 100000 in
theorem cw164 : Cond.fieldLink RX12 26 "WolfsHeadModel" "faultPlace" "I" ∈ lw_g := in_g (t6_in (List.mem_of_getElem? (i := 49) rfl)) rfl
set_option maxRecDepth 100000 in
theorem cw165 : Cond.fieldLink RX12 29 "WolfsHeadModel" "pile" "[I" ∈ lw_g := in_g (t6_in (List.mem_of_getElem? (i := 58) rfl)) rfl
set_option maxRecDepth 100000 in
theorem cw166 : Cond.fieldLink RX12 32 "WolfsHeadModel" "named" "[I" ∈ lw_g := in_g (t6_in (List.mem_of_getElem? (i := 63) rfl)) rfl
set_option maxRecDepth 100000 in
theorem cw167 : Cond.arrayClass .long ∈ lw_g := in_g (t6_in (List.mem_of_getElem? (i := 131) rfl)) rfl
set_option maxRecDepth 100000 in
theorem cw168 : Cond.fieldLink RX12 35 "WolfsHeadModel" "values" "[J" ∈ lw_g := in_g (t6_in (List.mem_of_getElem? (i := 64) rfl)) rfl
set_option maxRecDepth 100000 in
theorem cw169 : Cond.arrayClass .boolean ∈ lw_g := in_g (t6_in (List.mem_of_getElem? (i := 132) rfl)) rfl
set_option maxRecDepth 100000 in
theorem cw170 : Cond.fieldLink RX12 39 "WolfsHeadModel" "truth" "[Z" ∈ lw_g := in_g (t6_in (List.mem_of_getElem? (i := 65) rfl)) rfl
set_option maxRecDepth 100000 in
theorem cw171 : Cond.fieldLink RX12 43 "WolfsHeadModel" "isWritten" "Z" ∈ lw_g := in_g (t6_in (List.mem_of_getElem? (i := 66) rfl)) rfl
set_option maxRecDepth 100000 in
theorem cw172 : Cond.fieldLink RX12 47 "WolfsHeadModel" "aside" "[I" ∈ lw_g := in_g (t6_in (List.mem_of_getElem? (i := 68) rfl)) rfl
set_option maxRecDepth 100000 in
theorem cw173 : Cond.fieldLink RX12 50 "WolfsHeadModel" "likely" "[I" ∈ lw_g := in_g (t6_in (List.mem_of_getElem? (i := 69) rfl)) rfl
set_option maxRecDepth 100000 in
theorem cw174 : Cond.fieldLink RX12 53 "WolfsHeadModel" "safe" "[I" ∈ lw_g := in_g (t6_in (List.mem_of_getElem? (i := 70) rfl)) rfl
set_option maxRecDepth 100000 in
theorem cw175 : Cond.fieldLink RX12 56 "WolfsHeadModel" "headOf" "[I" ∈ lw_g := in_g (t6_in (List.mem_of_getElem? (i := 71) rfl)) rfl
def cEnv (U : State) : Prop := va_AO "WolfsHead$Text" U ∧ va_Nw (.methodLinkNest RX11 9 yX6_init "WolfsHead") U ∧ va_Nw (.methodLinkNest RX11 27 yX8_init "WolfsHead") U ∧ va_Nw (.methodLinkNest RX11 90 yX10_init "WolfsHead") U ∧ va_Nw (.methodLinkNest RX11 95 yX9_init "WolfsHead") U ∧ va_Nw (.methodLinkNest RX6 11 yX2_init "WolfsHead") U ∧ va_Nw (.methodLinkNest RX6 27 yX7_init "WolfsHead") U ∧ va_Nw (.methodLinkNest RX6 34 yX4_init "WolfsHead") U
theorem cEnv.blind {U : State} {g : JFrame} {mk : MethodId} {a : Array Value} (h : cEnv U) : cEnv (U.calling g mk a) := by
  obtain ⟨ao, n0, n1, n2, n3, n4, n5, n6⟩ := h
  exact ⟨va_AO.moved (u := U) (U := U.calling g mk a) (Vm.Alike.refl U.vm) ao, va_Nw.same rfl (u := U) rfl n0, va_Nw.same rfl (u := U) rfl n1, va_Nw.same rfl (u := U) rfl n2, va_Nw.same rfl (u := U) rfl n3, va_Nw.same rfl (u := U) rfl n4, va_Nw.same rfl (u := U) rfl n5, va_Nw.same rfl (u := U) rfl n6⟩
theorem cEnv.warm {s U : State} (hW : s.WarmedH U.vm) (h : cEnv s) : cEnv U := by
  obtain ⟨ao, n0, n1, n2, n3, n4, n5, n6⟩ := h
  exact ⟨va_AO.moved hW.alike ao, va_Nw.warmM hW n0, va_Nw.warmM hW n1, va_Nw.warmM hW n2, va_Nw.warmM hW n3, va_Nw.warmM hW n4, va_Nw.warmM hW n5, va_Nw.warmM hW n6⟩
abbrev mPreC (D : va_G) (tys : List (ClassId × FieldType)) (w : va_W) (sz : Nat) (vs : List Value) : Array Value → State → Prop := va_Pc vs (fun U => U.heap.size = sz ∧ va_P D vwCl w U.heap ∧ va_K D vwCl tys U ∧ va_D (fun _ => True) w ∧ cEnv U)
abbrev mQc (D : va_G) (w : (Nat → Nat) → va_W) (A : Nat → Prop) : Array Value → State → Outcome → State → Prop := va_Qv (fun (_ : Nat → Nat) => True) (fun u t => va_P D vwCl (w u) t.heap ∧ va_D A (w u)) A
section
variable {p : Program} {l : Launch} {e : Env} {R : Room} {s : State} {m : MethodId} {args : Array Value} {below : List Frame} {meth : Method} {c : Code} {H : Heap} {locs : List Loc} {cells slots : Nat} {Q : State → Prop}
variable {cc bytes : ByteArray} {pc nL maxL index n mc ms : Nat} {ls : Array Slot} {rest st : List Value} {A : Nat → Prop} {H0 : Heap} {D : va_G} {tys : List (ClassId × FieldType)} {ws wc wr : va_W} {w1 : (Nat → Nat) → va_W} {own C host : String} {y : MethodName} {ret : Option FieldType} {rm : Room} {b : Addr} {As : List Value}
theorem mPreC_blind {w : va_W} {sz : Nat} {vs : List Value} : FrameBlind (mPreC D tys w sz vs) := fun a U g mk q => by
  obtain ⟨q0, q1, qP, qK, qD, qE⟩ := q
  exact ⟨q0, q1, qP, va_K.moved (u := U) (U := U.calling g mk a) (Vm.Alike.refl U.vm) qK, qD, qE.blind⟩
theorem xnewa (hx : p.tables.exec = Jvm.exec) (hb : c.code = cc) (hts : ∀ w ∈ lw_g, w.before args s = true) {atype : ArrayType} (hw : Cond.arrayClass (newarray.typeOf atype) ∈ lw_g) {ty : FieldType} (hty : newarray.typeOf atype = ty) (hra : ∀ c1 c2, va_RA s c1 ty → va_RA s c2 ty → c1 = c2) (hK : va_K D vwCl tys s) (hP : va_P D vwCl ws H) (hD : va_D A ws) (hS : va_S A H0 H locs) (hA : ∀ q, H0.size ≤ q → A q) (t0 : Nat) {cA0 : ClassId} (ht : tys[t0]? = some (cA0, ty))
    {n : Int32} {N' : Nat} {a0 : vp_A} (ha : ∀ cA : ClassId, vp_cell cA a0 = arrV cA N' (fun _ => defaultValue ty)) (hn : ¬ n < 0) (hN : n.toNatClampNeg = N') (hbytes : N' * componentBytes ty ≤ 536870912) (hcells : cells + 1 ≤ R.cells) (hslots : slots + N' ≤ R.slots) (hdg : decode cc pc = .ok (.newarray atype, 2))
    (kk : ∀ (q : Nat) (H1 : Heap), va_P D vwCl (ws ++ [(q, .inl (cA0, a0))]) H1 → va_D A (ws ++ [(q, .inl (cA0, a0))]) → va_S A H0 H1 locs → W p l e R s m args below meth c H1 locs (cells + 1) (slots + N') Q (F0 m (pc + 2) ls (.ref q :: rest))) : W p l e R s m args below meth c H locs cells slots Q (F0 m pc ls (.int n :: rest)) := by
  refine va_newa hx hb (hts _ hw) hty hK hP hD hS hA ha hn hN hbytes hcells hslots hdg (fun q cA H1 hK1 hP1 hD1 hS1 => ?_)
  have h1 := (hK1.2 tys.length (cA, ty) (by simp)).2
  have h2 := (hK.2 t0 _ ht).2
  have he := hra _ _ h1 h2
  subst he
  exact kk q H1 hP1 hD1 hS1
theorem xnewT (hx : p.tables.exec = Jvm.exec) (hb : c.code = cc) (hown : s.vm.findClass own = some m.cls) (hcl : (Cond.classLink own index "WolfsHead$Text").before args s = true) (hE : cEnv s) (hK : va_K D vwCl tys s) (hP : va_P D vwCl ws H) (hD : va_D A ws) (hS : va_S A H0 H locs) (hA : ∀ q, H0.size ≤ q → A q) (t0 : Nat) {cA0 : ClassId} (ht : tys[t0]? = some (cA0, .object "WolfsHead$Text"))
    {n : Int32} {N' : Nat} (hn : ¬ n < 0) (hN : n.toNatClampNeg = N') (hbytes : N' * 4 ≤ 536870912) (hcells : cells + 1 ≤ R.cells) (hslots : slots + N' ≤ R.slots) (hdg : decode cc pc = .ok (.anewarray index, 3))
    (kk : ∀ (q : Nat) (H1 : Heap), va_P D vwCl (ws ++ [(q, .inl (cA0, N', .inr (.inr (.inr (.inr (fun _ => none))))))]) H1 → va_D A (ws ++ [(q, .inl (cA0, N', .inr (.inr (.inr (.inr (fun _ => none))))))]) → va_S A H0 H1 locs → W p l e R s m args below meth c H1 locs (cells + 1) (slots + N') Q (F0 m (pc + 3) ls (.ref q :: rest))) : W p l e R s m args below meth c H locs cells slots Q (F0 m pc ls (.int n :: rest)) := by
  refine va_newq hx hb hown hcl hE.1 hK hP hD hS hA hn hN hbytes hcells hslots hdg (fun q cA H1 hK1 hP1 hD1 hS1 => ?_)
  obtain ⟨k1, c1, -, -, -, g1⟩ := (hK1.2 tys.length (cA, .object "WolfsHead$Text") (by simp)).2
  obtain ⟨k2, c2, -, -, -, g2⟩ := (hK.2 t0 _ ht).2
  have he : cA = cA0 := Option.some.inj (g1.symm.trans g2)
  subst he
  exact kk q H1 hP1 hD1 hS1
theorem mret_c {u : Nat → Nat} (hx : p.tables.exec = Jvm.exec) (hb : c.code = cc) (hr : meth.sig.returnType = none) (hlocks : meth.locks = false) (hP : va_P D vwCl (w1 u) H) (hD : va_D A (w1 u)) (hS : va_S A s.heap H locs) (hdg : decode cc pc = .ok (.return_, 1)) : W p l e R s m args below meth c H locs cells slots (MQ below (mQc D w1 A) args s cells slots A) (F0 m pc ls []) :=
  W.vret hx hb hr (fun t ht hW => ⟨⟨u, rfl, trivial, by rw [ht]; exact hP, hD⟩, hS.F ht⟩) hS.2.2 hdg hlocks
theorem mMetC {w : va_W} {vs : List Value} {Qc : (Nat → Prop) → Array Value → State → Outcome → State → Prop} (hy : plainName y.cls = true) (hnm : y.name = "<init>") (hlen : (lg_sl vs).length ≤ maxL)
    (body : ∀ (p : Program) (e : Env) (s : State) (m : MethodId) (below : List Frame) (meth : Method) (c : Code) (A : Nat → Prop) (ls : Array Slot), p.tables.exec = Jvm.exec → c.code = bytes → meth.sig.returnType = ret → c.maxLocals = maxL → (∀ w ∈ lw_g, w.before vs.toArray s = true) → s.vm.findClass y.cls = some m.cls → meth.locks = false → meth.name = "<init>" → va_K D vwCl tys s → (∀ q : Nat, s.heap.size ≤ q → A q) → va_P D vwCl w s.heap → va_D A w → lv_has ls maxL (lv_args 0 vs) → cEnv s → W p l e rm s m vs.toArray below meth c s.heap [] 0 0 (MQ below (Qc A) vs.toArray s mc ms A) (F0 m 0 ls [])) :
    ∀ sz, Met l y (mw y bytes maxL ret) rm (mPreC D tys w sz vs) (Qc (va_A w sz)) mc ms (va_A w sz) := by
  intro sz
  refine Met.ofW (cc := bytes) (maxL := maxL) (ret := ret) hy rfl ?_
  intro p e s m args below meth c s₁ B hml hv
  obtain ⟨rfl, hsz, hP, hK, hD0, hE⟩ := hv
  subst hsz
  have hts := atoms_spec (ws := mw y bytes maxL ret) B.pre
  have hown : s.vm.findClass y.cls = some m.cls := findClass_of_methodNamed B.named
  have hl := lv_entry vs (n := maxL) hlen
  have hD := hD0.self (sz := s.heap.size)
  rw [lg_entry_eq]
  exact body p e s m below meth c (va_A w s.heap.size) _ B.exec B.bytes B.returns hml (fun w hw => hts w (List.mem_cons_of_mem _ hw)) hown B.notSynchronized ((name_of_methodNamed B.named B.method).1.trans hnm) hK (fun q h => Or.inr h) hP hD hl hE
theorem mcI (hx : p.tables.exec = Jvm.exec) (hb : c.code = cc) (hml : c.maxLocals = nL) (hown : s.vm.findClass own = some m.cls) (hts : ∀ w ∈ lw_g, w.before args s = true) (hK : va_K D vwCl tys s) (hP : va_P D vwCl ws H) (hD : va_D A ws) (hS : va_S A H0 H locs) (hA : ∀ q, H0.size ≤ q → A q) (hE : cEnv s)
    (hM : ∀ sz, Met l y (mw y bytes maxL none) rm (mPreC D tys wc sz (.ref b :: As)) (mQc D w1 (va_A wc sz)) mc ms (va_A wc sz)) (cw : CallB R s args own index y bytes maxL none (mw y bytes maxL none) rm mc ms n ∧ y.name = "<init>" ∧ (Cond.instanceMethod y).before args s = true)
    (isC isR : List Nat) (hC : isC.map (fun i => ws[i]?) = wc.map some) (hR : isR.map (fun i => ws[i]?) = wr.map some) (hn : va_nd isR = true) (hdis : ∀ i ∈ isR, i ∉ isC) (hCn : va_nd isC = true)
    (hlen : As.length = n) (hsz : ls.size = nL) (hst : st = As.reverse ++ .ref b :: rest) (hrest : (rest.map fun v => v.category).sum ≤ 8) (hdg : decode cc pc = .ok (.invokespecial index, 3)) (hroom : cells + mc ≤ R.cells ∧ slots + ms ≤ R.slots)
    (kk : ∀ (u : Nat → Nat) (H1 : Heap) (locs1 : List Loc), va_P D vwCl (wr ++ w1 u) H1 → va_D A (wr ++ w1 u) → va_S A H0 H1 locs1 → W p l e R s m args below meth c H1 locs1 (cells + mc) (slots + ms) Q (F0 m (pc + 3) ls rest)) : W p l e R s m args below meth c H locs cells slots Q (F0 m pc ls st) := by
  subst hst
  have hPc := mP_sub (wc := wc) hP isC hC
  have hDc := hD.sub (ws' := wc) isC hCn hC
  have hFc := va_free (wc := wc) hD hS hA isC hC
  refine va_callv (va_runI (As := As) (rest := rest) ⟨hx, hb, hml, hown, hts⟩ (hM H.size) cw ⟨mPreC_blind, fun U hU hW => ⟨rfl, by rw [hU], by rw [hU]; exact hPc, va_K.moved hW.alike hK, hDc.weaken (fun _ _ _ _ => trivial), hE.warm hW⟩⟩ rfl hlen hsz rfl (lv_room hrest) hdg hroom) hS (fun q _ h => hFc q h) hFc (fun u t H1 locs1 ht hvm hw hB hz1 hk1 hS1 => ?_)
  obtain ⟨hP1, hD1⟩ := hB
  rw [ht] at hP1
  obtain ⟨hP2, hD2⟩ := va_join (wr := wr) (w1 := w1 u) hP hD isC isR hC hR hn hdis hk1 hFc hP1 hD1
  exact kk u H1 locs1 hP2 hD2 hS1
theorem mcIN (hx : p.tables.exec = Jvm.exec) (hb : c.code = cc) (hml : c.maxLocals = nL) (hown : s.vm.findClass own = some m.cls) (hts : ∀ w ∈ lw_g, w.before args s = true) (hK : va_K D vwCl tys s) (hP : va_P D vwCl ws H) (hD : va_D A ws) (hS : va_S A H0 H locs) (hA : ∀ q, H0.size ≤ q → A q) (hE : cEnv s)
    (hM : ∀ sz, Met l y (mw y bytes maxL none) rm (mPreC D tys wc sz (.ref b :: As)) (mQc D w1 (va_A wc sz)) mc ms (va_A wc sz)) (cw : va_CN R s args own index y host bytes maxL none (mw y bytes maxL none) rm mc ms n ∧ y.name = "<init>" ∧ (Cond.instanceMethod y).before args s = true)
    (isC isR : List Nat) (hC : isC.map (fun i => ws[i]?) = wc.map some) (hR : isR.map (fun i => ws[i]?) = wr.map some) (hn : va_nd isR = true) (hdis : ∀ i ∈ isR, i ∉ isC) (hCn : va_nd isC = true)
    (hlen : As.length = n) (hsz : ls.size = nL) (hst : st = As.reverse ++ .ref b :: rest) (hrest : (rest.map fun v => v.category).sum ≤ 8) (hdg : decode cc pc = .ok (.invokespecial index, 3)) (hroom : cells + mc ≤ R.cells ∧ slots + ms ≤ R.slots)
    (kk : ∀ (u : Nat → Nat) (H1 : Heap) (locs1 : List Loc), va_P D vwCl (wr ++ w1 u) H1 → va_D A (wr ++ w1 u) → va_S A H0 H1 locs1 → W p l e R s m args below meth c H1 locs1 (cells + mc) (slots + ms) Q (F0 m (pc + 3) ls rest)) : W p l e R s m args below meth c H locs cells slots Q (F0 m pc ls st) := by
  subst hst
  have hPc := mP_sub (wc := wc) hP isC hC
  have hDc := hD.sub (ws' := wc) isC hCn hC
  have hFc := va_free (wc := wc) hD hS hA isC hC
  refine va_callv (va_runIN (As := As) (rest := rest) ⟨hx, hb, hml, hown, hts⟩ (hM H.size) cw ⟨mPreC_blind, fun U hU hW => ⟨rfl, by rw [hU], by rw [hU]; exact hPc, va_K.moved hW.alike hK, hDc.weaken (fun _ _ _ _ => trivial), hE.warm hW⟩⟩ rfl hlen hsz rfl (lv_room hrest) hdg hroom) hS (fun q _ h => hFc q h) hFc (fun u t H1 locs1 ht hvm hw hB hz1 hk1 hS1 => ?_)
  obtain ⟨hP1, hD1⟩ := hB
  rw [ht] at hP1
  obtain ⟨hP2, hD2⟩ := va_join (wr := wr) (w1 := w1 u) hP hD isC isR hC hR hn hdis hk1 hFc hP1 hD1
  exact kk u H1 locs1 hP2 hD2 hS1
end
theorem raI {s : State} : ∀ c1 c2, va_RA s c1 .int → va_RA s c2 .int → c1 = c2 := fun _ _ a b => Option.some.inj (a.symm.trans b)
theorem raJ {s : State} : ∀ c1 c2, va_RA s c1 .long → va_RA s c2 .long → c1 = c2 := fun _ _ a b => Option.some.inj (a.symm.trans b)
theorem raZ {s : State} : ∀ c1 c2, va_RA s c1 .boolean → va_RA s c2 .boolean → c1 = c2 := fun _ _ a b => Option.some.inj (a.symm.trans b)
theorem raB {s : State} : ∀ c1 c2, va_RA s c1 .byte → va_RA s c2 .byte → c1 = c2 := fun _ _ a b => Option.some.inj (a.symm.trans b)
