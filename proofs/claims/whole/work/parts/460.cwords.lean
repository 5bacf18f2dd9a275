set_option maxRecDepth 100000 in
theorem mtX8_57 : mtW RX8 57 Lib.Math.min.name Lib.Math.min.code 2 (some .int) := ⟨in_g (t3_in (List.mem_of_getElem? (i := 51) rfl)) rfl, in_g (t3_in (List.mem_of_getElem? (i := 52) rfl)) rfl, in_g (t1_in (List.mem_of_getElem? (i := 18) rfl)) rfl, in_g (t3_in (List.mem_of_getElem? (i := 53) rfl)) rfl⟩
section
set_option maxRecDepth 100000 in
theorem wd2 : Cond.selects RX8 yX8_cutToken yX8_cutToken ∈ lw_g := in_g (tp_in (List.mem_of_getElem? (i := 2) rfl)) rfl
set_option maxRecDepth 100000 in
theorem wd3 : Cond.selects RX8 yX8_wordOf yX8_wordOf ∈ lw_g := in_g (tp_in (List.mem_of_getElem? (i := 3) rfl)) rfl
set_option maxRecDepth 100000 in
theorem wd4 : Cond.selects RX8 yX8_spells yX8_spells ∈ lw_g := in_g (tp_in (List.mem_of_getElem? (i := 4) rfl)) rfl
set_option maxRecDepth 100000 in
theorem wd5 : Cond.selects RX8 yX8_put yX8_put ∈ lw_g := in_g (tp_in (List.mem_of_getElem? (i := 5) rfl)) rfl
set_option maxRecDepth 100000 in
theorem wd6 : Cond.selects RX8 yX8_signAt yX8_signAt ∈ lw_g := in_g (tp_in (List.mem_of_getElem? (i := 6) rfl)) rfl
set_option maxRecDepth 100000 in
theorem wd8 : Cond.selects RX5 yX5_clause yX5_clause ∈ lw_g := in_g (tp_in (List.mem_of_getElem? (i := 8) rfl)) rfl
set_option maxRecDepth 100000 in
theorem wd141 : Cond.initialized RJ0 ∈ lw_g := in_g (t1_in (List.mem_of_getElem? (i := 14) rfl)) rfl
set_option maxRecDepth 100000 in
theorem wd142 : Cond.initialized RJ1 ∈ lw_g := in_g (t1_in (List.mem_of_getElem? (i := 15) rfl)) rfl
set_option maxRecDepth 100000 in
theorem wd143 : Cond.initialized RJ3 ∈ lw_g := in_g (t1_in (List.mem_of_getElem? (i := 16) rfl)) rfl
set_option maxRecDepth 100000 in
theorem wd572 : Cond.methodLink RX5 32 yX9_empty ∈ lw_g := in_g (t2_in (List.mem_of_getElem? (i := 205) rfl)) rfl
set_option maxRecDepth 100000 in
theorem wd573 : Cond.instanceMethod yX9_empty ∈ lw_g := in_g (t2_in (List.mem_of_getElem? (i := 206) rfl)) rfl
set_option maxRecDepth 100000 in
theorem wd574 : Cond.selects RX9 yX9_empty yX9_empty ∈ lw_g := in_g (t2_in (List.mem_of_getElem? (i := 207) rfl)) rfl
set_option maxRecDepth 100000 in
theorem wd575 : Cond.code yX9_empty cX9_empty 2 none ∈ lw_g := in_g (t2_in (List.mem_of_getElem? (i := 208) rfl)) rfl
set_option maxRecDepth 100000 in
theorem wd576 : Cond.methodLink RX5 37 yX8_split ∈ lw_g := in_g (t2_in (List.mem_of_getElem? (i := 209) rfl)) rfl
set_option maxRecDepth 100000 in
theorem wd577 : Cond.instanceMethod yX8_split ∈ lw_g := in_g (t2_in (List.mem_of_getElem? (i := 210) rfl)) rfl
set_option maxRecDepth 100000 in
theorem wd578 : Cond.selects RX8 yX8_split yX8_split ∈ lw_g := in_g (t2_in (List.mem_of_getElem? (i := 211) rfl)) rfl
set_option maxRecDepth 100000 in
theorem wd579 : Cond.code yX8_split cX8_split 3 none ∈ lw_g := in_g (t2_in (List.mem_of_getElem? (i := 212) rfl)) rfl
set_option maxRecDepth 100000 in
theorem wd584 : Cond.methodLink RX8 36 yX8_isBlank ∈ lw_g := in_g (t2_in (List.mem_of_getElem? (i := 217) rfl)) rfl
set_option maxRecDepth 100000 in
theorem wd585 : Cond.static yX8_isBlank ∈ lw_g := in_g (t2_in (List.mem_of_getElem? (i := 218) rfl)) rfl
set_option maxRecDepth 100000 in
theorem wd586 : Cond.code yX8_isBlank cX8_isBlank 1 (some .boolean) ∈ lw_g := in_g (t2_in (List.mem_of_getElem? (i := 219) rfl)) rfl
set_option maxRecDepth 100000 in
theorem wd587 : Cond.methodLink RX8 40 yX8_cutToken ∈ lw_g := in_g (t2_in (List.mem_of_getElem? (i := 220) rfl)) rfl
set_option maxRecDepth 100000 in
theorem wd589 : Cond.instanceMethod yX8_cutToken ∈ lw_g := in_g (t2_in (List.mem_of_getElem? (i := 222) rfl)) rfl
set_option maxRecDepth 100000 in
theorem wd590 : Cond.code yX8_cutToken cX8_cutToken 5 (some .int) ∈ lw_g := in_g (t2_in (List.mem_of_getElem? (i := 223) rfl)) rfl
set_option maxRecDepth 100000 in
theorem wd591 : Cond.methodLink RX8 47 yX8_isLetter ∈ lw_g := in_g (t2_in (List.mem_of_getElem? (i := 224) rfl)) rfl
set_option maxRecDepth 100000 in
theorem wd592 : Cond.static yX8_isLetter ∈ lw_g := in_g (t2_in (List.mem_of_getElem? (i := 225) rfl)) rfl
set_option maxRecDepth 100000 in
theorem wd593 : Cond.code yX8_isLetter cX8_isLetter 1 (some .boolean) ∈ lw_g := in_g (t2_in (List.mem_of_getElem? (i := 226) rfl)) rfl
set_option maxRecDepth 100000 in
theorem wd594 : Cond.methodLink RX8 50 yX8_wordOf ∈ lw_g := in_g (t2_in (List.mem_of_getElem? (i := 227) rfl)) rfl
set_option maxRecDepth 100000 in
theorem wd596 : Cond.instanceMethod yX8_wordOf ∈ lw_g := in_g (t2_in (List.mem_of_getElem? (i := 229) rfl)) rfl
set_option maxRecDepth 100000 in
theorem wd597 : Cond.code yX8_wordOf cX8_wordOf 6 (some .int) ∈ lw_g := in_g (t2_in (List.mem_of_getElem? (i := 230) rfl)) rfl
set_option maxRecDepth 100000 in
theorem wd599 : Cond.methodLink RX8 67 yJ0_length_8abf5 ∈ lw_g := in_g (t2_in (List.mem_of_getElem? (i := 232) rfl)) rfl
set_option maxRecDepth 100000 in
theorem wd600 : Cond.instanceMethod yJ0_length_8abf5 ∈ lw_g := in_g (t2_in (List.mem_of_getElem? (i := 233) rfl)) rfl
set_option maxRecDepth 100000 in
theorem wd601 : Cond.selects RJ0 yJ0_length_8abf5 yJ0_length_8abf5 ∈ lw_g := in_g (t2_in (List.mem_of_getElem? (i := 234) rfl)) rfl
set_option maxRecDepth 100000 in
theorem wd602 : Cond.code yJ0_length_8abf5 cJ0_length_8abf5 1 (some .int) ∈ lw_g := in_g (t2_in (List.mem_of_getElem? (i := 235) rfl)) rfl
set_option maxRecDepth 100000 in
theorem wd603 : Cond.methodLink RJ0 335 yJ0_coder_7d493 ∈ lw_g := in_g (t2_in (List.mem_of_getElem? (i := 236) rfl)) rfl
set_option maxRecDepth 100000 in
theorem wd604 : Cond.instanceMethod yJ0_coder_7d493 ∈ lw_g := in_g (t2_in (List.mem_of_getElem? (i := 237) rfl)) rfl
set_option maxRecDepth 100000 in
theorem wd605 : Cond.selects RJ0 yJ0_coder_7d493 yJ0_coder_7d493 ∈ lw_g := in_g (t2_in (List.mem_of_getElem? (i := 238) rfl)) rfl
set_option maxRecDepth 100000 in
theorem wd606 : Cond.code yJ0_coder_7d493 cJ0_coder_7d493 1 (some .byte) ∈ lw_g := in_g (t2_in (List.mem_of_getElem? (i := 239) rfl)) rfl
set_option maxRecDepth 100000 in
theorem wd609 : Cond.methodLink RX8 72 yJ0_charAt_5068e ∈ lw_g := in_g (t3_in (List.mem_of_getElem? (i := 2) rfl)) rfl
set_option maxRecDepth 100000 in
theorem wd610 : Cond.instanceMethod yJ0_charAt_5068e ∈ lw_g := in_g (t3_in (List.mem_of_getElem? (i := 3) rfl)) rfl
set_option maxRecDepth 100000 in
theorem wd611 : Cond.selects RJ0 yJ0_charAt_5068e yJ0_charAt_5068e ∈ lw_g := in_g (t3_in (List.mem_of_getElem? (i := 4) rfl)) rfl
set_option maxRecDepth 100000 in
theorem wd612 : Cond.code yJ0_charAt_5068e cJ0_charAt_5068e 2 (some .char) ∈ lw_g := in_g (t3_in (List.mem_of_getElem? (i := 5) rfl)) rfl
set_option maxRecDepth 100000 in
theorem wd613 : Cond.methodLink RJ0 492 yJ0_isLatin1_aae02 ∈ lw_g := in_g (t3_in (List.mem_of_getElem? (i := 6) rfl)) rfl
set_option maxRecDepth 100000 in
theorem wd614 : Cond.instanceMethod yJ0_isLatin1_aae02 ∈ lw_g := in_g (t3_in (List.mem_of_getElem? (i := 7) rfl)) rfl
set_option maxRecDepth 100000 in
theorem wd615 : Cond.selects RJ0 yJ0_isLatin1_aae02 yJ0_isLatin1_aae02 ∈ lw_g := in_g (t3_in (List.mem_of_getElem? (i := 8) rfl)) rfl
set_option maxRecDepth 100000 in
theorem wd616 : Cond.code yJ0_isLatin1_aae02 cJ0_isLatin1_aae02 1 (some .boolean) ∈ lw_g := in_g (t3_in (List.mem_of_getElem? (i := 9) rfl)) rfl
set_option maxRecDepth 100000 in
theorem wd617 : Cond.methodLink RJ0 495 yJ1_charAt_3b067 ∈ lw_g := in_g (t3_in (List.mem_of_getElem? (i := 10) rfl)) rfl
set_option maxRecDepth 100000 in
theorem wd618 : Cond.static yJ1_charAt_3b067 ∈ lw_g := in_g (t3_in (List.mem_of_getElem? (i := 11) rfl)) rfl
set_option maxRecDepth 100000 in
theorem wd619 : Cond.code yJ1_charAt_3b067 cJ1_charAt_3b067 2 (some .char) ∈ lw_g := in_g (t3_in (List.mem_of_getElem? (i := 12) rfl)) rfl
set_option maxRecDepth 100000 in
theorem wd620 : Cond.methodLink RJ1 9 yJ0_checkIndex_df160 ∈ lw_g := in_g (t3_in (List.mem_of_getElem? (i := 13) rfl)) rfl
set_option maxRecDepth 100000 in
theorem wd621 : Cond.static yJ0_checkIndex_df160 ∈ lw_g := in_g (t3_in (List.mem_of_getElem? (i := 14) rfl)) rfl
set_option maxRecDepth 100000 in
theorem wd622 : Cond.code yJ0_checkIndex_df160 cJ0_checkIndex_df160 2 none ∈ lw_g := in_g (t3_in (List.mem_of_getElem? (i := 15) rfl)) rfl
set_option maxRecDepth 100000 in
theorem wd625 : Cond.methodLink RJ0 1059 yJ3_checkIndex_8e157 ∈ lw_g := in_g (t3_in (List.mem_of_getElem? (i := 18) rfl)) rfl
set_option maxRecDepth 100000 in
theorem wd626 : Cond.static yJ3_checkIndex_8e157 ∈ lw_g := in_g (t3_in (List.mem_of_getElem? (i := 19) rfl)) rfl
set_option maxRecDepth 100000 in
theorem wd627 : Cond.code yJ3_checkIndex_8e157 cJ3_checkIndex_8e157 3 (some .int) ∈ lw_g := in_g (t3_in (List.mem_of_getElem? (i := 20) rfl)) rfl
set_option maxRecDepth 100000 in
theorem wd647 : Cond.methodLink RX8 76 yX8_spells ∈ lw_g := in_g (t3_in (List.mem_of_getElem? (i := 40) rfl)) rfl
set_option maxRecDepth 100000 in
theorem wd649 : Cond.instanceMethod yX8_spells ∈ lw_g := in_g (t3_in (List.mem_of_getElem? (i := 42) rfl)) rfl
set_option maxRecDepth 100000 in
theorem wd650 : Cond.code yX8_spells cX8_spells 5 (some .boolean) ∈ lw_g := in_g (t3_in (List.mem_of_getElem? (i := 43) rfl)) rfl
set_option maxRecDepth 100000 in
theorem wd651 : Cond.methodLink RX8 43 yX8_put ∈ lw_g := in_g (t3_in (List.mem_of_getElem? (i := 44) rfl)) rfl
set_option maxRecDepth 100000 in
theorem wd653 : Cond.instanceMethod yX8_put ∈ lw_g := in_g (t3_in (List.mem_of_getElem? (i := 46) rfl)) rfl
set_option maxRecDepth 100000 in
theorem wd654 : Cond.code yX8_put cX8_put 4 none ∈ lw_g := in_g (t3_in (List.mem_of_getElem? (i := 47) rfl)) rfl
set_option maxRecDepth 100000 in
theorem wd655 : Cond.methodLink RX8 54 yX8_isDigit ∈ lw_g := in_g (t3_in (List.mem_of_getElem? (i := 48) rfl)) rfl
set_option maxRecDepth 100000 in
theorem wd656 : Cond.static yX8_isDigit ∈ lw_g := in_g (t3_in (List.mem_of_getElem? (i := 49) rfl)) rfl
set_option maxRecDepth 100000 in
theorem wd657 : Cond.code yX8_isDigit cX8_isDigit 1 (some .boolean) ∈ lw_g := in_g (t3_in (List.mem_of_getElem? (i := 50) rfl)) rfl
set_option maxRecDepth 100000 in
theorem wd661 : Cond.methodLink RX8 62 yX8_signAt ∈ lw_g := in_g (t3_in (List.mem_of_getElem? (i := 54) rfl)) rfl
set_option maxRecDepth 100000 in
theorem wd663 : Cond.instanceMethod yX8_signAt ∈ lw_g := in_g (t3_in (List.mem_of_getElem? (i := 56) rfl)) rfl
set_option maxRecDepth 100000 in
theorem wd664 : Cond.code yX8_signAt cX8_signAt 3 (some .int) ∈ lw_g := in_g (t3_in (List.mem_of_getElem? (i := 57) rfl)) rfl
set_option maxRecDepth 100000 in
theorem wd673 : Cond.methodLink RX5 46 yX5_clause ∈ lw_g := in_g (t3_in (List.mem_of_getElem? (i := 66) rfl)) rfl
set_option maxRecDepth 100000 in
theorem wd675 : Cond.instanceMethod yX5_clause ∈ lw_g := in_g (t3_in (List.mem_of_getElem? (i := 68) rfl)) rfl
set_option maxRecDepth 100000 in
theorem wd676 : Cond.code yX5_clause cX5_clause 4 (some .boolean) ∈ lw_g := in_g (t3_in (List.mem_of_getElem? (i := 69) rfl)) rfl
variable {p : Program} {l : Launch} {e : Env} {R : Room} {s : State} {m : MethodId} {args : Array Value} {below : List Frame} {meth : Method} {c : Code} {H : Heap} {locs : List Loc} {cells slots : Nat} {Q : State → Prop}
variable {cc bytes : ByteArray} {pc nL maxL index n : Nat} {ls : Array Slot} {rest st : List Value} {A : Nat → Prop} {H0 : Heap} {D : va_G} {tys : List (ClassId × FieldType)} {ws wc wr w1 : va_W} {rm : Room} {b : Addr}
theorem pfX5_18 (hx : p.tables.exec = Jvm.exec) (hb : c.code = cc) (hts : ∀ w ∈ lw_g, w.before args s = true) (hown : s.vm.findClass RX5 = some m.cls) (hK : va_K D vwCl tys s) (hP : va_P D vwCl ws H) (hD : va_D A ws) (hS : va_S A H0 H locs) (q0 : Nat) {fs : List Value} {x : Nat} (he : ws[q0]? = some (b, .inr (5, fs))) (hl : 3 < fs.length) (hdg : decode cc pc = .ok (.putfield 18, 3)) (kk : ∀ (H1 : Heap) (locs1 : List Loc), va_P D vwCl (ws.set q0 (b, .inr (5, fs.set 3 (.ref x)))) H1 → va_D A (ws.set q0 (b, .inr (5, fs.set 3 (.ref x)))) → va_S A H0 H1 locs1 → W p l e R s m args below meth c H1 locs1 cells slots Q (F0 m (pc + 3) ls rest)) : W p l e R s m args below meth c H locs cells slots Q (F0 m pc ls (.ref x :: .ref b :: rest)) :=
  va_put (D := D) (ci := 5) (ty := (.object "WolfsHead$Text")) (C := RX5) (T := TX5) (N := 6) hx hb hts inX5 tyX5 tyX5_ok nmX5 hown hK hP hD hS q0 he rfl 3 (by decide) (hts _ wd333) (fun _ h => h) rfl (by decide +kernel) rfl rfl hl hdg kk
theorem kwX5_32 (ht : ∀ w ∈ lw_g, w.before args s = true) (hrc : rm.cells = 0) (hrs : rm.slots = 0) (hR : rm.frames + 1 ≤ R.frames ∧ 8 + (2 + 11) + rm.locals ≤ R.locals) : CallW R s args RX5 RX9 32 yX9_empty cX9_empty 2 none (mw yX9_empty cX9_empty 2 none) rm 0 0 0 :=
  mcw_V 0 ht wd572 wd139 wd575 wd573 wd574 ⟨by decide, by decide, by decide +kernel⟩ hrc hrs hR
theorem kwX5_37 (ht : ∀ w ∈ lw_g, w.before args s = true) (hrc : rm.cells = 0) (hrs : rm.slots = 0) (hR : rm.frames + 1 ≤ R.frames ∧ 8 + (3 + 11) + rm.locals ≤ R.locals) : CallW R s args RX5 RX8 37 yX8_split cX8_split 3 none (mw yX8_split cX8_split 3 none) rm 0 0 0 :=
  mcw_V 0 ht wd576 wd134 wd579 wd577 wd578 ⟨by decide, by decide, by decide +kernel⟩ hrc hrs hR
theorem kwX5_46 (ht : ∀ w ∈ lw_g, w.before args s = true) (hrc : rm.cells = 0) (hrs : rm.slots = 0) (hR : rm.frames + 1 ≤ R.frames ∧ 8 + (4 + 11) + rm.locals ≤ R.locals) : CallW R s args RX5 RX5 46 yX5_clause cX5_clause 4 (some .boolean) (mw yX5_clause cX5_clause 4 (some .boolean)) rm 0 0 1 :=
  mcw_V 1 ht wd673 wd135 wd676 wd675 wd8 ⟨by decide, by decide, by decide +kernel⟩ hrc hrs hR
theorem kwX8_36 (ht : ∀ w ∈ lw_g, w.before args s = true) (hrc : rm.cells = 0) (hrs : rm.slots = 0) (hR : rm.frames + 1 ≤ R.frames ∧ 8 + (1 + 11) + rm.locals ≤ R.locals) : CallB R s args RX8 36 yX8_isBlank cX8_isBlank 1 (some .boolean) (mw yX8_isBlank cX8_isBlank 1 (some .boolean)) rm 0 0 1 ∧ (Cond.static yX8_isBlank).before args s = true :=
  mcw_S 1 ht wd584 wd134 wd586 wd585 ⟨by decide, by decide, by decide +kernel⟩ hrc hrs hR
theorem kwX8_40 (ht : ∀ w ∈ lw_g, w.before args s = true) (hrc : rm.cells = 0) (hrs : rm.slots = 0) (hR : rm.frames + 1 ≤ R.frames ∧ 8 + (5 + 11) + rm.locals ≤ R.locals) : CallW R s args RX8 RX8 40 yX8_cutToken cX8_cutToken 5 (some .int) (mw yX8_cutToken cX8_cutToken 5 (some .int)) rm 0 0 1 :=
  mcw_V 1 ht wd587 wd134 wd590 wd589 wd2 ⟨by decide, by decide, by decide +kernel⟩ hrc hrs hR
theorem kwX8_43 (ht : ∀ w ∈ lw_g, w.before args s = true) (hrc : rm.cells = 0) (hrs : rm.slots = 0) (hR : rm.frames + 1 ≤ R.frames ∧ 8 + (4 + 11) + rm.locals ≤ R.locals) : CallW R s args RX8 RX8 43 yX8_put cX8_put 4 none (mw yX8_put cX8_put 4 none) rm 0 0 3 :=
  mcw_V 3 ht wd651 wd134 wd654 wd653 wd5 ⟨by decide, by decide, by decide +kernel⟩ hrc hrs hR
theorem kwX8_47 (ht : ∀ w ∈ lw_g, w.before args s = true) (hrc : rm.cells = 0) (hrs : rm.slots = 0) (hR : rm.frames + 1 ≤ R.frames ∧ 8 + (1 + 11) + rm.locals ≤ R.locals) : CallB R s args RX8 47 yX8_isLetter cX8_isLetter 1 (some .boolean) (mw yX8_isLetter cX8_isLetter 1 (some .boolean)) rm 0 0 1 ∧ (Cond.static yX8_isLetter).before args s = true :=
  mcw_S 1 ht wd591 wd134 wd593 wd592 ⟨by decide, by decide, by decide +kernel⟩ hrc hrs hR
theorem kwX8_50 (ht : ∀ w ∈ lw_g, w.before args s = true) (hrc : rm.cells = 0) (hrs : rm.slots = 0) (hR : rm.frames + 1 ≤ R.frames ∧ 8 + (6 + 11) + rm.locals ≤ R.locals) : CallW R s args RX8 RX8 50 yX8_wordOf cX8_wordOf 6 (some .int) (mw yX8_wordOf cX8_wordOf 6 (some .int)) rm 0 0 2 :=
  mcw_V 2 ht wd594 wd134 wd597 wd596 wd3 ⟨by decide, by decide, by decide +kernel⟩ hrc hrs hR
theorem kwX8_54 (ht : ∀ w ∈ lw_g, w.before args s = true) (hrc : rm.cells = 0) (hrs : rm.slots = 0) (hR : rm.frames + 1 ≤ R.frames ∧ 8 + (1 + 11) + rm.locals ≤ R.locals) : CallB R s args RX8 54 yX8_isDigit cX8_isDigit 1 (some .boolean) (mw yX8_isDigit cX8_isDigit 1 (some .boolean)) rm 0 0 1 ∧ (Cond.static yX8_isDigit).before args s = true :=
  mcw_S 1 ht wd655 wd134 wd657 wd656 ⟨by decide, by decide, by decide +kernel⟩ hrc hrs hR
theorem kwX8_62 (ht : ∀ w ∈ lw_g, w.before args s = true) (hrc : rm.cells = 0) (hrs : rm.slots = 0) (hR : rm.frames + 1 ≤ R.frames ∧ 8 + (3 + 11) + rm.locals ≤ R.locals) : CallW R s args RX8 RX8 62 yX8_signAt cX8_signAt 3 (some .int) (mw yX8_signAt cX8_signAt 3 (some .int)) rm 0 0 1 :=
  mcw_V 1 ht wd661 wd134 wd664 wd663 wd6 ⟨by decide, by decide, by decide +kernel⟩ hrc hrs hR
theorem kwX8_67 (ht : ∀ w ∈ lw_g, w.before args s = true) (hrc : rm.cells = 0) (hrs : rm.slots = 0) (hR : rm.frames + 1 ≤ R.frames ∧ 8 + (1 + 11) + rm.locals ≤ R.locals) : CallW R s args RX8 RJ0 67 yJ0_length_8abf5 cJ0_length_8abf5 1 (some .int) (mw yJ0_length_8abf5 cJ0_length_8abf5 1 (some .int)) rm 0 0 0 :=
  mcw_V 0 ht wd599 wd141 wd602 wd600 wd601 ⟨by decide, by decide, by decide +kernel⟩ hrc hrs hR
theorem kwX8_72 (ht : ∀ w ∈ lw_g, w.before args s = true) (hrc : rm.cells = 0) (hrs : rm.slots = 0) (hR : rm.frames + 1 ≤ R.frames ∧ 8 + (2 + 11) + rm.locals ≤ R.locals) : CallW R s args RX8 RJ0 72 yJ0_charAt_5068e cJ0_charAt_5068e 2 (some .char) (mw yJ0_charAt_5068e cJ0_charAt_5068e 2 (some .char)) rm 0 0 1 :=
  mcw_V 1 ht wd609 wd141 wd612 wd610 wd611 ⟨by decide, by decide, by decide +kernel⟩ hrc hrs hR
theorem kwX8_76 (ht : ∀ w ∈ lw_g, w.before args s = true) (hrc : rm.cells = 0) (hrs : rm.slots = 0) (hR : rm.frames + 1 ≤ R.frames ∧ 8 + (5 + 11) + rm.locals ≤ R.locals) : CallW R s args RX8 RX8 76 yX8_spells cX8_spells 5 (some .boolean) (mw yX8_spells cX8_spells 5 (some .boolean)) rm 0 0 3 :=
  mcw_V 3 ht wd647 wd134 wd650 wd649 wd4 ⟨by decide, by decide, by decide +kernel⟩ hrc hrs hR
theorem kwJ0_335 (ht : ∀ w ∈ lw_g, w.before args s = true) (hrc : rm.cells = 0) (hrs : rm.slots = 0) (hR : rm.frames + 1 ≤ R.frames ∧ 8 + (1 + 11) + rm.locals ≤ R.locals) : CallW R s args RJ0 RJ0 335 yJ0_coder_7d493 cJ0_coder_7d493 1 (some .byte) (mw yJ0_coder_7d493 cJ0_coder_7d493 1 (some .byte)) rm 0 0 0 :=
  mcw_V 0 ht wd603 wd141 wd606 wd604 wd605 ⟨by decide, by decide, by decide +kernel⟩ hrc hrs hR
theorem kwJ0_492 (ht : ∀ w ∈ lw_g, w.before args s = true) (hrc : rm.cells = 0) (hrs : rm.slots = 0) (hR : rm.frames + 1 ≤ R.frames ∧ 8 + (1 + 11) + rm.locals ≤ R.locals) : CallW R s args RJ0 RJ0 492 yJ0_isLatin1_aae02 cJ0_isLatin1_aae02 1 (some .boolean) (mw yJ0_isLatin1_aae02 cJ0_isLatin1_aae02 1 (some .boolean)) rm 0 0 0 :=
  mcw_V 0 ht wd613 wd141 wd616 wd614 wd615 ⟨by decide, by decide, by decide +kernel⟩ hrc hrs hR
theorem kwJ0_495 (ht : ∀ w ∈ lw_g, w.before args s = true) (hrc : rm.cells = 0) (hrs : rm.slots = 0) (hR : rm.frames + 1 ≤ R.frames ∧ 8 + (2 + 11) + rm.locals ≤ R.locals) : CallB R s args RJ0 495 yJ1_charAt_3b067 cJ1_charAt_3b067 2 (some .char) (mw yJ1_charAt_3b067 cJ1_charAt_3b067 2 (some .char)) rm 0 0 2 ∧ (Cond.static yJ1_charAt_3b067).before args s = true :=
  mcw_S 2 ht wd617 wd142 wd619 wd618 ⟨by decide, by decide, by decide +kernel⟩ hrc hrs hR
theorem kwJ0_1059 (ht : ∀ w ∈ lw_g, w.before args s = true) (hrc : rm.cells = 0) (hrs : rm.slots = 0) (hR : rm.frames + 1 ≤ R.frames ∧ 8 + (3 + 11) + rm.locals ≤ R.locals) : CallB R s args RJ0 1059 yJ3_checkIndex_8e157 cJ3_checkIndex_8e157 3 (some .int) (mw yJ3_checkIndex_8e157 cJ3_checkIndex_8e157 3 (some .int)) rm 0 0 3 ∧ (Cond.static yJ3_checkIndex_8e157).before args s = true :=
  mcw_S 3 ht wd625 wd143 wd627 wd626 ⟨by decide, by decide, by decide +kernel⟩ hrc hrs hR
theorem kwJ1_9 (ht : ∀ w ∈ lw_g, w.before args s = true) (hrc : rm.cells = 0) (hrs : rm.slots = 0) (hR : rm.frames + 1 ≤ R.frames ∧ 8 + (2 + 11) + rm.locals ≤ R.locals) : CallB R s args RJ1 9 yJ0_checkIndex_df160 cJ0_checkIndex_df160 2 none (mw yJ0_checkIndex_df160 cJ0_checkIndex_df160 2 none) rm 0 0 2 ∧ (Cond.static yJ0_checkIndex_df160).before args s = true :=
  mcw_S 2 ht wd620 wd141 wd622 wd621 ⟨by decide, by decide, by decide +kernel⟩ hrc hrs hR
end
abbrev W_TP_0t4 (qt0 : Nat) (qt1 : Nat) (qt2 : Nat) (qt3 : Nat) (qt4 : Nat) (cI cJ cZ cB cT : ClassId) (t_len : Int32) (t_tok : Int32) (t_by : Nat → Int32) (t_ki : Nat → Int32) (t_pl : Nat → Int32) (t_nu : Nat → Int32) : va_W := [(qt0, .inr (8, [.int t_len, .int t_tok, .ref qt1, .ref qt2, .ref qt3, .ref qt4])), (qt1, .inl (cB, 300, .inl t_by)), (qt2, .inl (cI, 301, .inl t_ki)), (qt3, .inl (cI, 301, .inl t_pl)), (qt4, .inl (cI, 301, .inl t_nu))]
abbrev W_RDR_0t10 (qb0 : Nat) (qb1 : Nat) (qb2 : Nat) (qb3 : Nat) (qb4 : Nat) (qx0 : Nat) (qx1 : Nat) (qx2 : Nat) (qx3 : Nat) (qx4 : Nat) (qe0 : Nat) (cI cJ cZ cB cT : ClassId) (b_len : Int32) (b_tok : Int32) (b_by : Nat → Int32) (b_ki : Nat → Int32) (b_pl : Nat → Int32) (b_nu : Nat → Int32) (x_cl : Int32) (x_ln : Int32) (x_pt : Int32) (x_code : Nat → Int32) (x_st : Nat → Int32) (x_en : Nat → Int32) (x_rows : Nat → Int32) (e_fault : Int32) (e_place : Int32) (e_text : Value) (e_at : Int32) (e_law : Int32) : va_W := [(qb0, .inr (8, [.int b_len, .int b_tok, .ref qb1, .ref qb2, .ref qb3, .ref qb4])), (qb1, .inl (cB, 300, .inl b_by)), (qb2, .inl (cI, 301, .inl b_ki)), (qb3, .inl (cI, 301, .inl b_pl)), (qb4, .inl (cI, 301, .inl b_nu)), (qx0, .inr (9, [.int x_cl, .int x_ln, .int x_pt, .ref qx1, .ref qx2, .ref qx3, .ref qx4])), (qx1, .inl (cI, 301, .inl x_code)), (qx2, .inl (cI, 4, .inl x_st)), (qx3, .inl (cI, 4, .inl x_en)), (qx4, .inl (cI, 120, .inl x_rows)), (qe0, .inr (5, [.int e_fault, .int e_place, .ref qb0, e_text, .int e_at, .int e_law]))]
