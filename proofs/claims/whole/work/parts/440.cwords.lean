
section
set_option maxRecDepth 100000 in
theorem wd11 : Cond.selects RX5 yX5_lawOf yX5_lawOf ∈ lw_g := in_g (tp_in (List.mem_of_getElem? (i := 11) rfl)) rfl
set_option maxRecDepth 100000 in
theorem wd12 : Cond.selects RX5 yX5_sum yX5_sum ∈ lw_g := in_g (tp_in (List.mem_of_getElem? (i := 12) rfl)) rfl
set_option maxRecDepth 100000 in
theorem wd13 : Cond.selects RX5 yX5_product yX5_product ∈ lw_g := in_g (tp_in (List.mem_of_getElem? (i := 13) rfl)) rfl
set_option maxRecDepth 100000 in
theorem wd14 : Cond.selects RX5 yX5_one yX5_one ∈ lw_g := in_g (tp_in (List.mem_of_getElem? (i := 14) rfl)) rfl
set_option maxRecDepth 100000 in
theorem wd15 : Cond.selects RX5 yX5_leaf yX5_leaf ∈ lw_g := in_g (tp_in (List.mem_of_getElem? (i := 15) rfl)) rfl
set_option maxRecDepth 100000 in
theorem wd17 : Cond.selects RX5 yX5_choice yX5_choice ∈ lw_g := in_g (tp_in (List.mem_of_getElem? (i := 17) rfl)) rfl
set_option maxRecDepth 100000 in
theorem wd18 : Cond.selects RX5 yX5_either yX5_either ∈ lw_g := in_g (tp_in (List.mem_of_getElem? (i := 18) rfl)) rfl
set_option maxRecDepth 100000 in
theorem wd19 : Cond.selects RX5 yX5_both yX5_both ∈ lw_g := in_g (tp_in (List.mem_of_getElem? (i := 19) rfl)) rfl
set_option maxRecDepth 100000 in
theorem wd20 : Cond.selects RX5 yX5_ask yX5_ask ∈ lw_g := in_g (tp_in (List.mem_of_getElem? (i := 20) rfl)) rfl
set_option maxRecDepth 100000 in
theorem wd21 : Cond.selects RX5 yX5_deedOf yX5_deedOf ∈ lw_g := in_g (tp_in (List.mem_of_getElem? (i := 21) rfl)) rfl
set_option maxRecDepth 100000 in
theorem wd685 : Cond.methodLink RX5 65 yX9_begun ∈ lw_g := in_g (t3_in (List.mem_of_getElem? (i := 78) rfl)) rfl
set_option maxRecDepth 100000 in
theorem wd689 : Cond.methodLink RX5 68 yX9_openClause ∈ lw_g := in_g (t3_in (List.mem_of_getElem? (i := 82) rfl)) rfl
set_option maxRecDepth 100000 in
theorem wd690 : Cond.instanceMethod yX9_openClause ∈ lw_g := in_g (t3_in (List.mem_of_getElem? (i := 83) rfl)) rfl
set_option maxRecDepth 100000 in
theorem wd691 : Cond.selects RX9 yX9_openClause yX9_openClause ∈ lw_g := in_g (t3_in (List.mem_of_getElem? (i := 84) rfl)) rfl
set_option maxRecDepth 100000 in
theorem wd692 : Cond.code yX9_openClause cX9_openClause 2 none ∈ lw_g := in_g (t3_in (List.mem_of_getElem? (i := 85) rfl)) rfl
set_option maxRecDepth 100000 in
theorem wd701 : Cond.methodLink RX5 72 yX5_lawOf ∈ lw_g := in_g (t3_in (List.mem_of_getElem? (i := 94) rfl)) rfl
set_option maxRecDepth 100000 in
theorem wd703 : Cond.instanceMethod yX5_lawOf ∈ lw_g := in_g (t3_in (List.mem_of_getElem? (i := 96) rfl)) rfl
set_option maxRecDepth 100000 in
theorem wd704 : Cond.code yX5_lawOf cX5_lawOf 2 (some .boolean) ∈ lw_g := in_g (t3_in (List.mem_of_getElem? (i := 97) rfl)) rfl
set_option maxRecDepth 100000 in
theorem wd705 : Cond.methodLink RX5 81 yX5_sum ∈ lw_g := in_g (t3_in (List.mem_of_getElem? (i := 98) rfl)) rfl
set_option maxRecDepth 100000 in
theorem wd707 : Cond.instanceMethod yX5_sum ∈ lw_g := in_g (t3_in (List.mem_of_getElem? (i := 100) rfl)) rfl
set_option maxRecDepth 100000 in
theorem wd708 : Cond.code yX5_sum cX5_sum 4 (some .boolean) ∈ lw_g := in_g (t3_in (List.mem_of_getElem? (i := 101) rfl)) rfl
set_option maxRecDepth 100000 in
theorem wd709 : Cond.methodLink RX5 96 yX5_product ∈ lw_g := in_g (t3_in (List.mem_of_getElem? (i := 102) rfl)) rfl
set_option maxRecDepth 100000 in
theorem wd711 : Cond.instanceMethod yX5_product ∈ lw_g := in_g (t3_in (List.mem_of_getElem? (i := 104) rfl)) rfl
set_option maxRecDepth 100000 in
theorem wd712 : Cond.code yX5_product cX5_product 4 (some .boolean) ∈ lw_g := in_g (t3_in (List.mem_of_getElem? (i := 105) rfl)) rfl
set_option maxRecDepth 100000 in
theorem wd713 : Cond.methodLink RX5 103 yX5_one ∈ lw_g := in_g (t3_in (List.mem_of_getElem? (i := 106) rfl)) rfl
set_option maxRecDepth 100000 in
theorem wd715 : Cond.instanceMethod yX5_one ∈ lw_g := in_g (t3_in (List.mem_of_getElem? (i := 108) rfl)) rfl
set_option maxRecDepth 100000 in
theorem wd716 : Cond.code yX5_one cX5_one 4 (some .boolean) ∈ lw_g := in_g (t3_in (List.mem_of_getElem? (i := 109) rfl)) rfl
set_option maxRecDepth 100000 in
theorem wd717 : Cond.methodLink RX5 106 yX5_leaf ∈ lw_g := in_g (t3_in (List.mem_of_getElem? (i := 110) rfl)) rfl
set_option maxRecDepth 100000 in
theorem wd719 : Cond.instanceMethod yX5_leaf ∈ lw_g := in_g (t3_in (List.mem_of_getElem? (i := 112) rfl)) rfl
set_option maxRecDepth 100000 in
theorem wd720 : Cond.code yX5_leaf cX5_leaf 3 (some .boolean) ∈ lw_g := in_g (t3_in (List.mem_of_getElem? (i := 113) rfl)) rfl
set_option maxRecDepth 100000 in
theorem wd735 : Cond.methodLink RX5 109 yX5_choice ∈ lw_g := in_g (t3_in (List.mem_of_getElem? (i := 128) rfl)) rfl
set_option maxRecDepth 100000 in
theorem wd737 : Cond.instanceMethod yX5_choice ∈ lw_g := in_g (t3_in (List.mem_of_getElem? (i := 130) rfl)) rfl
set_option maxRecDepth 100000 in
theorem wd738 : Cond.code yX5_choice cX5_choice 4 (some .boolean) ∈ lw_g := in_g (t3_in (List.mem_of_getElem? (i := 131) rfl)) rfl
set_option maxRecDepth 100000 in
theorem wd739 : Cond.methodLink RX5 116 yX5_either ∈ lw_g := in_g (t3_in (List.mem_of_getElem? (i := 132) rfl)) rfl
set_option maxRecDepth 100000 in
theorem wd741 : Cond.instanceMethod yX5_either ∈ lw_g := in_g (t3_in (List.mem_of_getElem? (i := 134) rfl)) rfl
set_option maxRecDepth 100000 in
theorem wd742 : Cond.code yX5_either cX5_either 3 (some .boolean) ∈ lw_g := in_g (t3_in (List.mem_of_getElem? (i := 135) rfl)) rfl
set_option maxRecDepth 100000 in
theorem wd743 : Cond.methodLink RX5 125 yX5_both ∈ lw_g := in_g (t3_in (List.mem_of_getElem? (i := 136) rfl)) rfl
set_option maxRecDepth 100000 in
theorem wd745 : Cond.instanceMethod yX5_both ∈ lw_g := in_g (t3_in (List.mem_of_getElem? (i := 138) rfl)) rfl
set_option maxRecDepth 100000 in
theorem wd746 : Cond.code yX5_both cX5_both 3 (some .boolean) ∈ lw_g := in_g (t3_in (List.mem_of_getElem? (i := 139) rfl)) rfl
set_option maxRecDepth 100000 in
theorem wd747 : Cond.methodLink RX5 128 yX5_ask ∈ lw_g := in_g (t3_in (List.mem_of_getElem? (i := 140) rfl)) rfl
set_option maxRecDepth 100000 in
theorem wd749 : Cond.instanceMethod yX5_ask ∈ lw_g := in_g (t3_in (List.mem_of_getElem? (i := 142) rfl)) rfl
set_option maxRecDepth 100000 in
theorem wd750 : Cond.code yX5_ask cX5_ask 3 (some .boolean) ∈ lw_g := in_g (t3_in (List.mem_of_getElem? (i := 143) rfl)) rfl
set_option maxRecDepth 100000 in
theorem wd751 : Cond.methodLink RX5 119 yX9_putLeap ∈ lw_g := in_g (t3_in (List.mem_of_getElem? (i := 144) rfl)) rfl
set_option maxRecDepth 100000 in
theorem wd752 : Cond.instanceMethod yX9_putLeap ∈ lw_g := in_g (t3_in (List.mem_of_getElem? (i := 145) rfl)) rfl
set_option maxRecDepth 100000 in
theorem wd753 : Cond.selects RX9 yX9_putLeap yX9_putLeap ∈ lw_g := in_g (t3_in (List.mem_of_getElem? (i := 146) rfl)) rfl
set_option maxRecDepth 100000 in
theorem wd754 : Cond.code yX9_putLeap cX9_putLeap 2 (some .int) ∈ lw_g := in_g (t3_in (List.mem_of_getElem? (i := 147) rfl)) rfl
set_option maxRecDepth 100000 in
theorem wd756 : Cond.methodLink RX5 122 yX9_leapsHere ∈ lw_g := in_g (t3_in (List.mem_of_getElem? (i := 149) rfl)) rfl
set_option maxRecDepth 100000 in
theorem wd757 : Cond.instanceMethod yX9_leapsHere ∈ lw_g := in_g (t3_in (List.mem_of_getElem? (i := 150) rfl)) rfl
set_option maxRecDepth 100000 in
theorem wd758 : Cond.selects RX9 yX9_leapsHere yX9_leapsHere ∈ lw_g := in_g (t3_in (List.mem_of_getElem? (i := 151) rfl)) rfl
set_option maxRecDepth 100000 in
theorem wd759 : Cond.code yX9_leapsHere cX9_leapsHere 3 none ∈ lw_g := in_g (t3_in (List.mem_of_getElem? (i := 152) rfl)) rfl
set_option maxRecDepth 100000 in
theorem wd760 : Cond.methodLink RX5 84 yX9_closeLaw ∈ lw_g := in_g (t3_in (List.mem_of_getElem? (i := 153) rfl)) rfl
set_option maxRecDepth 100000 in
theorem wd761 : Cond.instanceMethod yX9_closeLaw ∈ lw_g := in_g (t3_in (List.mem_of_getElem? (i := 154) rfl)) rfl
set_option maxRecDepth 100000 in
theorem wd762 : Cond.selects RX9 yX9_closeLaw yX9_closeLaw ∈ lw_g := in_g (t3_in (List.mem_of_getElem? (i := 155) rfl)) rfl
set_option maxRecDepth 100000 in
theorem wd763 : Cond.code yX9_closeLaw cX9_closeLaw 2 none ∈ lw_g := in_g (t3_in (List.mem_of_getElem? (i := 156) rfl)) rfl
set_option maxRecDepth 100000 in
theorem wd764 : Cond.methodLink RX5 75 yX5_deedOf ∈ lw_g := in_g (t3_in (List.mem_of_getElem? (i := 157) rfl)) rfl
set_option maxRecDepth 100000 in
theorem wd766 : Cond.instanceMethod yX5_deedOf ∈ lw_g := in_g (t3_in (List.mem_of_getElem? (i := 159) rfl)) rfl
set_option maxRecDepth 100000 in
theorem wd767 : Cond.code yX5_deedOf cX5_deedOf 4 (some .boolean) ∈ lw_g := in_g (t3_in (List.mem_of_getElem? (i := 160) rfl)) rfl
variable {p : Program} {l : Launch} {e : Env} {R : Room} {s : State} {m : MethodId} {args : Array Value} {below : List Frame} {meth : Method} {c : Code} {H : Heap} {locs : List Loc} {cells slots : Nat} {Q : State → Prop}
variable {cc bytes : ByteArray} {pc nL maxL index n : Nat} {ls : Array Slot} {rest st : List Value} {A : Nat → Prop} {H0 : Heap} {D : va_G} {tys : List (ClassId × FieldType)} {ws wc wr w1 : va_W} {rm : Room} {b : Addr}
theorem pfX5_25 (hx : p.tables.exec = Jvm.exec) (hb : c.code = cc) (hts : ∀ w ∈ lw_g, w.before args s = true) (hown : s.vm.findClass RX5 = some m.cls) (hK : va_K D vwCl tys s) (hP : va_P D vwCl ws H) (hD : va_D A ws) (hS : va_S A H0 H locs) (q0 : Nat) {fs : List Value} {x : Int32} (he : ws[q0]? = some (b, .inr (5, fs))) (hl : 5 < fs.length) (hdg : decode cc pc = .ok (.putfield 25, 3)) (kk : ∀ (H1 : Heap) (locs1 : List Loc), va_P D vwCl (ws.set q0 (b, .inr (5, fs.set 5 (.int x)))) H1 → va_D A (ws.set q0 (b, .inr (5, fs.set 5 (.int x)))) → va_S A H0 H1 locs1 → W p l e R s m args below meth c H1 locs1 cells slots Q (F0 m (pc + 3) ls rest)) : W p l e R s m args below meth c H locs cells slots Q (F0 m pc ls (.int x :: .ref b :: rest)) :=
  va_put (D := D) (ci := 5) (ty := (.int)) (C := RX5) (T := TX5) (N := 6) hx hb hts inX5 tyX5 tyX5_ok nmX5 hown hK hP hD hS q0 he rfl 5 (by decide) (hts _ wd335) (fun _ h => h) rfl (by decide +kernel) rfl rfl hl hdg kk
theorem kwX5_65 (ht : ∀ w ∈ lw_g, w.before args s = true) (hrc : rm.cells = 0) (hrs : rm.slots = 0) (hR : rm.frames + 1 ≤ R.frames ∧ 8 + (2 + 11) + rm.locals ≤ R.locals) : CallW R s args RX5 RX9 65 yX9_begun cX9_begun 2 (some .boolean) (mw yX9_begun cX9_begun 2 (some .boolean)) rm 0 0 1 :=
  mcw_V 1 ht wd685 wd139 wd688 wd686 wd687 ⟨by decide, by decide, by decide +kernel⟩ hrc hrs hR
theorem kwX5_68 (ht : ∀ w ∈ lw_g, w.before args s = true) (hrc : rm.cells = 0) (hrs : rm.slots = 0) (hR : rm.frames + 1 ≤ R.frames ∧ 8 + (2 + 11) + rm.locals ≤ R.locals) : CallW R s args RX5 RX9 68 yX9_openClause cX9_openClause 2 none (mw yX9_openClause cX9_openClause 2 none) rm 0 0 1 :=
  mcw_V 1 ht wd689 wd139 wd692 wd690 wd691 ⟨by decide, by decide, by decide +kernel⟩ hrc hrs hR
theorem kwX5_72 (ht : ∀ w ∈ lw_g, w.before args s = true) (hrc : rm.cells = 0) (hrs : rm.slots = 0) (hR : rm.frames + 1 ≤ R.frames ∧ 8 + (2 + 11) + rm.locals ≤ R.locals) : CallW R s args RX5 RX5 72 yX5_lawOf cX5_lawOf 2 (some .boolean) (mw yX5_lawOf cX5_lawOf 2 (some .boolean)) rm 0 0 1 :=
  mcw_V 1 ht wd701 wd135 wd704 wd703 wd11 ⟨by decide, by decide, by decide +kernel⟩ hrc hrs hR
theorem kwX5_75 (ht : ∀ w ∈ lw_g, w.before args s = true) (hrc : rm.cells = 0) (hrs : rm.slots = 0) (hR : rm.frames + 1 ≤ R.frames ∧ 8 + (4 + 11) + rm.locals ≤ R.locals) : CallW R s args RX5 RX5 75 yX5_deedOf cX5_deedOf 4 (some .boolean) (mw yX5_deedOf cX5_deedOf 4 (some .boolean)) rm 0 0 1 :=
  mcw_V 1 ht wd764 wd135 wd767 wd766 wd21 ⟨by decide, by decide, by decide +kernel⟩ hrc hrs hR
theorem kwX5_81 (ht : ∀ w ∈ lw_g, w.before args s = true) (hrc : rm.cells = 0) (hrs : rm.slots = 0) (hR : rm.frames + 1 ≤ R.frames ∧ 8 + (4 + 11) + rm.locals ≤ R.locals) : CallW R s args RX5 RX5 81 yX5_sum cX5_sum 4 (some .boolean) (mw yX5_sum cX5_sum 4 (some .boolean)) rm 0 0 1 :=
  mcw_V 1 ht wd705 wd135 wd708 wd707 wd12 ⟨by decide, by decide, by decide +kernel⟩ hrc hrs hR
theorem kwX5_84 (ht : ∀ w ∈ lw_g, w.before args s = true) (hrc : rm.cells = 0) (hrs : rm.slots = 0) (hR : rm.frames + 1 ≤ R.frames ∧ 8 + (2 + 11) + rm.locals ≤ R.locals) : CallW R s args RX5 RX9 84 yX9_closeLaw cX9_closeLaw 2 none (mw yX9_closeLaw cX9_closeLaw 2 none) rm 0 0 1 :=
  mcw_V 1 ht wd760 wd139 wd763 wd761 wd762 ⟨by decide, by decide, by decide +kernel⟩ hrc hrs hR
theorem kwX5_96 (ht : ∀ w ∈ lw_g, w.before args s = true) (hrc : rm.cells = 0) (hrs : rm.slots = 0) (hR : rm.frames + 1 ≤ R.frames ∧ 8 + (4 + 11) + rm.locals ≤ R.locals) : CallW R s args RX5 RX5 96 yX5_product cX5_product 4 (some .boolean) (mw yX5_product cX5_product 4 (some .boolean)) rm 0 0 1 :=
  mcw_V 1 ht wd709 wd135 wd712 wd711 wd13 ⟨by decide, by decide, by decide +kernel⟩ hrc hrs hR
theorem kwX5_103 (ht : ∀ w ∈ lw_g, w.before args s = true) (hrc : rm.cells = 0) (hrs : rm.slots = 0) (hR : rm.frames + 1 ≤ R.frames ∧ 8 + (4 + 11) + rm.locals ≤ R.locals) : CallW R s args RX5 RX5 103 yX5_one cX5_one 4 (some .boolean) (mw yX5_one cX5_one 4 (some .boolean)) rm 0 0 1 :=
  mcw_V 1 ht wd713 wd135 wd716 wd715 wd14 ⟨by decide, by decide, by decide +kernel⟩ hrc hrs hR
theorem kwX5_106 (ht : ∀ w ∈ lw_g, w.before args s = true) (hrc : rm.cells = 0) (hrs : rm.slots = 0) (hR : rm.frames + 1 ≤ R.frames ∧ 8 + (3 + 11) + rm.locals ≤ R.locals) : CallW R s args RX5 RX5 106 yX5_leaf cX5_leaf 3 (some .boolean) (mw yX5_leaf cX5_leaf 3 (some .boolean)) rm 0 0 1 :=
  mcw_V 1 ht wd717 wd135 wd720 wd719 wd15 ⟨by decide, by decide, by decide +kernel⟩ hrc hrs hR
theorem kwX5_109 (ht : ∀ w ∈ lw_g, w.before args s = true) (hrc : rm.cells = 0) (hrs : rm.slots = 0) (hR : rm.frames + 1 ≤ R.frames ∧ 8 + (4 + 11) + rm.locals ≤ R.locals) : CallW R s args RX5 RX5 109 yX5_choice cX5_choice 4 (some .boolean) (mw yX5_choice cX5_choice 4 (some .boolean)) rm 0 0 1 :=
  mcw_V 1 ht wd735 wd135 wd738 wd737 wd17 ⟨by decide, by decide, by decide +kernel⟩ hrc hrs hR
theorem kwX5_116 (ht : ∀ w ∈ lw_g, w.before args s = true) (hrc : rm.cells = 0) (hrs : rm.slots = 0) (hR : rm.frames + 1 ≤ R.frames ∧ 8 + (3 + 11) + rm.locals ≤ R.locals) : CallW R s args RX5 RX5 116 yX5_either cX5_either 3 (some .boolean) (mw yX5_either cX5_either 3 (some .boolean)) rm 0 0 1 :=
  mcw_V 1 ht wd739 wd135 wd742 wd741 wd18 ⟨by decide, by decide, by decide +kernel⟩ hrc hrs hR
theorem kwX5_119 (ht : ∀ w ∈ lw_g, w.before args s = true) (hrc : rm.cells = 0) (hrs : rm.slots = 0) (hR : rm.frames + 1 ≤ R.frames ∧ 8 + (2 + 11) + rm.locals ≤ R.locals) : CallW R s args RX5 RX9 119 yX9_putLeap cX9_putLeap 2 (some .int) (mw yX9_putLeap cX9_putLeap 2 (some .int)) rm 0 0 1 :=
  mcw_V 1 ht wd751 wd139 wd754 wd752 wd753 ⟨by decide, by decide, by decide +kernel⟩ hrc hrs hR
theorem kwX5_122 (ht : ∀ w ∈ lw_g, w.before args s = true) (hrc : rm.cells = 0) (hrs : rm.slots = 0) (hR : rm.frames + 1 ≤ R.frames ∧ 8 + (3 + 11) + rm.locals ≤ R.locals) : CallW R s args RX5 RX9 122 yX9_leapsHere cX9_leapsHere 3 none (mw yX9_leapsHere cX9_leapsHere 3 none) rm 0 0 2 :=
  mcw_V 2 ht wd756 wd139 wd759 wd757 wd758 ⟨by decide, by decide, by decide +kernel⟩ hrc hrs hR
theorem kwX5_125 (ht : ∀ w ∈ lw_g, w.before args s = true) (hrc : rm.cells = 0) (hrs : rm.slots = 0) (hR : rm.frames + 1 ≤ R.frames ∧ 8 + (3 + 11) + rm.locals ≤ R.locals) : CallW R s args RX5 RX5 125 yX5_both cX5_both 3 (some .boolean) (mw yX5_both cX5_both 3 (some .boolean)) rm 0 0 1 :=
  mcw_V 1 ht wd743 wd135 wd746 wd745 wd19 ⟨by decide, by decide, by decide +kernel⟩ hrc hrs hR
theorem kwX5_128 (ht : ∀ w ∈ lw_g, w.before args s = true) (hrc : rm.cells = 0) (hrs : rm.slots = 0) (hR : rm.frames + 1 ≤ R.frames ∧ 8 + (3 + 11) + rm.locals ≤ R.locals) : CallW R s args RX5 RX5 128 yX5_ask cX5_ask 3 (some .boolean) (mw yX5_ask cX5_ask 3 (some .boolean)) rm 0 0 1 :=
  mcw_V 1 ht wd747 wd135 wd750 wd749 wd20 ⟨by decide, by decide, by decide +kernel⟩ hrc hrs hR
end
abbrev W_RD_0_2t6_10 (qb0 : Nat) (qb2 : Nat) (qb3 : Nat) (qb4 : Nat) (qx0 : Nat) (qx1 : Nat) (qe0 : Nat) (qb1 : Nat) (qx2 : Nat) (qx3 : Nat) (qx4 : Nat) (cI cJ cZ cB cT : ClassId) (b_len : Int32) (b_tok : Int32) (b_ki : Nat → Int32) (b_pl : Nat → Int32) (b_nu : Nat → Int32) (x_cl : Int32) (x_ln : Int32) (x_pt : Int32) (x_code : Nat → Int32) (e_fault : Int32) (e_place : Int32) (e_at : Int32) (e_law : Int32) : va_W := [(qb0, .inr (8, [.int b_len, .int b_tok, .ref qb1, .ref qb2, .ref qb3, .ref qb4])), (qb2, .inl (cI, 301, .inl b_ki)), (qb3, .inl (cI, 301, .inl b_pl)), (qb4, .inl (cI, 301, .inl b_nu)), (qx0, .inr (9, [.int x_cl, .int x_ln, .int x_pt, .ref qx1, .ref qx2, .ref qx3, .ref qx4])), (qx1, .inl (cI, 301, .inl x_code)), (qe0, .inr (5, [.int e_fault, .int e_place, .ref qb0, .ref qx0, .int e_at, .int e_law]))]
abbrev W_RD_0_2t6_8_10 (qb0 : Nat) (qb2 : Nat) (qb3 : Nat) (qb4 : Nat) (qx0 : Nat) (qx1 : Nat) (qx3 : Nat) (qe0 : Nat) (qb1 : Nat) (qx2 : Nat) (qx4 : Nat) (cI cJ cZ cB cT : ClassId) (b_len : Int32) (b_tok : Int32) (b_ki : Nat → Int32) (b_pl : Nat → Int32) (b_nu : Nat → Int32) (x_cl : Int32) (x_ln : Int32) (x_pt : Int32) (x_code : Nat → Int32) (x_en : Nat → Int32) (e_fault : Int32) (e_place : Int32) (e_at : Int32) (e_law : Int32) : va_W := [(qb0, .inr (8, [.int b_len, .int b_tok, .ref qb1, .ref qb2, .ref qb3, .ref qb4])), (qb2, .inl (cI, 301, .inl b_ki)), (qb3, .inl (cI, 301, .inl b_pl)), (qb4, .inl (cI, 301, .inl b_nu)), (qx0, .inr (9, [.int x_cl, .int x_ln, .int x_pt, .ref qx1, .ref qx2, .ref qx3, .ref qx4])), (qx1, .inl (cI, 301, .inl x_code)), (qx3, .inl (cI, 4, .inl x_en)), (qe0, .inr (5, [.int e_fault, .int e_place, .ref qb0, .ref qx0, .int e_at, .int e_law]))]
abbrev W_RD_0_2t10 (qb0 : Nat) (qb2 : Nat) (qb3 : Nat) (qb4 : Nat) (qx0 : Nat) (qx1 : Nat) (qx2 : Nat) (qx3 : Nat) (qx4 : Nat) (qe0 : Nat) (qb1 : Nat) (cI cJ cZ cB cT : ClassId) (b_len : Int32) (b_tok : Int32) (b_ki : Nat → Int32) (b_pl : Nat → Int32) (b_nu : Nat → Int32) (x_cl : Int32) (x_ln : Int32) (x_pt : Int32) (x_code : Nat → Int32) (x_st : Nat → Int32) (x_en : Nat → Int32) (x_rows : Nat → Int32) (e_fault : Int32) (e_place : Int32) (e_at : Int32) (e_law : Int32) : va_W := [(qb0, .inr (8, [.int b_len, .int b_tok, .ref qb1, .ref qb2, .ref qb3, .ref qb4])), (qb2, .inl (cI, 301, .inl b_ki)), (qb3, .inl (cI, 301, .inl b_pl)), (qb4, .inl (cI, 301, .inl b_nu)), (qx0, .inr (9, [.int x_cl, .int x_ln, .int x_pt, .ref qx1, .ref qx2, .ref qx3, .ref qx4])), (qx1, .inl (cI, 301, .inl x_code)), (qx2, .inl (cI, 4, .inl x_st)), (qx3, .inl (cI, 4, .inl x_en)), (qx4, .inl (cI, 120, .inl x_rows)), (qe0, .inr (5, [.int e_fault, .int e_place, .ref qb0, .ref qx0, .int e_at, .int e_law]))]
