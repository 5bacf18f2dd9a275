set_option maxRecDepth 100000 in
theorem flX5_112 : Cond.fieldLink RX5 112 "WolfsHead$Reader" "NAME_LAWS" "[I" ∈ lw_g := in_g (t3_in (List.mem_of_getElem? (i := 118) rfl)) rfl
set_option maxRecDepth 100000 in
theorem mtX4_64 : mtW RX4 64 Lib.Math.max.name Lib.Math.max.code 2 (some .int) := ⟨in_g (t5_in (List.mem_of_getElem? (i := 159) rfl)) rfl, in_g (t4_in (List.mem_of_getElem? (i := 46) rfl)) rfl, in_g (t1_in (List.mem_of_getElem? (i := 18) rfl)) rfl, in_g (t4_in (List.mem_of_getElem? (i := 47) rfl)) rfl⟩
section
set_option maxRecDepth 100000 in
theorem wd7 : Cond.selects RX5 yX5_token yX5_token ∈ lw_g := in_g (tp_in (List.mem_of_getElem? (i := 7) rfl)) rfl
set_option maxRecDepth 100000 in
theorem wd9 : Cond.selects RX5 yX5_fail yX5_fail ∈ lw_g := in_g (tp_in (List.mem_of_getElem? (i := 9) rfl)) rfl
set_option maxRecDepth 100000 in
theorem wd10 : Cond.selects RX5 yX5_next yX5_next ∈ lw_g := in_g (tp_in (List.mem_of_getElem? (i := 10) rfl)) rfl
set_option maxRecDepth 100000 in
theorem wd16 : Cond.selects RX5 yX5_expect yX5_expect ∈ lw_g := in_g (tp_in (List.mem_of_getElem? (i := 16) rfl)) rfl
set_option maxRecDepth 100000 in
theorem wd22 : Cond.selects RX5 yX5_number yX5_number ∈ lw_g := in_g (tp_in (List.mem_of_getElem? (i := 22) rfl)) rfl
set_option maxRecDepth 100000 in
theorem wd43 : Cond.selects RX4 yX4_paint yX4_paint ∈ lw_g := in_g (tp_in (List.mem_of_getElem? (i := 43) rfl)) rfl
set_option maxRecDepth 100000 in
theorem wd44 : Cond.selects RX4 yX4_fits yX4_fits ∈ lw_g := in_g (tp_in (List.mem_of_getElem? (i := 44) rfl)) rfl
set_option maxRecDepth 100000 in
theorem wd135 : Cond.initialized RX5 ∈ lw_g := in_g (t1_in (List.mem_of_getElem? (i := 8) rfl)) rfl
set_option maxRecDepth 100000 in
theorem wd303 : Cond.fieldLink RX5 54 "WolfsHead$Tape" "tokens" "I" ∈ lw_g := in_g (t1_in (List.mem_of_getElem? (i := 176) rfl)) rfl
set_option maxRecDepth 100000 in
theorem wd328 : Cond.fieldLink RX5 9 "WolfsHead$Reader" "fault" "I" ∈ lw_g := in_g (t1_in (List.mem_of_getElem? (i := 201) rfl)) rfl
set_option maxRecDepth 100000 in
theorem wd330 : Cond.fieldLink RX5 15 "WolfsHead$Reader" "place" "I" ∈ lw_g := in_g (t1_in (List.mem_of_getElem? (i := 203) rfl)) rfl
set_option maxRecDepth 100000 in
theorem wd332 : Cond.fieldLink RX5 28 "WolfsHead$Reader" "tape" "LWolfsHead$Tape;" ∈ lw_g := in_g (t1_in (List.mem_of_getElem? (i := 205) rfl)) rfl
set_option maxRecDepth 100000 in
theorem wd333 : Cond.fieldLink RX5 18 "WolfsHead$Reader" "text" "LWolfsHead$Text;" ∈ lw_g := in_g (t1_in (List.mem_of_getElem? (i := 206) rfl)) rfl
set_option maxRecDepth 100000 in
theorem wd334 : Cond.fieldLink RX5 22 "WolfsHead$Reader" "at" "I" ∈ lw_g := in_g (t1_in (List.mem_of_getElem? (i := 207) rfl)) rfl
set_option maxRecDepth 100000 in
theorem wd335 : Cond.fieldLink RX5 25 "WolfsHead$Reader" "law" "I" ∈ lw_g := in_g (t1_in (List.mem_of_getElem? (i := 208) rfl)) rfl
set_option maxRecDepth 100000 in
theorem wd665 : Cond.methodLink RX5 42 yX5_token ∈ lw_g := in_g (t3_in (List.mem_of_getElem? (i := 58) rfl)) rfl
set_option maxRecDepth 100000 in
theorem wd667 : Cond.instanceMethod yX5_token ∈ lw_g := in_g (t3_in (List.mem_of_getElem? (i := 60) rfl)) rfl
set_option maxRecDepth 100000 in
theorem wd668 : Cond.code yX5_token cX5_token 1 (some .int) ∈ lw_g := in_g (t3_in (List.mem_of_getElem? (i := 61) rfl)) rfl
set_option maxRecDepth 100000 in
theorem wd669 : Cond.methodLink RX5 50 yX8_kind ∈ lw_g := in_g (t3_in (List.mem_of_getElem? (i := 62) rfl)) rfl
set_option maxRecDepth 100000 in
theorem wd670 : Cond.instanceMethod yX8_kind ∈ lw_g := in_g (t3_in (List.mem_of_getElem? (i := 63) rfl)) rfl
set_option maxRecDepth 100000 in
theorem wd671 : Cond.selects RX8 yX8_kind yX8_kind ∈ lw_g := in_g (t3_in (List.mem_of_getElem? (i := 64) rfl)) rfl
set_option maxRecDepth 100000 in
theorem wd672 : Cond.code yX8_kind cX8_kind 2 (some .int) ∈ lw_g := in_g (t3_in (List.mem_of_getElem? (i := 65) rfl)) rfl
set_option maxRecDepth 100000 in
theorem wd677 : Cond.methodLink RX5 59 yX5_fail ∈ lw_g := in_g (t3_in (List.mem_of_getElem? (i := 70) rfl)) rfl
set_option maxRecDepth 100000 in
theorem wd679 : Cond.instanceMethod yX5_fail ∈ lw_g := in_g (t3_in (List.mem_of_getElem? (i := 72) rfl)) rfl
set_option maxRecDepth 100000 in
theorem wd680 : Cond.code yX5_fail cX5_fail 2 (some .boolean) ∈ lw_g := in_g (t3_in (List.mem_of_getElem? (i := 73) rfl)) rfl
set_option maxRecDepth 100000 in
theorem wd681 : Cond.methodLink RX5 57 yX8_place ∈ lw_g := in_g (t3_in (List.mem_of_getElem? (i := 74) rfl)) rfl
set_option maxRecDepth 100000 in
theorem wd682 : Cond.instanceMethod yX8_place ∈ lw_g := in_g (t3_in (List.mem_of_getElem? (i := 75) rfl)) rfl
set_option maxRecDepth 100000 in
theorem wd683 : Cond.selects RX8 yX8_place yX8_place ∈ lw_g := in_g (t3_in (List.mem_of_getElem? (i := 76) rfl)) rfl
set_option maxRecDepth 100000 in
theorem wd684 : Cond.code yX8_place cX8_place 2 (some .int) ∈ lw_g := in_g (t3_in (List.mem_of_getElem? (i := 77) rfl)) rfl
set_option maxRecDepth 100000 in
theorem wd697 : Cond.methodLink RX5 62 yX5_next ∈ lw_g := in_g (t3_in (List.mem_of_getElem? (i := 90) rfl)) rfl
set_option maxRecDepth 100000 in
theorem wd699 : Cond.instanceMethod yX5_next ∈ lw_g := in_g (t3_in (List.mem_of_getElem? (i := 92) rfl)) rfl
set_option maxRecDepth 100000 in
theorem wd700 : Cond.code yX5_next cX5_next 1 none ∈ lw_g := in_g (t3_in (List.mem_of_getElem? (i := 93) rfl)) rfl
set_option maxRecDepth 100000 in
theorem wd721 : Cond.methodLink RX5 91 yX8_number ∈ lw_g := in_g (t3_in (List.mem_of_getElem? (i := 114) rfl)) rfl
set_option maxRecDepth 100000 in
theorem wd722 : Cond.instanceMethod yX8_number ∈ lw_g := in_g (t3_in (List.mem_of_getElem? (i := 115) rfl)) rfl
set_option maxRecDepth 100000 in
theorem wd723 : Cond.selects RX8 yX8_number yX8_number ∈ lw_g := in_g (t3_in (List.mem_of_getElem? (i := 116) rfl)) rfl
set_option maxRecDepth 100000 in
theorem wd724 : Cond.code yX8_number cX8_number 2 (some .int) ∈ lw_g := in_g (t3_in (List.mem_of_getElem? (i := 117) rfl)) rfl
set_option maxRecDepth 100000 in
theorem wd727 : Cond.methodLink RX5 99 yX9_put ∈ lw_g := in_g (t3_in (List.mem_of_getElem? (i := 120) rfl)) rfl
set_option maxRecDepth 100000 in
theorem wd731 : Cond.methodLink RX5 78 yX5_expect ∈ lw_g := in_g (t3_in (List.mem_of_getElem? (i := 124) rfl)) rfl
set_option maxRecDepth 100000 in
theorem wd733 : Cond.instanceMethod yX5_expect ∈ lw_g := in_g (t3_in (List.mem_of_getElem? (i := 126) rfl)) rfl
set_option maxRecDepth 100000 in
theorem wd734 : Cond.code yX5_expect cX5_expect 2 (some .boolean) ∈ lw_g := in_g (t3_in (List.mem_of_getElem? (i := 127) rfl)) rfl
set_option maxRecDepth 100000 in
theorem wd768 : Cond.methodLink RX5 87 yX5_number ∈ lw_g := in_g (t3_in (List.mem_of_getElem? (i := 161) rfl)) rfl
set_option maxRecDepth 100000 in
theorem wd770 : Cond.instanceMethod yX5_number ∈ lw_g := in_g (t3_in (List.mem_of_getElem? (i := 163) rfl)) rfl
set_option maxRecDepth 100000 in
theorem wd771 : Cond.code yX5_number cX5_number 4 (some .boolean) ∈ lw_g := in_g (t3_in (List.mem_of_getElem? (i := 164) rfl)) rfl
set_option maxRecDepth 100000 in
theorem wd772 : Cond.methodLink RX5 93 yX9_addPart ∈ lw_g := in_g (t3_in (List.mem_of_getElem? (i := 165) rfl)) rfl
set_option maxRecDepth 100000 in
theorem wd1238 : Cond.methodLink RX4 56 yX4_paint ∈ lw_g := in_g (t5_in (List.mem_of_getElem? (i := 151) rfl)) rfl
set_option maxRecDepth 100000 in
theorem wd1240 : Cond.instanceMethod yX4_paint ∈ lw_g := in_g (t5_in (List.mem_of_getElem? (i := 153) rfl)) rfl
set_option maxRecDepth 100000 in
theorem wd1241 : Cond.code yX4_paint cX4_paint 5 (some .boolean) ∈ lw_g := in_g (t5_in (List.mem_of_getElem? (i := 154) rfl)) rfl
set_option maxRecDepth 100000 in
theorem wd1242 : Cond.methodLink RX4 60 yX4_fits ∈ lw_g := in_g (t5_in (List.mem_of_getElem? (i := 155) rfl)) rfl
set_option maxRecDepth 100000 in
theorem wd1244 : Cond.instanceMethod yX4_fits ∈ lw_g := in_g (t5_in (List.mem_of_getElem? (i := 157) rfl)) rfl
set_option maxRecDepth 100000 in
theorem wd1245 : Cond.code yX4_fits cX4_fits 4 (some .boolean) ∈ lw_g := in_g (t5_in (List.mem_of_getElem? (i := 158) rfl)) rfl
set_option maxRecDepth 100000 in
theorem inX5 : ∀ w ∈ u_ws RX5 TX5 6, w ∈ lw_g := all_k [336, 338, 340, 342, 344, 346] (by decide +kernel) (by decide +kernel)
variable {p : Program} {l : Launch} {e : Env} {R : Room} {s : State} {m : MethodId} {args : Array Value} {below : List Frame} {meth : Method} {c : Code} {H : Heap} {locs : List Loc} {cells slots : Nat} {Q : State → Prop}
variable {cc bytes : ByteArray} {pc nL maxL index n : Nat} {ls : Array Slot} {rest st : List Value} {A : Nat → Prop} {H0 : Heap} {D : va_G} {tys : List (ClassId × FieldType)} {ws wc wr w1 : va_W} {rm : Room} {b : Addr}
theorem gfX5_18 (hx : p.tables.exec = Jvm.exec) (hb : c.code = cc) (hts : ∀ w ∈ lw_g, w.before args s = true) (hown : s.vm.findClass RX5 = some m.cls) (hK : va_K D vwCl tys s) (hP : va_P D vwCl ws H) (q0 : Nat) {fs : List Value} (he : ws[q0]? = some (b, .inr (5, fs))) {v : Value} (hv : fs[3]? = some v) (hdg : decode cc pc = .ok (.getfield 18, 3)) (kk : W p l e R s m args below meth c H locs cells slots Q (F0 m (pc + 3) ls (v :: rest))) : W p l e R s m args below meth c H locs cells slots Q (F0 m pc ls (.ref b :: rest)) :=
  va_get (D := D) (ci := 5) (C := RX5) (T := TX5) (N := 6) hx hb hts inX5 hown hK hP q0 he rfl 3 (by decide) (hts _ wd333) (fun _ h => h) hv hdg kk
theorem gfX5_22 (hx : p.tables.exec = Jvm.exec) (hb : c.code = cc) (hts : ∀ w ∈ lw_g, w.before args s = true) (hown : s.vm.findClass RX5 = some m.cls) (hK : va_K D vwCl tys s) (hP : va_P D vwCl ws H) (q0 : Nat) {fs : List Value} (he : ws[q0]? = some (b, .inr (5, fs))) {v : Value} (hv : fs[4]? = some v) (hdg : decode cc pc = .ok (.getfield 22, 3)) (kk : W p l e R s m args below meth c H locs cells slots Q (F0 m (pc + 3) ls (v :: rest))) : W p l e R s m args below meth c H locs cells slots Q (F0 m pc ls (.ref b :: rest)) :=
  va_get (D := D) (ci := 5) (C := RX5) (T := TX5) (N := 6) hx hb hts inX5 hown hK hP q0 he rfl 4 (by decide) (hts _ wd334) (fun _ h => h) hv hdg kk
theorem gfX5_25 (hx : p.tables.exec = Jvm.exec) (hb : c.code = cc) (hts : ∀ w ∈ lw_g, w.before args s = true) (hown : s.vm.findClass RX5 = some m.cls) (hK : va_K D vwCl tys s) (hP : va_P D vwCl ws H) (q0 : Nat) {fs : List Value} (he : ws[q0]? = some (b, .inr (5, fs))) {v : Value} (hv : fs[5]? = some v) (hdg : decode cc pc = .ok (.getfield 25, 3)) (kk : W p l e R s m args below meth c H locs cells slots Q (F0 m (pc + 3) ls (v :: rest))) : W p l e R s m args below meth c H locs cells slots Q (F0 m pc ls (.ref b :: rest)) :=
  va_get (D := D) (ci := 5) (C := RX5) (T := TX5) (N := 6) hx hb hts inX5 hown hK hP q0 he rfl 5 (by decide) (hts _ wd335) (fun _ h => h) hv hdg kk
theorem gfX5_28 (hx : p.tables.exec = Jvm.exec) (hb : c.code = cc) (hts : ∀ w ∈ lw_g, w.before args s = true) (hown : s.vm.findClass RX5 = some m.cls) (hK : va_K D vwCl tys s) (hP : va_P D vwCl ws H) (q0 : Nat) {fs : List Value} (he : ws[q0]? = some (b, .inr (5, fs))) {v : Value} (hv : fs[2]? = some v) (hdg : decode cc pc = .ok (.getfield 28, 3)) (kk : W p l e R s m args below meth c H locs cells slots Q (F0 m (pc + 3) ls (v :: rest))) : W p l e R s m args below meth c H locs cells slots Q (F0 m pc ls (.ref b :: rest)) :=
  va_get (D := D) (ci := 5) (C := RX5) (T := TX5) (N := 6) hx hb hts inX5 hown hK hP q0 he rfl 2 (by decide) (hts _ wd332) (fun _ h => h) hv hdg kk
theorem gfX5_54 (hx : p.tables.exec = Jvm.exec) (hb : c.code = cc) (hts : ∀ w ∈ lw_g, w.before args s = true) (hown : s.vm.findClass RX5 = some m.cls) (hK : va_K D vwCl tys s) (hP : va_P D vwCl ws H) (q0 : Nat) {fs : List Value} (he : ws[q0]? = some (b, .inr (8, fs))) {v : Value} (hv : fs[1]? = some v) (hdg : decode cc pc = .ok (.getfield 54, 3)) (kk : W p l e R s m args below meth c H locs cells slots Q (F0 m (pc + 3) ls (v :: rest))) : W p l e R s m args below meth c H locs cells slots Q (F0 m pc ls (.ref b :: rest)) :=
  va_get (D := D) (ci := 8) (C := RX8) (T := TX8) (N := 6) hx hb hts inX8 hown hK hP q0 he rfl 1 (by decide) (hts _ wd303) (fun _ h => h) hv hdg kk
theorem pfX5_9 (hx : p.tables.exec = Jvm.exec) (hb : c.code = cc) (hts : ∀ w ∈ lw_g, w.before args s = true) (hown : s.vm.findClass RX5 = some m.cls) (hK : va_K D vwCl tys s) (hP : va_P D vwCl ws H) (hD : va_D A ws) (hS : va_S A H0 H locs) (q0 : Nat) {fs : List Value} {x : Int32} (he : ws[q0]? = some (b, .inr (5, fs))) (hl : 0 < fs.length) (hdg : decode cc pc = .ok (.putfield 9, 3)) (kk : ∀ (H1 : Heap) (locs1 : List Loc), va_P D vwCl (ws.set q0 (b, .inr (5, fs.set 0 (.int x)))) H1 → va_D A (ws.set q0 (b, .inr (5, fs.set 0 (.int x)))) → va_S A H0 H1 locs1 → W p l e R s m args below meth c H1 locs1 cells slots Q (F0 m (pc + 3) ls rest)) : W p l e R s m args below meth c H locs cells slots Q (F0 m pc ls (.int x :: .ref b :: rest)) :=
  va_put (D := D) (ci := 5) (ty := (.int)) (C := RX5) (T := TX5) (N := 6) hx hb hts inX5 tyX5 tyX5_ok nmX5 hown hK hP hD hS q0 he rfl 0 (by decide) (hts _ wd328) (fun _ h => h) rfl (by decide +kernel) rfl rfl hl hdg kk
theorem pfX5_15 (hx : p.tables.exec = Jvm.exec) (hb : c.code = cc) (hts : ∀ w ∈ lw_g, w.before args s = true) (hown : s.vm.findClass RX5 = some m.cls) (hK : va_K D vwCl tys s) (hP : va_P D vwCl ws H) (hD : va_D A ws) (hS : va_S A H0 H locs) (q0 : Nat) {fs : List Value} {x : Int32} (he : ws[q0]? = some (b, .inr (5, fs))) (hl : 1 < fs.length) (hdg : decode cc pc = .ok (.putfield 15, 3)) (kk : ∀ (H1 : Heap) (locs1 : List Loc), va_P D vwCl (ws.set q0 (b, .inr (5, fs.set 1 (.int x)))) H1 → va_D A (ws.set q0 (b, .inr (5, fs.set 1 (.int x)))) → va_S A H0 H1 locs1 → W p l e R s m args below meth c H1 locs1 cells slots Q (F0 m (pc + 3) ls rest)) : W p l e R s m args below meth c H locs cells slots Q (F0 m pc ls (.int x :: .ref b :: rest)) :=
  va_put (D := D) (ci := 5) (ty := (.int)) (C := RX5) (T := TX5) (N := 6) hx hb hts inX5 tyX5 tyX5_ok nmX5 hown hK hP hD hS q0 he rfl 1 (by decide) (hts _ wd330) (fun _ h => h) rfl (by decide +kernel) rfl rfl hl hdg kk
theorem pfX5_22 (hx : p.tables.exec = Jvm.exec) (hb : c.code = cc) (hts : ∀ w ∈ lw_g, w.before args s = true) (hown : s.vm.findClass RX5 = some m.cls) (hK : va_K D vwCl tys s) (hP : va_P D vwCl ws H) (hD : va_D A ws) (hS : va_S A H0 H locs) (q0 : Nat) {fs : List Value} {x : Int32} (he : ws[q0]? = some (b, .inr (5, fs))) (hl : 4 < fs.length) (hdg : decode cc pc = .ok (.putfield 22, 3)) (kk : ∀ (H1 : Heap) (locs1 : List Loc), va_P D vwCl (ws.set q0 (b, .inr (5, fs.set 4 (.int x)))) H1 → va_D A (ws.set q0 (b, .inr (5, fs.set 4 (.int x)))) → va_S A H0 H1 locs1 → W p l e R s m args below meth c H1 locs1 cells slots Q (F0 m (pc + 3) ls rest)) : W p l e R s m args below meth c H locs cells slots Q (F0 m pc ls (.int x :: .ref b :: rest)) :=
  va_put (D := D) (ci := 5) (ty := (.int)) (C := RX5) (T := TX5) (N := 6) hx hb hts inX5 tyX5 tyX5_ok nmX5 hown hK hP hD hS q0 he rfl 4 (by decide) (hts _ wd334) (fun _ h => h) rfl (by decide +kernel) rfl rfl hl hdg kk
theorem kwX4_56 (ht : ∀ w ∈ lw_g, w.before args s = true) (hrc : rm.cells = 0) (hrs : rm.slots = 0) (hR : rm.frames + 1 ≤ R.frames ∧ 8 + (5 + 11) + rm.locals ≤ R.locals) : CallW R s args RX4 RX4 56 yX4_paint cX4_paint 5 (some .boolean) (mw yX4_paint cX4_paint 5 (some .boolean)) rm 0 0 3 :=
  mcw_V 3 ht wd1238 wd133 wd1241 wd1240 wd43 ⟨by decide, by decide, by decide +kernel⟩ hrc hrs hR
theorem kwX4_60 (ht : ∀ w ∈ lw_g, w.before args s = true) (hrc : rm.cells = 0) (hrs : rm.slots = 0) (hR : rm.frames + 1 ≤ R.frames ∧ 8 + (4 + 11) + rm.locals ≤ R.locals) : CallW R s args RX4 RX4 60 yX4_fits cX4_fits 4 (some .boolean) (mw yX4_fits cX4_fits 4 (some .boolean)) rm 0 0 2 :=
  mcw_V 2 ht wd1242 wd133 wd1245 wd1244 wd44 ⟨by decide, by decide, by decide +kernel⟩ hrc hrs hR
theorem kwX5_42 (ht : ∀ w ∈ lw_g, w.before args s = true) (hrc : rm.cells = 0) (hrs : rm.slots = 0) (hR : rm.frames + 1 ≤ R.frames ∧ 8 + (1 + 11) + rm.locals ≤ R.locals) : CallW R s args RX5 RX5 42 yX5_token cX5_token 1 (some .int) (mw yX5_token cX5_token 1 (some .int)) rm 0 0 0 :=
  mcw_V 0 ht wd665 wd135 wd668 wd667 wd7 ⟨by decide, by decide, by decide +kernel⟩ hrc hrs hR
theorem kwX5_50 (ht : ∀ w ∈ lw_g, w.before args s = true) (hrc : rm.cells = 0) (hrs : rm.slots = 0) (hR : rm.frames + 1 ≤ R.frames ∧ 8 + (2 + 11) + rm.locals ≤ R.locals) : CallW R s args RX5 RX8 50 yX8_kind cX8_kind 2 (some .int) (mw yX8_kind cX8_kind 2 (some .int)) rm 0 0 1 :=
  mcw_V 1 ht wd669 wd134 wd672 wd670 wd671 ⟨by decide, by decide, by decide +kernel⟩ hrc hrs hR
theorem kwX5_57 (ht : ∀ w ∈ lw_g, w.before args s = true) (hrc : rm.cells = 0) (hrs : rm.slots = 0) (hR : rm.frames + 1 ≤ R.frames ∧ 8 + (2 + 11) + rm.locals ≤ R.locals) : CallW R s args RX5 RX8 57 yX8_place cX8_place 2 (some .int) (mw yX8_place cX8_place 2 (some .int)) rm 0 0 1 :=
  mcw_V 1 ht wd681 wd134 wd684 wd682 wd683 ⟨by decide, by decide, by decide +kernel⟩ hrc hrs hR
theorem kwX5_59 (ht : ∀ w ∈ lw_g, w.before args s = true) (hrc : rm.cells = 0) (hrs : rm.slots = 0) (hR : rm.frames + 1 ≤ R.frames ∧ 8 + (2 + 11) + rm.locals ≤ R.locals) : CallW R s args RX5 RX5 59 yX5_fail cX5_fail 2 (some .boolean) (mw yX5_fail cX5_fail 2 (some .boolean)) rm 0 0 1 :=
  mcw_V 1 ht wd677 wd135 wd680 wd679 wd9 ⟨by decide, by decide, by decide +kernel⟩ hrc hrs hR
theorem kwX5_62 (ht : ∀ w ∈ lw_g, w.before args s = true) (hrc : rm.cells = 0) (hrs : rm.slots = 0) (hR : rm.frames + 1 ≤ R.frames ∧ 8 + (1 + 11) + rm.locals ≤ R.locals) : CallW R s args RX5 RX5 62 yX5_next cX5_next 1 none (mw yX5_next cX5_next 1 none) rm 0 0 0 :=
  mcw_V 0 ht wd697 wd135 wd700 wd699 wd10 ⟨by decide, by decide, by decide +kernel⟩ hrc hrs hR
theorem kwX5_78 (ht : ∀ w ∈ lw_g, w.before args s = true) (hrc : rm.cells = 0) (hrs : rm.slots = 0) (hR : rm.frames + 1 ≤ R.frames ∧ 8 + (2 + 11) + rm.locals ≤ R.locals) : CallW R s args RX5 RX5 78 yX5_expect cX5_expect 2 (some .boolean) (mw yX5_expect cX5_expect 2 (some .boolean)) rm 0 0 1 :=
  mcw_V 1 ht wd731 wd135 wd734 wd733 wd16 ⟨by decide, by decide, by decide +kernel⟩ hrc hrs hR
theorem kwX5_87 (ht : ∀ w ∈ lw_g, w.before args s = true) (hrc : rm.cells = 0) (hrs : rm.slots = 0) (hR : rm.frames + 1 ≤ R.frames ∧ 8 + (4 + 11) + rm.locals ≤ R.locals) : CallW R s args RX5 RX5 87 yX5_number cX5_number 4 (some .boolean) (mw yX5_number cX5_number 4 (some .boolean)) rm 0 0 2 :=
  mcw_V 2 ht wd768 wd135 wd771 wd770 wd22 ⟨by decide, by decide, by decide +kernel⟩ hrc hrs hR
theorem kwX5_91 (ht : ∀ w ∈ lw_g, w.before args s = true) (hrc : rm.cells = 0) (hrs : rm.slots = 0) (hR : rm.frames + 1 ≤ R.frames ∧ 8 + (2 + 11) + rm.locals ≤ R.locals) : CallW R s args RX5 RX8 91 yX8_number cX8_number 2 (some .int) (mw yX8_number cX8_number 2 (some .int)) rm 0 0 1 :=
  mcw_V 1 ht wd721 wd134 wd724 wd722 wd723 ⟨by decide, by decide, by decide +kernel⟩ hrc hrs hR
theorem kwX5_93 (ht : ∀ w ∈ lw_g, w.before args s = true) (hrc : rm.cells = 0) (hrs : rm.slots = 0) (hR : rm.frames + 1 ≤ R.frames ∧ 8 + (3 + 11) + rm.locals ≤ R.locals) : CallW R s args RX5 RX9 93 yX9_addPart cX9_addPart 3 none (mw yX9_addPart cX9_addPart 3 none) rm 0 0 1 :=
  mcw_V 1 ht wd772 wd139 wd696 wd694 wd695 ⟨by decide, by decide, by decide +kernel⟩ hrc hrs hR
theorem kwX5_99 (ht : ∀ w ∈ lw_g, w.before args s = true) (hrc : rm.cells = 0) (hrs : rm.slots = 0) (hR : rm.frames + 1 ≤ R.frames ∧ 8 + (3 + 11) + rm.locals ≤ R.locals) : CallW R s args RX5 RX9 99 yX9_put cX9_put 3 none (mw yX9_put cX9_put 3 none) rm 0 0 2 :=
  mcw_V 2 ht wd727 wd139 wd730 wd728 wd729 ⟨by decide, by decide, by decide +kernel⟩ hrc hrs hR
end
abbrev W_RD_0_2_10 (qb0 : Nat) (qb2 : Nat) (qe0 : Nat) (qb1 : Nat) (qb3 : Nat) (qb4 : Nat) (qx0 : Nat) (cI cJ cZ cB cT : ClassId) (b_len : Int32) (b_tok : Int32) (b_ki : Nat → Int32) (e_fault : Int32) (e_place : Int32) (e_at : Int32) (e_law : Int32) : va_W := [(qb0, .inr (8, [.int b_len, .int b_tok, .ref qb1, .ref qb2, .ref qb3, .ref qb4])), (qb2, .inl (cI, 301, .inl b_ki)), (qe0, .inr (5, [.int e_fault, .int e_place, .ref qb0, .ref qx0, .int e_at, .int e_law]))]
abbrev W_RD_0_10 (qb0 : Nat) (qe0 : Nat) (qb1 : Nat) (qb2 : Nat) (qb3 : Nat) (qb4 : Nat) (qx0 : Nat) (cI cJ cZ cB cT : ClassId) (b_len : Int32) (b_tok : Int32) (e_fault : Int32) (e_place : Int32) (e_at : Int32) (e_law : Int32) : va_W := [(qb0, .inr (8, [.int b_len, .int b_tok, .ref qb1, .ref qb2, .ref qb3, .ref qb4])), (qe0, .inr (5, [.int e_fault, .int e_place, .ref qb0, .ref qx0, .int e_at, .int e_law]))]
abbrev W_RD_0_3_10 (qb0 : Nat) (qb3 : Nat) (qe0 : Nat) (qb1 : Nat) (qb2 : Nat) (qb4 : Nat) (qx0 : Nat) (cI cJ cZ cB cT : ClassId) (b_len : Int32) (b_tok : Int32) (b_pl : Nat → Int32) (e_fault : Int32) (e_place : Int32) (e_at : Int32) (e_law : Int32) : va_W := [(qb0, .inr (8, [.int b_len, .int b_tok, .ref qb1, .ref qb2, .ref qb3, .ref qb4])), (qb3, .inl (cI, 301, .inl b_pl)), (qe0, .inr (5, [.int e_fault, .int e_place, .ref qb0, .ref qx0, .int e_at, .int e_law]))]
abbrev W_RD_0_2t3_10 (qb0 : Nat) (qb2 : Nat) (qb3 : Nat) (qe0 : Nat) (qb1 : Nat) (qb4 : Nat) (qx0 : Nat) (cI cJ cZ cB cT : ClassId) (b_len : Int32) (b_tok : Int32) (b_ki : Nat → Int32) (b_pl : Nat → Int32) (e_fault : Int32) (e_place : Int32) (e_at : Int32) (e_law : Int32) : va_W := [(qb0, .inr (8, [.int b_len, .int b_tok, .ref qb1, .ref qb2, .ref qb3, .ref qb4])), (qb2, .inl (cI, 301, .inl b_ki)), (qb3, .inl (cI, 301, .inl b_pl)), (qe0, .inr (5, [.int e_fault, .int e_place, .ref qb0, .ref qx0, .int e_at, .int e_law]))]
abbrev W_RD_0_2t5_9t10 (qb0 : Nat) (qb2 : Nat) (qb3 : Nat) (qb4 : Nat) (qx0 : Nat) (qx4 : Nat) (qe0 : Nat) (qb1 : Nat) (qx1 : Nat) (qx2 : Nat) (qx3 : Nat) (cI cJ cZ cB cT : ClassId) (b_len : Int32) (b_tok : Int32) (b_ki : Nat → Int32) (b_pl : Nat → Int32) (b_nu : Nat → Int32) (x_cl : Int32) (x_ln : Int32) (x_pt : Int32) (x_rows : Nat → Int32) (e_fault : Int32) (e_place : Int32) (e_at : Int32) (e_law : Int32) : va_W := [(qb0, .inr (8, [.int b_len, .int b_tok, .ref qb1, .ref qb2, .ref qb3, .ref qb4])), (qb2, .inl (cI, 301, .inl b_ki)), (qb3, .inl (cI, 301, .inl b_pl)), (qb4, .inl (cI, 301, .inl b_nu)), (qx0, .inr (9, [.int x_cl, .int x_ln, .int x_pt, .ref qx1, .ref qx2, .ref qx3, .ref qx4])), (qx4, .inl (cI, 120, .inl x_rows)), (qe0, .inr (5, [.int e_fault, .int e_place, .ref qb0, .ref qx0, .int e_at, .int e_law]))]
abbrev W_RD_0_3t6_10 (qb0 : Nat) (qb3 : Nat) (qb4 : Nat) (qx0 : Nat) (qx1 : Nat) (qe0 : Nat) (qb1 : Nat) (qb2 : Nat) (qx2 : Nat) (qx3 : Nat) (qx4 : Nat) (cI cJ cZ cB cT : ClassId) (b_len : Int32) (b_tok : Int32) (b_pl : Nat → Int32) (b_nu : Nat → Int32) (x_cl : Int32) (x_ln : Int32) (x_pt : Int32) (x_code : Nat → Int32) (e_fault : Int32) (e_place : Int32) (e_at : Int32) (e_law : Int32) : va_W := [(qb0, .inr (8, [.int b_len, .int b_tok, .ref qb1, .ref qb2, .ref qb3, .ref qb4])), (qb3, .inl (cI, 301, .inl b_pl)), (qb4, .inl (cI, 301, .inl b_nu)), (qx0, .inr (9, [.int x_cl, .int x_ln, .int x_pt, .ref qx1, .ref qx2, .ref qx3, .ref qx4])), (qx1, .inl (cI, 301, .inl x_code)), (qe0, .inr (5, [.int e_fault, .int e_place, .ref qb0, .ref qx0, .int e_at, .int e_law]))]
