section
set_option maxRecDepth 100000 in
theorem wd50 : Cond.selects RX12 yX12_get yX12_get ∈ lw_g := at_k 50 (by decide +kernel) rfl
set_option maxRecDepth 100000 in
theorem wd82 : Cond.selects RX12 yX12_isPerson yX12_isPerson ∈ lw_g := at_k 82 (by decide +kernel) rfl
set_option maxRecDepth 100000 in
theorem wd140 : Cond.initialized RX12 ∈ lw_g := at_k 140 (by decide +kernel) rfl
set_option maxRecDepth 100000 in
theorem wd1376 : Cond.fieldLink RX12 7 "WolfsHeadModel" "a" "[I" ∈ lw_g := at_k 1376 (by decide +kernel) rfl
set_option maxRecDepth 100000 in
theorem wd1470 : Cond.methodLink RX12 63 yX12_isIn ∈ lw_g := at_k 1470 (by decide +kernel) rfl
set_option maxRecDepth 100000 in
theorem wd1471 : Cond.static yX12_isIn ∈ lw_g := at_k 1471 (by decide +kernel) rfl
set_option maxRecDepth 100000 in
theorem wd1472 : Cond.code yX12_isIn cX12_isIn 3 (some .boolean) ∈ lw_g := at_k 1472 (by decide +kernel) rfl
set_option maxRecDepth 100000 in
theorem wd1496 : Cond.methodLink RX12 71 yX12_get ∈ lw_g := at_k 1496 (by decide +kernel) rfl
set_option maxRecDepth 100000 in
theorem wd1498 : Cond.instanceMethod yX12_get ∈ lw_g := at_k 1498 (by decide +kernel) rfl
set_option maxRecDepth 100000 in
theorem wd1499 : Cond.code yX12_get cX12_get 3 (some .int) ∈ lw_g := at_k 1499 (by decide +kernel) rfl
set_option maxRecDepth 100000 in
theorem wd1681 : Cond.methodLink RX12 67 yX12_isPerson ∈ lw_g := at_k 1681 (by decide +kernel) rfl
set_option maxRecDepth 100000 in
theorem wd1683 : Cond.instanceMethod yX12_isPerson ∈ lw_g := at_k 1683 (by decide +kernel) rfl
set_option maxRecDepth 100000 in
theorem wd1684 : Cond.code yX12_isPerson cX12_isPerson 2 (some .boolean) ∈ lw_g := at_k 1684 (by decide +kernel) rfl
set_option maxRecDepth 100000 in
theorem inX12 : ∀ w ∈ u_ws RX12 TX12 29, w ∈ lw_g := all_k [1405, 1407, 1409, 1411, 1413, 1415, 1417, 1419, 1421, 1423, 1425, 1427, 1429, 1431, 1433, 1435, 1437, 1439, 1441, 1443, 1445, 1447, 1449, 1451, 1453, 1455, 1457, 1459, 1461] (by decide +kernel) (by decide +kernel)
variable {p : Program} {l : Launch} {e : Env} {R : Room} {s : State} {m : MethodId} {args : Array Value} {below : List Frame} {meth : Method} {c : Code} {H : Heap} {locs : List Loc} {cells slots : Nat} {Q : State → Prop}
variable {cc bytes : ByteArray} {pc nL maxL index n : Nat} {ls : Array Slot} {rest st : List Value} {A : Nat → Prop} {H0 : Heap} {D : va_G} {tys : List (ClassId × FieldType)} {ws wc wr w1 : va_W} {rm : Room} {b : Addr}
theorem gfX12_7 (hx : p.tables.exec = Jvm.exec) (hb : c.code = cc) (hts : ∀ w ∈ lw_g, w.before args s = true) (hown : s.vm.findClass RX12 = some m.cls) (hK : va_K D vwCl tys s) (hP : va_P D vwCl ws H) (q0 : Nat) {fs : List Value} (he : ws[q0]? = some (b, .inr (12, fs))) {v : Value} (hv : fs[0]? = some v) (hdg : decode cc pc = .ok (.getfield 7, 3)) (kk : W p l e R s m args below meth c H locs cells slots Q (F0 m (pc + 3) ls (v :: rest))) : W p l e R s m args below meth c H locs cells slots Q (F0 m pc ls (.ref b :: rest)) :=
  va_get (D := D) (ci := 12) (C := RX12) (T := TX12) (N := 29) hx hb hts inX12 hown hK hP q0 he rfl 0 (by decide) (hts _ wd1376) (fun _ h => h) hv hdg kk
theorem kwX12_63 (ht : ∀ w ∈ lw_g, w.before args s = true) (hrc : rm.cells = 0) (hrs : rm.slots = 0) (hR : rm.frames + 1 ≤ R.frames ∧ 8 + (3 + 11) + rm.locals ≤ R.locals) : CallB R s args RX12 63 yX12_isIn cX12_isIn 3 (some .boolean) (mw yX12_isIn cX12_isIn 3 (some .boolean)) rm 0 0 3 ∧ (Cond.static yX12_isIn).before args s = true :=
  mcw_S 3 ht wd1470 wd140 wd1472 wd1471 ⟨by decide, by decide, by decide +kernel⟩ hrc hrs hR
theorem kwX12_67 (ht : ∀ w ∈ lw_g, w.before args s = true) (hrc : rm.cells = 0) (hrs : rm.slots = 0) (hR : rm.frames + 1 ≤ R.frames ∧ 8 + (2 + 11) + rm.locals ≤ R.locals) : CallW R s args RX12 RX12 67 yX12_isPerson cX12_isPerson 2 (some .boolean) (mw yX12_isPerson cX12_isPerson 2 (some .boolean)) rm 0 0 1 :=
  mcw_V 1 ht wd1681 wd140 wd1684 wd1683 wd82 ⟨by decide, by decide, by decide +kernel⟩ hrc hrs hR
theorem kwX12_71 (ht : ∀ w ∈ lw_g, w.before args s = true) (hrc : rm.cells = 0) (hrs : rm.slots = 0) (hR : rm.frames + 1 ≤ R.frames ∧ 8 + (3 + 11) + rm.locals ≤ R.locals) : CallW R s args RX12 RX12 71 yX12_get cX12_get 3 (some .int) (mw yX12_get cX12_get 3 (some .int)) rm 0 0 2 :=
  mcw_V 2 ht wd1496 wd140 wd1499 wd1498 wd50 ⟨by decide, by decide, by decide +kernel⟩ hrc hrs hR
end
abbrev WM (h : Nat) (q : Nat → Nat) (cI cJ cZ : ClassId) (v_a : Nat → Int32) (v_image : Nat → Int32) (v_texts : Nat → Int32) (v_tape : Nat → Int32) (v_taped : Int32) (v_fault : Int32) (v_faultPlace : Int32) (v_at : Int32) (v_place : Int32) (v_token : Int32) (v_number : Int32) (v_word : Int64) (v_text0 : Int32) (v_written : Int32) (v_sort0 : Int32) (v_pile : Nat → Int32) (v_piled : Int32) (v_opens : Int32) (v_isWhole : Int32) (v_once : Int32) (v_named : Nat → Int32) (v_values : Nat → Int64) (v_truth : Nat → Int32) (v_isWritten : Int32) (v_died : Int32) (v_aside : Nat → Int32) (v_likely : Nat → Int32) (v_safe : Nat → Int32) (v_headOf : Nat → Int32) : va_W := [(h, .inr (12, [.ref (q 0), .ref (q 1), .ref (q 2), .ref (q 3), .int v_taped, .int v_fault, .int v_faultPlace, .int v_at, .int v_place, .int v_token, .int v_number, .long v_word, .int v_text0, .int v_written, .int v_sort0, .ref (q 4), .int v_piled, .int v_opens, .int v_isWhole, .int v_once, .ref (q 5), .ref (q 6), .ref (q 7), .int v_isWritten, .int v_died, .ref (q 8), .ref (q 9), .ref (q 10), .ref (q 11)])), ((q 0), .inl (cI, 8762, .inl v_a)), ((q 1), .inl (cI, 8762, .inl v_image)), ((q 2), .inl (cI, 2916, .inl v_texts)), ((q 3), .inl (cI, 300, .inl v_tape)), ((q 4), .inl (cI, 160, .inl v_pile)), ((q 5), .inl (cI, 10, .inl v_named)), ((q 6), .inl (cJ, 330, .inr (.inl v_values))), ((q 7), .inl (cZ, 330, .inl v_truth)), ((q 8), .inl (cI, 80, .inl v_aside)), ((q 9), .inl (cI, 56, .inl v_likely)), ((q 10), .inl (cI, 8, .inl v_safe)), ((q 11), .inl (cI, 8, .inl v_headOf))]
abbrev WC2 (qa qb : Nat) (cI : ClassId) (fr to : Nat → Int32) : va_W := [(qa, .inl (cI, 8762, .inl fr)), (qb, .inl (cI, 8762, .inl to))]
