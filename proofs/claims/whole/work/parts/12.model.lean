theorem dX12_clause_0 : decode cX12_clause 0 = .ok (.aload_n 0, 1) := by decide +kernel
theorem dX12_clause_1 : decode cX12_clause 1 = .ok (.invokevirtual 245, 3) := by decide +kernel
theorem dX12_clause_4 : decode cX12_clause 4 = .ok (.istore_n 1, 1) := by decide +kernel
theorem dX12_clause_5 : decode cX12_clause 5 = .ok (.iload_n 1, 1) := by decide +kernel
theorem dX12_clause_6 : decode cX12_clause 6 = .ok (.ifCond .ge 5, 3) := by decide +kernel
theorem dX12_clause_9 : decode cX12_clause 9 = .ok (.iconst 1, 1) := by decide +kernel
theorem dX12_clause_10 : decode cX12_clause 10 = .ok (.ireturn, 1) := by decide +kernel
theorem dX12_clause_11 : decode cX12_clause 11 = .ok (.iload_n 1, 1) := by decide +kernel
theorem dX12_clause_12 : decode cX12_clause 12 = .ok (.iconst 3, 1) := by decide +kernel
theorem dX12_clause_13 : decode cX12_clause 13 = .ok (.if_icmp .gt 16, 3) := by decide +kernel
theorem dX12_clause_16 : decode cX12_clause 16 = .ok (.aload_n 0, 1) := by decide +kernel
theorem dX12_clause_17 : decode cX12_clause 17 = .ok (.getfield 248, 3) := by decide +kernel
theorem dX12_clause_20 : decode cX12_clause 20 = .ok (.iload_n 1, 1) := by decide +kernel
theorem dX12_clause_21 : decode cX12_clause 21 = .ok (.invokestatic 78, 3) := by decide +kernel
theorem dX12_clause_24 : decode cX12_clause 24 = .ok (.ifCond .eq 5, 3) := by decide +kernel
theorem dX12_clause_27 : decode cX12_clause 27 = .ok (.iconst 4, 1) := by decide +kernel
theorem dX12_clause_28 : decode cX12_clause 28 = .ok (.ireturn, 1) := by decide +kernel
theorem dX12_clause_29 : decode cX12_clause 29 = .ok (.aload_n 0, 1) := by decide +kernel
theorem dX12_clause_30 : decode cX12_clause 30 = .ok (.getfield 16, 3) := by decide +kernel
theorem dX12_clause_33 : decode cX12_clause 33 = .ok (.aload_n 0, 1) := by decide +kernel
theorem dX12_clause_34 : decode cX12_clause 34 = .ok (.getfield 144, 3) := by decide +kernel
theorem dX12_clause_37 : decode cX12_clause 37 = .ok (.iaload, 1) := by decide +kernel
theorem dX12_clause_38 : decode cX12_clause 38 = .ok (.istore_n 2, 1) := by decide +kernel
theorem dX12_clause_39 : decode cX12_clause 39 = .ok (.iload_n 2, 1) := by decide +kernel
theorem dX12_clause_40 : decode cX12_clause 40 = .ok (.bipush 24, 2) := by decide +kernel
theorem dX12_clause_42 : decode cX12_clause 42 = .ok (.if_icmp .ne 6, 3) := by decide +kernel
theorem dX12_clause_45 : decode cX12_clause 45 = .ok (.bipush 6, 2) := by decide +kernel
theorem dX12_clause_47 : decode cX12_clause 47 = .ok (.ireturn, 1) := by decide +kernel
theorem dX12_clause_48 : decode cX12_clause 48 = .ok (.iload_n 1, 1) := by decide +kernel
theorem dX12_clause_49 : decode cX12_clause 49 = .ok (.iconst 3, 1) := by decide +kernel
theorem dX12_clause_50 : decode cX12_clause 50 = .ok (.if_icmp .gt 15, 3) := by decide +kernel
theorem dX12_clause_53 : decode cX12_clause 53 = .ok (.aload_n 0, 1) := by decide +kernel
theorem dX12_clause_54 : decode cX12_clause 54 = .ok (.dup, 1) := by decide +kernel
theorem dX12_clause_55 : decode cX12_clause 55 = .ok (.getfield 248, 3) := by decide +kernel
theorem dX12_clause_58 : decode cX12_clause 58 = .ok (.iconst 1, 1) := by decide +kernel
theorem dX12_clause_59 : decode cX12_clause 59 = .ok (.iload_n 1, 1) := by decide +kernel
theorem dX12_clause_60 : decode cX12_clause 60 = .ok (.ishl, 1) := by decide +kernel
theorem dX12_clause_61 : decode cX12_clause 61 = .ok (.ior, 1) := by decide +kernel
theorem dX12_clause_62 : decode cX12_clause 62 = .ok (.putfield 248, 3) := by decide +kernel
theorem dX12_clause_65 : decode cX12_clause 65 = .ok (.aload_n 0, 1) := by decide +kernel
theorem dX12_clause_66 : decode cX12_clause 66 = .ok (.iload_n 1, 1) := by decide +kernel
theorem dX12_clause_67 : decode cX12_clause 67 = .ok (.putfield 154, 3) := by decide +kernel
theorem dX12_clause_70 : decode cX12_clause 70 = .ok (.aload_n 0, 1) := by decide +kernel
theorem dX12_clause_71 : decode cX12_clause 71 = .ok (.invokevirtual 177, 3) := by decide +kernel
theorem dX12_clause_74 : decode cX12_clause 74 = .ok (.aload_n 0, 1) := by decide +kernel
theorem dX12_clause_75 : decode cX12_clause 75 = .ok (.getfield 144, 3) := by decide +kernel
theorem dX12_clause_78 : decode cX12_clause 78 = .ok (.iconst 1, 1) := by decide +kernel
theorem dX12_clause_79 : decode cX12_clause 79 = .ok (.iadd, 1) := by decide +kernel
theorem dX12_clause_80 : decode cX12_clause 80 = .ok (.iconst 5, 1) := by decide +kernel
theorem dX12_clause_81 : decode cX12_clause 81 = .ok (.iload_n 2, 1) := by decide +kernel
theorem dX12_clause_82 : decode cX12_clause 82 = .ok (.imul, 1) := by decide +kernel
theorem dX12_clause_83 : decode cX12_clause 83 = .ok (.iadd, 1) := by decide +kernel
theorem dX12_clause_84 : decode cX12_clause 84 = .ok (.istore_n 3, 1) := by decide +kernel
theorem dX12_clause_85 : decode cX12_clause 85 = .ok (.aload_n 0, 1) := by decide +kernel
theorem dX12_clause_86 : decode cX12_clause 86 = .ok (.getfield 16, 3) := by decide +kernel
theorem dX12_clause_89 : decode cX12_clause 89 = .ok (.iload_n 3, 1) := by decide +kernel
theorem dX12_clause_90 : decode cX12_clause 90 = .ok (.iload_n 1, 1) := by decide +kernel
theorem dX12_clause_91 : decode cX12_clause 91 = .ok (.iastore, 1) := by decide +kernel
theorem dX12_clause_92 : decode cX12_clause 92 = .ok (.aload_n 0, 1) := by decide +kernel
theorem dX12_clause_93 : decode cX12_clause 93 = .ok (.iload_n 1, 1) := by decide +kernel
theorem dX12_clause_94 : decode cX12_clause 94 = .ok (.iload_n 3, 1) := by decide +kernel
theorem dX12_clause_95 : decode cX12_clause 95 = .ok (.invokevirtual 251, 3) := by decide +kernel
theorem dX12_clause_98 : decode cX12_clause 98 = .ok (.istore 4, 2) := by decide +kernel
theorem dX12_clause_100 : decode cX12_clause 100 = .ok (.iload 4, 2) := by decide +kernel
theorem dX12_clause_102 : decode cX12_clause 102 = .ok (.ifCond .eq 6, 3) := by decide +kernel
theorem dX12_clause_105 : decode cX12_clause 105 = .ok (.iload 4, 2) := by decide +kernel
theorem dX12_clause_107 : decode cX12_clause 107 = .ok (.ireturn, 1) := by decide +kernel
theorem dX12_clause_108 : decode cX12_clause 108 = .ok (.aload_n 0, 1) := by decide +kernel
theorem dX12_clause_109 : decode cX12_clause 109 = .ok (.getfield 16, 3) := by decide +kernel
theorem dX12_clause_112 : decode cX12_clause 112 = .ok (.aload_n 0, 1) := by decide +kernel
theorem dX12_clause_113 : decode cX12_clause 113 = .ok (.getfield 144, 3) := by decide +kernel
theorem dX12_clause_116 : decode cX12_clause 116 = .ok (.dup2, 1) := by decide +kernel
theorem dX12_clause_117 : decode cX12_clause 117 = .ok (.iaload, 1) := by decide +kernel
theorem dX12_clause_118 : decode cX12_clause 118 = .ok (.iconst 1, 1) := by decide +kernel
theorem dX12_clause_119 : decode cX12_clause 119 = .ok (.iadd, 1) := by decide +kernel
theorem dX12_clause_120 : decode cX12_clause 120 = .ok (.iastore, 1) := by decide +kernel
theorem dX12_clause_121 : decode cX12_clause 121 = .ok (.aload_n 0, 1) := by decide +kernel
theorem dX12_clause_122 : decode cX12_clause 122 = .ok (.getfield 106, 3) := by decide +kernel
theorem dX12_clause_125 : decode cX12_clause 125 = .ok (.bipush 59, 2) := by decide +kernel
theorem dX12_clause_127 : decode cX12_clause 127 = .ok (.if_icmp .eq 5, 3) := by decide +kernel
theorem dX12_clause_130 : decode cX12_clause 130 = .ok (.iconst 1, 1) := by decide +kernel
theorem dX12_clause_131 : decode cX12_clause 131 = .ok (.ireturn, 1) := by decide +kernel
theorem dX12_clause_132 : decode cX12_clause 132 = .ok (.aload_n 0, 1) := by decide +kernel
theorem dX12_clause_133 : decode cX12_clause 133 = .ok (.invokevirtual 177, 3) := by decide +kernel
theorem dX12_clause_136 : decode cX12_clause 136 = .ok (.iconst 0, 1) := by decide +kernel
theorem dX12_clause_137 : decode cX12_clause 137 = .ok (.ireturn, 1) := by decide +kernel
def f_X12_clause_65 (N : Nat) (v_texts : Nat → Int32) (v_tape : Nat → Int32) (v_taped : Int32) (v_at : Int32) (v_place : Int32) (v_token : Int32) (v_number : Int32) (v_word : Int64) (v_text0 : Int32) (v_written : Int32) (v_sort0 : Int32) (v_pile : Nat → Int32) (v_piled : Int32) (v_opens : Int32) (v_isWhole : Int32) (v_once : Int32) (x1 : Int32) (x2 : Int32) : Option (Int32 × (Nat → Int32) × Int32 × Int32 × Int32 × Int32 × Int64 × Int32 × Int32 × (Nat → Int32) × Int32 × Int32 × Int32 × Int32) := ob5 (f_X12_nextToken N v_tape v_taped v_at v_place v_token v_number v_word) fun v_at_71 v_place_71 v_token_71 v_number_71 v_word_71 => sA v_texts 2916 ((v_text0 + (1 : Int32)) + ((5 : Int32) * x2)) x1 fun v_texts_91 => ob12 (f_X12_body N v_texts_91 v_tape v_taped v_at_71 v_place_71 v_token_71 v_number_71 v_word_71 v_text0 v_written x1 v_pile v_piled v_opens v_isWhole x1 ((v_text0 + (1 : Int32)) + ((5 : Int32) * x2))) fun r95 v_texts_95 v_at_95 v_place_95 v_token_95 v_number_95 v_word_95 v_written_95 v_pile_95 v_piled_95 v_opens_95 v_isWhole_95 => if r95 = 0 then (gA v_texts_95 2916 v_text0 fun v117 => sA v_texts_95 2916 v_text0 (v117 + (1 : Int32)) fun v_texts_120 => if v_token_95 = (59 : Int32) then (ob5 (f_X12_nextToken N v_tape v_taped v_at_95 v_place_95 v_token_95 v_number_95 v_word_95) fun v_at_133 v_place_133 v_token_133 v_number_133 v_word_133 => some ((0 : Int32), v_texts_120, v_at_133, v_place_133, v_token_133, v_number_133, v_word_133, v_written_95, x1, v_pile_95, v_piled_95, v_opens_95, v_isWhole_95, v_once)) else (some ((1 : Int32), v_texts_120, v_at_95, v_place_95, v_token_95, v_number_95, v_word_95, v_written_95, x1, v_pile_95, v_piled_95, v_opens_95, v_isWhole_95, v_once))) else (some (r95, v_texts_95, v_at_95, v_place_95, v_token_95, v_number_95, v_word_95, v_written_95, x1, v_pile_95, v_piled_95, v_opens_95, v_isWhole_95, v_once))
def f_X12_clause_29 (N : Nat) (v_texts : Nat → Int32) (v_tape : Nat → Int32) (v_taped : Int32) (v_at : Int32) (v_place : Int32) (v_token : Int32) (v_number : Int32) (v_word : Int64) (v_text0 : Int32) (v_written : Int32) (v_sort0 : Int32) (v_pile : Nat → Int32) (v_piled : Int32) (v_opens : Int32) (v_isWhole : Int32) (v_once : Int32) (x1 : Int32) : Option (Int32 × (Nat → Int32) × Int32 × Int32 × Int32 × Int32 × Int64 × Int32 × Int32 × (Nat → Int32) × Int32 × Int32 × Int32 × Int32) := gA v_texts 2916 v_text0 fun v37 => if v37 = (24 : Int32) then (some ((6 : Int32), v_texts, v_at, v_place, v_token, v_number, v_word, v_written, v_sort0, v_pile, v_piled, v_opens, v_isWhole, v_once)) else (if (3 : Int32) < x1 then (f_X12_clause_65 N v_texts v_tape v_taped v_at v_place v_token v_number v_word v_text0 v_written v_sort0 v_pile v_piled v_opens v_isWhole v_once x1 v37) else (f_X12_clause_65 N v_texts v_tape v_taped v_at v_place v_token v_number v_word v_text0 v_written v_sort0 v_pile v_piled v_opens v_isWhole (v_once ||| ((1 : Int32) <<< (x1 &&& 31))) x1 v37))
def f_X12_clause (N : Nat) (v_texts : Nat → Int32) (v_tape : Nat → Int32) (v_taped : Int32) (v_at : Int32) (v_place : Int32) (v_token : Int32) (v_number : Int32) (v_word : Int64) (v_text0 : Int32) (v_written : Int32) (v_sort0 : Int32) (v_pile : Nat → Int32) (v_piled : Int32) (v_opens : Int32) (v_isWhole : Int32) (v_once : Int32) : Option (Int32 × (Nat → Int32) × Int32 × Int32 × Int32 × Int32 × Int64 × Int32 × Int32 × (Nat → Int32) × Int32 × Int32 × Int32 × Int32) := ob1 (f_X12_sortOf N v_tape v_taped v_at v_place v_token v_word) fun r1 => if 0 ≤ r1 then (if (3 : Int32) < r1 then (f_X12_clause_29 N v_texts v_tape v_taped v_at v_place v_token v_number v_word v_text0 v_written v_sort0 v_pile v_piled v_opens v_isWhole v_once r1) else (ob1 (f_X12_isWith N v_once r1) fun r21 => if r21 = 0 then (f_X12_clause_29 N v_texts v_tape v_taped v_at v_place v_token v_number v_word v_text0 v_written v_sort0 v_pile v_piled v_opens v_isWhole v_once r1) else (some ((4 : Int32), v_texts, v_at, v_place, v_token, v_number, v_word, v_written, v_sort0, v_pile, v_piled, v_opens, v_isWhole, v_once)))) else (some ((1 : Int32), v_texts, v_at, v_place, v_token, v_number, v_word, v_written, v_sort0, v_pile, v_piled, v_opens, v_isWhole, v_once))
set_option maxHeartbeats 4000000 in
set_option maxRecDepth 100000 in
theorem k_X12_clause (l : Launch) (N : Nat) (D : va_G) (cI cJ cZ cB cT : ClassId) (h : Nat) (q : Nat → Nat) (v_a : Nat → Int32) (v_image : Nat → Int32) (v_texts : Nat → Int32) (v_tape : Nat → Int32) (v_taped : Int32) (v_fault : Int32) (v_faultPlace : Int32) (v_at : Int32) (v_place : Int32) (v_token : Int32) (v_number : Int32) (v_word : Int64) (v_text0 : Int32) (v_written : Int32) (v_sort0 : Int32) (v_pile : Nat → Int32) (v_piled : Int32) (v_opens : Int32) (v_isWhole : Int32) (v_once : Int32) (v_named : Nat → Int32) (v_values : Nat → Int64) (v_truth : Nat → Int32) (v_isWritten : Int32) (v_died : Int32) (v_aside : Nat → Int32) (v_likely : Nat → Int32) (v_safe : Nat → Int32) (v_headOf : Nat → Int32) (o_r : Int32) (o_v_texts : Nat → Int32) (o_v_at : Int32) (o_v_place : Int32) (o_v_token : Int32) (o_v_number : Int32) (o_v_word : Int64) (o_v_written : Int32) (o_v_sort0 : Int32) (o_v_pile : Nat → Int32) (o_v_piled : Int32) (o_v_opens : Int32) (o_v_isWhole : Int32) (o_v_once : Int32) (hf : f_X12_clause N v_texts v_tape v_taped v_at v_place v_token v_number v_word v_text0 v_written v_sort0 v_pile v_piled v_opens v_isWhole v_once = some (o_r, o_v_texts, o_v_at, o_v_place, o_v_token, o_v_number, o_v_word, o_v_written, o_v_sort0, o_v_pile, o_v_piled, o_v_opens, o_v_isWhole, o_v_once)) : ∀ sz, Met l yX12_clause (mw yX12_clause cX12_clause 5 (some .int)) ({ frames := 10, cells := 0, slots := 0, locals := 221 } : Room) (mPre D (mT cI cJ cZ cB cT) (WM h q cI cJ cZ v_a v_image v_texts v_tape v_taped v_fault v_faultPlace v_at v_place v_token v_number v_word v_text0 v_written v_sort0 v_pile v_piled v_opens v_isWhole v_once v_named v_values v_truth v_isWritten v_died v_aside v_likely v_safe v_headOf) sz [.ref h]) ((mQi D (WM h q cI cJ cZ v_a v_image o_v_texts v_tape v_taped v_fault v_faultPlace o_v_at o_v_place o_v_token o_v_number o_v_word v_text0 o_v_written o_v_sort0 o_v_pile o_v_piled o_v_opens o_v_isWhole o_v_once v_named v_values v_truth v_isWritten v_died v_aside v_likely v_safe v_headOf) o_r True) (va_A (WM h q cI cJ cZ v_a v_image v_texts v_tape v_taped v_fault v_faultPlace v_at v_place v_token v_number v_word v_text0 v_written v_sort0 v_pile v_piled v_opens v_isWhole v_once v_named v_values v_truth v_isWritten v_died v_aside v_likely v_safe v_headOf) sz)) 0 0 (va_A (WM h q cI cJ cZ v_a v_image v_texts v_tape v_taped v_fault v_faultPlace v_at v_place v_token v_number v_word v_text0 v_written v_sort0 v_pile v_piled v_opens v_isWhole v_once v_named v_values v_truth v_isWritten v_died v_aside v_likely v_safe v_headOf) sz) := by
  refine mMet (Qc := (mQi D (WM h q cI cJ cZ v_a v_image o_v_texts v_tape v_taped v_fault v_faultPlace o_v_at o_v_place o_v_token o_v_number o_v_word v_text0 o_v_written o_v_sort0 o_v_pile o_v_piled o_v_opens o_v_isWhole o_v_once v_named v_values v_truth v_isWritten v_died v_aside v_likely v_safe v_headOf) o_r True)) (by decide) (Nat.le_of_ble_eq_true rfl) (fun p e s m below meth c A ls hx hb hr hml hts hown hlocks hK hA hP hD hl => ?_)
  have hown : s.vm.findClass RX12 = some m.cls := hown
  have hl : lv_has ls 5 [(0, .ref h)] := hl
  have hS : va_S A s.heap s.heap [] := va_S.rf
  have b65 : ∀ (v_texts : Nat → Int32) (v_at : Int32) (v_place : Int32) (v_token : Int32) (v_number : Int32) (v_word : Int64) (v_written : Int32) (v_sort0 : Int32) (v_pile : Nat → Int32) (v_piled : Int32) (v_opens : Int32) (v_isWhole : Int32) (v_once : Int32) (x1 : Int32) (x2 : Int32) (H : Heap) (locs : List Loc) (ls : Array Slot), f_X12_clause_65 N v_texts v_tape v_taped v_at v_place v_token v_number v_word v_text0 v_written v_sort0 v_pile v_piled v_opens v_isWhole v_once x1 x2 = some (o_r, o_v_texts, o_v_at, o_v_place, o_v_token, o_v_number, o_v_word, o_v_written, o_v_sort0, o_v_pile, o_v_piled, o_v_opens, o_v_isWhole, o_v_once) → va_P D vwCl (WM h q cI cJ cZ v_a v_image v_texts v_tape v_taped v_fault v_faultPlace v_at v_place v_token v_number v_word v_text0 v_written v_sort0 v_pile v_piled v_opens v_isWhole v_once v_named v_values v_truth v_isWritten v_died v_aside v_likely v_safe v_headOf) H → va_D A (WM h q cI cJ cZ v_a v_image v_texts v_tape v_taped v_fault v_faultPlace v_at v_place v_token v_number v_word v_text0 v_written v_sort0 v_pile v_piled v_opens v_isWhole v_once v_named v_values v_truth v_isWritten v_died v_aside v_likely v_safe v_headOf) → va_S A s.heap H locs → lv_has ls 5 [(0, .ref h), (1, .int x1), (2, .int x2)] → W p l e ({ frames := 10, cells := 0, slots := 0, locals := 221 } : Room) s m ([.ref h] : List Value).toArray below meth c H locs 0 0 (MQ below ((mQi D (WM h q cI cJ cZ v_a v_image o_v_texts v_tape v_taped v_fault v_faultPlace o_v_at o_v_place o_v_token o_v_number o_v_word v_text0 o_v_written o_v_sort0 o_v_pile o_v_piled o_v_opens o_v_isWhole o_v_once v_named v_values v_truth v_isWritten v_died v_aside v_likely v_safe v_headOf) o_r True) A) ([.ref h] : List Value).toArray s 0 0 A) (F0 m 65 ls []) := by
    intro v_texts v_at v_place v_token v_number v_word v_written v_sort0 v_pile v_piled v_opens v_isWhole v_once x1 x2 H locs ls hf hP hD hS hl
    unfold f_X12_clause_65 at hf
    refine lv_aload_n hx hb dX12_clause_65 rfl (lv_at hl 0 rfl) ?_
    refine lv_iload_n hx hb dX12_clause_66 rfl (lv_at hl 1 rfl) ?_
    refine pfX12_154 hx hb hts hown hK hP hD hS 0 rfl (Nat.le_of_ble_eq_true rfl) dX12_clause_67 (fun H locs hP hD hS => ?_)
    have hP : va_P D vwCl (WM h q cI cJ cZ v_a v_image v_texts v_tape v_taped v_fault v_faultPlace v_at v_place v_token v_number v_word v_text0 v_written x1 v_pile v_piled v_opens v_isWhole v_once v_named v_values v_truth v_isWritten v_died v_aside v_likely v_safe v_headOf) H := hP
    have hD : va_D A (WM h q cI cJ cZ v_a v_image v_texts v_tape v_taped v_fault v_faultPlace v_at v_place v_token v_number v_word v_text0 v_written x1 v_pile v_piled v_opens v_isWhole v_once v_named v_values v_truth v_isWritten v_died v_aside v_likely v_safe v_headOf) := hD
    refine lv_aload_n hx hb dX12_clause_70 rfl (lv_at hl 0 rfl) ?_
    obtain ⟨v_at_71, v_place_71, v_token_71, v_number_71, v_word_71, hg71, hf⟩ := ob5_some hf
    refine mcV1_v (As := []) (rest := []) hx hb hml hown hts hK hP hD hS hA (k_X12_nextToken l N D cI cJ cZ cB cT h q v_a v_image v_texts v_tape v_taped v_fault v_faultPlace v_at v_place v_token v_number v_word v_text0 v_written x1 v_pile v_piled v_opens v_isWhole v_once v_named v_values v_truth v_isWritten v_died v_aside v_likely v_safe v_headOf v_at_71 v_place_71 v_token_71 v_number_71 v_word_71 hg71) (kwX12_177 hts rfl rfl ⟨Nat.le_of_ble_eq_true rfl, Nat.le_of_ble_eq_true rfl⟩) 0 rfl rfl rfl rfl hl.1 rfl (Nat.le_of_ble_eq_true rfl) dX12_clause_71 ⟨Nat.zero_le _, Nat.zero_le _⟩ (fun H locs hP hD hS => ?_)
    have hP : va_P D vwCl (WM h q cI cJ cZ v_a v_image v_texts v_tape v_taped v_fault v_faultPlace v_at_71 v_place_71 v_token_71 v_number_71 v_word_71 v_text0 v_written x1 v_pile v_piled v_opens v_isWhole v_once v_named v_values v_truth v_isWritten v_died v_aside v_likely v_safe v_headOf) H := hP
    have hD : va_D A (WM h q cI cJ cZ v_a v_image v_texts v_tape v_taped v_fault v_faultPlace v_at_71 v_place_71 v_token_71 v_number_71 v_word_71 v_text0 v_written x1 v_pile v_piled v_opens v_isWhole v_once v_named v_values v_truth v_isWritten v_died v_aside v_likely v_safe v_headOf) := hD
    refine lv_aload_n hx hb dX12_clause_74 rfl (lv_at hl 0 rfl) ?_
    refine gfX12_144 hx hb hts hown hK hP 0 rfl rfl dX12_clause_75 ?_
    refine lv_iconst (v := (1 : Int32)) hx hb dX12_clause_78 (by decide) ?_
    refine lv_iadd hx hb dX12_clause_79 ?_
    refine lv_iconst (v := (5 : Int32)) hx hb dX12_clause_80 (by decide) ?_
    refine lv_iload_n hx hb dX12_clause_81 rfl (lv_at hl 2 rfl) ?_
    refine lv_imul hx hb dX12_clause_82 ?_
    refine lv_iadd hx hb dX12_clause_83 ?_
    refine lv_istore_n (lv' := [(3, .int ((v_text0 + (1 : Int32)) + ((5 : Int32) * x2))), (0, .ref h), (1, .int x1), (2, .int x2)]) hx hb dX12_clause_84 rfl hl (by decide) rfl (fun ls hl => ?_)
    refine lv_aload_n hx hb dX12_clause_85 rfl (lv_at hl 1 rfl) ?_
    refine gfX12_16 hx hb hts hown hK hP 0 rfl rfl dX12_clause_86 ?_
    refine lv_iload_n hx hb dX12_clause_89 rfl (lv_at hl 0 rfl) ?_
    refine lv_iload_n hx hb dX12_clause_90 rfl (lv_at hl 2 rfl) ?_
    refine xiast hx hb hK hP hD hS 3 0 rfl rfl dX12_clause_91 hf (fun v_texts_91 hf H locs hP hD hS => ?_)
    have hP : va_P D vwCl (WM h q cI cJ cZ v_a v_image v_texts_91 v_tape v_taped v_fault v_faultPlace v_at_71 v_place_71 v_token_71 v_number_71 v_word_71 v_text0 v_written x1 v_pile v_piled v_opens v_isWhole v_once v_named v_values v_truth v_isWritten v_died v_aside v_likely v_safe v_headOf) H := hP
    have hD : va_D A (WM h q cI cJ cZ v_a v_image v_texts_91 v_tape v_taped v_fault v_faultPlace v_at_71 v_place_71 v_token_71 v_number_71 v_word_71 v_text0 v_written x1 v_pile v_piled v_opens v_isWhole v_once v_named v_values v_truth v_isWritten v_died v_aside v_likely v_safe v_headOf) := hD
    refine lv_aload_n hx hb dX12_clause_92 rfl (lv_at hl 1 rfl) ?_
    refine lv_iload_n hx hb dX12_clause_93 rfl (lv_at hl 2 rfl) ?_
    refine lv_iload_n hx hb dX12_clause_94 rfl (lv_at hl 0 rfl) ?_
    obtain ⟨r95, v_texts_95, v_at_95, v_place_95, v_token_95, v_number_95, v_word_95, v_written_95, v_pile_95, v_piled_95, v_opens_95, v_isWhole_95, hg95, hf⟩ := ob12_some hf
    refine mcV1_i (As := [.int x1, .int ((v_text0 + (1 : Int32)) + ((5 : Int32) * x2))]) (rest := []) hx hb hml hown hts hK hP hD hS hA (k_X12_body l N D cI cJ cZ cB cT h q v_a v_image v_texts_91 v_tape v_taped v_fault v_faultPlace v_at_71 v_place_71 v_token_71 v_number_71 v_word_71 v_text0 v_written x1 v_pile v_piled v_opens v_isWhole v_once v_named v_values v_truth v_isWritten v_died v_aside v_likely v_safe v_headOf x1 ((v_text0 + (1 : Int32)) + ((5 : Int32) * x2)) r95 v_texts_95 v_at_95 v_place_95 v_token_95 v_number_95 v_word_95 v_written_95 v_pile_95 v_piled_95 v_opens_95 v_isWhole_95 hg95) (kwX12_251 hts rfl rfl ⟨Nat.le_of_ble_eq_true rfl, Nat.le_of_ble_eq_true rfl⟩) 0 rfl rfl rfl rfl hl.1 rfl (Nat.le_of_ble_eq_true rfl) dX12_clause_95 ⟨Nat.zero_le _, Nat.zero_le _⟩ (fun hB95 H locs hP hD hS => ?_)
    have hP : va_P D vwCl (WM h q cI cJ cZ v_a v_image v_texts_95 v_tape v_taped v_fault v_faultPlace v_at_95 v_place_95 v_token_95 v_number_95 v_word_95 v_text0 v_written_95 x1 v_pile_95 v_piled_95 v_opens_95 v_isWhole_95 v_once v_named v_values v_truth v_isWritten v_died v_aside v_likely v_safe v_headOf) H := hP
    have hD : va_D A (WM h q cI cJ cZ v_a v_image v_texts_95 v_tape v_taped v_fault v_faultPlace v_at_95 v_place_95 v_token_95 v_number_95 v_word_95 v_text0 v_written_95 x1 v_pile_95 v_piled_95 v_opens_95 v_isWhole_95 v_once v_named v_values v_truth v_isWritten v_died v_aside v_likely v_safe v_headOf) := hD
    refine lv_istore (lv' := [(4, .int r95), (3, .int ((v_text0 + (1 : Int32)) + ((5 : Int32) * x2))), (0, .ref h), (1, .int x1), (2, .int x2)]) hx hb dX12_clause_98 hl (by decide) rfl (fun ls hl => ?_)
    refine lv_iload hx hb dX12_clause_100 (lv_at hl 0 rfl) ?_
    refine xif_eq hx hb 108 dX12_clause_102 (by decide) hf (fun hf => ?_) (fun hf => ?_)
    · refine lv_aload_n hx hb dX12_clause_108 rfl (lv_at hl 2 rfl) ?_
      refine gfX12_16 hx hb hts hown hK hP 0 rfl rfl dX12_clause_109 ?_
      refine lv_aload_n hx hb dX12_clause_112 rfl (lv_at hl 2 rfl) ?_
      refine gfX12_144 hx hb hts hown hK hP 0 rfl rfl dX12_clause_113 ?_
      refine lv_dup2_11 hx hb dX12_clause_116 rfl rfl ?_
      refine xiald hx hb hK hP 3 0 rfl rfl dX12_clause_117 hf (fun v117 hf => ?_)
      refine lv_iconst (v := (1 : Int32)) hx hb dX12_clause_118 (by decide) ?_
      refine lv_iadd hx hb dX12_clause_119 ?_
      refine xiast hx hb hK hP hD hS 3 0 rfl rfl dX12_clause_120 hf (fun v_texts_120 hf H locs hP hD hS => ?_)
      have hP : va_P D vwCl (WM h q cI cJ cZ v_a v_image v_texts_120 v_tape v_taped v_fault v_faultPlace v_at_95 v_place_95 v_token_95 v_number_95 v_word_95 v_text0 v_written_95 x1 v_pile_95 v_piled_95 v_opens_95 v_isWhole_95 v_once v_named v_values v_truth v_isWritten v_died v_aside v_likely v_safe v_headOf) H := hP
      have hD : va_D A (WM h q cI cJ cZ v_a v_image v_texts_120 v_tape v_taped v_fault v_faultPlace v_at_95 v_place_95 v_token_95 v_number_95 v_word_95 v_text0 v_written_95 x1 v_pile_95 v_piled_95 v_opens_95 v_isWhole_95 v_once v_named v_values v_truth v_isWritten v_died v_aside v_likely v_safe v_headOf) := hD
      refine lv_aload_n hx hb dX12_clause_121 rfl (lv_at hl 2 rfl) ?_
      refine gfX12_106 hx hb hts hown hK hP 0 rfl rfl dX12_clause_122 ?_
      refine lv_bipush (v := (59 : Int32)) hx hb dX12_clause_125 (by decide) ?_
      refine xicmp_eq hx hb 132 dX12_clause_127 (by decide) hf (fun hf => ?_) (fun hf => ?_)
      · refine lv_aload_n hx hb dX12_clause_132 rfl (lv_at hl 2 rfl) ?_
        obtain ⟨v_at_133, v_place_133, v_token_133, v_number_133, v_word_133, hg133, hf⟩ := ob5_some hf
        refine mcV1_v (As := []) (rest := []) hx hb hml hown hts hK hP hD hS hA (k_X12_nextToken l N D cI cJ cZ cB cT h q v_a v_image v_texts_120 v_tape v_taped v_fault v_faultPlace v_at_95 v_place_95 v_token_95 v_number_95 v_word_95 v_text0 v_written_95 x1 v_pile_95 v_piled_95 v_opens_95 v_isWhole_95 v_once v_named v_values v_truth v_isWritten v_died v_aside v_likely v_safe v_headOf v_at_133 v_place_133 v_token_133 v_number_133 v_word_133 hg133) (kwX12_177 hts rfl rfl ⟨Nat.le_of_ble_eq_true rfl, Nat.le_of_ble_eq_true rfl⟩) 0 rfl rfl rfl rfl hl.1 rfl (Nat.le_of_ble_eq_true rfl) dX12_clause_133 ⟨Nat.zero_le _, Nat.zero_le _⟩ (fun H locs hP hD hS => ?_)
        have hP : va_P D vwCl (WM h q cI cJ cZ v_a v_image v_texts_120 v_tape v_taped v_fault v_faultPlace v_at_133 v_place_133 v_token_133 v_number_133 v_word_133 v_text0 v_written_95 x1 v_pile_95 v_piled_95 v_opens_95 v_isWhole_95 v_once v_named v_values v_truth v_isWritten v_died v_aside v_likely v_safe v_headOf) H := hP
        have hD : va_D A (WM h q cI cJ cZ v_a v_image v_texts_120 v_tape v_taped v_fault v_faultPlace v_at_133 v_place_133 v_token_133 v_number_133 v_word_133 v_text0 v_written_95 x1 v_pile_95 v_piled_95 v_opens_95 v_isWhole_95 v_once v_named v_values v_truth v_isWritten v_died v_aside v_likely v_safe v_headOf) := hD
        refine lv_iconst (v := (0 : Int32)) hx hb dX12_clause_136 (by decide) ?_
        cases hf
        exact mret_i hx hb hr hlocks hP hD hS dX12_clause_137 rfl trivial
      · refine lv_iconst (v := (1 : Int32)) hx hb dX12_clause_130 (by decide) ?_
        cases hf
        exact mret_i hx hb hr hlocks hP hD hS dX12_clause_131 rfl trivial
    · refine lv_iload hx hb dX12_clause_105 (lv_at hl 0 rfl) ?_
      cases hf
      exact mret_i hx hb hr hlocks hP hD hS dX12_clause_107 rfl trivial
  have b29 : ∀ (v_texts : Nat → Int32) (v_at : Int32) (v_place : Int32) (v_token : Int32) (v_number : Int32) (v_word : Int64) (v_written : Int32) (v_sort0 : Int32) (v_pile : Nat → Int32) (v_piled : Int32) (v_opens : Int32) (v_isWhole : Int32) (v_once : Int32) (x1 : Int32) (H : Heap) (locs : List Loc) (ls : Array Slot), f_X12_clause_29 N v_texts v_tape v_taped v_at v_place v_token v_number v_word v_text0 v_written v_sort0 v_pile v_piled v_opens v_isWhole v_once x1 = some (o_r, o_v_texts, o_v_at, o_v_place, o_v_token, o_v_number, o_v_word, o_v_written, o_v_sort0, o_v_pile, o_v_piled, o_v_opens, o_v_isWhole, o_v_once) → va_P D vwCl (WM h q cI cJ cZ v_a v_image v_texts v_tape v_taped v_fault v_faultPlace v_at v_place v_token v_number v_word v_text0 v_written v_sort0 v_pile v_piled v_opens v_isWhole v_once v_named v_values v_truth v_isWritten v_died v_aside v_likely v_safe v_headOf) H → va_D A (WM h q cI cJ cZ v_a v_image v_texts v_tape v_taped v_fault v_faultPlace v_at v_place v_token v_number v_word v_text0 v_written v_sort0 v_pile v_piled v_opens v_isWhole v_once v_named v_values v_truth v_isWritten v_died v_aside v_likely v_safe v_headOf) → va_S A s.heap H locs → lv_has ls 5 [(0, .ref h), (1, .int x1)] → W p l e ({ frames := 10, cells := 0, slots := 0, locals := 221 } : Room) s m ([.ref h] : List Value).toArray below meth c H locs 0 0 (MQ below ((mQi D (WM h q cI cJ cZ v_a v_image o_v_texts v_tape v_taped v_fault v_faultPlace o_v_at o_v_place o_v_token o_v_number o_v_word v_text0 o_v_written o_v_sort0 o_v_pile o_v_piled o_v_opens o_v_isWhole o_v_once v_named v_values v_truth v_isWritten v_died v_aside v_likely v_safe v_headOf) o_r True) A) ([.ref h] : List Value).toArray s 0 0 A) (F0 m 29 ls []) := by
    intro v_texts v_at v_place v_token v_number v_word v_written v_sort0 v_pile v_piled v_opens v_isWhole v_once x1 H locs ls hf hP hD hS hl
    unfold f_X12_clause_29 at hf
    refine lv_aload_n hx hb dX12_clause_29 rfl (lv_at hl 0 rfl) ?_
    refine gfX12_16 hx hb hts hown hK hP 0 rfl rfl dX12_clause_30 ?_
    refine lv_aload_n hx hb dX12_clause_33 rfl (lv_at hl 0 rfl) ?_
    refine gfX12_144 hx hb hts hown hK hP 0 rfl rfl dX12_clause_34 ?_
    refine xiald hx hb hK hP 3 0 rfl rfl dX12_clause_37 hf (fun v37 hf => ?_)
    refine lv_istore_n (lv' := [(2, .int v37), (0, .ref h), (1, .int x1)]) hx hb dX12_clause_38 rfl hl (by decide) rfl (fun ls hl => ?_)
    refine lv_iload_n hx hb dX12_clause_39 rfl (lv_at hl 0 rfl) ?_
    refine lv_bipush (v := (24 : Int32)) hx hb dX12_clause_40 (by decide) ?_
    refine xicmp_ne hx hb 48 dX12_clause_42 (by decide) hf (fun hf => ?_) (fun hf => ?_)
    · refine lv_bipush (v := (6 : Int32)) hx hb dX12_clause_45 (by decide) ?_
      cases hf
      exact mret_i hx hb hr hlocks hP hD hS dX12_clause_47 rfl trivial
    · refine lv_iload_n hx hb dX12_clause_48 rfl (lv_at hl 2 rfl) ?_
      refine lv_iconst (v := (3 : Int32)) hx hb dX12_clause_49 (by decide) ?_
      refine xicmp_gt hx hb 65 dX12_clause_50 (by decide) hf (fun hf => ?_) (fun hf => ?_)
      · exact b65 v_texts v_at v_place v_token v_number v_word v_written v_sort0 v_pile v_piled v_opens v_isWhole v_once x1 v37 _ _ _ hf hP hD hS (lv_sub hl [1, 2, 0] rfl)
      · refine lv_aload_n hx hb dX12_clause_53 rfl (lv_at hl 1 rfl) ?_
        refine lv_dup hx hb dX12_clause_54 rfl ?_
        refine gfX12_248 hx hb hts hown hK hP 0 rfl rfl dX12_clause_55 ?_
        refine lv_iconst (v := (1 : Int32)) hx hb dX12_clause_58 (by decide) ?_
        refine lv_iload_n hx hb dX12_clause_59 rfl (lv_at hl 2 rfl) ?_
        refine lv_ishl hx hb dX12_clause_60 ?_
        refine lv_ior hx hb dX12_clause_61 ?_
        refine pfX12_248 hx hb hts hown hK hP hD hS 0 rfl (Nat.le_of_ble_eq_true rfl) dX12_clause_62 (fun H locs hP hD hS => ?_)
        have hP : va_P D vwCl (WM h q cI cJ cZ v_a v_image v_texts v_tape v_taped v_fault v_faultPlace v_at v_place v_token v_number v_word v_text0 v_written v_sort0 v_pile v_piled v_opens v_isWhole (v_once ||| ((1 : Int32) <<< (x1 &&& 31))) v_named v_values v_truth v_isWritten v_died v_aside v_likely v_safe v_headOf) H := hP
        have hD : va_D A (WM h q cI cJ cZ v_a v_image v_texts v_tape v_taped v_fault v_faultPlace v_at v_place v_token v_number v_word v_text0 v_written v_sort0 v_pile v_piled v_opens v_isWhole (v_once ||| ((1 : Int32) <<< (x1 &&& 31))) v_named v_values v_truth v_isWritten v_died v_aside v_likely v_safe v_headOf) := hD
        exact b65 v_texts v_at v_place v_token v_number v_word v_written v_sort0 v_pile v_piled v_opens v_isWhole (v_once ||| ((1 : Int32) <<< (x1 &&& 31))) x1 v37 _ _ _ hf hP hD hS (lv_sub hl [1, 2, 0] rfl)
  unfold f_X12_clause at hf
  refine lv_aload_n hx hb dX12_clause_0 rfl (lv_at hl 0 rfl) ?_
  obtain ⟨r1, hg1, hf⟩ := ob1_some hf
  refine mcV1_i (As := []) (rest := []) hx hb hml hown hts hK hP hD hS hA (k_X12_sortOf l N D cI cJ cZ cB cT h q v_a v_image v_texts v_tape v_taped v_fault v_faultPlace v_at v_place v_token v_number v_word v_text0 v_written v_sort0 v_pile v_piled v_opens v_isWhole v_once v_named v_values v_truth v_isWritten v_died v_aside v_likely v_safe v_headOf r1 hg1) (kwX12_245 hts rfl rfl ⟨Nat.le_of_ble_eq_true rfl, Nat.le_of_ble_eq_true rfl⟩) 0 rfl rfl rfl rfl hl.1 rfl (Nat.le_of_ble_eq_true rfl) dX12_clause_1 ⟨Nat.zero_le _, Nat.zero_le _⟩ (fun hB1 H locs hP hD hS => ?_)
  have hP : va_P D vwCl (WM h q cI cJ cZ v_a v_image v_texts v_tape v_taped v_fault v_faultPlace v_at v_place v_token v_number v_word v_text0 v_written v_sort0 v_pile v_piled v_opens v_isWhole v_once v_named v_values v_truth v_isWritten v_died v_aside v_likely v_safe v_headOf) H := hP
  have hD : va_D A (WM h q cI cJ cZ v_a v_image v_texts v_tape v_taped v_fault v_faultPlace v_at v_place v_token v_number v_word v_text0 v_written v_sort0 v_pile v_piled v_opens v_isWhole v_once v_named v_values v_truth v_isWritten v_died v_aside v_likely v_safe v_headOf) := hD
  refine lv_istore_n (lv' := [(1, .int r1), (0, .ref h)]) hx hb dX12_clause_4 rfl hl (by decide) rfl (fun ls hl => ?_)
  refine lv_iload_n hx hb dX12_clause_5 rfl (lv_at hl 0 rfl) ?_
  refine xif_ge hx hb 11 dX12_clause_6 (by decide) hf (fun hf => ?_) (fun hf => ?_)
  · refine lv_iload_n hx hb dX12_clause_11 rfl (lv_at hl 0 rfl) ?_
    refine lv_iconst (v := (3 : Int32)) hx hb dX12_clause_12 (by decide) ?_
    refine xicmp_gt hx hb 29 dX12_clause_13 (by decide) hf (fun hf => ?_) (fun hf => ?_)
    · exact b29 v_texts v_at v_place v_token v_number v_word v_written v_sort0 v_pile v_piled v_opens v_isWhole v_once r1 _ _ _ hf hP hD hS (lv_sub hl [1, 0] rfl)
    · refine lv_aload_n hx hb dX12_clause_16 rfl (lv_at hl 1 rfl) ?_
      refine gfX12_248 hx hb hts hown hK hP 0 rfl rfl dX12_clause_17 ?_
      refine lv_iload_n hx hb dX12_clause_20 rfl (lv_at hl 0 rfl) ?_
      obtain ⟨r21, hg21, hf⟩ := ob1_some hf
      refine mcS0_i (As := [.int v_once, .int r1]) (rest := []) hx hb hml hown hts hK hP hD hS hA (k_X12_isWith l N D cI cJ cZ cB cT v_once r1 r21 hg21) (kwX12_78 hts rfl rfl ⟨Nat.le_of_ble_eq_true rfl, Nat.le_of_ble_eq_true rfl⟩) rfl hl.1 rfl (Nat.le_of_ble_eq_true rfl) dX12_clause_21 ⟨Nat.zero_le _, Nat.zero_le _⟩ (fun hB21 H locs hP hD hS => ?_)
      refine xif_eq hx hb 29 dX12_clause_24 (by decide) hf (fun hf => ?_) (fun hf => ?_)
      · exact b29 v_texts v_at v_place v_token v_number v_word v_written v_sort0 v_pile v_piled v_opens v_isWhole v_once r1 _ _ _ hf hP hD hS (lv_sub hl [1, 0] rfl)
      · refine lv_iconst (v := (4 : Int32)) hx hb dX12_clause_27 (by decide) ?_
        cases hf
        exact mret_i hx hb hr hlocks hP hD hS dX12_clause_28 rfl trivial
  · refine lv_iconst (v := (1 : Int32)) hx hb dX12_clause_9 (by decide) ?_
    cases hf
    exact mret_i hx hb hr hlocks hP hD hS dX12_clause_10 rfl trivial
theorem dX12_readText_0 : decode cX12_readText 0 = .ok (.aload_n 0, 1) := by decide +kernel
theorem dX12_readText_1 : decode cX12_readText 1 = .ok (.sipush 729, 3) := by decide +kernel
theorem dX12_readText_4 : decode cX12_readText 4 = .ok (.aload_n 0, 1) := by decide +kernel
theorem dX12_readText_5 : decode cX12_readText 5 = .ok (.getfield 7, 3) := by decide +kernel
theorem dX12_readText_8 : decode cX12_readText 8 = .ok (.iconst 2, 1) := by decide +kernel
theorem dX12_readText_9 : decode cX12_readText 9 = .ok (.iaload, 1) := by decide +kernel
theorem dX12_readText_10 : decode cX12_readText 10 = .ok (.imul, 1) := by decide +kernel
theorem dX12_readText_11 : decode cX12_readText 11 = .ok (.putfield 144, 3) := by decide +kernel
theorem dX12_readText_14 : decode cX12_readText 14 = .ok (.aload_n 0, 1) := by decide +kernel
theorem dX12_readText_15 : decode cX12_readText 15 = .ok (.getfield 16, 3) := by decide +kernel
theorem dX12_readText_18 : decode cX12_readText 18 = .ok (.aload_n 0, 1) := by decide +kernel
theorem dX12_readText_19 : decode cX12_readText 19 = .ok (.getfield 144, 3) := by decide +kernel
theorem dX12_readText_22 : decode cX12_readText 22 = .ok (.iconst 0, 1) := by decide +kernel
theorem dX12_readText_23 : decode cX12_readText 23 = .ok (.iastore, 1) := by decide +kernel
theorem dX12_readText_24 : decode cX12_readText 24 = .ok (.aload_n 0, 1) := by decide +kernel
theorem dX12_readText_25 : decode cX12_readText 25 = .ok (.iconst 0, 1) := by decide +kernel
theorem dX12_readText_26 : decode cX12_readText 26 = .ok (.putfield 147, 3) := by decide +kernel
theorem dX12_readText_29 : decode cX12_readText 29 = .ok (.aload_n 0, 1) := by decide +kernel
theorem dX12_readText_30 : decode cX12_readText 30 = .ok (.iconst 0, 1) := by decide +kernel
theorem dX12_readText_31 : decode cX12_readText 31 = .ok (.putfield 248, 3) := by decide +kernel
theorem dX12_readText_34 : decode cX12_readText 34 = .ok (.aload_n 0, 1) := by decide +kernel
theorem dX12_readText_35 : decode cX12_readText 35 = .ok (.iconst 0, 1) := by decide +kernel
theorem dX12_readText_36 : decode cX12_readText 36 = .ok (.putfield 96, 3) := by decide +kernel
theorem dX12_readText_39 : decode cX12_readText 39 = .ok (.aload_n 0, 1) := by decide +kernel
theorem dX12_readText_40 : decode cX12_readText 40 = .ok (.invokevirtual 177, 3) := by decide +kernel
theorem dX12_readText_43 : decode cX12_readText 43 = .ok (.aload_n 0, 1) := by decide +kernel
theorem dX12_readText_44 : decode cX12_readText 44 = .ok (.getfield 106, 3) := by decide +kernel
theorem dX12_readText_47 : decode cX12_readText 47 = .ok (.ifCond .eq 17, 3) := by decide +kernel
theorem dX12_readText_50 : decode cX12_readText 50 = .ok (.aload_n 0, 1) := by decide +kernel
theorem dX12_readText_51 : decode cX12_readText 51 = .ok (.invokevirtual 254, 3) := by decide +kernel
theorem dX12_readText_54 : decode cX12_readText 54 = .ok (.istore_n 1, 1) := by decide +kernel
theorem dX12_readText_55 : decode cX12_readText 55 = .ok (.iload_n 1, 1) := by decide +kernel
theorem dX12_readText_56 : decode cX12_readText 56 = .ok (.ifCond .eq 5, 3) := by decide +kernel
theorem dX12_readText_59 : decode cX12_readText 59 = .ok (.iload_n 1, 1) := by decide +kernel
theorem dX12_readText_60 : decode cX12_readText 60 = .ok (.ireturn, 1) := by decide +kernel
theorem dX12_readText_61 : decode cX12_readText 61 = .ok (.goto (-18), 3) := by decide +kernel
theorem dX12_readText_64 : decode cX12_readText 64 = .ok (.iconst 0, 1) := by decide +kernel
theorem dX12_readText_65 : decode cX12_readText 65 = .ok (.ireturn, 1) := by decide +kernel
def f_X12_readText_43 (N : Nat) : Nat → (Nat → Int32) → (Nat → Int32) → (Nat → Int32) → Int32 → Int32 → Int32 → Int32 → Int32 → Int64 → Int32 → Int32 → Int32 → (Nat → Int32) → Int32 → Int32 → Int32 → Int32 → Option (Int32 × (Nat → Int32) × Int32 × Int32 × Int32 × Int32 × Int64 × Int32 × Int32 × Int32 × (Nat → Int32) × Int32 × Int32 × Int32 × Int32)
  | 0, _, _, _, _, _, _, _, _, _, _, _, _, _, _, _, _, _ => none
  | n + 1, v_a, v_texts, v_tape, v_taped, v_at, v_place, v_token, v_number, v_word, v_text0, v_written, v_sort0, v_pile, v_piled, v_opens, v_isWhole, v_once => if v_token = 0 then (some ((0 : Int32), v_texts, v_at, v_place, v_token, v_number, v_word, v_text0, v_written, v_sort0, v_pile, v_piled, v_opens, v_isWhole, v_once)) else (ob14 (f_X12_clause N v_texts v_tape v_taped v_at v_place v_token v_number v_word v_text0 v_written v_sort0 v_pile v_piled v_opens v_isWhole v_once) fun r51 v_texts_51 v_at_51 v_place_51 v_token_51 v_number_51 v_word_51 v_written_51 v_sort0_51 v_pile_51 v_piled_51 v_opens_51 v_isWhole_51 v_once_51 => if r51 = 0 then ((f_X12_readText_43 N n) v_a v_texts_51 v_tape v_taped v_at_51 v_place_51 v_token_51 v_number_51 v_word_51 v_text0 v_written_51 v_sort0_51 v_pile_51 v_piled_51 v_opens_51 v_isWhole_51 v_once_51) else (some (r51, v_texts_51, v_at_51, v_place_51, v_token_51, v_number_51, v_word_51, v_text0, v_written_51, v_sort0_51, v_pile_51, v_piled_51, v_opens_51, v_isWhole_51, v_once_51)))
def f_X12_readText (N : Nat) (v_a : Nat → Int32) (v_texts : Nat → Int32) (v_tape : Nat → Int32) (v_taped : Int32) (v_at : Int32) (v_place : Int32) (v_token : Int32) (v_number : Int32) (v_word : Int64) (v_text0 : Int32) (v_written : Int32) (v_sort0 : Int32) (v_pile : Nat → Int32) (v_piled : Int32) (v_opens : Int32) (v_isWhole : Int32) (v_once : Int32) : Option (Int32 × (Nat → Int32) × Int32 × Int32 × Int32 × Int32 × Int64 × Int32 × Int32 × Int32 × (Nat → Int32) × Int32 × Int32 × Int32 × Int32) := gA v_a 8762 (2 : Int32) fun v9 => sA v_texts 2916 ((729 : Int32) * v9) (0 : Int32) fun v_texts_23 => ob5 (f_X12_nextToken N v_tape v_taped (0 : Int32) v_place v_token v_number v_word) fun v_at_40 v_place_40 v_token_40 v_number_40 v_word_40 => f_X12_readText_43 N N v_a v_texts_23 v_tape v_taped v_at_40 v_place_40 v_token_40 v_number_40 v_word_40 ((729 : Int32) * v9) (0 : Int32) v_sort0 v_pile v_piled v_opens v_isWhole (0 : Int32)
set_option maxHeartbeats 4000000 in
set_option maxRecDepth 100000 in
theorem k_X12_readText (l : Launch) (N : Nat) (D : va_G) (cI cJ cZ cB cT : ClassId) (h : Nat) (q : Nat → Nat) (v_a : Nat → Int32) (v_image : Nat → Int32) (v_texts : Nat → Int32) (v_tape : Nat → Int32) (v_taped : Int32) (v_fault : Int32) (v_faultPlace : Int32) (v_at : Int32) (v_place : Int32) (v_token : Int32) (v_number : Int32) (v_word : Int64) (v_text0 : Int32) (v_written : Int32) (v_sort0 : Int32) (v_pile : Nat → Int32) (v_piled : Int32) (v_opens : Int32) (v_isWhole : Int32) (v_once : Int32) (v_named : Nat → Int32) (v_values : Nat → Int64) (v_truth : Nat → Int32) (v_isWritten : Int32) (v_died : Int32) (v_aside : Nat → Int32) (v_likely : Nat → Int32) (v_safe : Nat → Int32) (v_headOf : Nat → Int32) (o_r : Int32) (o_v_texts : Nat → Int32) (o_v_at : Int32) (o_v_place : Int32) (o_v_token : Int32) (o_v_number : Int32) (o_v_word : Int64) (o_v_text0 : Int32) (o_v_written : Int32) (o_v_sort0 : Int32) (o_v_pile : Nat → Int32) (o_v_piled : Int32) (o_v_opens : Int32) (o_v_isWhole : Int32) (o_v_once : Int32) (hf : f_X12_readText N v_a v_texts v_tape v_taped v_at v_place v_token v_number v_word v_text0 v_written v_sort0 v_pile v_piled v_opens v_isWhole v_once = some (o_r, o_v_texts, o_v_at, o_v_place, o_v_token, o_v_number, o_v_word, o_v_text0, o_v_written, o_v_sort0, o_v_pile, o_v_piled, o_v_opens, o_v_isWhole, o_v_once)) : ∀ sz, Met l yX12_readText (mw yX12_readText cX12_readText 2 (some .int)) ({ frames := 11, cells := 0, slots := 0, locals := 245 } : Room) (mPre D (mT cI cJ cZ cB cT) (WM h q cI cJ cZ v_a v_image v_texts v_tape v_taped v_fault v_faultPlace v_at v_place v_token v_number v_word v_text0 v_written v_sort0 v_pile v_piled v_opens v_isWhole v_once v_named v_values v_truth v_isWritten v_died v_aside v_likely v_safe v_headOf) sz [.ref h]) ((mQi D (WM h q cI cJ cZ v_a v_image o_v_texts v_tape v_taped v_fault v_faultPlace o_v_at o_v_place o_v_token o_v_number o_v_word o_v_text0 o_v_written o_v_sort0 o_v_pile o_v_piled o_v_opens o_v_isWhole o_v_once v_named v_values v_truth v_isWritten v_died v_aside v_likely v_safe v_headOf) o_r True) (va_A (WM h q cI cJ cZ v_a v_image v_texts v_tape v_taped v_fault v_faultPlace v_at v_place v_token v_number v_word v_text0 v_written v_sort0 v_pile v_piled v_opens v_isWhole v_once v_named v_values v_truth v_isWritten v_died v_aside v_likely v_safe v_headOf) sz)) 0 0 (va_A (WM h q cI cJ cZ v_a v_image v_texts v_tape v_taped v_fault v_faultPlace v_at v_place v_token v_number v_word v_text0 v_written v_sort0 v_pile v_piled v_opens v_isWhole v_once v_named v_values v_truth v_isWritten v_died v_aside v_likely v_safe v_headOf) sz) := by
  refine mMet (Qc := (mQi D (WM h q cI cJ cZ v_a v_image o_v_texts v_tape v_taped v_fault v_faultPlace o_v_at o_v_place o_v_token o_v_number o_v_word o_v_text0 o_v_written o_v_sort0 o_v_pile o_v_piled o_v_opens o_v_isWhole o_v_once v_named v_values v_truth v_isWritten v_died v_aside v_likely v_safe v_headOf) o_r True)) (by decide) (Nat.le_of_ble_eq_true rfl) (fun p e s m below meth c A ls hx hb hr hml hts hown hlocks hK hA hP hD hl => ?_)
  have hown : s.vm.findClass RX12 = some m.cls := hown
  have hl : lv_has ls 2 [(0, .ref h)] := hl
  have hS : va_S A s.heap s.heap [] := va_S.rf
  have b43 : ∀ n43 : Nat, ∀ (v_texts : Nat → Int32) (v_at : Int32) (v_place : Int32) (v_token : Int32) (v_number : Int32) (v_word : Int64) (v_text0 : Int32) (v_written : Int32) (v_sort0 : Int32) (v_pile : Nat → Int32) (v_piled : Int32) (v_opens : Int32) (v_isWhole : Int32) (v_once : Int32) (H : Heap) (locs : List Loc) (ls : Array Slot), f_X12_readText_43 N n43 v_a v_texts v_tape v_taped v_at v_place v_token v_number v_word v_text0 v_written v_sort0 v_pile v_piled v_opens v_isWhole v_once = some (o_r, o_v_texts, o_v_at, o_v_place, o_v_token, o_v_number, o_v_word, o_v_text0, o_v_written, o_v_sort0, o_v_pile, o_v_piled, o_v_opens, o_v_isWhole, o_v_once) → va_P D vwCl (WM h q cI cJ cZ v_a v_image v_texts v_tape v_taped v_fault v_faultPlace v_at v_place v_token v_number v_word v_text0 v_written v_sort0 v_pile v_piled v_opens v_isWhole v_once v_named v_values v_truth v_isWritten v_died v_aside v_likely v_safe v_headOf) H → va_D A (WM h q cI cJ cZ v_a v_image v_texts v_tape v_taped v_fault v_faultPlace v_at v_place v_token v_number v_word v_text0 v_written v_sort0 v_pile v_piled v_opens v_isWhole v_once v_named v_values v_truth v_isWritten v_died v_aside v_likely v_safe v_headOf) → va_S A s.heap H locs → lv_has ls 2 [(0, .ref h)] → W p l e ({ frames := 11, cells := 0, slots := 0, locals := 245 } : Room) s m ([.ref h] : List Value).toArray below meth c H locs 0 0 (MQ below ((mQi D (WM h q cI cJ cZ v_a v_image o_v_texts v_tape v_taped v_fault v_faultPlace o_v_at o_v_place o_v_token o_v_number o_v_word o_v_text0 o_v_written o_v_sort0 o_v_pile o_v_piled o_v_opens o_v_isWhole o_v_once v_named v_values v_truth v_isWritten v_died v_aside v_likely v_safe v_headOf) o_r True) A) ([.ref h] : List Value).toArray s 0 0 A) (F0 m 43 ls []) := by
    intro n43
    induction n43 with
    | zero =>
      intro v_texts v_at v_place v_token v_number v_word v_text0 v_written v_sort0 v_pile v_piled v_opens v_isWhole v_once H locs ls hf hP hD hS hl
      simp [f_X12_readText_43] at hf
    | succ n43 ih43 =>
      intro v_texts v_at v_place v_token v_number v_word v_text0 v_written v_sort0 v_pile v_piled v_opens v_isWhole v_once H locs ls hf hP hD hS hl
      rw [f_X12_readText_43.eq_2] at hf
      refine lv_aload_n hx hb dX12_readText_43 rfl (lv_at hl 0 rfl) ?_
      refine gfX12_106 hx hb hts hown hK hP 0 rfl rfl dX12_readText_44 ?_
      refine xif_eq hx hb 64 dX12_readText_47 (by decide) hf (fun hf => ?_) (fun hf => ?_)
      · refine lv_iconst (v := (0 : Int32)) hx hb dX12_readText_64 (by decide) ?_
        cases hf
        exact mret_i hx hb hr hlocks hP hD hS dX12_readText_65 rfl trivial
      · refine lv_aload_n hx hb dX12_readText_50 rfl (lv_at hl 0 rfl) ?_
        obtain ⟨r51, v_texts_51, v_at_51, v_place_51, v_token_51, v_number_51, v_word_51, v_written_51, v_sort0_51, v_pile_51, v_piled_51, v_opens_51, v_isWhole_51, v_once_51, hg51, hf⟩ := ob14_some hf
        refine mcV1_i (As := []) (rest := []) hx hb hml hown hts hK hP hD hS hA (k_X12_clause l N D cI cJ cZ cB cT h q v_a v_image v_texts v_tape v_taped v_fault v_faultPlace v_at v_place v_token v_number v_word v_text0 v_written v_sort0 v_pile v_piled v_opens v_isWhole v_once v_named v_values v_truth v_isWritten v_died v_aside v_likely v_safe v_headOf r51 v_texts_51 v_at_51 v_place_51 v_token_51 v_number_51 v_word_51 v_written_51 v_sort0_51 v_pile_51 v_piled_51 v_opens_51 v_isWhole_51 v_once_51 hg51) (kwX12_254 hts rfl rfl ⟨Nat.le_of_ble_eq_true rfl, Nat.le_of_ble_eq_true rfl⟩) 0 rfl rfl rfl rfl hl.1 rfl (Nat.le_of_ble_eq_true rfl) dX12_readText_51 ⟨Nat.zero_le _, Nat.zero_le _⟩ (fun hB51 H locs hP hD hS => ?_)
        have hP : va_P D vwCl (WM h q cI cJ cZ v_a v_image v_texts_51 v_tape v_taped v_fault v_faultPlace v_at_51 v_place_51 v_token_51 v_number_51 v_word_51 v_text0 v_written_51 v_sort0_51 v_pile_51 v_piled_51 v_opens_51 v_isWhole_51 v_once_51 v_named v_values v_truth v_isWritten v_died v_aside v_likely v_safe v_headOf) H := hP
        have hD : va_D A (WM h q cI cJ cZ v_a v_image v_texts_51 v_tape v_taped v_fault v_faultPlace v_at_51 v_place_51 v_token_51 v_number_51 v_word_51 v_text0 v_written_51 v_sort0_51 v_pile_51 v_piled_51 v_opens_51 v_isWhole_51 v_once_51 v_named v_values v_truth v_isWritten v_died v_aside v_likely v_safe v_headOf) := hD
        refine lv_istore_n (lv' := [(1, .int r51), (0, .ref h)]) hx hb dX12_readText_54 rfl hl (by decide) rfl (fun ls hl => ?_)
        refine lv_iload_n hx hb dX12_readText_55 rfl (lv_at hl 0 rfl) ?_
        refine xif_eq hx hb 61 dX12_readText_56 (by decide) hf (fun hf => ?_) (fun hf => ?_)
        · refine lv_goto (tgt := 43) hx hb dX12_readText_61 (by decide) ?_
          exact ih43 v_texts_51 v_at_51 v_place_51 v_token_51 v_number_51 v_word_51 v_text0 v_written_51 v_sort0_51 v_pile_51 v_piled_51 v_opens_51 v_isWhole_51 v_once_51 _ _ _ hf hP hD hS (lv_sub hl [1] rfl)
        · refine lv_iload_n hx hb dX12_readText_59 rfl (lv_at hl 0 rfl) ?_
          cases hf
          exact mret_i hx hb hr hlocks hP hD hS dX12_readText_60 rfl trivial
  unfold f_X12_readText at hf
  refine lv_aload_n hx hb dX12_readText_0 rfl (lv_at hl 0 rfl) ?_
  refine lv_sipush (v := (729 : Int32)) hx hb dX12_readText_1 (by decide) ?_
  refine lv_aload_n hx hb dX12_readText_4 rfl (lv_at hl 0 rfl) ?_
  refine gfX12_7 hx hb hts hown hK hP 0 rfl rfl dX12_readText_5 ?_
  refine lv_iconst (v := (2 : Int32)) hx hb dX12_readText_8 (by decide) ?_
  refine xiald hx hb hK hP 1 0 rfl rfl dX12_readText_9 hf (fun v9 hf => ?_)
  refine lv_imul hx hb dX12_readText_10 ?_
  refine pfX12_144 hx hb hts hown hK hP hD hS 0 rfl (Nat.le_of_ble_eq_true rfl) dX12_readText_11 (fun H locs hP hD hS => ?_)
  have hP : va_P D vwCl (WM h q cI cJ cZ v_a v_image v_texts v_tape v_taped v_fault v_faultPlace v_at v_place v_token v_number v_word ((729 : Int32) * v9) v_written v_sort0 v_pile v_piled v_opens v_isWhole v_once v_named v_values v_truth v_isWritten v_died v_aside v_likely v_safe v_headOf) H := hP
  have hD : va_D A (WM h q cI cJ cZ v_a v_image v_texts v_tape v_taped v_fault v_faultPlace v_at v_place v_token v_number v_word ((729 : Int32) * v9) v_written v_sort0 v_pile v_piled v_opens v_isWhole v_once v_named v_values v_truth v_isWritten v_died v_aside v_likely v_safe v_headOf) := hD
  refine lv_aload_n hx hb dX12_readText_14 rfl (lv_at hl 0 rfl) ?_
  refine gfX12_16 hx hb hts hown hK hP 0 rfl rfl dX12_readText_15 ?_
  refine lv_aload_n hx hb dX12_readText_18 rfl (lv_at hl 0 rfl) ?_
  refine gfX12_144 hx hb hts hown hK hP 0 rfl rfl dX12_readText_19 ?_
  refine lv_iconst (v := (0 : Int32)) hx hb dX12_readText_22 (by decide) ?_
  refine xiast hx hb hK hP hD hS 3 0 rfl rfl dX12_readText_23 hf (fun v_texts_23 hf H locs hP hD hS => ?_)
  have hP : va_P D vwCl (WM h q cI cJ cZ v_a v_image v_texts_23 v_tape v_taped v_fault v_faultPlace v_at v_place v_token v_number v_word ((729 : Int32) * v9) v_written v_sort0 v_pile v_piled v_opens v_isWhole v_once v_named v_values v_truth v_isWritten v_died v_aside v_likely v_safe v_headOf) H := hP
  have hD : va_D A (WM h q cI cJ cZ v_a v_image v_texts_23 v_tape v_taped v_fault v_faultPlace v_at v_place v_token v_number v_word ((729 : Int32) * v9) v_written v_sort0 v_pile v_piled v_opens v_isWhole v_once v_named v_values v_truth v_isWritten v_died v_aside v_likely v_safe v_headOf) := hD
  refine lv_aload_n hx hb dX12_readText_24 rfl (lv_at hl 0 rfl) ?_
  refine lv_iconst (v := (0 : Int32)) hx hb dX12_readText_25 (by decide) ?_
  refine pfX12_147 hx hb hts hown hK hP hD hS 0 rfl (Nat.le_of_ble_eq_true rfl) dX12_readText_26 (fun H locs hP hD hS => ?_)
  have hP : va_P D vwCl (WM h q cI cJ cZ v_a v_image v_texts_23 v_tape v_taped v_fault v_faultPlace v_at v_place v_token v_number v_word ((729 : Int32) * v9) (0 : Int32) v_sort0 v_pile v_piled v_opens v_isWhole v_once v_named v_values v_truth v_isWritten v_died v_aside v_likely v_safe v_headOf) H := hP
  have hD : va_D A (WM h q cI cJ cZ v_a v_image v_texts_23 v_tape v_taped v_fault v_faultPlace v_at v_place v_token v_number v_word ((729 : Int32) * v9) (0 : Int32) v_sort0 v_pile v_piled v_opens v_isWhole v_once v_named v_values v_truth v_isWritten v_died v_aside v_likely v_safe v_headOf) := hD
  refine lv_aload_n hx hb dX12_readText_29 rfl (lv_at hl 0 rfl) ?_
  refine lv_iconst (v := (0 : Int32)) hx hb dX12_readText_30 (by decide) ?_
  refine pfX12_248 hx hb hts hown hK hP hD hS 0 rfl (Nat.le_of_ble_eq_true rfl) dX12_readText_31 (fun H locs hP hD hS => ?_)
  have hP : va_P D vwCl (WM h q cI cJ cZ v_a v_image v_texts_23 v_tape v_taped v_fault v_faultPlace v_at v_place v_token v_number v_word ((729 : Int32) * v9) (0 : Int32) v_sort0 v_pile v_piled v_opens v_isWhole (0 : Int32) v_named v_values v_truth v_isWritten v_died v_aside v_likely v_safe v_headOf) H := hP
  have hD : va_D A (WM h q cI cJ cZ v_a v_image v_texts_23 v_tape v_taped v_fault v_faultPlace v_at v_place v_token v_number v_word ((729 : Int32) * v9) (0 : Int32) v_sort0 v_pile v_piled v_opens v_isWhole (0 : Int32) v_named v_values v_truth v_isWritten v_died v_aside v_likely v_safe v_headOf) := hD
  refine lv_aload_n hx hb dX12_readText_34 rfl (lv_at hl 0 rfl) ?_
  refine lv_iconst (v := (0 : Int32)) hx hb dX12_readText_35 (by decide) ?_
  refine pfX12_96 hx hb hts hown hK hP hD hS 0 rfl (Nat.le_of_ble_eq_true rfl) dX12_readText_36 (fun H locs hP hD hS => ?_)
  have hP : va_P D vwCl (WM h q cI cJ cZ v_a v_image v_texts_23 v_tape v_taped v_fault v_faultPlace (0 : Int32) v_place v_token v_number v_word ((729 : Int32) * v9) (0 : Int32) v_sort0 v_pile v_piled v_opens v_isWhole (0 : Int32) v_named v_values v_truth v_isWritten v_died v_aside v_likely v_safe v_headOf) H := hP
  have hD : va_D A (WM h q cI cJ cZ v_a v_image v_texts_23 v_tape v_taped v_fault v_faultPlace (0 : Int32) v_place v_token v_number v_word ((729 : Int32) * v9) (0 : Int32) v_sort0 v_pile v_piled v_opens v_isWhole (0 : Int32) v_named v_values v_truth v_isWritten v_died v_aside v_likely v_safe v_headOf) := hD
  refine lv_aload_n hx hb dX12_readText_39 rfl (lv_at hl 0 rfl) ?_
  obtain ⟨v_at_40, v_place_40, v_token_40, v_number_40, v_word_40, hg40, hf⟩ := ob5_some hf
  refine mcV1_v (As := []) (rest := []) hx hb hml hown hts hK hP hD hS hA (k_X12_nextToken l N D cI cJ cZ cB cT h q v_a v_image v_texts_23 v_tape v_taped v_fault v_faultPlace (0 : Int32) v_place v_token v_number v_word ((729 : Int32) * v9) (0 : Int32) v_sort0 v_pile v_piled v_opens v_isWhole (0 : Int32) v_named v_values v_truth v_isWritten v_died v_aside v_likely v_safe v_headOf v_at_40 v_place_40 v_token_40 v_number_40 v_word_40 hg40) (kwX12_177 hts rfl rfl ⟨Nat.le_of_ble_eq_true rfl, Nat.le_of_ble_eq_true rfl⟩) 0 rfl rfl rfl rfl hl.1 rfl (Nat.le_of_ble_eq_true rfl) dX12_readText_40 ⟨Nat.zero_le _, Nat.zero_le _⟩ (fun H locs hP hD hS => ?_)
  have hP : va_P D vwCl (WM h q cI cJ cZ v_a v_image v_texts_23 v_tape v_taped v_fault v_faultPlace v_at_40 v_place_40 v_token_40 v_number_40 v_word_40 ((729 : Int32) * v9) (0 : Int32) v_sort0 v_pile v_piled v_opens v_isWhole (0 : Int32) v_named v_values v_truth v_isWritten v_died v_aside v_likely v_safe v_headOf) H := hP
  have hD : va_D A (WM h q cI cJ cZ v_a v_image v_texts_23 v_tape v_taped v_fault v_faultPlace v_at_40 v_place_40 v_token_40 v_number_40 v_word_40 ((729 : Int32) * v9) (0 : Int32) v_sort0 v_pile v_piled v_opens v_isWhole (0 : Int32) v_named v_values v_truth v_isWritten v_died v_aside v_likely v_safe v_headOf) := hD
  exact b43 N v_texts_23 v_at_40 v_place_40 v_token_40 v_number_40 v_word_40 ((729 : Int32) * v9) (0 : Int32) v_sort0 v_pile v_piled v_opens v_isWhole (0 : Int32) _ _ _ hf hP hD hS (lv_sub hl [0] rfl)
theorem dX12_text_0 : decode cX12_text 0 = .ok (.aload_n 0, 1) := by decide +kernel
theorem dX12_text_1 : decode cX12_text 1 = .ok (.getfield 7, 3) := by decide +kernel
theorem dX12_text_4 : decode cX12_text 4 = .ok (.iconst 2, 1) := by decide +kernel
theorem dX12_text_5 : decode cX12_text 5 = .ok (.iaload, 1) := by decide +kernel
theorem dX12_text_6 : decode cX12_text 6 = .ok (.iconst 4, 1) := by decide +kernel
theorem dX12_text_7 : decode cX12_text 7 = .ok (.if_icmp .ne 5, 3) := by decide +kernel
theorem dX12_text_10 : decode cX12_text 10 = .ok (.iconst (-1), 1) := by decide +kernel
theorem dX12_text_11 : decode cX12_text 11 = .ok (.ireturn, 1) := by decide +kernel
theorem dX12_text_12 : decode cX12_text 12 = .ok (.aload_n 0, 1) := by decide +kernel
theorem dX12_text_13 : decode cX12_text 13 = .ok (.aload_n 0, 1) := by decide +kernel
theorem dX12_text_14 : decode cX12_text 14 = .ok (.invokevirtual 257, 3) := by decide +kernel
theorem dX12_text_17 : decode cX12_text 17 = .ok (.putfield 22, 3) := by decide +kernel
theorem dX12_text_20 : decode cX12_text 20 = .ok (.aload_n 0, 1) := by decide +kernel
theorem dX12_text_21 : decode cX12_text 21 = .ok (.aload_n 0, 1) := by decide +kernel
theorem dX12_text_22 : decode cX12_text 22 = .ok (.getfield 22, 3) := by decide +kernel
theorem dX12_text_25 : decode cX12_text 25 = .ok (.ifCond .ne 7, 3) := by decide +kernel
theorem dX12_text_28 : decode cX12_text 28 = .ok (.iconst (-1), 1) := by decide +kernel
theorem dX12_text_29 : decode cX12_text 29 = .ok (.goto 7, 3) := by decide +kernel
theorem dX12_text_32 : decode cX12_text 32 = .ok (.aload_n 0, 1) := by decide +kernel
theorem dX12_text_33 : decode cX12_text 33 = .ok (.getfield 103, 3) := by decide +kernel
theorem dX12_text_36 : decode cX12_text 36 = .ok (.putfield 26, 3) := by decide +kernel
theorem dX12_text_39 : decode cX12_text 39 = .ok (.aload_n 0, 1) := by decide +kernel
theorem dX12_text_40 : decode cX12_text 40 = .ok (.iconst 0, 1) := by decide +kernel
theorem dX12_text_41 : decode cX12_text 41 = .ok (.putfield 90, 3) := by decide +kernel
theorem dX12_text_44 : decode cX12_text 44 = .ok (.aload_n 0, 1) := by decide +kernel
theorem dX12_text_45 : decode cX12_text 45 = .ok (.getfield 22, 3) := by decide +kernel
theorem dX12_text_48 : decode cX12_text 48 = .ok (.ifCond .eq 5, 3) := by decide +kernel
theorem dX12_text_51 : decode cX12_text 51 = .ok (.iconst (-1), 1) := by decide +kernel
theorem dX12_text_52 : decode cX12_text 52 = .ok (.ireturn, 1) := by decide +kernel
theorem dX12_text_53 : decode cX12_text 53 = .ok (.aload_n 0, 1) := by decide +kernel
theorem dX12_text_54 : decode cX12_text 54 = .ok (.getfield 7, 3) := by decide +kernel
theorem dX12_text_57 : decode cX12_text 57 = .ok (.iconst 2, 1) := by decide +kernel
theorem dX12_text_58 : decode cX12_text 58 = .ok (.dup2, 1) := by decide +kernel
theorem dX12_text_59 : decode cX12_text 59 = .ok (.iaload, 1) := by decide +kernel
theorem dX12_text_60 : decode cX12_text 60 = .ok (.iconst 1, 1) := by decide +kernel
theorem dX12_text_61 : decode cX12_text 61 = .ok (.iadd, 1) := by decide +kernel
theorem dX12_text_62 : decode cX12_text 62 = .ok (.iastore, 1) := by decide +kernel
theorem dX12_text_63 : decode cX12_text 63 = .ok (.aload_n 0, 1) := by decide +kernel
theorem dX12_text_64 : decode cX12_text 64 = .ok (.getfield 7, 3) := by decide +kernel
theorem dX12_text_67 : decode cX12_text 67 = .ok (.iconst 2, 1) := by decide +kernel
theorem dX12_text_68 : decode cX12_text 68 = .ok (.iaload, 1) := by decide +kernel
theorem dX12_text_69 : decode cX12_text 69 = .ok (.iconst 1, 1) := by decide +kernel
theorem dX12_text_70 : decode cX12_text 70 = .ok (.isub, 1) := by decide +kernel
theorem dX12_text_71 : decode cX12_text 71 = .ok (.ireturn, 1) := by decide +kernel
def f_X12_text_36 (N : Nat) (v_a : Nat → Int32) (v_texts : Nat → Int32) (v_tape : Nat → Int32) (v_taped : Int32) (v_fault : Int32) (v_faultPlace : Int32) (v_at : Int32) (v_place : Int32) (v_token : Int32) (v_number : Int32) (v_word : Int64) (v_text0 : Int32) (v_written : Int32) (v_sort0 : Int32) (v_pile : Nat → Int32) (v_piled : Int32) (v_opens : Int32) (v_isWhole : Int32) (v_once : Int32) (s1 : Int32) : Option (Int32 × (Nat → Int32) × (Nat → Int32) × Int32 × Int32 × Int32 × Int32 × Int32 × Int32 × Int32 × Int64 × Int32 × Int32 × Int32 × (Nat → Int32) × Int32 × Int32 × Int32 × Int32) := if v_fault = 0 then (gA v_a 8762 (2 : Int32) fun v59 => sA v_a 8762 (2 : Int32) (v59 + (1 : Int32)) fun v_a_62 => gA v_a_62 8762 (2 : Int32) fun v68 => some ((v68 - (1 : Int32)), v_a_62, v_texts, (0 : Int32), v_fault, s1, v_at, v_place, v_token, v_number, v_word, v_text0, v_written, v_sort0, v_pile, v_piled, v_opens, v_isWhole, v_once)) else (some ((-1 : Int32), v_a, v_texts, (0 : Int32), v_fault, s1, v_at, v_place, v_token, v_number, v_word, v_text0, v_written, v_sort0, v_pile, v_piled, v_opens, v_isWhole, v_once))
def f_X12_text (N : Nat) (v_a : Nat → Int32) (v_texts : Nat → Int32) (v_tape : Nat → Int32) (v_taped : Int32) (v_fault : Int32) (v_faultPlace : Int32) (v_at : Int32) (v_place : Int32) (v_token : Int32) (v_number : Int32) (v_word : Int64) (v_text0 : Int32) (v_written : Int32) (v_sort0 : Int32) (v_pile : Nat → Int32) (v_piled : Int32) (v_opens : Int32) (v_isWhole : Int32) (v_once : Int32) : Option (Int32 × (Nat → Int32) × (Nat → Int32) × Int32 × Int32 × Int32 × Int32 × Int32 × Int32 × Int32 × Int64 × Int32 × Int32 × Int32 × (Nat → Int32) × Int32 × Int32 × Int32 × Int32) := gA v_a 8762 (2 : Int32) fun v5 => if v5 = (4 : Int32) then (some ((-1 : Int32), v_a, v_texts, v_taped, v_fault, v_faultPlace, v_at, v_place, v_token, v_number, v_word, v_text0, v_written, v_sort0, v_pile, v_piled, v_opens, v_isWhole, v_once)) else (ob15 (f_X12_readText N v_a v_texts v_tape v_taped v_at v_place v_token v_number v_word v_text0 v_written v_sort0 v_pile v_piled v_opens v_isWhole v_once) fun r14 v_texts_14 v_at_14 v_place_14 v_token_14 v_number_14 v_word_14 v_text0_14 v_written_14 v_sort0_14 v_pile_14 v_piled_14 v_opens_14 v_isWhole_14 v_once_14 => if r14 = 0 then (f_X12_text_36 N v_a v_texts_14 v_tape v_taped r14 v_faultPlace v_at_14 v_place_14 v_token_14 v_number_14 v_word_14 v_text0_14 v_written_14 v_sort0_14 v_pile_14 v_piled_14 v_opens_14 v_isWhole_14 v_once_14 (-1 : Int32)) else (f_X12_text_36 N v_a v_texts_14 v_tape v_taped r14 v_faultPlace v_at_14 v_place_14 v_token_14 v_number_14 v_word_14 v_text0_14 v_written_14 v_sort0_14 v_pile_14 v_piled_14 v_opens_14 v_isWhole_14 v_once_14 v_place_14))
set_option maxHeartbeats 4000000 in
set_option maxRecDepth 100000 in
theorem k_X12_text (l : Launch) (N : Nat) (D : va_G) (cI cJ cZ cB cT : ClassId) (h : Nat) (q : Nat → Nat) (v_a : Nat → Int32) (v_image : Nat → Int32) (v_texts : Nat → Int32) (v_tape : Nat → Int32) (v_taped : Int32) (v_fault : Int32) (v_faultPlace : Int32) (v_at : Int32) (v_place : Int32) (v_token : Int32) (v_number : Int32) (v_word : Int64) (v_text0 : Int32) (v_written : Int32) (v_sort0 : Int32) (v_pile : Nat → Int32) (v_piled : Int32) (v_opens : Int32) (v_isWhole : Int32) (v_once : Int32) (v_named : Nat → Int32) (v_values : Nat → Int64) (v_truth : Nat → Int32) (v_isWritten : Int32) (v_died : Int32) (v_aside : Nat → Int32) (v_likely : Nat → Int32) (v_safe : Nat → Int32) (v_headOf : Nat → Int32) (o_r : Int32) (o_v_a : Nat → Int32) (o_v_texts : Nat → Int32) (o_v_taped : Int32) (o_v_fault : Int32) (o_v_faultPlace : Int32) (o_v_at : Int32) (o_v_place : Int32) (o_v_token : Int32) (o_v_number : Int32) (o_v_word : Int64) (o_v_text0 : Int32) (o_v_written : Int32) (o_v_sort0 : Int32) (o_v_pile : Nat → Int32) (o_v_piled : Int32) (o_v_opens : Int32) (o_v_isWhole : Int32) (o_v_once : Int32) (hf : f_X12_text N v_a v_texts v_tape v_taped v_fault v_faultPlace v_at v_place v_token v_number v_word v_text0 v_written v_sort0 v_pile v_piled v_opens v_isWhole v_once = some (o_r, o_v_a, o_v_texts, o_v_taped, o_v_fault, o_v_faultPlace, o_v_at, o_v_place, o_v_token, o_v_number, o_v_word, o_v_text0, o_v_written, o_v_sort0, o_v_pile, o_v_piled, o_v_opens, o_v_isWhole, o_v_once)) : ∀ sz, Met l yX12_text (mw yX12_text cX12_text 1 (some .int)) ({ frames := 12, cells := 0, slots := 0, locals := 266 } : Room) (mPre D (mT cI cJ cZ cB cT) (WM h q cI cJ cZ v_a v_image v_texts v_tape v_taped v_fault v_faultPlace v_at v_place v_token v_number v_word v_text0 v_written v_sort0 v_pile v_piled v_opens v_isWhole v_once v_named v_values v_truth v_isWritten v_died v_aside v_likely v_safe v_headOf) sz [.ref h]) ((mQi D (WM h q cI cJ cZ o_v_a v_image o_v_texts v_tape o_v_taped o_v_fault o_v_faultPlace o_v_at o_v_place o_v_token o_v_number o_v_word o_v_text0 o_v_written o_v_sort0 o_v_pile o_v_piled o_v_opens o_v_isWhole o_v_once v_named v_values v_truth v_isWritten v_died v_aside v_likely v_safe v_headOf) o_r True) (va_A (WM h q cI cJ cZ v_a v_image v_texts v_tape v_taped v_fault v_faultPlace v_at v_place v_token v_number v_word v_text0 v_written v_sort0 v_pile v_piled v_opens v_isWhole v_once v_named v_values v_truth v_isWritten v_died v_aside v_likely v_safe v_headOf) sz)) 0 0 (va_A (WM h q cI cJ cZ v_a v_image v_texts v_tape v_taped v_fault v_faultPlace v_at v_place v_token v_number v_word v_text0 v_written v_sort0 v_pile v_piled v_opens v_isWhole v_once v_named v_values v_truth v_isWritten v_died v_aside v_likely v_safe v_headOf) sz) := by
  refine mMet (Qc := (mQi D (WM h q cI cJ cZ o_v_a v_image o_v_texts v_tape o_v_taped o_v_fault o_v_faultPlace o_v_at o_v_place o_v_token o_v_number o_v_word o_v_text0 o_v_written o_v_sort0 o_v_pile o_v_piled o_v_opens o_v_isWhole o_v_once v_named v_values v_truth v_isWritten v_died v_aside v_likely v_safe v_headOf) o_r True)) (by decide) (Nat.le_of_ble_eq_true rfl) (fun p e s m below meth c A ls hx hb hr hml hts hown hlocks hK hA hP hD hl => ?_)
  have hown : s.vm.findClass RX12 = some m.cls := hown
  have hl : lv_has ls 1 [(0, .ref h)] := hl
  have hS : va_S A s.heap s.heap [] := va_S.rf
  have b36 : ∀ (v_a : Nat → Int32) (v_texts : Nat → Int32) (v_taped : Int32) (v_fault : Int32) (v_faultPlace : Int32) (v_at : Int32) (v_place : Int32) (v_token : Int32) (v_number : Int32) (v_word : Int64) (v_text0 : Int32) (v_written : Int32) (v_sort0 : Int32) (v_pile : Nat → Int32) (v_piled : Int32) (v_opens : Int32) (v_isWhole : Int32) (v_once : Int32) (s1 : Int32) (H : Heap) (locs : List Loc) (ls : Array Slot), f_X12_text_36 N v_a v_texts v_tape v_taped v_fault v_faultPlace v_at v_place v_token v_number v_word v_text0 v_written v_sort0 v_pile v_piled v_opens v_isWhole v_once s1 = some (o_r, o_v_a, o_v_texts, o_v_taped, o_v_fault, o_v_faultPlace, o_v_at, o_v_place, o_v_token, o_v_number, o_v_word, o_v_text0, o_v_written, o_v_sort0, o_v_pile, o_v_piled, o_v_opens, o_v_isWhole, o_v_once) → va_P D vwCl (WM h q cI cJ cZ v_a v_image v_texts v_tape v_taped v_fault v_faultPlace v_at v_place v_token v_number v_word v_text0 v_written v_sort0 v_pile v_piled v_opens v_isWhole v_once v_named v_values v_truth v_isWritten v_died v_aside v_likely v_safe v_headOf) H → va_D A (WM h q cI cJ cZ v_a v_image v_texts v_tape v_taped v_fault v_faultPlace v_at v_place v_token v_number v_word v_text0 v_written v_sort0 v_pile v_piled v_opens v_isWhole v_once v_named v_values v_truth v_isWritten v_died v_aside v_likely v_safe v_headOf) → va_S A s.heap H locs → lv_has ls 1 [(0, .ref h)] → W p l e ({ frames := 12, cells := 0, slots := 0, locals := 266 } : Room) s m ([.ref h] : List Value).toArray below meth c H locs 0 0 (MQ below ((mQi D (WM h q cI cJ cZ o_v_a v_image o_v_texts v_tape o_v_taped o_v_fault o_v_faultPlace o_v_at o_v_place o_v_token o_v_number o_v_word o_v_text0 o_v_written o_v_sort0 o_v_pile o_v_piled o_v_opens o_v_isWhole o_v_once v_named v_values v_truth v_isWritten v_died v_aside v_likely v_safe v_headOf) o_r True) A) ([.ref h] : List Value).toArray s 0 0 A) (F0 m 36 ls [.int s1, .ref h]) := by
    intro v_a v_texts v_taped v_fault v_faultPlace v_at v_place v_token v_number v_word v_text0 v_written v_sort0 v_pile v_piled v_opens v_isWhole v_once s1 H locs ls hf hP hD hS hl
    unfold f_X12_text_36 at hf
    refine pfX12_26 hx hb hts hown hK hP hD hS 0 rfl (Nat.le_of_ble_eq_true rfl) dX12_text_36 (fun H locs hP hD hS => ?_)
    have hP : va_P D vwCl (WM h q cI cJ cZ v_a v_image v_texts v_tape v_taped v_fault s1 v_at v_place v_token v_number v_word v_text0 v_written v_sort0 v_pile v_piled v_opens v_isWhole v_once v_named v_values v_truth v_isWritten v_died v_aside v_likely v_safe v_headOf) H := hP
    have hD : va_D A (WM h q cI cJ cZ v_a v_image v_texts v_tape v_taped v_fault s1 v_at v_place v_token v_number v_word v_text0 v_written v_sort0 v_pile v_piled v_opens v_isWhole v_once v_named v_values v_truth v_isWritten v_died v_aside v_likely v_safe v_headOf) := hD
    refine lv_aload_n hx hb dX12_text_39 rfl (lv_at hl 0 rfl) ?_
    refine lv_iconst (v := (0 : Int32)) hx hb dX12_text_40 (by decide) ?_
    refine pfX12_90 hx hb hts hown hK hP hD hS 0 rfl (Nat.le_of_ble_eq_true rfl) dX12_text_41 (fun H locs hP hD hS => ?_)
    have hP : va_P D vwCl (WM h q cI cJ cZ v_a v_image v_texts v_tape (0 : Int32) v_fault s1 v_at v_place v_token v_number v_word v_text0 v_written v_sort0 v_pile v_piled v_opens v_isWhole v_once v_named v_values v_truth v_isWritten v_died v_aside v_likely v_safe v_headOf) H := hP
    have hD : va_D A (WM h q cI cJ cZ v_a v_image v_texts v_tape (0 : Int32) v_fault s1 v_at v_place v_token v_number v_word v_text0 v_written v_sort0 v_pile v_piled v_opens v_isWhole v_once v_named v_values v_truth v_isWritten v_died v_aside v_likely v_safe v_headOf) := hD
    refine lv_aload_n hx hb dX12_text_44 rfl (lv_at hl 0 rfl) ?_
    refine gfX12_22 hx hb hts hown hK hP 0 rfl rfl dX12_text_45 ?_
    refine xif_eq hx hb 53 dX12_text_48 (by decide) hf (fun hf => ?_) (fun hf => ?_)
    · refine lv_aload_n hx hb dX12_text_53 rfl (lv_at hl 0 rfl) ?_
      refine gfX12_7 hx hb hts hown hK hP 0 rfl rfl dX12_text_54 ?_
      refine lv_iconst (v := (2 : Int32)) hx hb dX12_text_57 (by decide) ?_
      refine lv_dup2_11 hx hb dX12_text_58 rfl rfl ?_
      refine xiald hx hb hK hP 1 0 rfl rfl dX12_text_59 hf (fun v59 hf => ?_)
      refine lv_iconst (v := (1 : Int32)) hx hb dX12_text_60 (by decide) ?_
      refine lv_iadd hx hb dX12_text_61 ?_
      refine xiast hx hb hK hP hD hS 1 0 rfl rfl dX12_text_62 hf (fun v_a_62 hf H locs hP hD hS => ?_)
      have hP : va_P D vwCl (WM h q cI cJ cZ v_a_62 v_image v_texts v_tape (0 : Int32) v_fault s1 v_at v_place v_token v_number v_word v_text0 v_written v_sort0 v_pile v_piled v_opens v_isWhole v_once v_named v_values v_truth v_isWritten v_died v_aside v_likely v_safe v_headOf) H := hP
      have hD : va_D A (WM h q cI cJ cZ v_a_62 v_image v_texts v_tape (0 : Int32) v_fault s1 v_at v_place v_token v_number v_word v_text0 v_written v_sort0 v_pile v_piled v_opens v_isWhole v_once v_named v_values v_truth v_isWritten v_died v_aside v_likely v_safe v_headOf) := hD
      refine lv_aload_n hx hb dX12_text_63 rfl (lv_at hl 0 rfl) ?_
      refine gfX12_7 hx hb hts hown hK hP 0 rfl rfl dX12_text_64 ?_
      refine lv_iconst (v := (2 : Int32)) hx hb dX12_text_67 (by decide) ?_
      refine xiald hx hb hK hP 1 0 rfl rfl dX12_text_68 hf (fun v68 hf => ?_)
      refine lv_iconst (v := (1 : Int32)) hx hb dX12_text_69 (by decide) ?_
      refine lv_isub hx hb dX12_text_70 ?_
      cases hf
      exact mret_i hx hb hr hlocks hP hD hS dX12_text_71 rfl trivial
    · refine lv_iconst (v := (-1 : Int32)) hx hb dX12_text_51 (by decide) ?_
      cases hf
      exact mret_i hx hb hr hlocks hP hD hS dX12_text_52 rfl trivial
  unfold f_X12_text at hf
  refine lv_aload_n hx hb dX12_text_0 rfl (lv_at hl 0 rfl) ?_
  refine gfX12_7 hx hb hts hown hK hP 0 rfl rfl dX12_text_1 ?_
  refine lv_iconst (v := (2 : Int32)) hx hb dX12_text_4 (by decide) ?_
  refine xiald hx hb hK hP 1 0 rfl rfl dX12_text_5 hf (fun v5 hf => ?_)
  refine lv_iconst (v := (4 : Int32)) hx hb dX12_text_6 (by decide) ?_
  refine xicmp_ne hx hb 12 dX12_text_7 (by decide) hf (fun hf => ?_) (fun hf => ?_)
  · refine lv_iconst (v := (-1 : Int32)) hx hb dX12_text_10 (by decide) ?_
    cases hf
    exact mret_i hx hb hr hlocks hP hD hS dX12_text_11 rfl trivial
  · refine lv_aload_n hx hb dX12_text_12 rfl (lv_at hl 0 rfl) ?_
    refine lv_aload_n hx hb dX12_text_13 rfl (lv_at hl 0 rfl) ?_
    obtain ⟨r14, v_texts_14, v_at_14, v_place_14, v_token_14, v_number_14, v_word_14, v_text0_14, v_written_14, v_sort0_14, v_pile_14, v_piled_14, v_opens_14, v_isWhole_14, v_once_14, hg14, hf⟩ := ob15_some hf
    refine mcV1_i (As := []) (rest := [.ref h]) hx hb hml hown hts hK hP hD hS hA (k_X12_readText l N D cI cJ cZ cB cT h q v_a v_image v_texts v_tape v_taped v_fault v_faultPlace v_at v_place v_token v_number v_word v_text0 v_written v_sort0 v_pile v_piled v_opens v_isWhole v_once v_named v_values v_truth v_isWritten v_died v_aside v_likely v_safe v_headOf r14 v_texts_14 v_at_14 v_place_14 v_token_14 v_number_14 v_word_14 v_text0_14 v_written_14 v_sort0_14 v_pile_14 v_piled_14 v_opens_14 v_isWhole_14 v_once_14 hg14) (kwX12_257 hts rfl rfl ⟨Nat.le_of_ble_eq_true rfl, Nat.le_of_ble_eq_true rfl⟩) 0 rfl rfl rfl rfl hl.1 rfl (Nat.le_of_ble_eq_true rfl) dX12_text_14 ⟨Nat.zero_le _, Nat.zero_le _⟩ (fun hB14 H locs hP hD hS => ?_)
    have hP : va_P D vwCl (WM h q cI cJ cZ v_a v_image v_texts_14 v_tape v_taped v_fault v_faultPlace v_at_14 v_place_14 v_token_14 v_number_14 v_word_14 v_text0_14 v_written_14 v_sort0_14 v_pile_14 v_piled_14 v_opens_14 v_isWhole_14 v_once_14 v_named v_values v_truth v_isWritten v_died v_aside v_likely v_safe v_headOf) H := hP
    have hD : va_D A (WM h q cI cJ cZ v_a v_image v_texts_14 v_tape v_taped v_fault v_faultPlace v_at_14 v_place_14 v_token_14 v_number_14 v_word_14 v_text0_14 v_written_14 v_sort0_14 v_pile_14 v_piled_14 v_opens_14 v_isWhole_14 v_once_14 v_named v_values v_truth v_isWritten v_died v_aside v_likely v_safe v_headOf) := hD
    refine pfX12_22 hx hb hts hown hK hP hD hS 0 rfl (Nat.le_of_ble_eq_true rfl) dX12_text_17 (fun H locs hP hD hS => ?_)
    have hP : va_P D vwCl (WM h q cI cJ cZ v_a v_image v_texts_14 v_tape v_taped r14 v_faultPlace v_at_14 v_place_14 v_token_14 v_number_14 v_word_14 v_text0_14 v_written_14 v_sort0_14 v_pile_14 v_piled_14 v_opens_14 v_isWhole_14 v_once_14 v_named v_values v_truth v_isWritten v_died v_aside v_likely v_safe v_headOf) H := hP
    have hD : va_D A (WM h q cI cJ cZ v_a v_image v_texts_14 v_tape v_taped r14 v_faultPlace v_at_14 v_place_14 v_token_14 v_number_14 v_word_14 v_text0_14 v_written_14 v_sort0_14 v_pile_14 v_piled_14 v_opens_14 v_isWhole_14 v_once_14 v_named v_values v_truth v_isWritten v_died v_aside v_likely v_safe v_headOf) := hD
    refine lv_aload_n hx hb dX12_text_20 rfl (lv_at hl 0 rfl) ?_
    refine lv_aload_n hx hb dX12_text_21 rfl (lv_at hl 0 rfl) ?_
    refine gfX12_22 hx hb hts hown hK hP 0 rfl rfl dX12_text_22 ?_
    refine xif_ne hx hb 32 dX12_text_25 (by decide) hf (fun hf => ?_) (fun hf => ?_)
    · refine lv_iconst (v := (-1 : Int32)) hx hb dX12_text_28 (by decide) ?_
      refine lv_goto (tgt := 36) hx hb dX12_text_29 (by decide) ?_
      exact b36 v_a v_texts_14 v_taped r14 v_faultPlace v_at_14 v_place_14 v_token_14 v_number_14 v_word_14 v_text0_14 v_written_14 v_sort0_14 v_pile_14 v_piled_14 v_opens_14 v_isWhole_14 v_once_14 (-1 : Int32) _ _ _ hf hP hD hS (lv_sub hl [0] rfl)
    · refine lv_aload_n hx hb dX12_text_32 rfl (lv_at hl 0 rfl) ?_
      refine gfX12_103 hx hb hts hown hK hP 0 rfl rfl dX12_text_33 ?_
      exact b36 v_a v_texts_14 v_taped r14 v_faultPlace v_at_14 v_place_14 v_token_14 v_number_14 v_word_14 v_text0_14 v_written_14 v_sort0_14 v_pile_14 v_piled_14 v_opens_14 v_isWhole_14 v_once_14 v_place_14 _ _ _ hf hP hD hS (lv_sub hl [0] rfl)
theorem dX12_fault_0 : decode cX12_fault 0 = .ok (.iload_n 1, 1) := by decide +kernel
theorem dX12_fault_1 : decode cX12_fault 1 = .ok (.ifCond .ne 10, 3) := by decide +kernel
theorem dX12_fault_4 : decode cX12_fault 4 = .ok (.aload_n 0, 1) := by decide +kernel
theorem dX12_fault_5 : decode cX12_fault 5 = .ok (.getfield 22, 3) := by decide +kernel
theorem dX12_fault_8 : decode cX12_fault 8 = .ok (.goto 16, 3) := by decide +kernel
theorem dX12_fault_11 : decode cX12_fault 11 = .ok (.iload_n 1, 1) := by decide +kernel
theorem dX12_fault_12 : decode cX12_fault 12 = .ok (.iconst 1, 1) := by decide +kernel
theorem dX12_fault_13 : decode cX12_fault 13 = .ok (.if_icmp .ne 10, 3) := by decide +kernel
theorem dX12_fault_16 : decode cX12_fault 16 = .ok (.aload_n 0, 1) := by decide +kernel
theorem dX12_fault_17 : decode cX12_fault 17 = .ok (.getfield 26, 3) := by decide +kernel
theorem dX12_fault_20 : decode cX12_fault 20 = .ok (.goto 4, 3) := by decide +kernel
theorem dX12_fault_23 : decode cX12_fault 23 = .ok (.iconst (-1), 1) := by decide +kernel
theorem dX12_fault_24 : decode cX12_fault 24 = .ok (.ireturn, 1) := by decide +kernel
def f_X12_fault (N : Nat) (v_fault : Int32) (v_faultPlace : Int32) (p1 : Int32) : Option (Int32) := if p1 = 0 then (some v_fault) else (if p1 = (1 : Int32) then (some v_faultPlace) else (some (-1 : Int32)))
set_option maxHeartbeats 4000000 in
set_option maxRecDepth 100000 in
theorem k_X12_fault (l : Launch) (N : Nat) (D : va_G) (cI cJ cZ cB cT : ClassId) (h : Nat) (q : Nat → Nat) (v_a : Nat → Int32) (v_image : Nat → Int32) (v_texts : Nat → Int32) (v_tape : Nat → Int32) (v_taped : Int32) (v_fault : Int32) (v_faultPlace : Int32) (v_at : Int32) (v_place : Int32) (v_token : Int32) (v_number : Int32) (v_word : Int64) (v_text0 : Int32) (v_written : Int32) (v_sort0 : Int32) (v_pile : Nat → Int32) (v_piled : Int32) (v_opens : Int32) (v_isWhole : Int32) (v_once : Int32) (v_named : Nat → Int32) (v_values : Nat → Int64) (v_truth : Nat → Int32) (v_isWritten : Int32) (v_died : Int32) (v_aside : Nat → Int32) (v_likely : Nat → Int32) (v_safe : Nat → Int32) (v_headOf : Nat → Int32) (p1 : Int32) (o_r : Int32) (hf : f_X12_fault N v_fault v_faultPlace p1 = some o_r) : ∀ sz, Met l yX12_fault (mw yX12_fault cX12_fault 2 (some .int)) ({ frames := 0, cells := 0, slots := 0, locals := 0 } : Room) (mPre D (mT cI cJ cZ cB cT) (WM h q cI cJ cZ v_a v_image v_texts v_tape v_taped v_fault v_faultPlace v_at v_place v_token v_number v_word v_text0 v_written v_sort0 v_pile v_piled v_opens v_isWhole v_once v_named v_values v_truth v_isWritten v_died v_aside v_likely v_safe v_headOf) sz [.ref h, .int p1]) ((mQi D (WM h q cI cJ cZ v_a v_image v_texts v_tape v_taped v_fault v_faultPlace v_at v_place v_token v_number v_word v_text0 v_written v_sort0 v_pile v_piled v_opens v_isWhole v_once v_named v_values v_truth v_isWritten v_died v_aside v_likely v_safe v_headOf) o_r True) (va_A (WM h q cI cJ cZ v_a v_image v_texts v_tape v_taped v_fault v_faultPlace v_at v_place v_token v_number v_word v_text0 v_written v_sort0 v_pile v_piled v_opens v_isWhole v_once v_named v_values v_truth v_isWritten v_died v_aside v_likely v_safe v_headOf) sz)) 0 0 (va_A (WM h q cI cJ cZ v_a v_image v_texts v_tape v_taped v_fault v_faultPlace v_at v_place v_token v_number v_word v_text0 v_written v_sort0 v_pile v_piled v_opens v_isWhole v_once v_named v_values v_truth v_isWritten v_died v_aside v_likely v_safe v_headOf) sz) := by
  refine mMet (Qc := (mQi D (WM h q cI cJ cZ v_a v_image v_texts v_tape v_taped v_fault v_faultPlace v_at v_place v_token v_number v_word v_text0 v_written v_sort0 v_pile v_piled v_opens v_isWhole v_once v_named v_values v_truth v_isWritten v_died v_aside v_likely v_safe v_headOf) o_r True)) (by decide) (Nat.le_of_ble_eq_true rfl) (fun p e s m below meth c A ls hx hb hr hml hts hown hlocks hK hA hP hD hl => ?_)
  have hown : s.vm.findClass RX12 = some m.cls := hown
  have hl : lv_has ls 2 [(0, .ref h), (1, .int p1)] := hl
  have hS : va_S A s.heap s.heap [] := va_S.rf
  unfold f_X12_fault at hf
  refine lv_iload_n hx hb dX12_fault_0 rfl (lv_at hl 1 rfl) ?_
  refine xif_ne hx hb 11 dX12_fault_1 (by decide) hf (fun hf => ?_) (fun hf => ?_)
  · refine lv_aload_n hx hb dX12_fault_4 rfl (lv_at hl 0 rfl) ?_
    refine gfX12_22 hx hb hts hown hK hP 0 rfl rfl dX12_fault_5 ?_
    refine lv_goto (tgt := 24) hx hb dX12_fault_8 (by decide) ?_
    cases hf
    exact mret_i hx hb hr hlocks hP hD hS dX12_fault_24 rfl trivial
  · refine lv_iload_n hx hb dX12_fault_11 rfl (lv_at hl 1 rfl) ?_
    refine lv_iconst (v := (1 : Int32)) hx hb dX12_fault_12 (by decide) ?_
    refine xicmp_ne hx hb 23 dX12_fault_13 (by decide) hf (fun hf => ?_) (fun hf => ?_)
    · refine lv_aload_n hx hb dX12_fault_16 rfl (lv_at hl 0 rfl) ?_
      refine gfX12_26 hx hb hts hown hK hP 0 rfl rfl dX12_fault_17 ?_
      refine lv_goto (tgt := 24) hx hb dX12_fault_20 (by decide) ?_
      cases hf
      exact mret_i hx hb hr hlocks hP hD hS dX12_fault_24 rfl trivial
    · refine lv_iconst (v := (-1 : Int32)) hx hb dX12_fault_23 (by decide) ?_
      cases hf
      exact mret_i hx hb hr hlocks hP hD hS dX12_fault_24 rfl trivial
theorem dX12_by_0 : decode cX12_by 0 = .ok (.iload_n 1, 1) := by decide +kernel
theorem dX12_by_1 : decode cX12_by 1 = .ok (.iconst (-1), 1) := by decide +kernel
theorem dX12_by_2 : decode cX12_by 2 = .ok (.aload_n 0, 1) := by decide +kernel
theorem dX12_by_3 : decode cX12_by 3 = .ok (.getfield 7, 3) := by decide +kernel
theorem dX12_by_6 : decode cX12_by 6 = .ok (.iconst 2, 1) := by decide +kernel
theorem dX12_by_7 : decode cX12_by 7 = .ok (.iaload, 1) := by decide +kernel
theorem dX12_by_8 : decode cX12_by 8 = .ok (.iconst 1, 1) := by decide +kernel
theorem dX12_by_9 : decode cX12_by 9 = .ok (.isub, 1) := by decide +kernel
theorem dX12_by_10 : decode cX12_by 10 = .ok (.invokestatic 63, 3) := by decide +kernel
theorem dX12_by_13 : decode cX12_by 13 = .ok (.ifCond .ne 5, 3) := by decide +kernel
theorem dX12_by_16 : decode cX12_by 16 = .ok (.iconst 0, 1) := by decide +kernel
theorem dX12_by_17 : decode cX12_by 17 = .ok (.ireturn, 1) := by decide +kernel
theorem dX12_by_18 : decode cX12_by 18 = .ok (.aload_n 0, 1) := by decide +kernel
theorem dX12_by_19 : decode cX12_by 19 = .ok (.getfield 7, 3) := by decide +kernel
theorem dX12_by_22 : decode cX12_by 22 = .ok (.iconst 3, 1) := by decide +kernel
theorem dX12_by_23 : decode cX12_by 23 = .ok (.iload_n 1, 1) := by decide +kernel
theorem dX12_by_24 : decode cX12_by 24 = .ok (.iastore, 1) := by decide +kernel
theorem dX12_by_25 : decode cX12_by 25 = .ok (.iconst 1, 1) := by decide +kernel
theorem dX12_by_26 : decode cX12_by 26 = .ok (.ireturn, 1) := by decide +kernel
def f_X12_by (N : Nat) (v_a : Nat → Int32) (p1 : Int32) : Option (Int32 × (Nat → Int32)) := gA v_a 8762 (2 : Int32) fun v7 => ob1 (f_X12_isIn N p1 (-1 : Int32) (v7 - (1 : Int32))) fun r10 => if r10 = 0 then (some ((0 : Int32), v_a)) else (sA v_a 8762 (3 : Int32) p1 fun v_a_24 => some ((1 : Int32), v_a_24))
set_option maxHeartbeats 4000000 in
set_option maxRecDepth 100000 in
theorem k_X12_by (l : Launch) (N : Nat) (D : va_G) (cI cJ cZ cB cT : ClassId) (h : Nat) (q : Nat → Nat) (v_a : Nat → Int32) (v_image : Nat → Int32) (v_texts : Nat → Int32) (v_tape : Nat → Int32) (v_taped : Int32) (v_fault : Int32) (v_faultPlace : Int32) (v_at : Int32) (v_place : Int32) (v_token : Int32) (v_number : Int32) (v_word : Int64) (v_text0 : Int32) (v_written : Int32) (v_sort0 : Int32) (v_pile : Nat → Int32) (v_piled : Int32) (v_opens : Int32) (v_isWhole : Int32) (v_once : Int32) (v_named : Nat → Int32) (v_values : Nat → Int64) (v_truth : Nat → Int32) (v_isWritten : Int32) (v_died : Int32) (v_aside : Nat → Int32) (v_likely : Nat → Int32) (v_safe : Nat → Int32) (v_headOf : Nat → Int32) (p1 : Int32) (o_r : Int32) (o_v_a : Nat → Int32) (hf : f_X12_by N v_a p1 = some (o_r, o_v_a)) : ∀ sz, Met l yX12_by (mw yX12_by cX12_by 2 (some .boolean)) ({ frames := 1, cells := 0, slots := 0, locals := 22 } : Room) (mPre D (mT cI cJ cZ cB cT) (WM h q cI cJ cZ v_a v_image v_texts v_tape v_taped v_fault v_faultPlace v_at v_place v_token v_number v_word v_text0 v_written v_sort0 v_pile v_piled v_opens v_isWhole v_once v_named v_values v_truth v_isWritten v_died v_aside v_likely v_safe v_headOf) sz [.ref h, .int p1]) ((mQi D (WM h q cI cJ cZ o_v_a v_image v_texts v_tape v_taped v_fault v_faultPlace v_at v_place v_token v_number v_word v_text0 v_written v_sort0 v_pile v_piled v_opens v_isWhole v_once v_named v_values v_truth v_isWritten v_died v_aside v_likely v_safe v_headOf) o_r (mB o_r)) (va_A (WM h q cI cJ cZ v_a v_image v_texts v_tape v_taped v_fault v_faultPlace v_at v_place v_token v_number v_word v_text0 v_written v_sort0 v_pile v_piled v_opens v_isWhole v_once v_named v_values v_truth v_isWritten v_died v_aside v_likely v_safe v_headOf) sz)) 0 0 (va_A (WM h q cI cJ cZ v_a v_image v_texts v_tape v_taped v_fault v_faultPlace v_at v_place v_token v_number v_word v_text0 v_written v_sort0 v_pile v_piled v_opens v_isWhole v_once v_named v_values v_truth v_isWritten v_died v_aside v_likely v_safe v_headOf) sz) := by
  refine mMet (Qc := (mQi D (WM h q cI cJ cZ o_v_a v_image v_texts v_tape v_taped v_fault v_faultPlace v_at v_place v_token v_number v_word v_text0 v_written v_sort0 v_pile v_piled v_opens v_isWhole v_once v_named v_values v_truth v_isWritten v_died v_aside v_likely v_safe v_headOf) o_r (mB o_r))) (by decide) (Nat.le_of_ble_eq_true rfl) (fun p e s m below meth c A ls hx hb hr hml hts hown hlocks hK hA hP hD hl => ?_)
  have hown : s.vm.findClass RX12 = some m.cls := hown
  have hl : lv_has ls 2 [(0, .ref h), (1, .int p1)] := hl
  have hS : va_S A s.heap s.heap [] := va_S.rf
  unfold f_X12_by at hf
  refine lv_iload_n hx hb dX12_by_0 rfl (lv_at hl 1 rfl) ?_
  refine lv_iconst (v := (-1 : Int32)) hx hb dX12_by_1 (by decide) ?_
  refine lv_aload_n hx hb dX12_by_2 rfl (lv_at hl 0 rfl) ?_
  refine gfX12_7 hx hb hts hown hK hP 0 rfl rfl dX12_by_3 ?_
  refine lv_iconst (v := (2 : Int32)) hx hb dX12_by_6 (by decide) ?_
  refine xiald hx hb hK hP 1 0 rfl rfl dX12_by_7 hf (fun v7 hf => ?_)
  refine lv_iconst (v := (1 : Int32)) hx hb dX12_by_8 (by decide) ?_
  refine lv_isub hx hb dX12_by_9 ?_
  obtain ⟨r10, hg10, hf⟩ := ob1_some hf
  refine mcS0_i (As := [.int p1, .int (-1 : Int32), .int (v7 - (1 : Int32))]) (rest := []) hx hb hml hown hts hK hP hD hS hA (k_X12_isIn l N D cI cJ cZ cB cT p1 (-1 : Int32) (v7 - (1 : Int32)) r10 hg10) (kwX12_63 hts rfl rfl ⟨Nat.le_of_ble_eq_true rfl, Nat.le_of_ble_eq_true rfl⟩) rfl hl.1 rfl (Nat.le_of_ble_eq_true rfl) dX12_by_10 ⟨Nat.zero_le _, Nat.zero_le _⟩ (fun hB10 H locs hP hD hS => ?_)
  refine xif_ne hx hb 18 dX12_by_13 (by decide) hf (fun hf => ?_) (fun hf => ?_)
  · refine lv_iconst (v := (0 : Int32)) hx hb dX12_by_16 (by decide) ?_
    cases hf
    exact mret_z hx hb hr hlocks hP hD hS dX12_by_17 rfl rfl
  · refine lv_aload_n hx hb dX12_by_18 rfl (lv_at hl 0 rfl) ?_
    refine gfX12_7 hx hb hts hown hK hP 0 rfl rfl dX12_by_19 ?_
    refine lv_iconst (v := (3 : Int32)) hx hb dX12_by_22 (by decide) ?_
    refine lv_iload_n hx hb dX12_by_23 rfl (lv_at hl 1 rfl) ?_
    refine xiast hx hb hK hP hD hS 1 0 rfl rfl dX12_by_24 hf (fun v_a_24 hf H locs hP hD hS => ?_)
    have hP : va_P D vwCl (WM h q cI cJ cZ v_a_24 v_image v_texts v_tape v_taped v_fault v_faultPlace v_at v_place v_token v_number v_word v_text0 v_written v_sort0 v_pile v_piled v_opens v_isWhole v_once v_named v_values v_truth v_isWritten v_died v_aside v_likely v_safe v_headOf) H := hP
    have hD : va_D A (WM h q cI cJ cZ v_a_24 v_image v_texts v_tape v_taped v_fault v_faultPlace v_at v_place v_token v_number v_word v_text0 v_written v_sort0 v_pile v_piled v_opens v_isWhole v_once v_named v_values v_truth v_isWritten v_died v_aside v_likely v_safe v_headOf) := hD
    refine lv_iconst (v := (1 : Int32)) hx hb dX12_by_25 (by decide) ?_
    cases hf
    exact mret_z hx hb hr hlocks hP hD hS dX12_by_26 rfl rfl
theorem dX12_clip_0 : decode cX12_clip 0 = .ok (.lload_n 0, 1) := by decide +kernel
theorem dX12_clip_1 : decode cX12_clip 1 = .ok (.ldc2_w 260, 3) := by decide +kernel
theorem dX12_clip_4 : decode cX12_clip 4 = .ok (.lcmp, 1) := by decide +kernel
theorem dX12_clip_5 : decode cX12_clip 5 = .ok (.ifCond .le 9, 3) := by decide +kernel
theorem dX12_clip_8 : decode cX12_clip 8 = .ok (.ldc2_w 260, 3) := by decide +kernel
theorem dX12_clip_11 : decode cX12_clip 11 = .ok (.goto 18, 3) := by decide +kernel
theorem dX12_clip_14 : decode cX12_clip 14 = .ok (.lload_n 0, 1) := by decide +kernel
theorem dX12_clip_15 : decode cX12_clip 15 = .ok (.ldc2_w 262, 3) := by decide +kernel
theorem dX12_clip_18 : decode cX12_clip 18 = .ok (.lcmp, 1) := by decide +kernel
theorem dX12_clip_19 : decode cX12_clip 19 = .ok (.ifCond .ge 9, 3) := by decide +kernel
theorem dX12_clip_22 : decode cX12_clip 22 = .ok (.ldc2_w 262, 3) := by decide +kernel
theorem dX12_clip_25 : decode cX12_clip 25 = .ok (.goto 4, 3) := by decide +kernel
theorem dX12_clip_28 : decode cX12_clip 28 = .ok (.lload_n 0, 1) := by decide +kernel
theorem dX12_clip_29 : decode cX12_clip 29 = .ok (.lreturn, 1) := by decide +kernel
def f_X12_clip (N : Nat) (p0 : Int64) : Option (Int64) := if (lg_cmp p0 (1000000 : Int64)) ≤ 0 then (if 0 ≤ (lg_cmp p0 (-1000000 : Int64)) then (some p0) else (some (-1000000 : Int64))) else (some (1000000 : Int64))
set_option maxHeartbeats 4000000 in
set_option maxRecDepth 100000 in
theorem k_X12_clip (l : Launch) (N : Nat) (D : va_G) (cI cJ cZ cB cT : ClassId) (p0 : Int64) (o_r : Int64) (hf : f_X12_clip N p0 = some o_r) : ∀ sz, Met l yX12_clip (mw yX12_clip cX12_clip 2 (some .long)) ({ frames := 0, cells := 0, slots := 0, locals := 0 } : Room) (mPre D (mT cI cJ cZ cB cT) [] sz [.long p0]) ((mQl D [] o_r) (va_A [] sz)) 0 0 (va_A [] sz) := by
  refine mMet (Qc := (mQl D [] o_r)) (by decide) (Nat.le_of_ble_eq_true rfl) (fun p e s m below meth c A ls hx hb hr hml hts hown hlocks hK hA hP hD hl => ?_)
  have hown : s.vm.findClass RX12 = some m.cls := hown
  have hl : lv_has ls 2 [(0, .long p0)] := hl
  have hS : va_S A s.heap s.heap [] := va_S.rf
  unfold f_X12_clip at hf
  refine lv_lload_n hx hb dX12_clip_0 rfl (lv_at hl 0 rfl) ?_
  refine lv_ldc2 hx hb hown (hts _ ctX12_260) dX12_clip_1 ?_
  refine W.lcmp hx hb dX12_clip_4 ?_
  refine xif_le hx hb 14 dX12_clip_5 (by decide) hf (fun hf => ?_) (fun hf => ?_)
  · refine lv_lload_n hx hb dX12_clip_14 rfl (lv_at hl 0 rfl) ?_
    refine lv_ldc2 hx hb hown (hts _ ctX12_262) dX12_clip_15 ?_
    refine W.lcmp hx hb dX12_clip_18 ?_
    refine xif_ge hx hb 28 dX12_clip_19 (by decide) hf (fun hf => ?_) (fun hf => ?_)
    · refine lv_lload_n hx hb dX12_clip_28 rfl (lv_at hl 0 rfl) ?_
      cases hf
      exact mret_l hx hb hr hlocks hP hD hS dX12_clip_29 rfl
    · refine lv_ldc2 hx hb hown (hts _ ctX12_262) dX12_clip_22 ?_
      refine lv_goto (tgt := 29) hx hb dX12_clip_25 (by decide) ?_
      cases hf
      exact mret_l hx hb hr hlocks hP hD hS dX12_clip_29 rfl
  · refine lv_ldc2 hx hb hown (hts _ ctX12_260) dX12_clip_8 ?_
    refine lv_goto (tgt := 29) hx hb dX12_clip_11 (by decide) ?_
    cases hf
    exact mret_l hx hb hr hlocks hP hD hS dX12_clip_29 rfl
theorem dX12_two_0 : decode cX12_two 0 = .ok (.iload_n 0, 1) := by decide +kernel
theorem dX12_two_1 : decode cX12_two 1 = .ok (.tableswitch 48 6 8 #[27, 34, 41], 27) := by decide +kernel
theorem dX12_two_28 : decode cX12_two 28 = .ok (.lload_n 1, 1) := by decide +kernel
theorem dX12_two_29 : decode cX12_two 29 = .ok (.lload_n 3, 1) := by decide +kernel
theorem dX12_two_30 : decode cX12_two 30 = .ok (.ladd, 1) := by decide +kernel
theorem dX12_two_31 : decode cX12_two 31 = .ok (.invokestatic 264, 3) := by decide +kernel
theorem dX12_two_34 : decode cX12_two 34 = .ok (.lreturn, 1) := by decide +kernel
theorem dX12_two_35 : decode cX12_two 35 = .ok (.lload_n 1, 1) := by decide +kernel
theorem dX12_two_36 : decode cX12_two 36 = .ok (.lload_n 3, 1) := by decide +kernel
theorem dX12_two_37 : decode cX12_two 37 = .ok (.lsub, 1) := by decide +kernel
theorem dX12_two_38 : decode cX12_two 38 = .ok (.invokestatic 264, 3) := by decide +kernel
theorem dX12_two_41 : decode cX12_two 41 = .ok (.lreturn, 1) := by decide +kernel
theorem dX12_two_42 : decode cX12_two 42 = .ok (.lload_n 1, 1) := by decide +kernel
theorem dX12_two_43 : decode cX12_two 43 = .ok (.lload_n 3, 1) := by decide +kernel
theorem dX12_two_44 : decode cX12_two 44 = .ok (.lmul, 1) := by decide +kernel
theorem dX12_two_45 : decode cX12_two 45 = .ok (.invokestatic 264, 3) := by decide +kernel
theorem dX12_two_48 : decode cX12_two 48 = .ok (.lreturn, 1) := by decide +kernel
theorem dX12_two_49 : decode cX12_two 49 = .ok (.lload_n 3, 1) := by decide +kernel
theorem dX12_two_50 : decode cX12_two 50 = .ok (.lconst 0, 1) := by decide +kernel
theorem dX12_two_51 : decode cX12_two 51 = .ok (.lcmp, 1) := by decide +kernel
theorem dX12_two_52 : decode cX12_two 52 = .ok (.ifCond .ne 7, 3) := by decide +kernel
theorem dX12_two_55 : decode cX12_two 55 = .ok (.lconst 0, 1) := by decide +kernel
theorem dX12_two_56 : decode cX12_two 56 = .ok (.goto 9, 3) := by decide +kernel
theorem dX12_two_59 : decode cX12_two 59 = .ok (.lload_n 1, 1) := by decide +kernel
theorem dX12_two_60 : decode cX12_two 60 = .ok (.lload_n 3, 1) := by decide +kernel
theorem dX12_two_61 : decode cX12_two 61 = .ok (.ldiv, 1) := by decide +kernel
theorem dX12_two_62 : decode cX12_two 62 = .ok (.invokestatic 264, 3) := by decide +kernel
theorem dX12_two_65 : decode cX12_two 65 = .ok (.lreturn, 1) := by decide +kernel
def f_X12_two (N : Nat) (p0 : Int32) (p1 : Int64) (p3 : Int64) : Option (Int64) := if p0 = (6 : Int32) then (ob1 (f_X12_clip N (p1 + p3)) fun r31 => some r31) else if p0 = (7 : Int32) then (ob1 (f_X12_clip N (p1 - p3)) fun r38 => some r38) else if p0 = (8 : Int32) then (ob1 (f_X12_clip N (p1 * p3)) fun r45 => some r45) else (if (lg_cmp p3 (0 : Int64)) = 0 then (some (0 : Int64)) else (dvL p1 p3 fun v61 => ob1 (f_X12_clip N v61) fun r62 => some r62))
set_option maxHeartbeats 4000000 in
set_option maxRecDepth 100000 in
theorem k_X12_two (l : Launch) (N : Nat) (D : va_G) (cI cJ cZ cB cT : ClassId) (p0 : Int32) (p1 : Int64) (p3 : Int64) (o_r : Int64) (hf : f_X12_two N p0 p1 p3 = some o_r) : ∀ sz, Met l yX12_two (mw yX12_two cX12_two 5 (some .long)) ({ frames := 1, cells := 0, slots := 0, locals := 21 } : Room) (mPre D (mT cI cJ cZ cB cT) [] sz [.int p0, .long p1, .long p3]) ((mQl D [] o_r) (va_A [] sz)) 0 0 (va_A [] sz) := by
  refine mMet (Qc := (mQl D [] o_r)) (by decide) (Nat.le_of_ble_eq_true rfl) (fun p e s m below meth c A ls hx hb hr hml hts hown hlocks hK hA hP hD hl => ?_)
  have hown : s.vm.findClass RX12 = some m.cls := hown
  have hl : lv_has ls 5 [(0, .int p0), (1, .long p1), (3, .long p3)] := hl
  have hS : va_S A s.heap s.heap [] := va_S.rf
  unfold f_X12_two at hf
  refine lv_iload_n hx hb dX12_two_0 rfl (lv_at hl 0 rfl) ?_
  by_cases e1_6 : p0 = (6 : Int32)
  · replace hf := (if_pos e1_6).symm.trans hf
    refine lv_tableIn (off := 27) (tgt := 28) hx hb dX12_two_1 (by rw [e1_6]; decide) (by rw [e1_6]; decide) (by rw [e1_6]; rfl) (by decide) ?_
    refine lv_lload_n hx hb dX12_two_28 rfl (lv_at hl 1 rfl) ?_
    refine lv_lload_n hx hb dX12_two_29 rfl (lv_at hl 2 rfl) ?_
    refine lv_ladd hx hb dX12_two_30 ?_
    obtain ⟨r31, hg31, hf⟩ := ob1_some hf
    refine mcS0_l (As := [.long (p1 + p3)]) (rest := []) hx hb hml hown hts hK hP hD hS hA (k_X12_clip l N D cI cJ cZ cB cT (p1 + p3) r31 hg31) (kwX12_264 hts rfl rfl ⟨Nat.le_of_ble_eq_true rfl, Nat.le_of_ble_eq_true rfl⟩) rfl hl.1 rfl (Nat.le_of_ble_eq_true rfl) dX12_two_31 ⟨Nat.zero_le _, Nat.zero_le _⟩ (fun H locs hP hD hS => ?_)
    cases hf
    exact mret_l hx hb hr hlocks hP hD hS dX12_two_34 rfl
  replace hf := (if_neg e1_6).symm.trans hf
  by_cases e1_7 : p0 = (7 : Int32)
  · replace hf := (if_pos e1_7).symm.trans hf
    refine lv_tableIn (off := 34) (tgt := 35) hx hb dX12_two_1 (by rw [e1_7]; decide) (by rw [e1_7]; decide) (by rw [e1_7]; rfl) (by decide) ?_
    refine lv_lload_n hx hb dX12_two_35 rfl (lv_at hl 1 rfl) ?_
    refine lv_lload_n hx hb dX12_two_36 rfl (lv_at hl 2 rfl) ?_
    refine lv_lsub hx hb dX12_two_37 ?_
    obtain ⟨r38, hg38, hf⟩ := ob1_some hf
    refine mcS0_l (As := [.long (p1 - p3)]) (rest := []) hx hb hml hown hts hK hP hD hS hA (k_X12_clip l N D cI cJ cZ cB cT (p1 - p3) r38 hg38) (kwX12_264 hts rfl rfl ⟨Nat.le_of_ble_eq_true rfl, Nat.le_of_ble_eq_true rfl⟩) rfl hl.1 rfl (Nat.le_of_ble_eq_true rfl) dX12_two_38 ⟨Nat.zero_le _, Nat.zero_le _⟩ (fun H locs hP hD hS => ?_)
    cases hf
    exact mret_l hx hb hr hlocks hP hD hS dX12_two_41 rfl
  replace hf := (if_neg e1_7).symm.trans hf
  by_cases e1_8 : p0 = (8 : Int32)
  · replace hf := (if_pos e1_8).symm.trans hf
    refine lv_tableIn (off := 41) (tgt := 42) hx hb dX12_two_1 (by rw [e1_8]; decide) (by rw [e1_8]; decide) (by rw [e1_8]; rfl) (by decide) ?_
    refine lv_lload_n hx hb dX12_two_42 rfl (lv_at hl 1 rfl) ?_
    refine lv_lload_n hx hb dX12_two_43 rfl (lv_at hl 2 rfl) ?_
    refine lv_lmul hx hb dX12_two_44 ?_
    obtain ⟨r45, hg45, hf⟩ := ob1_some hf
    refine mcS0_l (As := [.long (p1 * p3)]) (rest := []) hx hb hml hown hts hK hP hD hS hA (k_X12_clip l N D cI cJ cZ cB cT (p1 * p3) r45 hg45) (kwX12_264 hts rfl rfl ⟨Nat.le_of_ble_eq_true rfl, Nat.le_of_ble_eq_true rfl⟩) rfl hl.1 rfl (Nat.le_of_ble_eq_true rfl) dX12_two_45 ⟨Nat.zero_le _, Nat.zero_le _⟩ (fun H locs hP hD hS => ?_)
    cases hf
    exact mret_l hx hb hr hlocks hP hD hS dX12_two_48 rfl
  replace hf := (if_neg e1_8).symm.trans hf
  have ne1_6 : p0.toInt ≠ (6 : Int) := sw_ne e1_6
  have ne1_7 : p0.toInt ≠ (7 : Int) := sw_ne e1_7
  have ne1_8 : p0.toInt ≠ (8 : Int) := sw_ne e1_8
  refine lv_tableOut (tgt := 49) hx hb dX12_two_1 (by omega) (by decide) ?_
  refine lv_lload_n hx hb dX12_two_49 rfl (lv_at hl 2 rfl) ?_
  refine lv_lconst (v := (0 : Int64)) hx hb dX12_two_50 (by decide) ?_
  refine W.lcmp hx hb dX12_two_51 ?_
  refine xif_ne hx hb 59 dX12_two_52 (by decide) hf (fun hf => ?_) (fun hf => ?_)
  · refine lv_lconst (v := (0 : Int64)) hx hb dX12_two_55 (by decide) ?_
    refine lv_goto (tgt := 65) hx hb dX12_two_56 (by decide) ?_
    cases hf
    exact mret_l hx hb hr hlocks hP hD hS dX12_two_65 rfl
  · refine lv_lload_n hx hb dX12_two_59 rfl (lv_at hl 1 rfl) ?_
    refine lv_lload_n hx hb dX12_two_60 rfl (lv_at hl 2 rfl) ?_
    refine xldiv hx hb dX12_two_61 hf (fun v61 hf => ?_)
    obtain ⟨r62, hg62, hf⟩ := ob1_some hf
    refine mcS0_l (As := [.long v61]) (rest := []) hx hb hml hown hts hK hP hD hS hA (k_X12_clip l N D cI cJ cZ cB cT v61 r62 hg62) (kwX12_264 hts rfl rfl ⟨Nat.le_of_ble_eq_true rfl, Nat.le_of_ble_eq_true rfl⟩) rfl hl.1 rfl (Nat.le_of_ble_eq_true rfl) dX12_two_62 ⟨Nat.zero_le _, Nat.zero_le _⟩ (fun H locs hP hD hS => ?_)
    cases hf
    exact mret_l hx hb hr hlocks hP hD hS dX12_two_65 rfl
theorem dX12_isAsked_0 : decode cX12_isAsked 0 = .ok (.iload_n 0, 1) := by decide +kernel
theorem dX12_isAsked_1 : decode cX12_isAsked 1 = .ok (.bipush 10, 2) := by decide +kernel
theorem dX12_isAsked_3 : decode cX12_isAsked 3 = .ok (.if_icmp .ne 17, 3) := by decide +kernel
theorem dX12_isAsked_6 : decode cX12_isAsked 6 = .ok (.lload_n 1, 1) := by decide +kernel
theorem dX12_isAsked_7 : decode cX12_isAsked 7 = .ok (.lload_n 3, 1) := by decide +kernel
theorem dX12_isAsked_8 : decode cX12_isAsked 8 = .ok (.lcmp, 1) := by decide +kernel
theorem dX12_isAsked_9 : decode cX12_isAsked 9 = .ok (.ifCond .ge 7, 3) := by decide +kernel
theorem dX12_isAsked_12 : decode cX12_isAsked 12 = .ok (.iconst 1, 1) := by decide +kernel
theorem dX12_isAsked_13 : decode cX12_isAsked 13 = .ok (.goto 98, 3) := by decide +kernel
theorem dX12_isAsked_16 : decode cX12_isAsked 16 = .ok (.iconst 0, 1) := by decide +kernel
theorem dX12_isAsked_17 : decode cX12_isAsked 17 = .ok (.goto 94, 3) := by decide +kernel
theorem dX12_isAsked_20 : decode cX12_isAsked 20 = .ok (.iload_n 0, 1) := by decide +kernel
theorem dX12_isAsked_21 : decode cX12_isAsked 21 = .ok (.bipush 11, 2) := by decide +kernel
theorem dX12_isAsked_23 : decode cX12_isAsked 23 = .ok (.if_icmp .ne 17, 3) := by decide +kernel
theorem dX12_isAsked_26 : decode cX12_isAsked 26 = .ok (.lload_n 1, 1) := by decide +kernel
theorem dX12_isAsked_27 : decode cX12_isAsked 27 = .ok (.lload_n 3, 1) := by decide +kernel
theorem dX12_isAsked_28 : decode cX12_isAsked 28 = .ok (.lcmp, 1) := by decide +kernel
theorem dX12_isAsked_29 : decode cX12_isAsked 29 = .ok (.ifCond .gt 7, 3) := by decide +kernel
theorem dX12_isAsked_32 : decode cX12_isAsked 32 = .ok (.iconst 1, 1) := by decide +kernel
theorem dX12_isAsked_33 : decode cX12_isAsked 33 = .ok (.goto 78, 3) := by decide +kernel
theorem dX12_isAsked_36 : decode cX12_isAsked 36 = .ok (.iconst 0, 1) := by decide +kernel
theorem dX12_isAsked_37 : decode cX12_isAsked 37 = .ok (.goto 74, 3) := by decide +kernel
theorem dX12_isAsked_40 : decode cX12_isAsked 40 = .ok (.iload_n 0, 1) := by decide +kernel
theorem dX12_isAsked_41 : decode cX12_isAsked 41 = .ok (.bipush 12, 2) := by decide +kernel
theorem dX12_isAsked_43 : decode cX12_isAsked 43 = .ok (.if_icmp .ne 17, 3) := by decide +kernel
theorem dX12_isAsked_46 : decode cX12_isAsked 46 = .ok (.lload_n 1, 1) := by decide +kernel
theorem dX12_isAsked_47 : decode cX12_isAsked 47 = .ok (.lload_n 3, 1) := by decide +kernel
theorem dX12_isAsked_48 : decode cX12_isAsked 48 = .ok (.lcmp, 1) := by decide +kernel
theorem dX12_isAsked_49 : decode cX12_isAsked 49 = .ok (.ifCond .le 7, 3) := by decide +kernel
theorem dX12_isAsked_52 : decode cX12_isAsked 52 = .ok (.iconst 1, 1) := by decide +kernel
theorem dX12_isAsked_53 : decode cX12_isAsked 53 = .ok (.goto 58, 3) := by decide +kernel
theorem dX12_isAsked_56 : decode cX12_isAsked 56 = .ok (.iconst 0, 1) := by decide +kernel
theorem dX12_isAsked_57 : decode cX12_isAsked 57 = .ok (.goto 54, 3) := by decide +kernel
theorem dX12_isAsked_60 : decode cX12_isAsked 60 = .ok (.iload_n 0, 1) := by decide +kernel
theorem dX12_isAsked_61 : decode cX12_isAsked 61 = .ok (.bipush 13, 2) := by decide +kernel
theorem dX12_isAsked_63 : decode cX12_isAsked 63 = .ok (.if_icmp .ne 17, 3) := by decide +kernel
theorem dX12_isAsked_66 : decode cX12_isAsked 66 = .ok (.lload_n 1, 1) := by decide +kernel
theorem dX12_isAsked_67 : decode cX12_isAsked 67 = .ok (.lload_n 3, 1) := by decide +kernel
theorem dX12_isAsked_68 : decode cX12_isAsked 68 = .ok (.lcmp, 1) := by decide +kernel
theorem dX12_isAsked_69 : decode cX12_isAsked 69 = .ok (.ifCond .lt 7, 3) := by decide +kernel
theorem dX12_isAsked_72 : decode cX12_isAsked 72 = .ok (.iconst 1, 1) := by decide +kernel
theorem dX12_isAsked_73 : decode cX12_isAsked 73 = .ok (.goto 38, 3) := by decide +kernel
theorem dX12_isAsked_76 : decode cX12_isAsked 76 = .ok (.iconst 0, 1) := by decide +kernel
theorem dX12_isAsked_77 : decode cX12_isAsked 77 = .ok (.goto 34, 3) := by decide +kernel
theorem dX12_isAsked_80 : decode cX12_isAsked 80 = .ok (.iload_n 0, 1) := by decide +kernel
theorem dX12_isAsked_81 : decode cX12_isAsked 81 = .ok (.bipush 14, 2) := by decide +kernel
theorem dX12_isAsked_83 : decode cX12_isAsked 83 = .ok (.if_icmp .ne 17, 3) := by decide +kernel
theorem dX12_isAsked_86 : decode cX12_isAsked 86 = .ok (.lload_n 1, 1) := by decide +kernel
theorem dX12_isAsked_87 : decode cX12_isAsked 87 = .ok (.lload_n 3, 1) := by decide +kernel
theorem dX12_isAsked_88 : decode cX12_isAsked 88 = .ok (.lcmp, 1) := by decide +kernel
theorem dX12_isAsked_89 : decode cX12_isAsked 89 = .ok (.ifCond .ne 7, 3) := by decide +kernel
theorem dX12_isAsked_92 : decode cX12_isAsked 92 = .ok (.iconst 1, 1) := by decide +kernel
theorem dX12_isAsked_93 : decode cX12_isAsked 93 = .ok (.goto 18, 3) := by decide +kernel
theorem dX12_isAsked_96 : decode cX12_isAsked 96 = .ok (.iconst 0, 1) := by decide +kernel
theorem dX12_isAsked_97 : decode cX12_isAsked 97 = .ok (.goto 14, 3) := by decide +kernel
theorem dX12_isAsked_100 : decode cX12_isAsked 100 = .ok (.lload_n 1, 1) := by decide +kernel
theorem dX12_isAsked_101 : decode cX12_isAsked 101 = .ok (.lload_n 3, 1) := by decide +kernel
theorem dX12_isAsked_102 : decode cX12_isAsked 102 = .ok (.lcmp, 1) := by decide +kernel
theorem dX12_isAsked_103 : decode cX12_isAsked 103 = .ok (.ifCond .eq 7, 3) := by decide +kernel
theorem dX12_isAsked_106 : decode cX12_isAsked 106 = .ok (.iconst 1, 1) := by decide +kernel
theorem dX12_isAsked_107 : decode cX12_isAsked 107 = .ok (.goto 4, 3) := by decide +kernel
theorem dX12_isAsked_110 : decode cX12_isAsked 110 = .ok (.iconst 0, 1) := by decide +kernel
theorem dX12_isAsked_111 : decode cX12_isAsked 111 = .ok (.ireturn, 1) := by decide +kernel
def f_X12_isAsked (N : Nat) (p0 : Int32) (p1 : Int64) (p3 : Int64) : Option (Int32) := if p0 = (10 : Int32) then (if 0 ≤ (lg_cmp p1 p3) then (some (0 : Int32)) else (some (1 : Int32))) else (if p0 = (11 : Int32) then (if 0 < (lg_cmp p1 p3) then (some (0 : Int32)) else (some (1 : Int32))) else (if p0 = (12 : Int32) then (if (lg_cmp p1 p3) ≤ 0 then (some (0 : Int32)) else (some (1 : Int32))) else (if p0 = (13 : Int32) then (if (lg_cmp p1 p3) < 0 then (some (0 : Int32)) else (some (1 : Int32))) else (if p0 = (14 : Int32) then (if (lg_cmp p1 p3) = 0 then (some (1 : Int32)) else (some (0 : Int32))) else (if (lg_cmp p1 p3) = 0 then (some (0 : Int32)) else (some (1 : Int32)))))))
set_option maxHeartbeats 4000000 in
set_option maxRecDepth 100000 in
theorem k_X12_isAsked (l : Launch) (N : Nat) (D : va_G) (cI cJ cZ cB cT : ClassId) (p0 : Int32) (p1 : Int64) (p3 : Int64) (o_r : Int32) (hf : f_X12_isAsked N p0 p1 p3 = some o_r) : ∀ sz, Met l yX12_isAsked (mw yX12_isAsked cX12_isAsked 5 (some .boolean)) ({ frames := 0, cells := 0, slots := 0, locals := 0 } : Room) (mPre D (mT cI cJ cZ cB cT) [] sz [.int p0, .long p1, .long p3]) ((mQi D [] o_r (mB o_r)) (va_A [] sz)) 0 0 (va_A [] sz) := by
  refine mMet (Qc := (mQi D [] o_r (mB o_r))) (by decide) (Nat.le_of_ble_eq_true rfl) (fun p e s m below meth c A ls hx hb hr hml hts hown hlocks hK hA hP hD hl => ?_)
  have hown : s.vm.findClass RX12 = some m.cls := hown
  have hl : lv_has ls 5 [(0, .int p0), (1, .long p1), (3, .long p3)] := hl
  have hS : va_S A s.heap s.heap [] := va_S.rf
  unfold f_X12_isAsked at hf
  refine lv_iload_n hx hb dX12_isAsked_0 rfl (lv_at hl 0 rfl) ?_
  refine lv_bipush (v := (10 : Int32)) hx hb dX12_isAsked_1 (by decide) ?_
  refine xicmp_ne hx hb 20 dX12_isAsked_3 (by decide) hf (fun hf => ?_) (fun hf => ?_)
  · refine lv_lload_n hx hb dX12_isAsked_6 rfl (lv_at hl 1 rfl) ?_
    refine lv_lload_n hx hb dX12_isAsked_7 rfl (lv_at hl 2 rfl) ?_
    refine W.lcmp hx hb dX12_isAsked_8 ?_
    refine xif_ge hx hb 16 dX12_isAsked_9 (by decide) hf (fun hf => ?_) (fun hf => ?_)
    · refine lv_iconst (v := (0 : Int32)) hx hb dX12_isAsked_16 (by decide) ?_
      refine lv_goto (tgt := 111) hx hb dX12_isAsked_17 (by decide) ?_
      cases hf
      exact mret_z hx hb hr hlocks hP hD hS dX12_isAsked_111 rfl rfl
    · refine lv_iconst (v := (1 : Int32)) hx hb dX12_isAsked_12 (by decide) ?_
      refine lv_goto (tgt := 111) hx hb dX12_isAsked_13 (by decide) ?_
      cases hf
      exact mret_z hx hb hr hlocks hP hD hS dX12_isAsked_111 rfl rfl
  · refine lv_iload_n hx hb dX12_isAsked_20 rfl (lv_at hl 0 rfl) ?_
    refine lv_bipush (v := (11 : Int32)) hx hb dX12_isAsked_21 (by decide) ?_
    refine xicmp_ne hx hb 40 dX12_isAsked_23 (by decide) hf (fun hf => ?_) (fun hf => ?_)
    · refine lv_lload_n hx hb dX12_isAsked_26 rfl (lv_at hl 1 rfl) ?_
      refine lv_lload_n hx hb dX12_isAsked_27 rfl (lv_at hl 2 rfl) ?_
      refine W.lcmp hx hb dX12_isAsked_28 ?_
      refine xif_gt hx hb 36 dX12_isAsked_29 (by decide) hf (fun hf => ?_) (fun hf => ?_)
      · refine lv_iconst (v := (0 : Int32)) hx hb dX12_isAsked_36 (by decide) ?_
        refine lv_goto (tgt := 111) hx hb dX12_isAsked_37 (by decide) ?_
        cases hf
        exact mret_z hx hb hr hlocks hP hD hS dX12_isAsked_111 rfl rfl
      · refine lv_iconst (v := (1 : Int32)) hx hb dX12_isAsked_32 (by decide) ?_
        refine lv_goto (tgt := 111) hx hb dX12_isAsked_33 (by decide) ?_
        cases hf
        exact mret_z hx hb hr hlocks hP hD hS dX12_isAsked_111 rfl rfl
    · refine lv_iload_n hx hb dX12_isAsked_40 rfl (lv_at hl 0 rfl) ?_
      refine lv_bipush (v := (12 : Int32)) hx hb dX12_isAsked_41 (by decide) ?_
      refine xicmp_ne hx hb 60 dX12_isAsked_43 (by decide) hf (fun hf => ?_) (fun hf => ?_)
      · refine lv_lload_n hx hb dX12_isAsked_46 rfl (lv_at hl 1 rfl) ?_
        refine lv_lload_n hx hb dX12_isAsked_47 rfl (lv_at hl 2 rfl) ?_
        refine W.lcmp hx hb dX12_isAsked_48 ?_
        refine xif_le hx hb 56 dX12_isAsked_49 (by decide) hf (fun hf => ?_) (fun hf => ?_)
        · refine lv_iconst (v := (0 : Int32)) hx hb dX12_isAsked_56 (by decide) ?_
          refine lv_goto (tgt := 111) hx hb dX12_isAsked_57 (by decide) ?_
          cases hf
          exact mret_z hx hb hr hlocks hP hD hS dX12_isAsked_111 rfl rfl
        · refine lv_iconst (v := (1 : Int32)) hx hb dX12_isAsked_52 (by decide) ?_
          refine lv_goto (tgt := 111) hx hb dX12_isAsked_53 (by decide) ?_
          cases hf
          exact mret_z hx hb hr hlocks hP hD hS dX12_isAsked_111 rfl rfl
      · refine lv_iload_n hx hb dX12_isAsked_60 rfl (lv_at hl 0 rfl) ?_
        refine lv_bipush (v := (13 : Int32)) hx hb dX12_isAsked_61 (by decide) ?_
        refine xicmp_ne hx hb 80 dX12_isAsked_63 (by decide) hf (fun hf => ?_) (fun hf => ?_)
        · refine lv_lload_n hx hb dX12_isAsked_66 rfl (lv_at hl 1 rfl) ?_
          refine lv_lload_n hx hb dX12_isAsked_67 rfl (lv_at hl 2 rfl) ?_
          refine W.lcmp hx hb dX12_isAsked_68 ?_
          refine xif_lt hx hb 76 dX12_isAsked_69 (by decide) hf (fun hf => ?_) (fun hf => ?_)
          · refine lv_iconst (v := (0 : Int32)) hx hb dX12_isAsked_76 (by decide) ?_
            refine lv_goto (tgt := 111) hx hb dX12_isAsked_77 (by decide) ?_
            cases hf
            exact mret_z hx hb hr hlocks hP hD hS dX12_isAsked_111 rfl rfl
          · refine lv_iconst (v := (1 : Int32)) hx hb dX12_isAsked_72 (by decide) ?_
            refine lv_goto (tgt := 111) hx hb dX12_isAsked_73 (by decide) ?_
            cases hf
            exact mret_z hx hb hr hlocks hP hD hS dX12_isAsked_111 rfl rfl
        · refine lv_iload_n hx hb dX12_isAsked_80 rfl (lv_at hl 0 rfl) ?_
          refine lv_bipush (v := (14 : Int32)) hx hb dX12_isAsked_81 (by decide) ?_
          refine xicmp_ne hx hb 100 dX12_isAsked_83 (by decide) hf (fun hf => ?_) (fun hf => ?_)
          · refine lv_lload_n hx hb dX12_isAsked_86 rfl (lv_at hl 1 rfl) ?_
            refine lv_lload_n hx hb dX12_isAsked_87 rfl (lv_at hl 2 rfl) ?_
            refine W.lcmp hx hb dX12_isAsked_88 ?_
            refine xif_ne hx hb 96 dX12_isAsked_89 (by decide) hf (fun hf => ?_) (fun hf => ?_)
            · refine lv_iconst (v := (1 : Int32)) hx hb dX12_isAsked_92 (by decide) ?_
              refine lv_goto (tgt := 111) hx hb dX12_isAsked_93 (by decide) ?_
              cases hf
              exact mret_z hx hb hr hlocks hP hD hS dX12_isAsked_111 rfl rfl
            · refine lv_iconst (v := (0 : Int32)) hx hb dX12_isAsked_96 (by decide) ?_
              refine lv_goto (tgt := 111) hx hb dX12_isAsked_97 (by decide) ?_
              cases hf
              exact mret_z hx hb hr hlocks hP hD hS dX12_isAsked_111 rfl rfl
          · refine lv_lload_n hx hb dX12_isAsked_100 rfl (lv_at hl 1 rfl) ?_
            refine lv_lload_n hx hb dX12_isAsked_101 rfl (lv_at hl 2 rfl) ?_
            refine W.lcmp hx hb dX12_isAsked_102 ?_
            refine xif_eq hx hb 110 dX12_isAsked_103 (by decide) hf (fun hf => ?_) (fun hf => ?_)
            · refine lv_iconst (v := (0 : Int32)) hx hb dX12_isAsked_110 (by decide) ?_
              cases hf
              exact mret_z hx hb hr hlocks hP hD hS dX12_isAsked_111 rfl rfl
            · refine lv_iconst (v := (1 : Int32)) hx hb dX12_isAsked_106 (by decide) ?_
              refine lv_goto (tgt := 111) hx hb dX12_isAsked_107 (by decide) ?_
              cases hf
              exact mret_z hx hb hr hlocks hP hD hS dX12_isAsked_111 rfl rfl
theorem dX12_fearOf_0 : decode cX12_fearOf 0 = .ok (.lload_n 1, 1) := by decide +kernel
theorem dX12_fearOf_1 : decode cX12_fearOf 1 = .ok (.lconst 0, 1) := by decide +kernel
theorem dX12_fearOf_2 : decode cX12_fearOf 2 = .ok (.lcmp, 1) := by decide +kernel
theorem dX12_fearOf_3 : decode cX12_fearOf 3 = .ok (.ifCond .lt 27, 3) := by decide +kernel
theorem dX12_fearOf_6 : decode cX12_fearOf 6 = .ok (.lload_n 1, 1) := by decide +kernel
theorem dX12_fearOf_7 : decode cX12_fearOf 7 = .ok (.aload_n 0, 1) := by decide +kernel
theorem dX12_fearOf_8 : decode cX12_fearOf 8 = .ok (.getfield 7, 3) := by decide +kernel
theorem dX12_fearOf_11 : decode cX12_fearOf 11 = .ok (.iconst 1, 1) := by decide +kernel
theorem dX12_fearOf_12 : decode cX12_fearOf 12 = .ok (.iaload, 1) := by decide +kernel
theorem dX12_fearOf_13 : decode cX12_fearOf 13 = .ok (.i2l, 1) := by decide +kernel
theorem dX12_fearOf_14 : decode cX12_fearOf 14 = .ok (.lcmp, 1) := by decide +kernel
theorem dX12_fearOf_15 : decode cX12_fearOf 15 = .ok (.ifCond .ge 15, 3) := by decide +kernel
theorem dX12_fearOf_18 : decode cX12_fearOf 18 = .ok (.aload_n 0, 1) := by decide +kernel
theorem dX12_fearOf_19 : decode cX12_fearOf 19 = .ok (.lload_n 1, 1) := by decide +kernel
theorem dX12_fearOf_20 : decode cX12_fearOf 20 = .ok (.l2i, 1) := by decide +kernel
theorem dX12_fearOf_21 : decode cX12_fearOf 21 = .ok (.bipush 7, 2) := by decide +kernel
theorem dX12_fearOf_23 : decode cX12_fearOf 23 = .ok (.invokevirtual 71, 3) := by decide +kernel
theorem dX12_fearOf_26 : decode cX12_fearOf 26 = .ok (.i2l, 1) := by decide +kernel
theorem dX12_fearOf_27 : decode cX12_fearOf 27 = .ok (.goto 4, 3) := by decide +kernel
theorem dX12_fearOf_30 : decode cX12_fearOf 30 = .ok (.lconst 0, 1) := by decide +kernel
theorem dX12_fearOf_31 : decode cX12_fearOf 31 = .ok (.lreturn, 1) := by decide +kernel
def f_X12_fearOf_30 (N : Nat) (v_a : Nat → Int32) : Option (Int64) := some (0 : Int64)
def f_X12_fearOf (N : Nat) (v_a : Nat → Int32) (p1 : Int64) : Option (Int64) := if (lg_cmp p1 (0 : Int64)) < 0 then (f_X12_fearOf_30 N v_a) else (gA v_a 8762 (1 : Int32) fun v12 => if 0 ≤ (lg_cmp p1 v12.toInt64) then (f_X12_fearOf_30 N v_a) else (ob1 (f_X12_get N v_a p1.toInt32 (7 : Int32)) fun r23 => some r23.toInt64))
set_option maxHeartbeats 4000000 in
set_option maxRecDepth 100000 in
theorem k_X12_fearOf (l : Launch) (N : Nat) (D : va_G) (cI cJ cZ cB cT : ClassId) (h : Nat) (q : Nat → Nat) (v_a : Nat → Int32) (v_image : Nat → Int32) (v_texts : Nat → Int32) (v_tape : Nat → Int32) (v_taped : Int32) (v_fault : Int32) (v_faultPlace : Int32) (v_at : Int32) (v_place : Int32) (v_token : Int32) (v_number : Int32) (v_word : Int64) (v_text0 : Int32) (v_written : Int32) (v_sort0 : Int32) (v_pile : Nat → Int32) (v_piled : Int32) (v_opens : Int32) (v_isWhole : Int32) (v_once : Int32) (v_named : Nat → Int32) (v_values : Nat → Int64) (v_truth : Nat → Int32) (v_isWritten : Int32) (v_died : Int32) (v_aside : Nat → Int32) (v_likely : Nat → Int32) (v_safe : Nat → Int32) (v_headOf : Nat → Int32) (p1 : Int64) (o_r : Int64) (hf : f_X12_fearOf N v_a p1 = some o_r) : ∀ sz, Met l yX12_fearOf (mw yX12_fearOf cX12_fearOf 3 (some .long)) ({ frames := 1, cells := 0, slots := 0, locals := 22 } : Room) (mPre D (mT cI cJ cZ cB cT) (WM h q cI cJ cZ v_a v_image v_texts v_tape v_taped v_fault v_faultPlace v_at v_place v_token v_number v_word v_text0 v_written v_sort0 v_pile v_piled v_opens v_isWhole v_once v_named v_values v_truth v_isWritten v_died v_aside v_likely v_safe v_headOf) sz [.ref h, .long p1]) ((mQl D (WM h q cI cJ cZ v_a v_image v_texts v_tape v_taped v_fault v_faultPlace v_at v_place v_token v_number v_word v_text0 v_written v_sort0 v_pile v_piled v_opens v_isWhole v_once v_named v_values v_truth v_isWritten v_died v_aside v_likely v_safe v_headOf) o_r) (va_A (WM h q cI cJ cZ v_a v_image v_texts v_tape v_taped v_fault v_faultPlace v_at v_place v_token v_number v_word v_text0 v_written v_sort0 v_pile v_piled v_opens v_isWhole v_once v_named v_values v_truth v_isWritten v_died v_aside v_likely v_safe v_headOf) sz)) 0 0 (va_A (WM h q cI cJ cZ v_a v_image v_texts v_tape v_taped v_fault v_faultPlace v_at v_place v_token v_number v_word v_text0 v_written v_sort0 v_pile v_piled v_opens v_isWhole v_once v_named v_values v_truth v_isWritten v_died v_aside v_likely v_safe v_headOf) sz) := by
  refine mMet (Qc := (mQl D (WM h q cI cJ cZ v_a v_image v_texts v_tape v_taped v_fault v_faultPlace v_at v_place v_token v_number v_word v_text0 v_written v_sort0 v_pile v_piled v_opens v_isWhole v_once v_named v_values v_truth v_isWritten v_died v_aside v_likely v_safe v_headOf) o_r)) (by decide) (Nat.le_of_ble_eq_true rfl) (fun p e s m below meth c A ls hx hb hr hml hts hown hlocks hK hA hP hD hl => ?_)
  have hown : s.vm.findClass RX12 = some m.cls := hown
  have hl : lv_has ls 3 [(0, .ref h), (1, .long p1)] := hl
  have hS : va_S A s.heap s.heap [] := va_S.rf
  have b30 : ∀ (H : Heap) (locs : List Loc) (ls : Array Slot), f_X12_fearOf_30 N v_a = some o_r → va_P D vwCl (WM h q cI cJ cZ v_a v_image v_texts v_tape v_taped v_fault v_faultPlace v_at v_place v_token v_number v_word v_text0 v_written v_sort0 v_pile v_piled v_opens v_isWhole v_once v_named v_values v_truth v_isWritten v_died v_aside v_likely v_safe v_headOf) H → va_D A (WM h q cI cJ cZ v_a v_image v_texts v_tape v_taped v_fault v_faultPlace v_at v_place v_token v_number v_word v_text0 v_written v_sort0 v_pile v_piled v_opens v_isWhole v_once v_named v_values v_truth v_isWritten v_died v_aside v_likely v_safe v_headOf) → va_S A s.heap H locs → lv_has ls 3 [] → W p l e ({ frames := 1, cells := 0, slots := 0, locals := 22 } : Room) s m ([.ref h, .long p1] : List Value).toArray below meth c H locs 0 0 (MQ below ((mQl D (WM h q cI cJ cZ v_a v_image v_texts v_tape v_taped v_fault v_faultPlace v_at v_place v_token v_number v_word v_text0 v_written v_sort0 v_pile v_piled v_opens v_isWhole v_once v_named v_values v_truth v_isWritten v_died v_aside v_likely v_safe v_headOf) o_r) A) ([.ref h, .long p1] : List Value).toArray s 0 0 A) (F0 m 30 ls []) := by
    intro H locs ls hf hP hD hS hl
    unfold f_X12_fearOf_30 at hf
    refine lv_lconst (v := (0 : Int64)) hx hb dX12_fearOf_30 (by decide) ?_
    cases hf
    exact mret_l hx hb hr hlocks hP hD hS dX12_fearOf_31 rfl
  unfold f_X12_fearOf at hf
  refine lv_lload_n hx hb dX12_fearOf_0 rfl (lv_at hl 1 rfl) ?_
  refine lv_lconst (v := (0 : Int64)) hx hb dX12_fearOf_1 (by decide) ?_
  refine W.lcmp hx hb dX12_fearOf_2 ?_
  refine xif_lt hx hb 30 dX12_fearOf_3 (by decide) hf (fun hf => ?_) (fun hf => ?_)
  · exact b30 _ _ _ hf hP hD hS (lv_sub hl [] rfl)
  · refine lv_lload_n hx hb dX12_fearOf_6 rfl (lv_at hl 1 rfl) ?_
    refine lv_aload_n hx hb dX12_fearOf_7 rfl (lv_at hl 0 rfl) ?_
    refine gfX12_7 hx hb hts hown hK hP 0 rfl rfl dX12_fearOf_8 ?_
    refine lv_iconst (v := (1 : Int32)) hx hb dX12_fearOf_11 (by decide) ?_
    refine xiald hx hb hK hP 1 0 rfl rfl dX12_fearOf_12 hf (fun v12 hf => ?_)
    refine lv_i2l hx hb dX12_fearOf_13 rfl ?_
    refine W.lcmp hx hb dX12_fearOf_14 ?_
    refine xif_ge hx hb 30 dX12_fearOf_15 (by decide) hf (fun hf => ?_) (fun hf => ?_)
    · exact b30 _ _ _ hf hP hD hS (lv_sub hl [] rfl)
    · refine lv_aload_n hx hb dX12_fearOf_18 rfl (lv_at hl 0 rfl) ?_
      refine lv_lload_n hx hb dX12_fearOf_19 rfl (lv_at hl 1 rfl) ?_
      refine lv_l2i hx hb dX12_fearOf_20 rfl ?_
      refine lv_bipush (v := (7 : Int32)) hx hb dX12_fearOf_21 (by decide) ?_
      obtain ⟨r23, hg23, hf⟩ := ob1_some hf
      refine mcV1_i (As := [.int p1.toInt32, .int (7 : Int32)]) (rest := []) hx hb hml hown hts hK hP hD hS hA (k_X12_get l N D cI cJ cZ cB cT h q v_a v_image v_texts v_tape v_taped v_fault v_faultPlace v_at v_place v_token v_number v_word v_text0 v_written v_sort0 v_pile v_piled v_opens v_isWhole v_once v_named v_values v_truth v_isWritten v_died v_aside v_likely v_safe v_headOf p1.toInt32 (7 : Int32) r23 hg23) (kwX12_71 hts rfl rfl ⟨Nat.le_of_ble_eq_true rfl, Nat.le_of_ble_eq_true rfl⟩) 0 rfl rfl rfl rfl hl.1 rfl (Nat.le_of_ble_eq_true rfl) dX12_fearOf_23 ⟨Nat.zero_le _, Nat.zero_le _⟩ (fun hB23 H locs hP hD hS => ?_)
      have hP : va_P D vwCl (WM h q cI cJ cZ v_a v_image v_texts v_tape v_taped v_fault v_faultPlace v_at v_place v_token v_number v_word v_text0 v_written v_sort0 v_pile v_piled v_opens v_isWhole v_once v_named v_values v_truth v_isWritten v_died v_aside v_likely v_safe v_headOf) H := hP
      have hD : va_D A (WM h q cI cJ cZ v_a v_image v_texts v_tape v_taped v_fault v_faultPlace v_at v_place v_token v_number v_word v_text0 v_written v_sort0 v_pile v_piled v_opens v_isWhole v_once v_named v_values v_truth v_isWritten v_died v_aside v_likely v_safe v_headOf) := hD
      refine lv_i2l hx hb dX12_fearOf_26 rfl ?_
      refine lv_goto (tgt := 31) hx hb dX12_fearOf_27 (by decide) ?_
      cases hf
      exact mret_l hx hb hr hlocks hP hD hS dX12_fearOf_31 rfl
theorem dX12_prefixed_0 : decode cX12_prefixed 0 = .ok (.iload_n 1, 1) := by decide +kernel
theorem dX12_prefixed_1 : decode cX12_prefixed 1 = .ok (.iconst 5, 1) := by decide +kernel
theorem dX12_prefixed_2 : decode cX12_prefixed 2 = .ok (.if_icmp .ne 8, 3) := by decide +kernel
theorem dX12_prefixed_5 : decode cX12_prefixed 5 = .ok (.lload_n 2, 1) := by decide +kernel
theorem dX12_prefixed_6 : decode cX12_prefixed 6 = .ok (.lneg, 1) := by decide +kernel
theorem dX12_prefixed_7 : decode cX12_prefixed 7 = .ok (.goto 32, 3) := by decide +kernel
theorem dX12_prefixed_10 : decode cX12_prefixed 10 = .ok (.iload_n 1, 1) := by decide +kernel
theorem dX12_prefixed_11 : decode cX12_prefixed 11 = .ok (.iconst 2, 1) := by decide +kernel
theorem dX12_prefixed_12 : decode cX12_prefixed 12 = .ok (.if_icmp .ne 22, 3) := by decide +kernel
theorem dX12_prefixed_15 : decode cX12_prefixed 15 = .ok (.lload_n 2, 1) := by decide +kernel
theorem dX12_prefixed_16 : decode cX12_prefixed 16 = .ok (.lconst 0, 1) := by decide +kernel
theorem dX12_prefixed_17 : decode cX12_prefixed 17 = .ok (.lcmp, 1) := by decide +kernel
theorem dX12_prefixed_18 : decode cX12_prefixed 18 = .ok (.ifCond .ge 8, 3) := by decide +kernel
theorem dX12_prefixed_21 : decode cX12_prefixed 21 = .ok (.lload_n 2, 1) := by decide +kernel
theorem dX12_prefixed_22 : decode cX12_prefixed 22 = .ok (.lneg, 1) := by decide +kernel
theorem dX12_prefixed_23 : decode cX12_prefixed 23 = .ok (.goto 4, 3) := by decide +kernel
theorem dX12_prefixed_26 : decode cX12_prefixed 26 = .ok (.lload_n 2, 1) := by decide +kernel
theorem dX12_prefixed_27 : decode cX12_prefixed 27 = .ok (.invokestatic 268, 3) := by decide +kernel
theorem dX12_prefixed_30 : decode cX12_prefixed 30 = .ok (.i2l, 1) := by decide +kernel
theorem dX12_prefixed_31 : decode cX12_prefixed 31 = .ok (.goto 8, 3) := by decide +kernel
theorem dX12_prefixed_34 : decode cX12_prefixed 34 = .ok (.aload_n 0, 1) := by decide +kernel
theorem dX12_prefixed_35 : decode cX12_prefixed 35 = .ok (.lload_n 2, 1) := by decide +kernel
theorem dX12_prefixed_36 : decode cX12_prefixed 36 = .ok (.invokevirtual 272, 3) := by decide +kernel
theorem dX12_prefixed_39 : decode cX12_prefixed 39 = .ok (.lreturn, 1) := by decide +kernel
def f_X12_prefixed_27 (N : Nat) (v_a : Nat → Int32) (s0 : Int64) : Option (Int64) := ob1 (f_X12_bits N s0) fun r27 => some r27.toInt64
def f_X12_prefixed (N : Nat) (v_a : Nat → Int32) (p1 : Int32) (p2 : Int64) : Option (Int64) := if p1 = (5 : Int32) then (some (-p2)) else (if p1 = (2 : Int32) then (if 0 ≤ (lg_cmp p2 (0 : Int64)) then (f_X12_prefixed_27 N v_a p2) else (f_X12_prefixed_27 N v_a (-p2))) else (ob1 (f_X12_fearOf N v_a p2) fun r36 => some r36))
set_option maxHeartbeats 4000000 in
set_option maxRecDepth 100000 in
theorem k_X12_prefixed (l : Launch) (N : Nat) (D : va_G) (cI cJ cZ cB cT : ClassId) (h : Nat) (q : Nat → Nat) (v_a : Nat → Int32) (v_image : Nat → Int32) (v_texts : Nat → Int32) (v_tape : Nat → Int32) (v_taped : Int32) (v_fault : Int32) (v_faultPlace : Int32) (v_at : Int32) (v_place : Int32) (v_token : Int32) (v_number : Int32) (v_word : Int64) (v_text0 : Int32) (v_written : Int32) (v_sort0 : Int32) (v_pile : Nat → Int32) (v_piled : Int32) (v_opens : Int32) (v_isWhole : Int32) (v_once : Int32) (v_named : Nat → Int32) (v_values : Nat → Int64) (v_truth : Nat → Int32) (v_isWritten : Int32) (v_died : Int32) (v_aside : Nat → Int32) (v_likely : Nat → Int32) (v_safe : Nat → Int32) (v_headOf : Nat → Int32) (p1 : Int32) (p2 : Int64) (o_r : Int64) (hf : f_X12_prefixed N v_a p1 p2 = some o_r) : ∀ sz, Met l yX12_prefixed (mw yX12_prefixed cX12_prefixed 4 (some .long)) ({ frames := 2, cells := 0, slots := 0, locals := 44 } : Room) (mPre D (mT cI cJ cZ cB cT) (WM h q cI cJ cZ v_a v_image v_texts v_tape v_taped v_fault v_faultPlace v_at v_place v_token v_number v_word v_text0 v_written v_sort0 v_pile v_piled v_opens v_isWhole v_once v_named v_values v_truth v_isWritten v_died v_aside v_likely v_safe v_headOf) sz [.ref h, .int p1, .long p2]) ((mQl D (WM h q cI cJ cZ v_a v_image v_texts v_tape v_taped v_fault v_faultPlace v_at v_place v_token v_number v_word v_text0 v_written v_sort0 v_pile v_piled v_opens v_isWhole v_once v_named v_values v_truth v_isWritten v_died v_aside v_likely v_safe v_headOf) o_r) (va_A (WM h q cI cJ cZ v_a v_image v_texts v_tape v_taped v_fault v_faultPlace v_at v_place v_token v_number v_word v_text0 v_written v_sort0 v_pile v_piled v_opens v_isWhole v_once v_named v_values v_truth v_isWritten v_died v_aside v_likely v_safe v_headOf) sz)) 0 0 (va_A (WM h q cI cJ cZ v_a v_image v_texts v_tape v_taped v_fault v_faultPlace v_at v_place v_token v_number v_word v_text0 v_written v_sort0 v_pile v_piled v_opens v_isWhole v_once v_named v_values v_truth v_isWritten v_died v_aside v_likely v_safe v_headOf) sz) := by
  refine mMet (Qc := (mQl D (WM h q cI cJ cZ v_a v_image v_texts v_tape v_taped v_fault v_faultPlace v_at v_place v_token v_number v_word v_text0 v_written v_sort0 v_pile v_piled v_opens v_isWhole v_once v_named v_values v_truth v_isWritten v_died v_aside v_likely v_safe v_headOf) o_r)) (by decide) (Nat.le_of_ble_eq_true rfl) (fun p e s m below meth c A ls hx hb hr hml hts hown hlocks hK hA hP hD hl => ?_)
  have hown : s.vm.findClass RX12 = some m.cls := hown
  have hl : lv_has ls 4 [(0, .ref h), (1, .int p1), (2, .long p2)] := hl
  have hS : va_S A s.heap s.heap [] := va_S.rf
  have b27 : ∀ (s0 : Int64) (H : Heap) (locs : List Loc) (ls : Array Slot), f_X12_prefixed_27 N v_a s0 = some o_r → va_P D vwCl (WM h q cI cJ cZ v_a v_image v_texts v_tape v_taped v_fault v_faultPlace v_at v_place v_token v_number v_word v_text0 v_written v_sort0 v_pile v_piled v_opens v_isWhole v_once v_named v_values v_truth v_isWritten v_died v_aside v_likely v_safe v_headOf) H → va_D A (WM h q cI cJ cZ v_a v_image v_texts v_tape v_taped v_fault v_faultPlace v_at v_place v_token v_number v_word v_text0 v_written v_sort0 v_pile v_piled v_opens v_isWhole v_once v_named v_values v_truth v_isWritten v_died v_aside v_likely v_safe v_headOf) → va_S A s.heap H locs → lv_has ls 4 [] → W p l e ({ frames := 2, cells := 0, slots := 0, locals := 44 } : Room) s m ([.ref h, .int p1, .long p2] : List Value).toArray below meth c H locs 0 0 (MQ below ((mQl D (WM h q cI cJ cZ v_a v_image v_texts v_tape v_taped v_fault v_faultPlace v_at v_place v_token v_number v_word v_text0 v_written v_sort0 v_pile v_piled v_opens v_isWhole v_once v_named v_values v_truth v_isWritten v_died v_aside v_likely v_safe v_headOf) o_r) A) ([.ref h, .int p1, .long p2] : List Value).toArray s 0 0 A) (F0 m 27 ls [.long s0]) := by
    intro s0 H locs ls hf hP hD hS hl
    unfold f_X12_prefixed_27 at hf
    obtain ⟨r27, hg27, hf⟩ := ob1_some hf
    refine mcS0_i (As := [.long s0]) (rest := []) hx hb hml hown hts hK hP hD hS hA (k_X12_bits l N D cI cJ cZ cB cT s0 r27 hg27) (kwX12_268 hts rfl rfl ⟨Nat.le_of_ble_eq_true rfl, Nat.le_of_ble_eq_true rfl⟩) rfl hl.1 rfl (Nat.le_of_ble_eq_true rfl) dX12_prefixed_27 ⟨Nat.zero_le _, Nat.zero_le _⟩ (fun hB27 H locs hP hD hS => ?_)
    refine lv_i2l hx hb dX12_prefixed_30 rfl ?_
    refine lv_goto (tgt := 39) hx hb dX12_prefixed_31 (by decide) ?_
    cases hf
    exact mret_l hx hb hr hlocks hP hD hS dX12_prefixed_39 rfl
  unfold f_X12_prefixed at hf
  refine lv_iload_n hx hb dX12_prefixed_0 rfl (lv_at hl 1 rfl) ?_
  refine lv_iconst (v := (5 : Int32)) hx hb dX12_prefixed_1 (by decide) ?_
  refine xicmp_ne hx hb 10 dX12_prefixed_2 (by decide) hf (fun hf => ?_) (fun hf => ?_)
  · refine lv_lload_n hx hb dX12_prefixed_5 rfl (lv_at hl 2 rfl) ?_
    refine lv_lneg hx hb dX12_prefixed_6 ?_
    refine lv_goto (tgt := 39) hx hb dX12_prefixed_7 (by decide) ?_
    cases hf
    exact mret_l hx hb hr hlocks hP hD hS dX12_prefixed_39 rfl
  · refine lv_iload_n hx hb dX12_prefixed_10 rfl (lv_at hl 1 rfl) ?_
    refine lv_iconst (v := (2 : Int32)) hx hb dX12_prefixed_11 (by decide) ?_
    refine xicmp_ne hx hb 34 dX12_prefixed_12 (by decide) hf (fun hf => ?_) (fun hf => ?_)
    · refine lv_lload_n hx hb dX12_prefixed_15 rfl (lv_at hl 2 rfl) ?_
      refine lv_lconst (v := (0 : Int64)) hx hb dX12_prefixed_16 (by decide) ?_
      refine W.lcmp hx hb dX12_prefixed_17 ?_
      refine xif_ge hx hb 26 dX12_prefixed_18 (by decide) hf (fun hf => ?_) (fun hf => ?_)
      · refine lv_lload_n hx hb dX12_prefixed_26 rfl (lv_at hl 2 rfl) ?_
        exact b27 p2 _ _ _ hf hP hD hS (lv_sub hl [] rfl)
      · refine lv_lload_n hx hb dX12_prefixed_21 rfl (lv_at hl 2 rfl) ?_
        refine lv_lneg hx hb dX12_prefixed_22 ?_
        refine lv_goto (tgt := 27) hx hb dX12_prefixed_23 (by decide) ?_
        exact b27 (-p2) _ _ _ hf hP hD hS (lv_sub hl [] rfl)
    · refine lv_aload_n hx hb dX12_prefixed_34 rfl (lv_at hl 0 rfl) ?_
      refine lv_lload_n hx hb dX12_prefixed_35 rfl (lv_at hl 2 rfl) ?_
      obtain ⟨r36, hg36, hf⟩ := ob1_some hf
      refine mcV1_l (As := [.long p2]) (rest := []) hx hb hml hown hts hK hP hD hS hA (k_X12_fearOf l N D cI cJ cZ cB cT h q v_a v_image v_texts v_tape v_taped v_fault v_faultPlace v_at v_place v_token v_number v_word v_text0 v_written v_sort0 v_pile v_piled v_opens v_isWhole v_once v_named v_values v_truth v_isWritten v_died v_aside v_likely v_safe v_headOf p2 r36 hg36) (kwX12_272 hts rfl rfl ⟨Nat.le_of_ble_eq_true rfl, Nat.le_of_ble_eq_true rfl⟩) 0 rfl rfl rfl rfl hl.1 rfl (Nat.le_of_ble_eq_true rfl) dX12_prefixed_36 ⟨Nat.zero_le _, Nat.zero_le _⟩ (fun H locs hP hD hS => ?_)
      have hP : va_P D vwCl (WM h q cI cJ cZ v_a v_image v_texts v_tape v_taped v_fault v_faultPlace v_at v_place v_token v_number v_word v_text0 v_written v_sort0 v_pile v_piled v_opens v_isWhole v_once v_named v_values v_truth v_isWritten v_died v_aside v_likely v_safe v_headOf) H := hP
      have hD : va_D A (WM h q cI cJ cZ v_a v_image v_texts v_tape v_taped v_fault v_faultPlace v_at v_place v_token v_number v_word v_text0 v_written v_sort0 v_pile v_piled v_opens v_isWhole v_once v_named v_values v_truth v_isWritten v_died v_aside v_likely v_safe v_headOf) := hD
      cases hf
      exact mret_l hx hb hr hlocks hP hD hS dX12_prefixed_39 rfl
theorem dX12_joined_0 : decode cX12_joined 0 = .ok (.iload_n 0, 1) := by decide +kernel
theorem dX12_joined_1 : decode cX12_joined 1 = .ok (.bipush 21, 2) := by decide +kernel
theorem dX12_joined_3 : decode cX12_joined 3 = .ok (.if_icmp .ne 19, 3) := by decide +kernel
theorem dX12_joined_6 : decode cX12_joined 6 = .ok (.iload_n 1, 1) := by decide +kernel
theorem dX12_joined_7 : decode cX12_joined 7 = .ok (.ifCond .eq 11, 3) := by decide +kernel
theorem dX12_joined_10 : decode cX12_joined 10 = .ok (.iload_n 2, 1) := by decide +kernel
theorem dX12_joined_11 : decode cX12_joined 11 = .ok (.ifCond .eq 7, 3) := by decide +kernel
theorem dX12_joined_14 : decode cX12_joined 14 = .ok (.iconst 1, 1) := by decide +kernel
theorem dX12_joined_15 : decode cX12_joined 15 = .ok (.goto 20, 3) := by decide +kernel
theorem dX12_joined_18 : decode cX12_joined 18 = .ok (.iconst 0, 1) := by decide +kernel
theorem dX12_joined_19 : decode cX12_joined 19 = .ok (.goto 16, 3) := by decide +kernel
theorem dX12_joined_22 : decode cX12_joined 22 = .ok (.iload_n 1, 1) := by decide +kernel
theorem dX12_joined_23 : decode cX12_joined 23 = .ok (.ifCond .ne 7, 3) := by decide +kernel
theorem dX12_joined_26 : decode cX12_joined 26 = .ok (.iload_n 2, 1) := by decide +kernel
theorem dX12_joined_27 : decode cX12_joined 27 = .ok (.ifCond .eq 7, 3) := by decide +kernel
theorem dX12_joined_30 : decode cX12_joined 30 = .ok (.iconst 1, 1) := by decide +kernel
theorem dX12_joined_31 : decode cX12_joined 31 = .ok (.goto 4, 3) := by decide +kernel
theorem dX12_joined_34 : decode cX12_joined 34 = .ok (.iconst 0, 1) := by decide +kernel
theorem dX12_joined_35 : decode cX12_joined 35 = .ok (.ireturn, 1) := by decide +kernel
def f_X12_joined_30 (N : Nat) : Option (Int32) := some (1 : Int32)
def f_X12_joined_18 (N : Nat) : Option (Int32) := some (0 : Int32)
def f_X12_joined (N : Nat) (p0 : Int32) (p1 : Int32) (p2 : Int32) : Option (Int32) := if p0 = (21 : Int32) then (if p1 = 0 then (f_X12_joined_18 N) else (if p2 = 0 then (f_X12_joined_18 N) else (some (1 : Int32)))) else (if p1 = 0 then (if p2 = 0 then (some (0 : Int32)) else (f_X12_joined_30 N)) else (f_X12_joined_30 N))
set_option maxHeartbeats 4000000 in
set_option maxRecDepth 100000 in
theorem k_X12_joined (l : Launch) (N : Nat) (D : va_G) (cI cJ cZ cB cT : ClassId) (p0 : Int32) (p1 : Int32) (p2 : Int32) (o_r : Int32) (hf : f_X12_joined N p0 p1 p2 = some o_r) : ∀ sz, Met l yX12_joined (mw yX12_joined cX12_joined 3 (some .boolean)) ({ frames := 0, cells := 0, slots := 0, locals := 0 } : Room) (mPre D (mT cI cJ cZ cB cT) [] sz [.int p0, .int p1, .int p2]) ((mQi D [] o_r (mB o_r)) (va_A [] sz)) 0 0 (va_A [] sz) := by
  refine mMet (Qc := (mQi D [] o_r (mB o_r))) (by decide) (Nat.le_of_ble_eq_true rfl) (fun p e s m below meth c A ls hx hb hr hml hts hown hlocks hK hA hP hD hl => ?_)
  have hown : s.vm.findClass RX12 = some m.cls := hown
  have hl : lv_has ls 3 [(0, .int p0), (1, .int p1), (2, .int p2)] := hl
  have hS : va_S A s.heap s.heap [] := va_S.rf
  have b30 : ∀ (H : Heap) (locs : List Loc) (ls : Array Slot), f_X12_joined_30 N = some o_r → va_P D vwCl [] H → va_D A [] → va_S A s.heap H locs → lv_has ls 3 [] → W p l e ({ frames := 0, cells := 0, slots := 0, locals := 0 } : Room) s m ([.int p0, .int p1, .int p2] : List Value).toArray below meth c H locs 0 0 (MQ below ((mQi D [] o_r (mB o_r)) A) ([.int p0, .int p1, .int p2] : List Value).toArray s 0 0 A) (F0 m 30 ls []) := by
    intro H locs ls hf hP hD hS hl
    unfold f_X12_joined_30 at hf
    refine lv_iconst (v := (1 : Int32)) hx hb dX12_joined_30 (by decide) ?_
    refine lv_goto (tgt := 35) hx hb dX12_joined_31 (by decide) ?_
    cases hf
    exact mret_z hx hb hr hlocks hP hD hS dX12_joined_35 rfl rfl
  have b18 : ∀ (H : Heap) (locs : List Loc) (ls : Array Slot), f_X12_joined_18 N = some o_r → va_P D vwCl [] H → va_D A [] → va_S A s.heap H locs → lv_has ls 3 [] → W p l e ({ frames := 0, cells := 0, slots := 0, locals := 0 } : Room) s m ([.int p0, .int p1, .int p2] : List Value).toArray below meth c H locs 0 0 (MQ below ((mQi D [] o_r (mB o_r)) A) ([.int p0, .int p1, .int p2] : List Value).toArray s 0 0 A) (F0 m 18 ls []) := by
    intro H locs ls hf hP hD hS hl
    unfold f_X12_joined_18 at hf
    refine lv_iconst (v := (0 : Int32)) hx hb dX12_joined_18 (by decide) ?_
    refine lv_goto (tgt := 35) hx hb dX12_joined_19 (by decide) ?_
    cases hf
    exact mret_z hx hb hr hlocks hP hD hS dX12_joined_35 rfl rfl
  unfold f_X12_joined at hf
  refine lv_iload_n hx hb dX12_joined_0 rfl (lv_at hl 0 rfl) ?_
  refine lv_bipush (v := (21 : Int32)) hx hb dX12_joined_1 (by decide) ?_
  refine xicmp_ne hx hb 22 dX12_joined_3 (by decide) hf (fun hf => ?_) (fun hf => ?_)
  · refine lv_iload_n hx hb dX12_joined_6 rfl (lv_at hl 1 rfl) ?_
    refine xif_eq hx hb 18 dX12_joined_7 (by decide) hf (fun hf => ?_) (fun hf => ?_)
    · exact b18 _ _ _ hf hP hD hS (lv_sub hl [] rfl)
    · refine lv_iload_n hx hb dX12_joined_10 rfl (lv_at hl 2 rfl) ?_
      refine xif_eq hx hb 18 dX12_joined_11 (by decide) hf (fun hf => ?_) (fun hf => ?_)
      · exact b18 _ _ _ hf hP hD hS (lv_sub hl [] rfl)
      · refine lv_iconst (v := (1 : Int32)) hx hb dX12_joined_14 (by decide) ?_
        refine lv_goto (tgt := 35) hx hb dX12_joined_15 (by decide) ?_
        cases hf
        exact mret_z hx hb hr hlocks hP hD hS dX12_joined_35 rfl rfl
  · refine lv_iload_n hx hb dX12_joined_22 rfl (lv_at hl 1 rfl) ?_
    refine xif_ne hx hb 30 dX12_joined_23 (by decide) hf (fun hf => ?_) (fun hf => ?_)
    · refine lv_iload_n hx hb dX12_joined_26 rfl (lv_at hl 2 rfl) ?_
      refine xif_eq hx hb 34 dX12_joined_27 (by decide) hf (fun hf => ?_) (fun hf => ?_)
      · refine lv_iconst (v := (0 : Int32)) hx hb dX12_joined_34 (by decide) ?_
        cases hf
        exact mret_z hx hb hr hlocks hP hD hS dX12_joined_35 rfl rfl
      · exact b30 _ _ _ hf hP hD hS (lv_sub hl [] rfl)
    · exact b30 _ _ _ hf hP hD hS (lv_sub hl [] rfl)
theorem dX12_summedUp_0 : decode cX12_summedUp 0 = .ok (.sipush 729, 3) := by decide +kernel
theorem dX12_summedUp_3 : decode cX12_summedUp 3 = .ok (.iload_n 1, 1) := by decide +kernel
theorem dX12_summedUp_4 : decode cX12_summedUp 4 = .ok (.imul, 1) := by decide +kernel
theorem dX12_summedUp_5 : decode cX12_summedUp 5 = .ok (.iconst 1, 1) := by decide +kernel
theorem dX12_summedUp_6 : decode cX12_summedUp 6 = .ok (.iadd, 1) := by decide +kernel
theorem dX12_summedUp_7 : decode cX12_summedUp 7 = .ok (.iconst 5, 1) := by decide +kernel
theorem dX12_summedUp_8 : decode cX12_summedUp 8 = .ok (.iload_n 2, 1) := by decide +kernel
theorem dX12_summedUp_9 : decode cX12_summedUp 9 = .ok (.imul, 1) := by decide +kernel
theorem dX12_summedUp_10 : decode cX12_summedUp 10 = .ok (.iadd, 1) := by decide +kernel
theorem dX12_summedUp_11 : decode cX12_summedUp 11 = .ok (.istore_n 3, 1) := by decide +kernel
theorem dX12_summedUp_12 : decode cX12_summedUp 12 = .ok (.sipush 729, 3) := by decide +kernel
theorem dX12_summedUp_15 : decode cX12_summedUp 15 = .ok (.iload_n 1, 1) := by decide +kernel
theorem dX12_summedUp_16 : decode cX12_summedUp 16 = .ok (.imul, 1) := by decide +kernel
theorem dX12_summedUp_17 : decode cX12_summedUp 17 = .ok (.bipush 121, 2) := by decide +kernel
theorem dX12_summedUp_19 : decode cX12_summedUp 19 = .ok (.iadd, 1) := by decide +kernel
theorem dX12_summedUp_20 : decode cX12_summedUp 20 = .ok (.istore 4, 2) := by decide +kernel
theorem dX12_summedUp_22 : decode cX12_summedUp 22 = .ok (.iconst 0, 1) := by decide +kernel
theorem dX12_summedUp_23 : decode cX12_summedUp 23 = .ok (.istore 5, 2) := by decide +kernel
theorem dX12_summedUp_25 : decode cX12_summedUp 25 = .ok (.iconst 0, 1) := by decide +kernel
theorem dX12_summedUp_26 : decode cX12_summedUp 26 = .ok (.istore 6, 2) := by decide +kernel
theorem dX12_summedUp_28 : decode cX12_summedUp 28 = .ok (.aload_n 0, 1) := by decide +kernel
theorem dX12_summedUp_29 : decode cX12_summedUp 29 = .ok (.getfield 16, 3) := by decide +kernel
theorem dX12_summedUp_32 : decode cX12_summedUp 32 = .ok (.iload_n 3, 1) := by decide +kernel
theorem dX12_summedUp_33 : decode cX12_summedUp 33 = .ok (.iconst 1, 1) := by decide +kernel
theorem dX12_summedUp_34 : decode cX12_summedUp 34 = .ok (.iadd, 1) := by decide +kernel
theorem dX12_summedUp_35 : decode cX12_summedUp 35 = .ok (.iaload, 1) := by decide +kernel
theorem dX12_summedUp_36 : decode cX12_summedUp 36 = .ok (.istore 7, 2) := by decide +kernel
theorem dX12_summedUp_38 : decode cX12_summedUp 38 = .ok (.iload 7, 2) := by decide +kernel
theorem dX12_summedUp_40 : decode cX12_summedUp 40 = .ok (.aload_n 0, 1) := by decide +kernel
theorem dX12_summedUp_41 : decode cX12_summedUp 41 = .ok (.getfield 16, 3) := by decide +kernel
theorem dX12_summedUp_44 : decode cX12_summedUp 44 = .ok (.iload_n 3, 1) := by decide +kernel
theorem dX12_summedUp_45 : decode cX12_summedUp 45 = .ok (.iconst 2, 1) := by decide +kernel
theorem dX12_summedUp_46 : decode cX12_summedUp 46 = .ok (.iadd, 1) := by decide +kernel
theorem dX12_summedUp_47 : decode cX12_summedUp 47 = .ok (.iaload, 1) := by decide +kernel
theorem dX12_summedUp_48 : decode cX12_summedUp 48 = .ok (.if_icmp .ge 307, 3) := by decide +kernel
theorem dX12_summedUp_51 : decode cX12_summedUp 51 = .ok (.aload_n 0, 1) := by decide +kernel
theorem dX12_summedUp_52 : decode cX12_summedUp 52 = .ok (.getfield 16, 3) := by decide +kernel
theorem dX12_summedUp_55 : decode cX12_summedUp 55 = .ok (.iload 4, 2) := by decide +kernel
theorem dX12_summedUp_57 : decode cX12_summedUp 57 = .ok (.iconst 2, 1) := by decide +kernel
theorem dX12_summedUp_58 : decode cX12_summedUp 58 = .ok (.iload 7, 2) := by decide +kernel
theorem dX12_summedUp_60 : decode cX12_summedUp 60 = .ok (.imul, 1) := by decide +kernel
theorem dX12_summedUp_61 : decode cX12_summedUp 61 = .ok (.iadd, 1) := by decide +kernel
theorem dX12_summedUp_62 : decode cX12_summedUp 62 = .ok (.iaload, 1) := by decide +kernel
theorem dX12_summedUp_63 : decode cX12_summedUp 63 = .ok (.istore 8, 2) := by decide +kernel
theorem dX12_summedUp_65 : decode cX12_summedUp 65 = .ok (.aload_n 0, 1) := by decide +kernel
theorem dX12_summedUp_66 : decode cX12_summedUp 66 = .ok (.getfield 16, 3) := by decide +kernel
theorem dX12_summedUp_69 : decode cX12_summedUp 69 = .ok (.iload 4, 2) := by decide +kernel
theorem dX12_summedUp_71 : decode cX12_summedUp 71 = .ok (.iconst 2, 1) := by decide +kernel
theorem dX12_summedUp_72 : decode cX12_summedUp 72 = .ok (.iload 7, 2) := by decide +kernel
theorem dX12_summedUp_74 : decode cX12_summedUp 74 = .ok (.imul, 1) := by decide +kernel
theorem dX12_summedUp_75 : decode cX12_summedUp 75 = .ok (.iadd, 1) := by decide +kernel
theorem dX12_summedUp_76 : decode cX12_summedUp 76 = .ok (.iconst 1, 1) := by decide +kernel
theorem dX12_summedUp_77 : decode cX12_summedUp 77 = .ok (.iadd, 1) := by decide +kernel
theorem dX12_summedUp_78 : decode cX12_summedUp 78 = .ok (.iaload, 1) := by decide +kernel
theorem dX12_summedUp_79 : decode cX12_summedUp 79 = .ok (.istore 9, 2) := by decide +kernel
theorem dX12_summedUp_81 : decode cX12_summedUp 81 = .ok (.iload 8, 2) := by decide +kernel
theorem dX12_summedUp_83 : decode cX12_summedUp 83 = .ok (.iconst 1, 1) := by decide +kernel
theorem dX12_summedUp_84 : decode cX12_summedUp 84 = .ok (.if_icmp .gt 35, 3) := by decide +kernel
theorem dX12_summedUp_87 : decode cX12_summedUp 87 = .ok (.aload_n 0, 1) := by decide +kernel
theorem dX12_summedUp_88 : decode cX12_summedUp 88 = .ok (.getfield 35, 3) := by decide +kernel
theorem dX12_summedUp_91 : decode cX12_summedUp 91 = .ok (.iload 5, 2) := by decide +kernel
theorem dX12_summedUp_93 : decode cX12_summedUp 93 = .ok (.iload 8, 2) := by decide +kernel
theorem dX12_summedUp_95 : decode cX12_summedUp 95 = .ok (.ifCond .ne 9, 3) := by decide +kernel
theorem dX12_summedUp_98 : decode cX12_summedUp 98 = .ok (.iload 9, 2) := by decide +kernel
theorem dX12_summedUp_100 : decode cX12_summedUp 100 = .ok (.i2l, 1) := by decide +kernel
theorem dX12_summedUp_101 : decode cX12_summedUp 101 = .ok (.goto 11, 3) := by decide +kernel
theorem dX12_summedUp_104 : decode cX12_summedUp 104 = .ok (.aload_n 0, 1) := by decide +kernel
theorem dX12_summedUp_105 : decode cX12_summedUp 105 = .ok (.getfield 32, 3) := by decide +kernel
theorem dX12_summedUp_108 : decode cX12_summedUp 108 = .ok (.iload 9, 2) := by decide +kernel
theorem dX12_summedUp_110 : decode cX12_summedUp 110 = .ok (.iaload, 1) := by decide +kernel
theorem dX12_summedUp_111 : decode cX12_summedUp 111 = .ok (.i2l, 1) := by decide +kernel
theorem dX12_summedUp_112 : decode cX12_summedUp 112 = .ok (.lastore, 1) := by decide +kernel
theorem dX12_summedUp_113 : decode cX12_summedUp 113 = .ok (.iinc 5 1, 3) := by decide +kernel
theorem dX12_summedUp_116 : decode cX12_summedUp 116 = .ok (.goto 233, 3) := by decide +kernel
theorem dX12_summedUp_119 : decode cX12_summedUp 119 = .ok (.iload 8, 2) := by decide +kernel
theorem dX12_summedUp_121 : decode cX12_summedUp 121 = .ok (.iconst 4, 1) := by decide +kernel
theorem dX12_summedUp_122 : decode cX12_summedUp 122 = .ok (.if_icmp .ne 38, 3) := by decide +kernel
theorem dX12_summedUp_125 : decode cX12_summedUp 125 = .ok (.iinc 5 (-1), 3) := by decide +kernel
theorem dX12_summedUp_128 : decode cX12_summedUp 128 = .ok (.iinc 6 (-1), 3) := by decide +kernel
theorem dX12_summedUp_131 : decode cX12_summedUp 131 = .ok (.aload_n 0, 1) := by decide +kernel
theorem dX12_summedUp_132 : decode cX12_summedUp 132 = .ok (.getfield 39, 3) := by decide +kernel
theorem dX12_summedUp_135 : decode cX12_summedUp 135 = .ok (.iload 6, 2) := by decide +kernel
theorem dX12_summedUp_137 : decode cX12_summedUp 137 = .ok (.baload, 1) := by decide +kernel
theorem dX12_summedUp_138 : decode cX12_summedUp 138 = .ok (.ifCond .ne 211, 3) := by decide +kernel
theorem dX12_summedUp_141 : decode cX12_summedUp 141 = .ok (.aload_n 0, 1) := by decide +kernel
theorem dX12_summedUp_142 : decode cX12_summedUp 142 = .ok (.getfield 35, 3) := by decide +kernel
theorem dX12_summedUp_145 : decode cX12_summedUp 145 = .ok (.iload 5, 2) := by decide +kernel
theorem dX12_summedUp_147 : decode cX12_summedUp 147 = .ok (.iconst 1, 1) := by decide +kernel
theorem dX12_summedUp_148 : decode cX12_summedUp 148 = .ok (.isub, 1) := by decide +kernel
theorem dX12_summedUp_149 : decode cX12_summedUp 149 = .ok (.aload_n 0, 1) := by decide +kernel
theorem dX12_summedUp_150 : decode cX12_summedUp 150 = .ok (.getfield 35, 3) := by decide +kernel
theorem dX12_summedUp_153 : decode cX12_summedUp 153 = .ok (.iload 5, 2) := by decide +kernel
theorem dX12_summedUp_155 : decode cX12_summedUp 155 = .ok (.laload, 1) := by decide +kernel
theorem dX12_summedUp_156 : decode cX12_summedUp 156 = .ok (.lastore, 1) := by decide +kernel
theorem dX12_summedUp_157 : decode cX12_summedUp 157 = .ok (.goto 192, 3) := by decide +kernel
theorem dX12_summedUp_160 : decode cX12_summedUp 160 = .ok (.iload 8, 2) := by decide +kernel
theorem dX12_summedUp_162 : decode cX12_summedUp 162 = .ok (.iconst 5, 1) := by decide +kernel
theorem dX12_summedUp_163 : decode cX12_summedUp 163 = .ok (.if_icmp .gt 30, 3) := by decide +kernel
theorem dX12_summedUp_166 : decode cX12_summedUp 166 = .ok (.aload_n 0, 1) := by decide +kernel
theorem dX12_summedUp_167 : decode cX12_summedUp 167 = .ok (.getfield 35, 3) := by decide +kernel
theorem dX12_summedUp_170 : decode cX12_summedUp 170 = .ok (.iload 5, 2) := by decide +kernel
theorem dX12_summedUp_172 : decode cX12_summedUp 172 = .ok (.iconst 1, 1) := by decide +kernel
theorem dX12_summedUp_173 : decode cX12_summedUp 173 = .ok (.isub, 1) := by decide +kernel
theorem dX12_summedUp_174 : decode cX12_summedUp 174 = .ok (.aload_n 0, 1) := by decide +kernel
theorem dX12_summedUp_175 : decode cX12_summedUp 175 = .ok (.iload 8, 2) := by decide +kernel
theorem dX12_summedUp_177 : decode cX12_summedUp 177 = .ok (.aload_n 0, 1) := by decide +kernel
theorem dX12_summedUp_178 : decode cX12_summedUp 178 = .ok (.getfield 35, 3) := by decide +kernel
theorem dX12_summedUp_181 : decode cX12_summedUp 181 = .ok (.iload 5, 2) := by decide +kernel
theorem dX12_summedUp_183 : decode cX12_summedUp 183 = .ok (.iconst 1, 1) := by decide +kernel
theorem dX12_summedUp_184 : decode cX12_summedUp 184 = .ok (.isub, 1) := by decide +kernel
theorem dX12_summedUp_185 : decode cX12_summedUp 185 = .ok (.laload, 1) := by decide +kernel
theorem dX12_summedUp_186 : decode cX12_summedUp 186 = .ok (.invokevirtual 275, 3) := by decide +kernel
theorem dX12_summedUp_189 : decode cX12_summedUp 189 = .ok (.lastore, 1) := by decide +kernel
theorem dX12_summedUp_190 : decode cX12_summedUp 190 = .ok (.goto 159, 3) := by decide +kernel
theorem dX12_summedUp_193 : decode cX12_summedUp 193 = .ok (.iload 8, 2) := by decide +kernel
theorem dX12_summedUp_195 : decode cX12_summedUp 195 = .ok (.bipush 10, 2) := by decide +kernel
theorem dX12_summedUp_197 : decode cX12_summedUp 197 = .ok (.if_icmp .ge 39, 3) := by decide +kernel
theorem dX12_summedUp_200 : decode cX12_summedUp 200 = .ok (.iinc 5 (-1), 3) := by decide +kernel
theorem dX12_summedUp_203 : decode cX12_summedUp 203 = .ok (.aload_n 0, 1) := by decide +kernel
theorem dX12_summedUp_204 : decode cX12_summedUp 204 = .ok (.getfield 35, 3) := by decide +kernel
theorem dX12_summedUp_207 : decode cX12_summedUp 207 = .ok (.iload 5, 2) := by decide +kernel
theorem dX12_summedUp_209 : decode cX12_summedUp 209 = .ok (.iconst 1, 1) := by decide +kernel
theorem dX12_summedUp_210 : decode cX12_summedUp 210 = .ok (.isub, 1) := by decide +kernel
theorem dX12_summedUp_211 : decode cX12_summedUp 211 = .ok (.iload 8, 2) := by decide +kernel
theorem dX12_summedUp_213 : decode cX12_summedUp 213 = .ok (.aload_n 0, 1) := by decide +kernel
theorem dX12_summedUp_214 : decode cX12_summedUp 214 = .ok (.getfield 35, 3) := by decide +kernel
theorem dX12_summedUp_217 : decode cX12_summedUp 217 = .ok (.iload 5, 2) := by decide +kernel
theorem dX12_summedUp_219 : decode cX12_summedUp 219 = .ok (.iconst 1, 1) := by decide +kernel
theorem dX12_summedUp_220 : decode cX12_summedUp 220 = .ok (.isub, 1) := by decide +kernel
theorem dX12_summedUp_221 : decode cX12_summedUp 221 = .ok (.laload, 1) := by decide +kernel
theorem dX12_summedUp_222 : decode cX12_summedUp 222 = .ok (.aload_n 0, 1) := by decide +kernel
theorem dX12_summedUp_223 : decode cX12_summedUp 223 = .ok (.getfield 35, 3) := by decide +kernel
theorem dX12_summedUp_226 : decode cX12_summedUp 226 = .ok (.iload 5, 2) := by decide +kernel
theorem dX12_summedUp_228 : decode cX12_summedUp 228 = .ok (.laload, 1) := by decide +kernel
theorem dX12_summedUp_229 : decode cX12_summedUp 229 = .ok (.invokestatic 279, 3) := by decide +kernel
theorem dX12_summedUp_232 : decode cX12_summedUp 232 = .ok (.lastore, 1) := by decide +kernel
theorem dX12_summedUp_233 : decode cX12_summedUp 233 = .ok (.goto 116, 3) := by decide +kernel
theorem dX12_summedUp_236 : decode cX12_summedUp 236 = .ok (.iload 8, 2) := by decide +kernel
theorem dX12_summedUp_238 : decode cX12_summedUp 238 = .ok (.bipush 20, 2) := by decide +kernel
theorem dX12_summedUp_240 : decode cX12_summedUp 240 = .ok (.if_icmp .ge 40, 3) := by decide +kernel
theorem dX12_summedUp_243 : decode cX12_summedUp 243 = .ok (.iinc 5 (-2), 3) := by decide +kernel
theorem dX12_summedUp_246 : decode cX12_summedUp 246 = .ok (.aload_n 0, 1) := by decide +kernel
theorem dX12_summedUp_247 : decode cX12_summedUp 247 = .ok (.getfield 39, 3) := by decide +kernel
theorem dX12_summedUp_250 : decode cX12_summedUp 250 = .ok (.iload 6, 2) := by decide +kernel
theorem dX12_summedUp_252 : decode cX12_summedUp 252 = .ok (.iload 8, 2) := by decide +kernel
theorem dX12_summedUp_254 : decode cX12_summedUp 254 = .ok (.aload_n 0, 1) := by decide +kernel
theorem dX12_summedUp_255 : decode cX12_summedUp 255 = .ok (.getfield 35, 3) := by decide +kernel
theorem dX12_summedUp_258 : decode cX12_summedUp 258 = .ok (.iload 5, 2) := by decide +kernel
theorem dX12_summedUp_260 : decode cX12_summedUp 260 = .ok (.laload, 1) := by decide +kernel
theorem dX12_summedUp_261 : decode cX12_summedUp 261 = .ok (.aload_n 0, 1) := by decide +kernel
theorem dX12_summedUp_262 : decode cX12_summedUp 262 = .ok (.getfield 35, 3) := by decide +kernel
theorem dX12_summedUp_265 : decode cX12_summedUp 265 = .ok (.iload 5, 2) := by decide +kernel
theorem dX12_summedUp_267 : decode cX12_summedUp 267 = .ok (.iconst 1, 1) := by decide +kernel
theorem dX12_summedUp_268 : decode cX12_summedUp 268 = .ok (.iadd, 1) := by decide +kernel
theorem dX12_summedUp_269 : decode cX12_summedUp 269 = .ok (.laload, 1) := by decide +kernel
theorem dX12_summedUp_270 : decode cX12_summedUp 270 = .ok (.invokestatic 283, 3) := by decide +kernel
theorem dX12_summedUp_273 : decode cX12_summedUp 273 = .ok (.bastore, 1) := by decide +kernel
theorem dX12_summedUp_274 : decode cX12_summedUp 274 = .ok (.iinc 6 1, 3) := by decide +kernel
theorem dX12_summedUp_277 : decode cX12_summedUp 277 = .ok (.goto 72, 3) := by decide +kernel
theorem dX12_summedUp_280 : decode cX12_summedUp 280 = .ok (.iload 8, 2) := by decide +kernel
theorem dX12_summedUp_282 : decode cX12_summedUp 282 = .ok (.bipush 20, 2) := by decide +kernel
theorem dX12_summedUp_284 : decode cX12_summedUp 284 = .ok (.if_icmp .ne 32, 3) := by decide +kernel
theorem dX12_summedUp_287 : decode cX12_summedUp 287 = .ok (.aload_n 0, 1) := by decide +kernel
theorem dX12_summedUp_288 : decode cX12_summedUp 288 = .ok (.getfield 39, 3) := by decide +kernel
theorem dX12_summedUp_291 : decode cX12_summedUp 291 = .ok (.iload 6, 2) := by decide +kernel
theorem dX12_summedUp_293 : decode cX12_summedUp 293 = .ok (.iconst 1, 1) := by decide +kernel
theorem dX12_summedUp_294 : decode cX12_summedUp 294 = .ok (.isub, 1) := by decide +kernel
theorem dX12_summedUp_295 : decode cX12_summedUp 295 = .ok (.aload_n 0, 1) := by decide +kernel
theorem dX12_summedUp_296 : decode cX12_summedUp 296 = .ok (.getfield 39, 3) := by decide +kernel
theorem dX12_summedUp_299 : decode cX12_summedUp 299 = .ok (.iload 6, 2) := by decide +kernel
theorem dX12_summedUp_301 : decode cX12_summedUp 301 = .ok (.iconst 1, 1) := by decide +kernel
theorem dX12_summedUp_302 : decode cX12_summedUp 302 = .ok (.isub, 1) := by decide +kernel
theorem dX12_summedUp_303 : decode cX12_summedUp 303 = .ok (.baload, 1) := by decide +kernel
theorem dX12_summedUp_304 : decode cX12_summedUp 304 = .ok (.ifCond .ne 7, 3) := by decide +kernel
theorem dX12_summedUp_307 : decode cX12_summedUp 307 = .ok (.iconst 1, 1) := by decide +kernel
theorem dX12_summedUp_308 : decode cX12_summedUp 308 = .ok (.goto 4, 3) := by decide +kernel
theorem dX12_summedUp_311 : decode cX12_summedUp 311 = .ok (.iconst 0, 1) := by decide +kernel
theorem dX12_summedUp_312 : decode cX12_summedUp 312 = .ok (.bastore, 1) := by decide +kernel
theorem dX12_summedUp_313 : decode cX12_summedUp 313 = .ok (.goto 36, 3) := by decide +kernel
theorem dX12_summedUp_316 : decode cX12_summedUp 316 = .ok (.iinc 6 (-1), 3) := by decide +kernel
theorem dX12_summedUp_319 : decode cX12_summedUp 319 = .ok (.aload_n 0, 1) := by decide +kernel
theorem dX12_summedUp_320 : decode cX12_summedUp 320 = .ok (.getfield 39, 3) := by decide +kernel
theorem dX12_summedUp_323 : decode cX12_summedUp 323 = .ok (.iload 6, 2) := by decide +kernel
theorem dX12_summedUp_325 : decode cX12_summedUp 325 = .ok (.iconst 1, 1) := by decide +kernel
theorem dX12_summedUp_326 : decode cX12_summedUp 326 = .ok (.isub, 1) := by decide +kernel
theorem dX12_summedUp_327 : decode cX12_summedUp 327 = .ok (.iload 8, 2) := by decide +kernel
theorem dX12_summedUp_329 : decode cX12_summedUp 329 = .ok (.aload_n 0, 1) := by decide +kernel
theorem dX12_summedUp_330 : decode cX12_summedUp 330 = .ok (.getfield 39, 3) := by decide +kernel
theorem dX12_summedUp_333 : decode cX12_summedUp 333 = .ok (.iload 6, 2) := by decide +kernel
theorem dX12_summedUp_335 : decode cX12_summedUp 335 = .ok (.iconst 1, 1) := by decide +kernel
theorem dX12_summedUp_336 : decode cX12_summedUp 336 = .ok (.isub, 1) := by decide +kernel
theorem dX12_summedUp_337 : decode cX12_summedUp 337 = .ok (.baload, 1) := by decide +kernel
theorem dX12_summedUp_338 : decode cX12_summedUp 338 = .ok (.aload_n 0, 1) := by decide +kernel
theorem dX12_summedUp_339 : decode cX12_summedUp 339 = .ok (.getfield 39, 3) := by decide +kernel
theorem dX12_summedUp_342 : decode cX12_summedUp 342 = .ok (.iload 6, 2) := by decide +kernel
theorem dX12_summedUp_344 : decode cX12_summedUp 344 = .ok (.baload, 1) := by decide +kernel
theorem dX12_summedUp_345 : decode cX12_summedUp 345 = .ok (.invokestatic 287, 3) := by decide +kernel
theorem dX12_summedUp_348 : decode cX12_summedUp 348 = .ok (.bastore, 1) := by decide +kernel
theorem dX12_summedUp_349 : decode cX12_summedUp 349 = .ok (.iinc 7 1, 3) := by decide +kernel
theorem dX12_summedUp_352 : decode cX12_summedUp 352 = .ok (.goto (-314), 3) := by decide +kernel
theorem dX12_summedUp_355 : decode cX12_summedUp 355 = .ok (.aload_n 0, 1) := by decide +kernel
theorem dX12_summedUp_356 : decode cX12_summedUp 356 = .ok (.getfield 35, 3) := by decide +kernel
theorem dX12_summedUp_359 : decode cX12_summedUp 359 = .ok (.iconst 0, 1) := by decide +kernel
theorem dX12_summedUp_360 : decode cX12_summedUp 360 = .ok (.laload, 1) := by decide +kernel
theorem dX12_summedUp_361 : decode cX12_summedUp 361 = .ok (.lreturn, 1) := by decide +kernel
def f_X12_summedUp_349 (N : Nat) (k_38 : (Nat → Int32) → (Nat → Int32) → (Nat → Int32) → (Nat → Int64) → (Nat → Int32) → Int32 → Int32 → Int32 → Int32 → Int32 → Option (Int64 × (Nat → Int64) × (Nat → Int32))) (v_a : Nat → Int32) (v_texts : Nat → Int32) (v_named : Nat → Int32) (v_values : Nat → Int64) (v_truth : Nat → Int32) (x3 : Int32) (x4 : Int32) (x5 : Int32) (x6 : Int32) (x7 : Int32) : Option (Int64 × (Nat → Int64) × (Nat → Int32)) := k_38 v_a v_texts v_named v_values v_truth x3 x4 x5 x6 (x7 + (1 : Int32))
def f_X12_summedUp_312 (N : Nat) (k_38 : (Nat → Int32) → (Nat → Int32) → (Nat → Int32) → (Nat → Int64) → (Nat → Int32) → Int32 → Int32 → Int32 → Int32 → Int32 → Option (Int64 × (Nat → Int64) × (Nat → Int32))) (v_a : Nat → Int32) (v_texts : Nat → Int32) (v_named : Nat → Int32) (v_values : Nat → Int64) (v_truth : Nat → Int32) (x3 : Int32) (x4 : Int32) (x5 : Int32) (x6 : Int32) (x7 : Int32) (s1 : Int32) (s2 : Int32) : Option (Int64 × (Nat → Int64) × (Nat → Int32)) := sA v_truth 330 s1 (vp_nar .boolean s2) fun v_truth_312 => f_X12_summedUp_349 N k_38 v_a v_texts v_named v_values v_truth_312 x3 x4 x5 x6 x7
def f_X12_summedUp_112 (N : Nat) (k_38 : (Nat → Int32) → (Nat → Int32) → (Nat → Int32) → (Nat → Int64) → (Nat → Int32) → Int32 → Int32 → Int32 → Int32 → Int32 → Option (Int64 × (Nat → Int64) × (Nat → Int32))) (v_a : Nat → Int32) (v_texts : Nat → Int32) (v_named : Nat → Int32) (v_values : Nat → Int64) (v_truth : Nat → Int32) (x3 : Int32) (x4 : Int32) (x5 : Int32) (x6 : Int32) (x7 : Int32) (s1 : Int32) (s2 : Int64) : Option (Int64 × (Nat → Int64) × (Nat → Int32)) := sL v_values 330 s1 s2 fun v_values_112 => f_X12_summedUp_349 N k_38 v_a v_texts v_named v_values_112 v_truth x3 x4 (x5 + (1 : Int32)) x6 x7
def f_X12_summedUp_38 (N : Nat) : Nat → (Nat → Int32) → (Nat → Int32) → (Nat → Int32) → (Nat → Int64) → (Nat → Int32) → Int32 → Int32 → Int32 → Int32 → Int32 → Option (Int64 × (Nat → Int64) × (Nat → Int32))
  | 0, _, _, _, _, _, _, _, _, _, _ => none
  | n + 1, v_a, v_texts, v_named, v_values, v_truth, x3, x4, x5, x6, x7 => gA v_texts 2916 (x3 + (2 : Int32)) fun v47 => if v47 ≤ x7 then (gL v_values 330 (0 : Int32) fun v360 => some (v360, v_values, v_truth)) else (gA v_texts 2916 (x4 + ((2 : Int32) * x7)) fun v62 => gA v_texts 2916 ((x4 + ((2 : Int32) * x7)) + (1 : Int32)) fun v78 => if (1 : Int32) < v62 then (if v62 = (4 : Int32) then (gA v_truth 330 (x6 + (-1 : Int32)) fun v137 => if v137 = 0 then (gL v_values 330 (x5 + (-1 : Int32)) fun v155 => sL v_values 330 ((x5 + (-1 : Int32)) - (1 : Int32)) v155 fun v_values_156 => f_X12_summedUp_349 N (f_X12_summedUp_38 N n) v_a v_texts v_named v_values_156 v_truth x3 x4 (x5 + (-1 : Int32)) (x6 + (-1 : Int32)) x7) else (f_X12_summedUp_349 N (f_X12_summedUp_38 N n) v_a v_texts v_named v_values v_truth x3 x4 (x5 + (-1 : Int32)) (x6 + (-1 : Int32)) x7)) else (if (5 : Int32) < v62 then (if (10 : Int32) ≤ v62 then (if (20 : Int32) ≤ v62 then (if v62 = (20 : Int32) then (gA v_truth 330 (x6 - (1 : Int32)) fun v303 => if v303 = 0 then (f_X12_summedUp_312 N (f_X12_summedUp_38 N n) v_a v_texts v_named v_values v_truth x3 x4 x5 x6 x7 (x6 - (1 : Int32)) (1 : Int32)) else (f_X12_summedUp_312 N (f_X12_summedUp_38 N n) v_a v_texts v_named v_values v_truth x3 x4 x5 x6 x7 (x6 - (1 : Int32)) (0 : Int32))) else (gA v_truth 330 ((x6 + (-1 : Int32)) - (1 : Int32)) fun v337 => gA v_truth 330 (x6 + (-1 : Int32)) fun v344 => ob1 (f_X12_joined N v62 v337 v344) fun r345 => sA v_truth 330 ((x6 + (-1 : Int32)) - (1 : Int32)) (vp_nar .boolean r345) fun v_truth_348 => f_X12_summedUp_349 N (f_X12_summedUp_38 N n) v_a v_texts v_named v_values v_truth_348 x3 x4 x5 (x6 + (-1 : Int32)) x7)) else (gL v_values 330 (x5 + (-2 : Int32)) fun v260 => gL v_values 330 ((x5 + (-2 : Int32)) + (1 : Int32)) fun v269 => ob1 (f_X12_isAsked N v62 v260 v269) fun r270 => sA v_truth 330 x6 (vp_nar .boolean r270) fun v_truth_273 => f_X12_summedUp_349 N (f_X12_summedUp_38 N n) v_a v_texts v_named v_values v_truth_273 x3 x4 (x5 + (-2 : Int32)) (x6 + (1 : Int32)) x7)) else (gL v_values 330 ((x5 + (-1 : Int32)) - (1 : Int32)) fun v221 => gL v_values 330 (x5 + (-1 : Int32)) fun v228 => ob1 (f_X12_two N v62 v221 v228) fun r229 => sL v_values 330 ((x5 + (-1 : Int32)) - (1 : Int32)) r229 fun v_values_232 => f_X12_summedUp_349 N (f_X12_summedUp_38 N n) v_a v_texts v_named v_values_232 v_truth x3 x4 (x5 + (-1 : Int32)) x6 x7)) else (gL v_values 330 (x5 - (1 : Int32)) fun v185 => ob1 (f_X12_prefixed N v_a v62 v185) fun r186 => sL v_values 330 (x5 - (1 : Int32)) r186 fun v_values_189 => f_X12_summedUp_349 N (f_X12_summedUp_38 N n) v_a v_texts v_named v_values_189 v_truth x3 x4 x5 x6 x7))) else (if v62 = 0 then (f_X12_summedUp_112 N (f_X12_summedUp_38 N n) v_a v_texts v_named v_values v_truth x3 x4 x5 x6 x7 x5 v78.toInt64) else (gA v_named 10 v78 fun v110 => f_X12_summedUp_112 N (f_X12_summedUp_38 N n) v_a v_texts v_named v_values v_truth x3 x4 x5 x6 x7 x5 v110.toInt64)))
def f_X12_summedUp (N : Nat) (v_a : Nat → Int32) (v_texts : Nat → Int32) (v_named : Nat → Int32) (v_values : Nat → Int64) (v_truth : Nat → Int32) (p1 : Int32) (p2 : Int32) : Option (Int64 × (Nat → Int64) × (Nat → Int32)) := gA v_texts 2916 (((((729 : Int32) * p1) + (1 : Int32)) + ((5 : Int32) * p2)) + (1 : Int32)) fun v35 => f_X12_summedUp_38 N N v_a v_texts v_named v_values v_truth ((((729 : Int32) * p1) + (1 : Int32)) + ((5 : Int32) * p2)) (((729 : Int32) * p1) + (121 : Int32)) (0 : Int32) (0 : Int32) v35
set_option maxHeartbeats 4000000 in
set_option maxRecDepth 100000 in
theorem k_X12_summedUp (l : Launch) (N : Nat) (D : va_G) (cI cJ cZ cB cT : ClassId) (h : Nat) (q : Nat → Nat) (v_a : Nat → Int32) (v_image : Nat → Int32) (v_texts : Nat → Int32) (v_tape : Nat → Int32) (v_taped : Int32) (v_fault : Int32) (v_faultPlace : Int32) (v_at : Int32) (v_place : Int32) (v_token : Int32) (v_number : Int32) (v_word : Int64) (v_text0 : Int32) (v_written : Int32) (v_sort0 : Int32) (v_pile : Nat → Int32) (v_piled : Int32) (v_opens : Int32) (v_isWhole : Int32) (v_once : Int32) (v_named : Nat → Int32) (v_values : Nat → Int64) (v_truth : Nat → Int32) (v_isWritten : Int32) (v_died : Int32) (v_aside : Nat → Int32) (v_likely : Nat → Int32) (v_safe : Nat → Int32) (v_headOf : Nat → Int32) (p1 : Int32) (p2 : Int32) (o_r : Int64) (o_v_values : Nat → Int64) (o_v_truth : Nat → Int32) (hf : f_X12_summedUp N v_a v_texts v_named v_values v_truth p1 p2 = some (o_r, o_v_values, o_v_truth)) : ∀ sz, Met l yX12_summedUp (mw yX12_summedUp cX12_summedUp 10 (some .long)) ({ frames := 3, cells := 0, slots := 0, locals := 67 } : Room) (mPre D (mT cI cJ cZ cB cT) (WM h q cI cJ cZ v_a v_image v_texts v_tape v_taped v_fault v_faultPlace v_at v_place v_token v_number v_word v_text0 v_written v_sort0 v_pile v_piled v_opens v_isWhole v_once v_named v_values v_truth v_isWritten v_died v_aside v_likely v_safe v_headOf) sz [.ref h, .int p1, .int p2]) ((mQl D (WM h q cI cJ cZ v_a v_image v_texts v_tape v_taped v_fault v_faultPlace v_at v_place v_token v_number v_word v_text0 v_written v_sort0 v_pile v_piled v_opens v_isWhole v_once v_named o_v_values o_v_truth v_isWritten v_died v_aside v_likely v_safe v_headOf) o_r) (va_A (WM h q cI cJ cZ v_a v_image v_texts v_tape v_taped v_fault v_faultPlace v_at v_place v_token v_number v_word v_text0 v_written v_sort0 v_pile v_piled v_opens v_isWhole v_once v_named v_values v_truth v_isWritten v_died v_aside v_likely v_safe v_headOf) sz)) 0 0 (va_A (WM h q cI cJ cZ v_a v_image v_texts v_tape v_taped v_fault v_faultPlace v_at v_place v_token v_number v_word v_text0 v_written v_sort0 v_pile v_piled v_opens v_isWhole v_once v_named v_values v_truth v_isWritten v_died v_aside v_likely v_safe v_headOf) sz) := by
  refine mMet (Qc := (mQl D (WM h q cI cJ cZ v_a v_image v_texts v_tape v_taped v_fault v_faultPlace v_at v_place v_token v_number v_word v_text0 v_written v_sort0 v_pile v_piled v_opens v_isWhole v_once v_named o_v_values o_v_truth v_isWritten v_died v_aside v_likely v_safe v_headOf) o_r)) (by decide) (Nat.le_of_ble_eq_true rfl) (fun p e s m below meth c A ls hx hb hr hml hts hown hlocks hK hA hP hD hl => ?_)
  have hown : s.vm.findClass RX12 = some m.cls := hown
  have hl : lv_has ls 10 [(0, .ref h), (1, .int p1), (2, .int p2)] := hl
  have hS : va_S A s.heap s.heap [] := va_S.rf
  have b38 : ∀ n38 : Nat, ∀ (v_values : Nat → Int64) (v_truth : Nat → Int32) (x3 : Int32) (x4 : Int32) (x5 : Int32) (x6 : Int32) (x7 : Int32) (H : Heap) (locs : List Loc) (ls : Array Slot), f_X12_summedUp_38 N n38 v_a v_texts v_named v_values v_truth x3 x4 x5 x6 x7 = some (o_r, o_v_values, o_v_truth) → va_P D vwCl (WM h q cI cJ cZ v_a v_image v_texts v_tape v_taped v_fault v_faultPlace v_at v_place v_token v_number v_word v_text0 v_written v_sort0 v_pile v_piled v_opens v_isWhole v_once v_named v_values v_truth v_isWritten v_died v_aside v_likely v_safe v_headOf) H → va_D A (WM h q cI cJ cZ v_a v_image v_texts v_tape v_taped v_fault v_faultPlace v_at v_place v_token v_number v_word v_text0 v_written v_sort0 v_pile v_piled v_opens v_isWhole v_once v_named v_values v_truth v_isWritten v_died v_aside v_likely v_safe v_headOf) → va_S A s.heap H locs → lv_has ls 10 [(0, .ref h), (3, .int x3), (4, .int x4), (5, .int x5), (6, .int x6), (7, .int x7)] → W p l e ({ frames := 3, cells := 0, slots := 0, locals := 67 } : Room) s m ([.ref h, .int p1, .int p2] : List Value).toArray below meth c H locs 0 0 (MQ below ((mQl D (WM h q cI cJ cZ v_a v_image v_texts v_tape v_taped v_fault v_faultPlace v_at v_place v_token v_number v_word v_text0 v_written v_sort0 v_pile v_piled v_opens v_isWhole v_once v_named o_v_values o_v_truth v_isWritten v_died v_aside v_likely v_safe v_headOf) o_r) A) ([.ref h, .int p1, .int p2] : List Value).toArray s 0 0 A) (F0 m 38 ls []) := by
    intro n38
    induction n38 with
    | zero =>
      intro v_values v_truth x3 x4 x5 x6 x7 H locs ls hf hP hD hS hl
      simp [f_X12_summedUp_38] at hf
    | succ n38 ih38 =>
      have b349 : ∀ (v_values : Nat → Int64) (v_truth : Nat → Int32) (x3 : Int32) (x4 : Int32) (x5 : Int32) (x6 : Int32) (x7 : Int32) (H : Heap) (locs : List Loc) (ls : Array Slot), f_X12_summedUp_349 N (f_X12_summedUp_38 N n38) v_a v_texts v_named v_values v_truth x3 x4 x5 x6 x7 = some (o_r, o_v_values, o_v_truth) → va_P D vwCl (WM h q cI cJ cZ v_a v_image v_texts v_tape v_taped v_fault v_faultPlace v_at v_place v_token v_number v_word v_text0 v_written v_sort0 v_pile v_piled v_opens v_isWhole v_once v_named v_values v_truth v_isWritten v_died v_aside v_likely v_safe v_headOf) H → va_D A (WM h q cI cJ cZ v_a v_image v_texts v_tape v_taped v_fault v_faultPlace v_at v_place v_token v_number v_word v_text0 v_written v_sort0 v_pile v_piled v_opens v_isWhole v_once v_named v_values v_truth v_isWritten v_died v_aside v_likely v_safe v_headOf) → va_S A s.heap H locs → lv_has ls 10 [(0, .ref h), (3, .int x3), (4, .int x4), (5, .int x5), (6, .int x6), (7, .int x7)] → W p l e ({ frames := 3, cells := 0, slots := 0, locals := 67 } : Room) s m ([.ref h, .int p1, .int p2] : List Value).toArray below meth c H locs 0 0 (MQ below ((mQl D (WM h q cI cJ cZ v_a v_image v_texts v_tape v_taped v_fault v_faultPlace v_at v_place v_token v_number v_word v_text0 v_written v_sort0 v_pile v_piled v_opens v_isWhole v_once v_named o_v_values o_v_truth v_isWritten v_died v_aside v_likely v_safe v_headOf) o_r) A) ([.ref h, .int p1, .int p2] : List Value).toArray s 0 0 A) (F0 m 349 ls []) := by
        intro v_values v_truth x3 x4 x5 x6 x7 H locs ls hf hP hD hS hl
        unfold f_X12_summedUp_349 at hf
        refine lv_iinc (v := (x7 + (1 : Int32))) (lv' := [(7, .int (x7 + (1 : Int32))), (0, .ref h), (3, .int x3), (4, .int x4), (5, .int x5), (6, .int x6)]) hx hb dX12_summedUp_349 hl (k := 5) rfl rfl (by decide) rfl (fun ls hl => ?_)
        refine lv_goto (tgt := 38) hx hb dX12_summedUp_352 (by decide) ?_
        exact ih38 v_values v_truth x3 x4 x5 x6 (x7 + (1 : Int32)) _ _ _ hf hP hD hS (lv_sub hl [1, 2, 3, 4, 5, 0] rfl)
      have b312 : ∀ (v_values : Nat → Int64) (v_truth : Nat → Int32) (x3 : Int32) (x4 : Int32) (x5 : Int32) (x6 : Int32) (x7 : Int32) (s1 : Int32) (s2 : Int32) (H : Heap) (locs : List Loc) (ls : Array Slot), f_X12_summedUp_312 N (f_X12_summedUp_38 N n38) v_a v_texts v_named v_values v_truth x3 x4 x5 x6 x7 s1 s2 = some (o_r, o_v_values, o_v_truth) → va_P D vwCl (WM h q cI cJ cZ v_a v_image v_texts v_tape v_taped v_fault v_faultPlace v_at v_place v_token v_number v_word v_text0 v_written v_sort0 v_pile v_piled v_opens v_isWhole v_once v_named v_values v_truth v_isWritten v_died v_aside v_likely v_safe v_headOf) H → va_D A (WM h q cI cJ cZ v_a v_image v_texts v_tape v_taped v_fault v_faultPlace v_at v_place v_token v_number v_word v_text0 v_written v_sort0 v_pile v_piled v_opens v_isWhole v_once v_named v_values v_truth v_isWritten v_died v_aside v_likely v_safe v_headOf) → va_S A s.heap H locs → lv_has ls 10 [(0, .ref h), (3, .int x3), (4, .int x4), (5, .int x5), (6, .int x6), (7, .int x7)] → W p l e ({ frames := 3, cells := 0, slots := 0, locals := 67 } : Room) s m ([.ref h, .int p1, .int p2] : List Value).toArray below meth c H locs 0 0 (MQ below ((mQl D (WM h q cI cJ cZ v_a v_image v_texts v_tape v_taped v_fault v_faultPlace v_at v_place v_token v_number v_word v_text0 v_written v_sort0 v_pile v_piled v_opens v_isWhole v_once v_named o_v_values o_v_truth v_isWritten v_died v_aside v_likely v_safe v_headOf) o_r) A) ([.ref h, .int p1, .int p2] : List Value).toArray s 0 0 A) (F0 m 312 ls [.int s2, .int s1, .ref (q 7)]) := by
        intro v_values v_truth x3 x4 x5 x6 x7 s1 s2 H locs ls hf hP hD hS hl
        unfold f_X12_summedUp_312 at hf
        refine xzast hx hb hK hP hD hS 8 2 rfl rfl dX12_summedUp_312 hf (fun v_truth_312 hf H locs hP hD hS => ?_)
        have hP : va_P D vwCl (WM h q cI cJ cZ v_a v_image v_texts v_tape v_taped v_fault v_faultPlace v_at v_place v_token v_number v_word v_text0 v_written v_sort0 v_pile v_piled v_opens v_isWhole v_once v_named v_values v_truth_312 v_isWritten v_died v_aside v_likely v_safe v_headOf) H := hP
        have hD : va_D A (WM h q cI cJ cZ v_a v_image v_texts v_tape v_taped v_fault v_faultPlace v_at v_place v_token v_number v_word v_text0 v_written v_sort0 v_pile v_piled v_opens v_isWhole v_once v_named v_values v_truth_312 v_isWritten v_died v_aside v_likely v_safe v_headOf) := hD
        refine lv_goto (tgt := 349) hx hb dX12_summedUp_313 (by decide) ?_
        exact b349 v_values v_truth_312 x3 x4 x5 x6 x7 _ _ _ hf hP hD hS (lv_sub hl [0, 1, 2, 3, 4, 5] rfl)
      have b112 : ∀ (v_values : Nat → Int64) (v_truth : Nat → Int32) (x3 : Int32) (x4 : Int32) (x5 : Int32) (x6 : Int32) (x7 : Int32) (s1 : Int32) (s2 : Int64) (H : Heap) (locs : List Loc) (ls : Array Slot), f_X12_summedUp_112 N (f_X12_summedUp_38 N n38) v_a v_texts v_named v_values v_truth x3 x4 x5 x6 x7 s1 s2 = some (o_r, o_v_values, o_v_truth) → va_P D vwCl (WM h q cI cJ cZ v_a v_image v_texts v_tape v_taped v_fault v_faultPlace v_at v_place v_token v_number v_word v_text0 v_written v_sort0 v_pile v_piled v_opens v_isWhole v_once v_named v_values v_truth v_isWritten v_died v_aside v_likely v_safe v_headOf) H → va_D A (WM h q cI cJ cZ v_a v_image v_texts v_tape v_taped v_fault v_faultPlace v_at v_place v_token v_number v_word v_text0 v_written v_sort0 v_pile v_piled v_opens v_isWhole v_once v_named v_values v_truth v_isWritten v_died v_aside v_likely v_safe v_headOf) → va_S A s.heap H locs → lv_has ls 10 [(0, .ref h), (3, .int x3), (4, .int x4), (5, .int x5), (6, .int x6), (7, .int x7)] → W p l e ({ frames := 3, cells := 0, slots := 0, locals := 67 } : Room) s m ([.ref h, .int p1, .int p2] : List Value).toArray below meth c H locs 0 0 (MQ below ((mQl D (WM h q cI cJ cZ v_a v_image v_texts v_tape v_taped v_fault v_faultPlace v_at v_place v_token v_number v_word v_text0 v_written v_sort0 v_pile v_piled v_opens v_isWhole v_once v_named o_v_values o_v_truth v_isWritten v_died v_aside v_likely v_safe v_headOf) o_r) A) ([.ref h, .int p1, .int p2] : List Value).toArray s 0 0 A) (F0 m 112 ls [.long s2, .int s1, .ref (q 6)]) := by
        intro v_values v_truth x3 x4 x5 x6 x7 s1 s2 H locs ls hf hP hD hS hl
        unfold f_X12_summedUp_112 at hf
        refine xlast hx hb hK hP hD hS 7 1 rfl rfl dX12_summedUp_112 hf (fun v_values_112 hf H locs hP hD hS => ?_)
        have hP : va_P D vwCl (WM h q cI cJ cZ v_a v_image v_texts v_tape v_taped v_fault v_faultPlace v_at v_place v_token v_number v_word v_text0 v_written v_sort0 v_pile v_piled v_opens v_isWhole v_once v_named v_values_112 v_truth v_isWritten v_died v_aside v_likely v_safe v_headOf) H := hP
        have hD : va_D A (WM h q cI cJ cZ v_a v_image v_texts v_tape v_taped v_fault v_faultPlace v_at v_place v_token v_number v_word v_text0 v_written v_sort0 v_pile v_piled v_opens v_isWhole v_once v_named v_values_112 v_truth v_isWritten v_died v_aside v_likely v_safe v_headOf) := hD
        refine lv_iinc (v := (x5 + (1 : Int32))) (lv' := [(5, .int (x5 + (1 : Int32))), (0, .ref h), (3, .int x3), (4, .int x4), (6, .int x6), (7, .int x7)]) hx hb dX12_summedUp_113 hl (k := 3) rfl rfl (by decide) rfl (fun ls hl => ?_)
        refine lv_goto (tgt := 349) hx hb dX12_summedUp_116 (by decide) ?_
        exact b349 v_values_112 v_truth x3 x4 (x5 + (1 : Int32)) x6 x7 _ _ _ hf hP hD hS (lv_sub hl [1, 2, 3, 0, 4, 5] rfl)
      intro v_values v_truth x3 x4 x5 x6 x7 H locs ls hf hP hD hS hl
      rw [f_X12_summedUp_38.eq_2] at hf
      refine lv_iload hx hb dX12_summedUp_38 (lv_at hl 5 rfl) ?_
      refine lv_aload_n hx hb dX12_summedUp_40 rfl (lv_at hl 0 rfl) ?_
      refine gfX12_16 hx hb hts hown hK hP 0 rfl rfl dX12_summedUp_41 ?_
      refine lv_iload_n hx hb dX12_summedUp_44 rfl (lv_at hl 1 rfl) ?_
      refine lv_iconst (v := (2 : Int32)) hx hb dX12_summedUp_45 (by decide) ?_
      refine lv_iadd hx hb dX12_summedUp_46 ?_
      refine xiald hx hb hK hP 3 0 rfl rfl dX12_summedUp_47 hf (fun v47 hf => ?_)
      refine xicmp_ge hx hb 355 dX12_summedUp_48 (by decide) hf (fun hf => ?_) (fun hf => ?_)
      · refine lv_aload_n hx hb dX12_summedUp_355 rfl (lv_at hl 0 rfl) ?_
        refine gfX12_35 hx hb hts hown hK hP 0 rfl rfl dX12_summedUp_356 ?_
        refine lv_iconst (v := (0 : Int32)) hx hb dX12_summedUp_359 (by decide) ?_
        refine xlald hx hb hK hP 7 1 rfl rfl dX12_summedUp_360 hf (fun v360 hf => ?_)
        cases hf
        exact mret_l hx hb hr hlocks hP hD hS dX12_summedUp_361 rfl
      · refine lv_aload_n hx hb dX12_summedUp_51 rfl (lv_at hl 0 rfl) ?_
        refine gfX12_16 hx hb hts hown hK hP 0 rfl rfl dX12_summedUp_52 ?_
        refine lv_iload hx hb dX12_summedUp_55 (lv_at hl 2 rfl) ?_
        refine lv_iconst (v := (2 : Int32)) hx hb dX12_summedUp_57 (by decide) ?_
        refine lv_iload hx hb dX12_summedUp_58 (lv_at hl 5 rfl) ?_
        refine lv_imul hx hb dX12_summedUp_60 ?_
        refine lv_iadd hx hb dX12_summedUp_61 ?_
        refine xiald hx hb hK hP 3 0 rfl rfl dX12_summedUp_62 hf (fun v62 hf => ?_)
        refine lv_istore (lv' := [(8, .int v62), (0, .ref h), (3, .int x3), (4, .int x4), (5, .int x5), (6, .int x6), (7, .int x7)]) hx hb dX12_summedUp_63 hl (by decide) rfl (fun ls hl => ?_)
        refine lv_aload_n hx hb dX12_summedUp_65 rfl (lv_at hl 1 rfl) ?_
        refine gfX12_16 hx hb hts hown hK hP 0 rfl rfl dX12_summedUp_66 ?_
        refine lv_iload hx hb dX12_summedUp_69 (lv_at hl 3 rfl) ?_
        refine lv_iconst (v := (2 : Int32)) hx hb dX12_summedUp_71 (by decide) ?_
        refine lv_iload hx hb dX12_summedUp_72 (lv_at hl 6 rfl) ?_
        refine lv_imul hx hb dX12_summedUp_74 ?_
        refine lv_iadd hx hb dX12_summedUp_75 ?_
        refine lv_iconst (v := (1 : Int32)) hx hb dX12_summedUp_76 (by decide) ?_
        refine lv_iadd hx hb dX12_summedUp_77 ?_
        refine xiald hx hb hK hP 3 0 rfl rfl dX12_summedUp_78 hf (fun v78 hf => ?_)
        refine lv_istore (lv' := [(9, .int v78), (8, .int v62), (0, .ref h), (3, .int x3), (4, .int x4), (5, .int x5), (6, .int x6), (7, .int x7)]) hx hb dX12_summedUp_79 hl (by decide) rfl (fun ls hl => ?_)
        refine lv_iload hx hb dX12_summedUp_81 (lv_at hl 1 rfl) ?_
        refine lv_iconst (v := (1 : Int32)) hx hb dX12_summedUp_83 (by decide) ?_
        refine xicmp_gt hx hb 119 dX12_summedUp_84 (by decide) hf (fun hf => ?_) (fun hf => ?_)
        · refine lv_iload hx hb dX12_summedUp_119 (lv_at hl 1 rfl) ?_
          refine lv_iconst (v := (4 : Int32)) hx hb dX12_summedUp_121 (by decide) ?_
          refine xicmp_ne hx hb 160 dX12_summedUp_122 (by decide) hf (fun hf => ?_) (fun hf => ?_)
          · refine lv_iinc (v := (x5 + (-1 : Int32))) (lv' := [(5, .int (x5 + (-1 : Int32))), (9, .int v78), (8, .int v62), (0, .ref h), (3, .int x3), (4, .int x4), (6, .int x6), (7, .int x7)]) hx hb dX12_summedUp_125 hl (k := 5) rfl rfl (by decide) rfl (fun ls hl => ?_)
            refine lv_iinc (v := (x6 + (-1 : Int32))) (lv' := [(6, .int (x6 + (-1 : Int32))), (5, .int (x5 + (-1 : Int32))), (9, .int v78), (8, .int v62), (0, .ref h), (3, .int x3), (4, .int x4), (7, .int x7)]) hx hb dX12_summedUp_128 hl (k := 6) rfl rfl (by decide) rfl (fun ls hl => ?_)
            refine lv_aload_n hx hb dX12_summedUp_131 rfl (lv_at hl 4 rfl) ?_
            refine gfX12_39 hx hb hts hown hK hP 0 rfl rfl dX12_summedUp_132 ?_
            refine lv_iload hx hb dX12_summedUp_135 (lv_at hl 0 rfl) ?_
            refine xzald hx hb hK hP 8 2 rfl rfl dX12_summedUp_137 hf (fun v137 hf => ?_)
            refine xif_ne hx hb 349 dX12_summedUp_138 (by decide) hf (fun hf => ?_) (fun hf => ?_)
            · refine lv_aload_n hx hb dX12_summedUp_141 rfl (lv_at hl 4 rfl) ?_
              refine gfX12_35 hx hb hts hown hK hP 0 rfl rfl dX12_summedUp_142 ?_
              refine lv_iload hx hb dX12_summedUp_145 (lv_at hl 1 rfl) ?_
              refine lv_iconst (v := (1 : Int32)) hx hb dX12_summedUp_147 (by decide) ?_
              refine lv_isub hx hb dX12_summedUp_148 ?_
              refine lv_aload_n hx hb dX12_summedUp_149 rfl (lv_at hl 4 rfl) ?_
              refine gfX12_35 hx hb hts hown hK hP 0 rfl rfl dX12_summedUp_150 ?_
              refine lv_iload hx hb dX12_summedUp_153 (lv_at hl 1 rfl) ?_
              refine xlald hx hb hK hP 7 1 rfl rfl dX12_summedUp_155 hf (fun v155 hf => ?_)
              refine xlast hx hb hK hP hD hS 7 1 rfl rfl dX12_summedUp_156 hf (fun v_values_156 hf H locs hP hD hS => ?_)
              have hP : va_P D vwCl (WM h q cI cJ cZ v_a v_image v_texts v_tape v_taped v_fault v_faultPlace v_at v_place v_token v_number v_word v_text0 v_written v_sort0 v_pile v_piled v_opens v_isWhole v_once v_named v_values_156 v_truth v_isWritten v_died v_aside v_likely v_safe v_headOf) H := hP
              have hD : va_D A (WM h q cI cJ cZ v_a v_image v_texts v_tape v_taped v_fault v_faultPlace v_at v_place v_token v_number v_word v_text0 v_written v_sort0 v_pile v_piled v_opens v_isWhole v_once v_named v_values_156 v_truth v_isWritten v_died v_aside v_likely v_safe v_headOf) := hD
              refine lv_goto (tgt := 349) hx hb dX12_summedUp_157 (by decide) ?_
              exact b349 v_values_156 v_truth x3 x4 (x5 + (-1 : Int32)) (x6 + (-1 : Int32)) x7 _ _ _ hf hP hD hS (lv_sub hl [4, 5, 6, 1, 0, 7] rfl)
            · exact b349 v_values v_truth x3 x4 (x5 + (-1 : Int32)) (x6 + (-1 : Int32)) x7 _ _ _ hf hP hD hS (lv_sub hl [4, 5, 6, 1, 0, 7] rfl)
          · refine lv_iload hx hb dX12_summedUp_160 (lv_at hl 1 rfl) ?_
            refine lv_iconst (v := (5 : Int32)) hx hb dX12_summedUp_162 (by decide) ?_
            refine xicmp_gt hx hb 193 dX12_summedUp_163 (by decide) hf (fun hf => ?_) (fun hf => ?_)
            · refine lv_iload hx hb dX12_summedUp_193 (lv_at hl 1 rfl) ?_
              refine lv_bipush (v := (10 : Int32)) hx hb dX12_summedUp_195 (by decide) ?_
              refine xicmp_ge hx hb 236 dX12_summedUp_197 (by decide) hf (fun hf => ?_) (fun hf => ?_)
              · refine lv_iload hx hb dX12_summedUp_236 (lv_at hl 1 rfl) ?_
                refine lv_bipush (v := (20 : Int32)) hx hb dX12_summedUp_238 (by decide) ?_
                refine xicmp_ge hx hb 280 dX12_summedUp_240 (by decide) hf (fun hf => ?_) (fun hf => ?_)
                · refine lv_iload hx hb dX12_summedUp_280 (lv_at hl 1 rfl) ?_
                  refine lv_bipush (v := (20 : Int32)) hx hb dX12_summedUp_282 (by decide) ?_
                  refine xicmp_ne hx hb 316 dX12_summedUp_284 (by decide) hf (fun hf => ?_) (fun hf => ?_)
                  · refine lv_aload_n hx hb dX12_summedUp_287 rfl (lv_at hl 2 rfl) ?_
                    refine gfX12_39 hx hb hts hown hK hP 0 rfl rfl dX12_summedUp_288 ?_
                    refine lv_iload hx hb dX12_summedUp_291 (lv_at hl 6 rfl) ?_
                    refine lv_iconst (v := (1 : Int32)) hx hb dX12_summedUp_293 (by decide) ?_
                    refine lv_isub hx hb dX12_summedUp_294 ?_
                    refine lv_aload_n hx hb dX12_summedUp_295 rfl (lv_at hl 2 rfl) ?_
                    refine gfX12_39 hx hb hts hown hK hP 0 rfl rfl dX12_summedUp_296 ?_
                    refine lv_iload hx hb dX12_summedUp_299 (lv_at hl 6 rfl) ?_
                    refine lv_iconst (v := (1 : Int32)) hx hb dX12_summedUp_301 (by decide) ?_
                    refine lv_isub hx hb dX12_summedUp_302 ?_
                    refine xzald hx hb hK hP 8 2 rfl rfl dX12_summedUp_303 hf (fun v303 hf => ?_)
                    refine xif_ne hx hb 311 dX12_summedUp_304 (by decide) hf (fun hf => ?_) (fun hf => ?_)
                    · refine lv_iconst (v := (1 : Int32)) hx hb dX12_summedUp_307 (by decide) ?_
                      refine lv_goto (tgt := 312) hx hb dX12_summedUp_308 (by decide) ?_
                      exact b312 v_values v_truth x3 x4 x5 x6 x7 (x6 - (1 : Int32)) (1 : Int32) _ _ _ hf hP hD hS (lv_sub hl [2, 3, 4, 5, 6, 7] rfl)
                    · refine lv_iconst (v := (0 : Int32)) hx hb dX12_summedUp_311 (by decide) ?_
                      exact b312 v_values v_truth x3 x4 x5 x6 x7 (x6 - (1 : Int32)) (0 : Int32) _ _ _ hf hP hD hS (lv_sub hl [2, 3, 4, 5, 6, 7] rfl)
                  · refine lv_iinc (v := (x6 + (-1 : Int32))) (lv' := [(6, .int (x6 + (-1 : Int32))), (9, .int v78), (8, .int v62), (0, .ref h), (3, .int x3), (4, .int x4), (5, .int x5), (7, .int x7)]) hx hb dX12_summedUp_316 hl (k := 6) rfl rfl (by decide) rfl (fun ls hl => ?_)
                    refine lv_aload_n hx hb dX12_summedUp_319 rfl (lv_at hl 3 rfl) ?_
                    refine gfX12_39 hx hb hts hown hK hP 0 rfl rfl dX12_summedUp_320 ?_
                    refine lv_iload hx hb dX12_summedUp_323 (lv_at hl 0 rfl) ?_
                    refine lv_iconst (v := (1 : Int32)) hx hb dX12_summedUp_325 (by decide) ?_
                    refine lv_isub hx hb dX12_summedUp_326 ?_
                    refine lv_iload hx hb dX12_summedUp_327 (lv_at hl 2 rfl) ?_
                    refine lv_aload_n hx hb dX12_summedUp_329 rfl (lv_at hl 3 rfl) ?_
                    refine gfX12_39 hx hb hts hown hK hP 0 rfl rfl dX12_summedUp_330 ?_
                    refine lv_iload hx hb dX12_summedUp_333 (lv_at hl 0 rfl) ?_
                    refine lv_iconst (v := (1 : Int32)) hx hb dX12_summedUp_335 (by decide) ?_
                    refine lv_isub hx hb dX12_summedUp_336 ?_
                    refine xzald hx hb hK hP 8 2 rfl rfl dX12_summedUp_337 hf (fun v337 hf => ?_)
                    refine lv_aload_n hx hb dX12_summedUp_338 rfl (lv_at hl 3 rfl) ?_
                    refine gfX12_39 hx hb hts hown hK hP 0 rfl rfl dX12_summedUp_339 ?_
                    refine lv_iload hx hb dX12_summedUp_342 (lv_at hl 0 rfl) ?_
                    refine xzald hx hb hK hP 8 2 rfl rfl dX12_summedUp_344 hf (fun v344 hf => ?_)
                    obtain ⟨r345, hg345, hf⟩ := ob1_some hf
                    refine mcS0_i (As := [.int v62, .int v337, .int v344]) (rest := [.int ((x6 + (-1 : Int32)) - (1 : Int32)), .ref (q 7)]) hx hb hml hown hts hK hP hD hS hA (k_X12_joined l N D cI cJ cZ cB cT v62 v337 v344 r345 hg345) (kwX12_287 hts rfl rfl ⟨Nat.le_of_ble_eq_true rfl, Nat.le_of_ble_eq_true rfl⟩) rfl hl.1 rfl (Nat.le_of_ble_eq_true rfl) dX12_summedUp_345 ⟨Nat.zero_le _, Nat.zero_le _⟩ (fun hB345 H locs hP hD hS => ?_)
                    refine xzast hx hb hK hP hD hS 8 2 rfl rfl dX12_summedUp_348 hf (fun v_truth_348 hf H locs hP hD hS => ?_)
                    have hP : va_P D vwCl (WM h q cI cJ cZ v_a v_image v_texts v_tape v_taped v_fault v_faultPlace v_at v_place v_token v_number v_word v_text0 v_written v_sort0 v_pile v_piled v_opens v_isWhole v_once v_named v_values v_truth_348 v_isWritten v_died v_aside v_likely v_safe v_headOf) H := hP
                    have hD : va_D A (WM h q cI cJ cZ v_a v_image v_texts v_tape v_taped v_fault v_faultPlace v_at v_place v_token v_number v_word v_text0 v_written v_sort0 v_pile v_piled v_opens v_isWhole v_once v_named v_values v_truth_348 v_isWritten v_died v_aside v_likely v_safe v_headOf) := hD
                    exact b349 v_values v_truth_348 x3 x4 x5 (x6 + (-1 : Int32)) x7 _ _ _ hf hP hD hS (lv_sub hl [3, 4, 5, 6, 0, 7] rfl)
                · refine lv_iinc (v := (x5 + (-2 : Int32))) (lv' := [(5, .int (x5 + (-2 : Int32))), (9, .int v78), (8, .int v62), (0, .ref h), (3, .int x3), (4, .int x4), (6, .int x6), (7, .int x7)]) hx hb dX12_summedUp_243 hl (k := 5) rfl rfl (by decide) rfl (fun ls hl => ?_)
                  refine lv_aload_n hx hb dX12_summedUp_246 rfl (lv_at hl 3 rfl) ?_
                  refine gfX12_39 hx hb hts hown hK hP 0 rfl rfl dX12_summedUp_247 ?_
                  refine lv_iload hx hb dX12_summedUp_250 (lv_at hl 6 rfl) ?_
                  refine lv_iload hx hb dX12_summedUp_252 (lv_at hl 2 rfl) ?_
                  refine lv_aload_n hx hb dX12_summedUp_254 rfl (lv_at hl 3 rfl) ?_
                  refine gfX12_35 hx hb hts hown hK hP 0 rfl rfl dX12_summedUp_255 ?_
                  refine lv_iload hx hb dX12_summedUp_258 (lv_at hl 0 rfl) ?_
                  refine xlald hx hb hK hP 7 1 rfl rfl dX12_summedUp_260 hf (fun v260 hf => ?_)
                  refine lv_aload_n hx hb dX12_summedUp_261 rfl (lv_at hl 3 rfl) ?_
                  refine gfX12_35 hx hb hts hown hK hP 0 rfl rfl dX12_summedUp_262 ?_
                  refine lv_iload hx hb dX12_summedUp_265 (lv_at hl 0 rfl) ?_
                  refine lv_iconst (v := (1 : Int32)) hx hb dX12_summedUp_267 (by decide) ?_
                  refine lv_iadd hx hb dX12_summedUp_268 ?_
                  refine xlald hx hb hK hP 7 1 rfl rfl dX12_summedUp_269 hf (fun v269 hf => ?_)
                  obtain ⟨r270, hg270, hf⟩ := ob1_some hf
                  refine mcS0_i (As := [.int v62, .long v260, .long v269]) (rest := [.int x6, .ref (q 7)]) hx hb hml hown hts hK hP hD hS hA (k_X12_isAsked l N D cI cJ cZ cB cT v62 v260 v269 r270 hg270) (kwX12_283 hts rfl rfl ⟨Nat.le_of_ble_eq_true rfl, Nat.le_of_ble_eq_true rfl⟩) rfl hl.1 rfl (Nat.le_of_ble_eq_true rfl) dX12_summedUp_270 ⟨Nat.zero_le _, Nat.zero_le _⟩ (fun hB270 H locs hP hD hS => ?_)
                  refine xzast hx hb hK hP hD hS 8 2 rfl rfl dX12_summedUp_273 hf (fun v_truth_273 hf H locs hP hD hS => ?_)
                  have hP : va_P D vwCl (WM h q cI cJ cZ v_a v_image v_texts v_tape v_taped v_fault v_faultPlace v_at v_place v_token v_number v_word v_text0 v_written v_sort0 v_pile v_piled v_opens v_isWhole v_once v_named v_values v_truth_273 v_isWritten v_died v_aside v_likely v_safe v_headOf) H := hP
                  have hD : va_D A (WM h q cI cJ cZ v_a v_image v_texts v_tape v_taped v_fault v_faultPlace v_at v_place v_token v_number v_word v_text0 v_written v_sort0 v_pile v_piled v_opens v_isWhole v_once v_named v_values v_truth_273 v_isWritten v_died v_aside v_likely v_safe v_headOf) := hD
                  refine lv_iinc (v := (x6 + (1 : Int32))) (lv' := [(6, .int (x6 + (1 : Int32))), (5, .int (x5 + (-2 : Int32))), (9, .int v78), (8, .int v62), (0, .ref h), (3, .int x3), (4, .int x4), (7, .int x7)]) hx hb dX12_summedUp_274 hl (k := 6) rfl rfl (by decide) rfl (fun ls hl => ?_)
                  refine lv_goto (tgt := 349) hx hb dX12_summedUp_277 (by decide) ?_
                  exact b349 v_values v_truth_273 x3 x4 (x5 + (-2 : Int32)) (x6 + (1 : Int32)) x7 _ _ _ hf hP hD hS (lv_sub hl [4, 5, 6, 1, 0, 7] rfl)
              · refine lv_iinc (v := (x5 + (-1 : Int32))) (lv' := [(5, .int (x5 + (-1 : Int32))), (9, .int v78), (8, .int v62), (0, .ref h), (3, .int x3), (4, .int x4), (6, .int x6), (7, .int x7)]) hx hb dX12_summedUp_200 hl (k := 5) rfl rfl (by decide) rfl (fun ls hl => ?_)
                refine lv_aload_n hx hb dX12_summedUp_203 rfl (lv_at hl 3 rfl) ?_
                refine gfX12_35 hx hb hts hown hK hP 0 rfl rfl dX12_summedUp_204 ?_
                refine lv_iload hx hb dX12_summedUp_207 (lv_at hl 0 rfl) ?_
                refine lv_iconst (v := (1 : Int32)) hx hb dX12_summedUp_209 (by decide) ?_
                refine lv_isub hx hb dX12_summedUp_210 ?_
                refine lv_iload hx hb dX12_summedUp_211 (lv_at hl 2 rfl) ?_
                refine lv_aload_n hx hb dX12_summedUp_213 rfl (lv_at hl 3 rfl) ?_
                refine gfX12_35 hx hb hts hown hK hP 0 rfl rfl dX12_summedUp_214 ?_
                refine lv_iload hx hb dX12_summedUp_217 (lv_at hl 0 rfl) ?_
                refine lv_iconst (v := (1 : Int32)) hx hb dX12_summedUp_219 (by decide) ?_
                refine lv_isub hx hb dX12_summedUp_220 ?_
                refine xlald hx hb hK hP 7 1 rfl rfl dX12_summedUp_221 hf (fun v221 hf => ?_)
                refine lv_aload_n hx hb dX12_summedUp_222 rfl (lv_at hl 3 rfl) ?_
                refine gfX12_35 hx hb hts hown hK hP 0 rfl rfl dX12_summedUp_223 ?_
                refine lv_iload hx hb dX12_summedUp_226 (lv_at hl 0 rfl) ?_
                refine xlald hx hb hK hP 7 1 rfl rfl dX12_summedUp_228 hf (fun v228 hf => ?_)
                obtain ⟨r229, hg229, hf⟩ := ob1_some hf
                refine mcS0_l (As := [.int v62, .long v221, .long v228]) (rest := [.int ((x5 + (-1 : Int32)) - (1 : Int32)), .ref (q 6)]) hx hb hml hown hts hK hP hD hS hA (k_X12_two l N D cI cJ cZ cB cT v62 v221 v228 r229 hg229) (kwX12_279 hts rfl rfl ⟨Nat.le_of_ble_eq_true rfl, Nat.le_of_ble_eq_true rfl⟩) rfl hl.1 rfl (Nat.le_of_ble_eq_true rfl) dX12_summedUp_229 ⟨Nat.zero_le _, Nat.zero_le _⟩ (fun H locs hP hD hS => ?_)
                refine xlast hx hb hK hP hD hS 7 1 rfl rfl dX12_summedUp_232 hf (fun v_values_232 hf H locs hP hD hS => ?_)
                have hP : va_P D vwCl (WM h q cI cJ cZ v_a v_image v_texts v_tape v_taped v_fault v_faultPlace v_at v_place v_token v_number v_word v_text0 v_written v_sort0 v_pile v_piled v_opens v_isWhole v_once v_named v_values_232 v_truth v_isWritten v_died v_aside v_likely v_safe v_headOf) H := hP
                have hD : va_D A (WM h q cI cJ cZ v_a v_image v_texts v_tape v_taped v_fault v_faultPlace v_at v_place v_token v_number v_word v_text0 v_written v_sort0 v_pile v_piled v_opens v_isWhole v_once v_named v_values_232 v_truth v_isWritten v_died v_aside v_likely v_safe v_headOf) := hD
                refine lv_goto (tgt := 349) hx hb dX12_summedUp_233 (by decide) ?_
                exact b349 v_values_232 v_truth x3 x4 (x5 + (-1 : Int32)) x6 x7 _ _ _ hf hP hD hS (lv_sub hl [3, 4, 5, 0, 6, 7] rfl)
            · refine lv_aload_n hx hb dX12_summedUp_166 rfl (lv_at hl 2 rfl) ?_
              refine gfX12_35 hx hb hts hown hK hP 0 rfl rfl dX12_summedUp_167 ?_
              refine lv_iload hx hb dX12_summedUp_170 (lv_at hl 5 rfl) ?_
              refine lv_iconst (v := (1 : Int32)) hx hb dX12_summedUp_172 (by decide) ?_
              refine lv_isub hx hb dX12_summedUp_173 ?_
              refine lv_aload_n hx hb dX12_summedUp_174 rfl (lv_at hl 2 rfl) ?_
              refine lv_iload hx hb dX12_summedUp_175 (lv_at hl 1 rfl) ?_
              refine lv_aload_n hx hb dX12_summedUp_177 rfl (lv_at hl 2 rfl) ?_
              refine gfX12_35 hx hb hts hown hK hP 0 rfl rfl dX12_summedUp_178 ?_
              refine lv_iload hx hb dX12_summedUp_181 (lv_at hl 5 rfl) ?_
              refine lv_iconst (v := (1 : Int32)) hx hb dX12_summedUp_183 (by decide) ?_
              refine lv_isub hx hb dX12_summedUp_184 ?_
              refine xlald hx hb hK hP 7 1 rfl rfl dX12_summedUp_185 hf (fun v185 hf => ?_)
              obtain ⟨r186, hg186, hf⟩ := ob1_some hf
              refine mcV1_l (As := [.int v62, .long v185]) (rest := [.int (x5 - (1 : Int32)), .ref (q 6)]) hx hb hml hown hts hK hP hD hS hA (k_X12_prefixed l N D cI cJ cZ cB cT h q v_a v_image v_texts v_tape v_taped v_fault v_faultPlace v_at v_place v_token v_number v_word v_text0 v_written v_sort0 v_pile v_piled v_opens v_isWhole v_once v_named v_values v_truth v_isWritten v_died v_aside v_likely v_safe v_headOf v62 v185 r186 hg186) (kwX12_275 hts rfl rfl ⟨Nat.le_of_ble_eq_true rfl, Nat.le_of_ble_eq_true rfl⟩) 0 rfl rfl rfl rfl hl.1 rfl (Nat.le_of_ble_eq_true rfl) dX12_summedUp_186 ⟨Nat.zero_le _, Nat.zero_le _⟩ (fun H locs hP hD hS => ?_)
              have hP : va_P D vwCl (WM h q cI cJ cZ v_a v_image v_texts v_tape v_taped v_fault v_faultPlace v_at v_place v_token v_number v_word v_text0 v_written v_sort0 v_pile v_piled v_opens v_isWhole v_once v_named v_values v_truth v_isWritten v_died v_aside v_likely v_safe v_headOf) H := hP
              have hD : va_D A (WM h q cI cJ cZ v_a v_image v_texts v_tape v_taped v_fault v_faultPlace v_at v_place v_token v_number v_word v_text0 v_written v_sort0 v_pile v_piled v_opens v_isWhole v_once v_named v_values v_truth v_isWritten v_died v_aside v_likely v_safe v_headOf) := hD
              refine xlast hx hb hK hP hD hS 7 1 rfl rfl dX12_summedUp_189 hf (fun v_values_189 hf H locs hP hD hS => ?_)
              have hP : va_P D vwCl (WM h q cI cJ cZ v_a v_image v_texts v_tape v_taped v_fault v_faultPlace v_at v_place v_token v_number v_word v_text0 v_written v_sort0 v_pile v_piled v_opens v_isWhole v_once v_named v_values_189 v_truth v_isWritten v_died v_aside v_likely v_safe v_headOf) H := hP
              have hD : va_D A (WM h q cI cJ cZ v_a v_image v_texts v_tape v_taped v_fault v_faultPlace v_at v_place v_token v_number v_word v_text0 v_written v_sort0 v_pile v_piled v_opens v_isWhole v_once v_named v_values_189 v_truth v_isWritten v_died v_aside v_likely v_safe v_headOf) := hD
              refine lv_goto (tgt := 349) hx hb dX12_summedUp_190 (by decide) ?_
              exact b349 v_values_189 v_truth x3 x4 x5 x6 x7 _ _ _ hf hP hD hS (lv_sub hl [2, 3, 4, 5, 6, 7] rfl)
        · refine lv_aload_n hx hb dX12_summedUp_87 rfl (lv_at hl 2 rfl) ?_
          refine gfX12_35 hx hb hts hown hK hP 0 rfl rfl dX12_summedUp_88 ?_
          refine lv_iload hx hb dX12_summedUp_91 (lv_at hl 5 rfl) ?_
          refine lv_iload hx hb dX12_summedUp_93 (lv_at hl 1 rfl) ?_
          refine xif_ne hx hb 104 dX12_summedUp_95 (by decide) hf (fun hf => ?_) (fun hf => ?_)
          · refine lv_iload hx hb dX12_summedUp_98 (lv_at hl 0 rfl) ?_
            refine lv_i2l hx hb dX12_summedUp_100 rfl ?_
            refine lv_goto (tgt := 112) hx hb dX12_summedUp_101 (by decide) ?_
            exact b112 v_values v_truth x3 x4 x5 x6 x7 x5 v78.toInt64 _ _ _ hf hP hD hS (lv_sub hl [2, 3, 4, 5, 6, 7] rfl)
          · refine lv_aload_n hx hb dX12_summedUp_104 rfl (lv_at hl 2 rfl) ?_
            refine gfX12_32 hx hb hts hown hK hP 0 rfl rfl dX12_summedUp_105 ?_
            refine lv_iload hx hb dX12_summedUp_108 (lv_at hl 0 rfl) ?_
            refine xiald hx hb hK hP 6 0 rfl rfl dX12_summedUp_110 hf (fun v110 hf => ?_)
            refine lv_i2l hx hb dX12_summedUp_111 rfl ?_
            exact b112 v_values v_truth x3 x4 x5 x6 x7 x5 v110.toInt64 _ _ _ hf hP hD hS (lv_sub hl [2, 3, 4, 5, 6, 7] rfl)
  unfold f_X12_summedUp at hf
  refine lv_sipush (v := (729 : Int32)) hx hb dX12_summedUp_0 (by decide) ?_
  refine lv_iload_n hx hb dX12_summedUp_3 rfl (lv_at hl 1 rfl) ?_
  refine lv_imul hx hb dX12_summedUp_4 ?_
  refine lv_iconst (v := (1 : Int32)) hx hb dX12_summedUp_5 (by decide) ?_
  refine lv_iadd hx hb dX12_summedUp_6 ?_
  refine lv_iconst (v := (5 : Int32)) hx hb dX12_summedUp_7 (by decide) ?_
  refine lv_iload_n hx hb dX12_summedUp_8 rfl (lv_at hl 2 rfl) ?_
  refine lv_imul hx hb dX12_summedUp_9 ?_
  refine lv_iadd hx hb dX12_summedUp_10 ?_
  refine lv_istore_n (lv' := [(3, .int ((((729 : Int32) * p1) + (1 : Int32)) + ((5 : Int32) * p2))), (0, .ref h), (1, .int p1), (2, .int p2)]) hx hb dX12_summedUp_11 rfl hl (by decide) rfl (fun ls hl => ?_)
  refine lv_sipush (v := (729 : Int32)) hx hb dX12_summedUp_12 (by decide) ?_
  refine lv_iload_n hx hb dX12_summedUp_15 rfl (lv_at hl 2 rfl) ?_
  refine lv_imul hx hb dX12_summedUp_16 ?_
  refine lv_bipush (v := (121 : Int32)) hx hb dX12_summedUp_17 (by decide) ?_
  refine lv_iadd hx hb dX12_summedUp_19 ?_
  refine lv_istore (lv' := [(4, .int (((729 : Int32) * p1) + (121 : Int32))), (3, .int ((((729 : Int32) * p1) + (1 : Int32)) + ((5 : Int32) * p2))), (0, .ref h), (1, .int p1), (2, .int p2)]) hx hb dX12_summedUp_20 hl (by decide) rfl (fun ls hl => ?_)
  refine lv_iconst (v := (0 : Int32)) hx hb dX12_summedUp_22 (by decide) ?_
  refine lv_istore (lv' := [(5, .int (0 : Int32)), (4, .int (((729 : Int32) * p1) + (121 : Int32))), (3, .int ((((729 : Int32) * p1) + (1 : Int32)) + ((5 : Int32) * p2))), (0, .ref h), (1, .int p1), (2, .int p2)]) hx hb dX12_summedUp_23 hl (by decide) rfl (fun ls hl => ?_)
  refine lv_iconst (v := (0 : Int32)) hx hb dX12_summedUp_25 (by decide) ?_
  refine lv_istore (lv' := [(6, .int (0 : Int32)), (5, .int (0 : Int32)), (4, .int (((729 : Int32) * p1) + (121 : Int32))), (3, .int ((((729 : Int32) * p1) + (1 : Int32)) + ((5 : Int32) * p2))), (0, .ref h), (1, .int p1), (2, .int p2)]) hx hb dX12_summedUp_26 hl (by decide) rfl (fun ls hl => ?_)
  refine lv_aload_n hx hb dX12_summedUp_28 rfl (lv_at hl 4 rfl) ?_
  refine gfX12_16 hx hb hts hown hK hP 0 rfl rfl dX12_summedUp_29 ?_
  refine lv_iload_n hx hb dX12_summedUp_32 rfl (lv_at hl 3 rfl) ?_
  refine lv_iconst (v := (1 : Int32)) hx hb dX12_summedUp_33 (by decide) ?_
  refine lv_iadd hx hb dX12_summedUp_34 ?_
  refine xiald hx hb hK hP 3 0 rfl rfl dX12_summedUp_35 hf (fun v35 hf => ?_)
  refine lv_istore (lv' := [(7, .int v35), (6, .int (0 : Int32)), (5, .int (0 : Int32)), (4, .int (((729 : Int32) * p1) + (121 : Int32))), (3, .int ((((729 : Int32) * p1) + (1 : Int32)) + ((5 : Int32) * p2))), (0, .ref h), (1, .int p1), (2, .int p2)]) hx hb dX12_summedUp_36 hl (by decide) rfl (fun ls hl => ?_)
  exact b38 N v_values v_truth ((((729 : Int32) * p1) + (1 : Int32)) + ((5 : Int32) * p2)) (((729 : Int32) * p1) + (121 : Int32)) (0 : Int32) (0 : Int32) v35 _ _ _ hf hP hD hS (lv_sub hl [5, 4, 3, 2, 1, 0] rfl)
theorem dX12_says_0 : decode cX12_says 0 = .ok (.iconst 0, 1) := by decide +kernel
theorem dX12_says_1 : decode cX12_says 1 = .ok (.istore 5, 2) := by decide +kernel
theorem dX12_says_3 : decode cX12_says 3 = .ok (.iload_n 1, 1) := by decide +kernel
theorem dX12_says_4 : decode cX12_says 4 = .ok (.ifCond .lt 59, 3) := by decide +kernel
theorem dX12_says_7 : decode cX12_says 7 = .ok (.iload 5, 2) := by decide +kernel
theorem dX12_says_9 : decode cX12_says 9 = .ok (.aload_n 0, 1) := by decide +kernel
theorem dX12_says_10 : decode cX12_says 10 = .ok (.getfield 16, 3) := by decide +kernel
theorem dX12_says_13 : decode cX12_says 13 = .ok (.sipush 729, 3) := by decide +kernel
theorem dX12_says_16 : decode cX12_says 16 = .ok (.iload_n 1, 1) := by decide +kernel
theorem dX12_says_17 : decode cX12_says 17 = .ok (.imul, 1) := by decide +kernel
theorem dX12_says_18 : decode cX12_says 18 = .ok (.iaload, 1) := by decide +kernel
theorem dX12_says_19 : decode cX12_says 19 = .ok (.if_icmp .ge 44, 3) := by decide +kernel
theorem dX12_says_22 : decode cX12_says 22 = .ok (.aload_n 0, 1) := by decide +kernel
theorem dX12_says_23 : decode cX12_says 23 = .ok (.getfield 16, 3) := by decide +kernel
theorem dX12_says_26 : decode cX12_says 26 = .ok (.sipush 729, 3) := by decide +kernel
theorem dX12_says_29 : decode cX12_says 29 = .ok (.iload_n 1, 1) := by decide +kernel
theorem dX12_says_30 : decode cX12_says 30 = .ok (.imul, 1) := by decide +kernel
theorem dX12_says_31 : decode cX12_says 31 = .ok (.iconst 1, 1) := by decide +kernel
theorem dX12_says_32 : decode cX12_says 32 = .ok (.iadd, 1) := by decide +kernel
theorem dX12_says_33 : decode cX12_says 33 = .ok (.iconst 5, 1) := by decide +kernel
theorem dX12_says_34 : decode cX12_says 34 = .ok (.iload 5, 2) := by decide +kernel
theorem dX12_says_36 : decode cX12_says 36 = .ok (.imul, 1) := by decide +kernel
theorem dX12_says_37 : decode cX12_says 37 = .ok (.iadd, 1) := by decide +kernel
theorem dX12_says_38 : decode cX12_says 38 = .ok (.iaload, 1) := by decide +kernel
theorem dX12_says_39 : decode cX12_says 39 = .ok (.iload_n 2, 1) := by decide +kernel
theorem dX12_says_40 : decode cX12_says 40 = .ok (.if_icmp .ne 17, 3) := by decide +kernel
theorem dX12_says_43 : decode cX12_says 43 = .ok (.aload_n 0, 1) := by decide +kernel
theorem dX12_says_44 : decode cX12_says 44 = .ok (.iload_n 1, 1) := by decide +kernel
theorem dX12_says_45 : decode cX12_says 45 = .ok (.iload 5, 2) := by decide +kernel
theorem dX12_says_47 : decode cX12_says 47 = .ok (.invokevirtual 291, 3) := by decide +kernel
theorem dX12_says_50 : decode cX12_says 50 = .ok (.iconst 0, 1) := by decide +kernel
theorem dX12_says_51 : decode cX12_says 51 = .ok (.iload 4, 2) := by decide +kernel
theorem dX12_says_53 : decode cX12_says 53 = .ok (.invokestatic 294, 3) := by decide +kernel
theorem dX12_says_56 : decode cX12_says 56 = .ok (.ireturn, 1) := by decide +kernel
theorem dX12_says_57 : decode cX12_says 57 = .ok (.iinc 5 1, 3) := by decide +kernel
theorem dX12_says_60 : decode cX12_says 60 = .ok (.goto (-57), 3) := by decide +kernel
theorem dX12_says_63 : decode cX12_says 63 = .ok (.iload_n 3, 1) := by decide +kernel
theorem dX12_says_64 : decode cX12_says 64 = .ok (.i2l, 1) := by decide +kernel
theorem dX12_says_65 : decode cX12_says 65 = .ok (.iconst 0, 1) := by decide +kernel
theorem dX12_says_66 : decode cX12_says 66 = .ok (.iload 4, 2) := by decide +kernel
theorem dX12_says_68 : decode cX12_says 68 = .ok (.invokestatic 294, 3) := by decide +kernel
theorem dX12_says_71 : decode cX12_says 71 = .ok (.ireturn, 1) := by decide +kernel
def f_X12_says_63 (N : Nat) (v_a : Nat → Int32) (v_texts : Nat → Int32) (v_named : Nat → Int32) (v_values : Nat → Int64) (v_truth : Nat → Int32) (x3 : Int32) (x4 : Int32) : Option (Int32 × (Nat → Int64) × (Nat → Int32)) := ob1 (f_X12_cut N x3.toInt64 (0 : Int32) x4) fun r68 => some (r68, v_values, v_truth)
def f_X12_says_3 (N : Nat) : Nat → (Nat → Int32) → (Nat → Int32) → (Nat → Int32) → (Nat → Int64) → (Nat → Int32) → Int32 → Int32 → Int32 → Int32 → Int32 → Option (Int32 × (Nat → Int64) × (Nat → Int32))
  | 0, _, _, _, _, _, _, _, _, _, _ => none
  | n + 1, v_a, v_texts, v_named, v_values, v_truth, x1, x2, x3, x4, x5 => if x1 < 0 then (f_X12_says_63 N v_a v_texts v_named v_values v_truth x3 x4) else (gA v_texts 2916 ((729 : Int32) * x1) fun v18 => if v18 ≤ x5 then (f_X12_says_63 N v_a v_texts v_named v_values v_truth x3 x4) else (gA v_texts 2916 ((((729 : Int32) * x1) + (1 : Int32)) + ((5 : Int32) * x5)) fun v38 => if v38 = x2 then (ob3 (f_X12_summedUp N v_a v_texts v_named v_values v_truth x1 x5) fun r47 v_values_47 v_truth_47 => ob1 (f_X12_cut N r47 (0 : Int32) x4) fun r53 => some (r53, v_values_47, v_truth_47)) else ((f_X12_says_3 N n) v_a v_texts v_named v_values v_truth x1 x2 x3 x4 (x5 + (1 : Int32)))))
def f_X12_says (N : Nat) (v_a : Nat → Int32) (v_texts : Nat → Int32) (v_named : Nat → Int32) (v_values : Nat → Int64) (v_truth : Nat → Int32) (p1 : Int32) (p2 : Int32) (p3 : Int32) (p4 : Int32) : Option (Int32 × (Nat → Int64) × (Nat → Int32)) := f_X12_says_3 N N v_a v_texts v_named v_values v_truth p1 p2 p3 p4 (0 : Int32)
set_option maxHeartbeats 4000000 in
set_option maxRecDepth 100000 in
theorem k_X12_says (l : Launch) (N : Nat) (D : va_G) (cI cJ cZ cB cT : ClassId) (h : Nat) (q : Nat → Nat) (v_a : Nat → Int32) (v_image : Nat → Int32) (v_texts : Nat → Int32) (v_tape : Nat → Int32) (v_taped : Int32) (v_fault : Int32) (v_faultPlace : Int32) (v_at : Int32) (v_place : Int32) (v_token : Int32) (v_number : Int32) (v_word : Int64) (v_text0 : Int32) (v_written : Int32) (v_sort0 : Int32) (v_pile : Nat → Int32) (v_piled : Int32) (v_opens : Int32) (v_isWhole : Int32) (v_once : Int32) (v_named : Nat → Int32) (v_values : Nat → Int64) (v_truth : Nat → Int32) (v_isWritten : Int32) (v_died : Int32) (v_aside : Nat → Int32) (v_likely : Nat → Int32) (v_safe : Nat → Int32) (v_headOf : Nat → Int32) (p1 : Int32) (p2 : Int32) (p3 : Int32) (p4 : Int32) (o_r : Int32) (o_v_values : Nat → Int64) (o_v_truth : Nat → Int32) (hf : f_X12_says N v_a v_texts v_named v_values v_truth p1 p2 p3 p4 = some (o_r, o_v_values, o_v_truth)) : ∀ sz, Met l yX12_says (mw yX12_says cX12_says 6 (some .int)) ({ frames := 4, cells := 0, slots := 0, locals := 96 } : Room) (mPre D (mT cI cJ cZ cB cT) (WM h q cI cJ cZ v_a v_image v_texts v_tape v_taped v_fault v_faultPlace v_at v_place v_token v_number v_word v_text0 v_written v_sort0 v_pile v_piled v_opens v_isWhole v_once v_named v_values v_truth v_isWritten v_died v_aside v_likely v_safe v_headOf) sz [.ref h, .int p1, .int p2, .int p3, .int p4]) ((mQi D (WM h q cI cJ cZ v_a v_image v_texts v_tape v_taped v_fault v_faultPlace v_at v_place v_token v_number v_word v_text0 v_written v_sort0 v_pile v_piled v_opens v_isWhole v_once v_named o_v_values o_v_truth v_isWritten v_died v_aside v_likely v_safe v_headOf) o_r True) (va_A (WM h q cI cJ cZ v_a v_image v_texts v_tape v_taped v_fault v_faultPlace v_at v_place v_token v_number v_word v_text0 v_written v_sort0 v_pile v_piled v_opens v_isWhole v_once v_named v_values v_truth v_isWritten v_died v_aside v_likely v_safe v_headOf) sz)) 0 0 (va_A (WM h q cI cJ cZ v_a v_image v_texts v_tape v_taped v_fault v_faultPlace v_at v_place v_token v_number v_word v_text0 v_written v_sort0 v_pile v_piled v_opens v_isWhole v_once v_named v_values v_truth v_isWritten v_died v_aside v_likely v_safe v_headOf) sz) := by
  refine mMet (Qc := (mQi D (WM h q cI cJ cZ v_a v_image v_texts v_tape v_taped v_fault v_faultPlace v_at v_place v_token v_number v_word v_text0 v_written v_sort0 v_pile v_piled v_opens v_isWhole v_once v_named o_v_values o_v_truth v_isWritten v_died v_aside v_likely v_safe v_headOf) o_r True)) (by decide) (Nat.le_of_ble_eq_true rfl) (fun p e s m below meth c A ls hx hb hr hml hts hown hlocks hK hA hP hD hl => ?_)
  have hown : s.vm.findClass RX12 = some m.cls := hown
  have hl : lv_has ls 6 [(0, .ref h), (1, .int p1), (2, .int p2), (3, .int p3), (4, .int p4)] := hl
  have hS : va_S A s.heap s.heap [] := va_S.rf
  have b63 : ∀ (v_values : Nat → Int64) (v_truth : Nat → Int32) (x3 : Int32) (x4 : Int32) (H : Heap) (locs : List Loc) (ls : Array Slot), f_X12_says_63 N v_a v_texts v_named v_values v_truth x3 x4 = some (o_r, o_v_values, o_v_truth) → va_P D vwCl (WM h q cI cJ cZ v_a v_image v_texts v_tape v_taped v_fault v_faultPlace v_at v_place v_token v_number v_word v_text0 v_written v_sort0 v_pile v_piled v_opens v_isWhole v_once v_named v_values v_truth v_isWritten v_died v_aside v_likely v_safe v_headOf) H → va_D A (WM h q cI cJ cZ v_a v_image v_texts v_tape v_taped v_fault v_faultPlace v_at v_place v_token v_number v_word v_text0 v_written v_sort0 v_pile v_piled v_opens v_isWhole v_once v_named v_values v_truth v_isWritten v_died v_aside v_likely v_safe v_headOf) → va_S A s.heap H locs → lv_has ls 6 [(3, .int x3), (4, .int x4)] → W p l e ({ frames := 4, cells := 0, slots := 0, locals := 96 } : Room) s m ([.ref h, .int p1, .int p2, .int p3, .int p4] : List Value).toArray below meth c H locs 0 0 (MQ below ((mQi D (WM h q cI cJ cZ v_a v_image v_texts v_tape v_taped v_fault v_faultPlace v_at v_place v_token v_number v_word v_text0 v_written v_sort0 v_pile v_piled v_opens v_isWhole v_once v_named o_v_values o_v_truth v_isWritten v_died v_aside v_likely v_safe v_headOf) o_r True) A) ([.ref h, .int p1, .int p2, .int p3, .int p4] : List Value).toArray s 0 0 A) (F0 m 63 ls []) := by
    intro v_values v_truth x3 x4 H locs ls hf hP hD hS hl
    unfold f_X12_says_63 at hf
    refine lv_iload_n hx hb dX12_says_63 rfl (lv_at hl 0 rfl) ?_
    refine lv_i2l hx hb dX12_says_64 rfl ?_
    refine lv_iconst (v := (0 : Int32)) hx hb dX12_says_65 (by decide) ?_
    refine lv_iload hx hb dX12_says_66 (lv_at hl 1 rfl) ?_
    obtain ⟨r68, hg68, hf⟩ := ob1_some hf
    refine mcS0_i (As := [.long x3.toInt64, .int (0 : Int32), .int x4]) (rest := []) hx hb hml hown hts hK hP hD hS hA (k_X12_cut l N D cI cJ cZ cB cT x3.toInt64 (0 : Int32) x4 r68 hg68) (kwX12_294 hts rfl rfl ⟨Nat.le_of_ble_eq_true rfl, Nat.le_of_ble_eq_true rfl⟩) rfl hl.1 rfl (Nat.le_of_ble_eq_true rfl) dX12_says_68 ⟨Nat.zero_le _, Nat.zero_le _⟩ (fun hB68 H locs hP hD hS => ?_)
    cases hf
    exact mret_i hx hb hr hlocks hP hD hS dX12_says_71 rfl trivial
  have b3 : ∀ n3 : Nat, ∀ (v_values : Nat → Int64) (v_truth : Nat → Int32) (x1 : Int32) (x2 : Int32) (x3 : Int32) (x4 : Int32) (x5 : Int32) (H : Heap) (locs : List Loc) (ls : Array Slot), f_X12_says_3 N n3 v_a v_texts v_named v_values v_truth x1 x2 x3 x4 x5 = some (o_r, o_v_values, o_v_truth) → va_P D vwCl (WM h q cI cJ cZ v_a v_image v_texts v_tape v_taped v_fault v_faultPlace v_at v_place v_token v_number v_word v_text0 v_written v_sort0 v_pile v_piled v_opens v_isWhole v_once v_named v_values v_truth v_isWritten v_died v_aside v_likely v_safe v_headOf) H → va_D A (WM h q cI cJ cZ v_a v_image v_texts v_tape v_taped v_fault v_faultPlace v_at v_place v_token v_number v_word v_text0 v_written v_sort0 v_pile v_piled v_opens v_isWhole v_once v_named v_values v_truth v_isWritten v_died v_aside v_likely v_safe v_headOf) → va_S A s.heap H locs → lv_has ls 6 [(0, .ref h), (1, .int x1), (2, .int x2), (3, .int x3), (4, .int x4), (5, .int x5)] → W p l e ({ frames := 4, cells := 0, slots := 0, locals := 96 } : Room) s m ([.ref h, .int p1, .int p2, .int p3, .int p4] : List Value).toArray below meth c H locs 0 0 (MQ below ((mQi D (WM h q cI cJ cZ v_a v_image v_texts v_tape v_taped v_fault v_faultPlace v_at v_place v_token v_number v_word v_text0 v_written v_sort0 v_pile v_piled v_opens v_isWhole v_once v_named o_v_values o_v_truth v_isWritten v_died v_aside v_likely v_safe v_headOf) o_r True) A) ([.ref h, .int p1, .int p2, .int p3, .int p4] : List Value).toArray s 0 0 A) (F0 m 3 ls []) := by
    intro n3
    induction n3 with
    | zero =>
      intro v_values v_truth x1 x2 x3 x4 x5 H locs ls hf hP hD hS hl
      simp [f_X12_says_3] at hf
    | succ n3 ih3 =>
      intro v_values v_truth x1 x2 x3 x4 x5 H locs ls hf hP hD hS hl
      rw [f_X12_says_3.eq_2] at hf
      refine lv_iload_n hx hb dX12_says_3 rfl (lv_at hl 1 rfl) ?_
      refine xif_lt hx hb 63 dX12_says_4 (by decide) hf (fun hf => ?_) (fun hf => ?_)
      · exact b63 v_values v_truth x3 x4 _ _ _ hf hP hD hS (lv_sub hl [3, 4] rfl)
      · refine lv_iload hx hb dX12_says_7 (lv_at hl 5 rfl) ?_
        refine lv_aload_n hx hb dX12_says_9 rfl (lv_at hl 0 rfl) ?_
        refine gfX12_16 hx hb hts hown hK hP 0 rfl rfl dX12_says_10 ?_
        refine lv_sipush (v := (729 : Int32)) hx hb dX12_says_13 (by decide) ?_
        refine lv_iload_n hx hb dX12_says_16 rfl (lv_at hl 1 rfl) ?_
        refine lv_imul hx hb dX12_says_17 ?_
        refine xiald hx hb hK hP 3 0 rfl rfl dX12_says_18 hf (fun v18 hf => ?_)
        refine xicmp_ge hx hb 63 dX12_says_19 (by decide) hf (fun hf => ?_) (fun hf => ?_)
        · exact b63 v_values v_truth x3 x4 _ _ _ hf hP hD hS (lv_sub hl [3, 4] rfl)
        · refine lv_aload_n hx hb dX12_says_22 rfl (lv_at hl 0 rfl) ?_
          refine gfX12_16 hx hb hts hown hK hP 0 rfl rfl dX12_says_23 ?_
          refine lv_sipush (v := (729 : Int32)) hx hb dX12_says_26 (by decide) ?_
          refine lv_iload_n hx hb dX12_says_29 rfl (lv_at hl 1 rfl) ?_
          refine lv_imul hx hb dX12_says_30 ?_
          refine lv_iconst (v := (1 : Int32)) hx hb dX12_says_31 (by decide) ?_
          refine lv_iadd hx hb dX12_says_32 ?_
          refine lv_iconst (v := (5 : Int32)) hx hb dX12_says_33 (by decide) ?_
          refine lv_iload hx hb dX12_says_34 (lv_at hl 5 rfl) ?_
          refine lv_imul hx hb dX12_says_36 ?_
          refine lv_iadd hx hb dX12_says_37 ?_
          refine xiald hx hb hK hP 3 0 rfl rfl dX12_says_38 hf (fun v38 hf => ?_)
          refine lv_iload_n hx hb dX12_says_39 rfl (lv_at hl 2 rfl) ?_
          refine xicmp_ne hx hb 57 dX12_says_40 (by decide) hf (fun hf => ?_) (fun hf => ?_)
          · refine lv_aload_n hx hb dX12_says_43 rfl (lv_at hl 0 rfl) ?_
            refine lv_iload_n hx hb dX12_says_44 rfl (lv_at hl 1 rfl) ?_
            refine lv_iload hx hb dX12_says_45 (lv_at hl 5 rfl) ?_
            obtain ⟨r47, v_values_47, v_truth_47, hg47, hf⟩ := ob3_some hf
            refine mcV1_l (As := [.int x1, .int x5]) (rest := []) hx hb hml hown hts hK hP hD hS hA (k_X12_summedUp l N D cI cJ cZ cB cT h q v_a v_image v_texts v_tape v_taped v_fault v_faultPlace v_at v_place v_token v_number v_word v_text0 v_written v_sort0 v_pile v_piled v_opens v_isWhole v_once v_named v_values v_truth v_isWritten v_died v_aside v_likely v_safe v_headOf x1 x5 r47 v_values_47 v_truth_47 hg47) (kwX12_291 hts rfl rfl ⟨Nat.le_of_ble_eq_true rfl, Nat.le_of_ble_eq_true rfl⟩) 0 rfl rfl rfl rfl hl.1 rfl (Nat.le_of_ble_eq_true rfl) dX12_says_47 ⟨Nat.zero_le _, Nat.zero_le _⟩ (fun H locs hP hD hS => ?_)
            have hP : va_P D vwCl (WM h q cI cJ cZ v_a v_image v_texts v_tape v_taped v_fault v_faultPlace v_at v_place v_token v_number v_word v_text0 v_written v_sort0 v_pile v_piled v_opens v_isWhole v_once v_named v_values_47 v_truth_47 v_isWritten v_died v_aside v_likely v_safe v_headOf) H := hP
            have hD : va_D A (WM h q cI cJ cZ v_a v_image v_texts v_tape v_taped v_fault v_faultPlace v_at v_place v_token v_number v_word v_text0 v_written v_sort0 v_pile v_piled v_opens v_isWhole v_once v_named v_values_47 v_truth_47 v_isWritten v_died v_aside v_likely v_safe v_headOf) := hD
            refine lv_iconst (v := (0 : Int32)) hx hb dX12_says_50 (by decide) ?_
            refine lv_iload hx hb dX12_says_51 (lv_at hl 4 rfl) ?_
            obtain ⟨r53, hg53, hf⟩ := ob1_some hf
            refine mcS0_i (As := [.long r47, .int (0 : Int32), .int x4]) (rest := []) hx hb hml hown hts hK hP hD hS hA (k_X12_cut l N D cI cJ cZ cB cT r47 (0 : Int32) x4 r53 hg53) (kwX12_294 hts rfl rfl ⟨Nat.le_of_ble_eq_true rfl, Nat.le_of_ble_eq_true rfl⟩) rfl hl.1 rfl (Nat.le_of_ble_eq_true rfl) dX12_says_53 ⟨Nat.zero_le _, Nat.zero_le _⟩ (fun hB53 H locs hP hD hS => ?_)
            cases hf
            exact mret_i hx hb hr hlocks hP hD hS dX12_says_56 rfl trivial
          · refine lv_iinc (v := (x5 + (1 : Int32))) (lv' := [(5, .int (x5 + (1 : Int32))), (0, .ref h), (1, .int x1), (2, .int x2), (3, .int x3), (4, .int x4)]) hx hb dX12_says_57 hl (k := 5) rfl rfl (by decide) rfl (fun ls hl => ?_)
            refine lv_goto (tgt := 3) hx hb dX12_says_60 (by decide) ?_
            exact ih3 v_values v_truth x1 x2 x3 x4 (x5 + (1 : Int32)) _ _ _ hf hP hD hS (lv_sub hl [1, 2, 3, 4, 5, 0] rfl)
  unfold f_X12_says at hf
  refine lv_iconst (v := (0 : Int32)) hx hb dX12_says_0 (by decide) ?_
  refine lv_istore (lv' := [(5, .int (0 : Int32)), (0, .ref h), (1, .int p1), (2, .int p2), (3, .int p3), (4, .int p4)]) hx hb dX12_says_1 hl (by decide) rfl (fun ls hl => ?_)
  exact b3 N v_values v_truth p1 p2 p3 p4 (0 : Int32) _ _ _ hf hP hD hS (lv_sub hl [1, 2, 3, 4, 5, 0] rfl)
theorem dX12_crowdOf_0 : decode cX12_crowdOf 0 = .ok (.iconst 0, 1) := by decide +kernel
theorem dX12_crowdOf_1 : decode cX12_crowdOf 1 = .ok (.istore_n 3, 1) := by decide +kernel
theorem dX12_crowdOf_2 : decode cX12_crowdOf 2 = .ok (.iconst 0, 1) := by decide +kernel
theorem dX12_crowdOf_3 : decode cX12_crowdOf 3 = .ok (.istore 4, 2) := by decide +kernel
theorem dX12_crowdOf_5 : decode cX12_crowdOf 5 = .ok (.iload 4, 2) := by decide +kernel
theorem dX12_crowdOf_7 : decode cX12_crowdOf 7 = .ok (.aload_n 0, 1) := by decide +kernel
theorem dX12_crowdOf_8 : decode cX12_crowdOf 8 = .ok (.getfield 7, 3) := by decide +kernel
theorem dX12_crowdOf_11 : decode cX12_crowdOf 11 = .ok (.iconst 1, 1) := by decide +kernel
theorem dX12_crowdOf_12 : decode cX12_crowdOf 12 = .ok (.iaload, 1) := by decide +kernel
theorem dX12_crowdOf_13 : decode cX12_crowdOf 13 = .ok (.if_icmp .ge 46, 3) := by decide +kernel
theorem dX12_crowdOf_16 : decode cX12_crowdOf 16 = .ok (.iload_n 3, 1) := by decide +kernel
theorem dX12_crowdOf_17 : decode cX12_crowdOf 17 = .ok (.iload 4, 2) := by decide +kernel
theorem dX12_crowdOf_19 : decode cX12_crowdOf 19 = .ok (.iload_n 1, 1) := by decide +kernel
theorem dX12_crowdOf_20 : decode cX12_crowdOf 20 = .ok (.if_icmp .eq 30, 3) := by decide +kernel
theorem dX12_crowdOf_23 : decode cX12_crowdOf 23 = .ok (.aload_n 0, 1) := by decide +kernel
theorem dX12_crowdOf_24 : decode cX12_crowdOf 24 = .ok (.iload 4, 2) := by decide +kernel
theorem dX12_crowdOf_26 : decode cX12_crowdOf 26 = .ok (.bipush 6, 2) := by decide +kernel
theorem dX12_crowdOf_28 : decode cX12_crowdOf 28 = .ok (.invokevirtual 71, 3) := by decide +kernel
theorem dX12_crowdOf_31 : decode cX12_crowdOf 31 = .ok (.iconst 3, 1) := by decide +kernel
theorem dX12_crowdOf_32 : decode cX12_crowdOf 32 = .ok (.if_icmp .eq 18, 3) := by decide +kernel
theorem dX12_crowdOf_35 : decode cX12_crowdOf 35 = .ok (.aload_n 0, 1) := by decide +kernel
theorem dX12_crowdOf_36 : decode cX12_crowdOf 36 = .ok (.iload 4, 2) := by decide +kernel
theorem dX12_crowdOf_38 : decode cX12_crowdOf 38 = .ok (.iconst 0, 1) := by decide +kernel
theorem dX12_crowdOf_39 : decode cX12_crowdOf 39 = .ok (.invokevirtual 71, 3) := by decide +kernel
theorem dX12_crowdOf_42 : decode cX12_crowdOf 42 = .ok (.iload_n 2, 1) := by decide +kernel
theorem dX12_crowdOf_43 : decode cX12_crowdOf 43 = .ok (.if_icmp .ne 7, 3) := by decide +kernel
theorem dX12_crowdOf_46 : decode cX12_crowdOf 46 = .ok (.iconst 1, 1) := by decide +kernel
theorem dX12_crowdOf_47 : decode cX12_crowdOf 47 = .ok (.goto 4, 3) := by decide +kernel
theorem dX12_crowdOf_50 : decode cX12_crowdOf 50 = .ok (.iconst 0, 1) := by decide +kernel
theorem dX12_crowdOf_51 : decode cX12_crowdOf 51 = .ok (.iadd, 1) := by decide +kernel
theorem dX12_crowdOf_52 : decode cX12_crowdOf 52 = .ok (.istore_n 3, 1) := by decide +kernel
theorem dX12_crowdOf_53 : decode cX12_crowdOf 53 = .ok (.iinc 4 1, 3) := by decide +kernel
theorem dX12_crowdOf_56 : decode cX12_crowdOf 56 = .ok (.goto (-51), 3) := by decide +kernel
theorem dX12_crowdOf_59 : decode cX12_crowdOf 59 = .ok (.iload_n 3, 1) := by decide +kernel
theorem dX12_crowdOf_60 : decode cX12_crowdOf 60 = .ok (.ireturn, 1) := by decide +kernel
def f_X12_crowdOf_51 (N : Nat) (k_5 : (Nat → Int32) → Int32 → Int32 → Int32 → Int32 → Option (Int32)) (v_a : Nat → Int32) (x1 : Int32) (x2 : Int32) (x4 : Int32) (s0 : Int32) (s1 : Int32) : Option (Int32) := k_5 v_a x1 x2 (s0 + s1) (x4 + (1 : Int32))
def f_X12_crowdOf_50 (N : Nat) (k_5 : (Nat → Int32) → Int32 → Int32 → Int32 → Int32 → Option (Int32)) (v_a : Nat → Int32) (x1 : Int32) (x2 : Int32) (x4 : Int32) (s0 : Int32) : Option (Int32) := f_X12_crowdOf_51 N k_5 v_a x1 x2 x4 s0 (0 : Int32)
def f_X12_crowdOf_5 (N : Nat) : Nat → (Nat → Int32) → Int32 → Int32 → Int32 → Int32 → Option (Int32)
  | 0, _, _, _, _, _ => none
  | n + 1, v_a, x1, x2, x3, x4 => gA v_a 8762 (1 : Int32) fun v12 => if v12 ≤ x4 then (some x3) else (if x4 = x1 then (f_X12_crowdOf_50 N (f_X12_crowdOf_5 N n) v_a x1 x2 x4 x3) else (ob1 (f_X12_get N v_a x4 (6 : Int32)) fun r28 => if r28 = (3 : Int32) then (f_X12_crowdOf_50 N (f_X12_crowdOf_5 N n) v_a x1 x2 x4 x3) else (ob1 (f_X12_get N v_a x4 (0 : Int32)) fun r39 => if r39 = x2 then (f_X12_crowdOf_51 N (f_X12_crowdOf_5 N n) v_a x1 x2 x4 x3 (1 : Int32)) else (f_X12_crowdOf_50 N (f_X12_crowdOf_5 N n) v_a x1 x2 x4 x3))))
def f_X12_crowdOf (N : Nat) (v_a : Nat → Int32) (p1 : Int32) (p2 : Int32) : Option (Int32) := f_X12_crowdOf_5 N N v_a p1 p2 (0 : Int32) (0 : Int32)
set_option maxHeartbeats 4000000 in
set_option maxRecDepth 100000 in
theorem k_X12_crowdOf (l : Launch) (N : Nat) (D : va_G) (cI cJ cZ cB cT : ClassId) (h : Nat) (q : Nat → Nat) (v_a : Nat → Int32) (v_image : Nat → Int32) (v_texts : Nat → Int32) (v_tape : Nat → Int32) (v_taped : Int32) (v_fault : Int32) (v_faultPlace : Int32) (v_at : Int32) (v_place : Int32) (v_token : Int32) (v_number : Int32) (v_word : Int64) (v_text0 : Int32) (v_written : Int32) (v_sort0 : Int32) (v_pile : Nat → Int32) (v_piled : Int32) (v_opens : Int32) (v_isWhole : Int32) (v_once : Int32) (v_named : Nat → Int32) (v_values : Nat → Int64) (v_truth : Nat → Int32) (v_isWritten : Int32) (v_died : Int32) (v_aside : Nat → Int32) (v_likely : Nat → Int32) (v_safe : Nat → Int32) (v_headOf : Nat → Int32) (p1 : Int32) (p2 : Int32) (o_r : Int32) (hf : f_X12_crowdOf N v_a p1 p2 = some o_r) : ∀ sz, Met l yX12_crowdOf (mw yX12_crowdOf cX12_crowdOf 5 (some .int)) ({ frames := 1, cells := 0, slots := 0, locals := 22 } : Room) (mPre D (mT cI cJ cZ cB cT) (WM h q cI cJ cZ v_a v_image v_texts v_tape v_taped v_fault v_faultPlace v_at v_place v_token v_number v_word v_text0 v_written v_sort0 v_pile v_piled v_opens v_isWhole v_once v_named v_values v_truth v_isWritten v_died v_aside v_likely v_safe v_headOf) sz [.ref h, .int p1, .int p2]) ((mQi D (WM h q cI cJ cZ v_a v_image v_texts v_tape v_taped v_fault v_faultPlace v_at v_place v_token v_number v_word v_text0 v_written v_sort0 v_pile v_piled v_opens v_isWhole v_once v_named v_values v_truth v_isWritten v_died v_aside v_likely v_safe v_headOf) o_r True) (va_A (WM h q cI cJ cZ v_a v_image v_texts v_tape v_taped v_fault v_faultPlace v_at v_place v_token v_number v_word v_text0 v_written v_sort0 v_pile v_piled v_opens v_isWhole v_once v_named v_values v_truth v_isWritten v_died v_aside v_likely v_safe v_headOf) sz)) 0 0 (va_A (WM h q cI cJ cZ v_a v_image v_texts v_tape v_taped v_fault v_faultPlace v_at v_place v_token v_number v_word v_text0 v_written v_sort0 v_pile v_piled v_opens v_isWhole v_once v_named v_values v_truth v_isWritten v_died v_aside v_likely v_safe v_headOf) sz) := by
  refine mMet (Qc := (mQi D (WM h q cI cJ cZ v_a v_image v_texts v_tape v_taped v_fault v_faultPlace v_at v_place v_token v_number v_word v_text0 v_written v_sort0 v_pile v_piled v_opens v_isWhole v_once v_named v_values v_truth v_isWritten v_died v_aside v_likely v_safe v_headOf) o_r True)) (by decide) (Nat.le_of_ble_eq_true rfl) (fun p e s m below meth c A ls hx hb hr hml hts hown hlocks hK hA hP hD hl => ?_)
  have hown : s.vm.findClass RX12 = some m.cls := hown
  have hl : lv_has ls 5 [(0, .ref h), (1, .int p1), (2, .int p2)] := hl
  have hS : va_S A s.heap s.heap [] := va_S.rf
  have b5 : ∀ n5 : Nat, ∀ (x1 : Int32) (x2 : Int32) (x3 : Int32) (x4 : Int32) (H : Heap) (locs : List Loc) (ls : Array Slot), f_X12_crowdOf_5 N n5 v_a x1 x2 x3 x4 = some o_r → va_P D vwCl (WM h q cI cJ cZ v_a v_image v_texts v_tape v_taped v_fault v_faultPlace v_at v_place v_token v_number v_word v_text0 v_written v_sort0 v_pile v_piled v_opens v_isWhole v_once v_named v_values v_truth v_isWritten v_died v_aside v_likely v_safe v_headOf) H → va_D A (WM h q cI cJ cZ v_a v_image v_texts v_tape v_taped v_fault v_faultPlace v_at v_place v_token v_number v_word v_text0 v_written v_sort0 v_pile v_piled v_opens v_isWhole v_once v_named v_values v_truth v_isWritten v_died v_aside v_likely v_safe v_headOf) → va_S A s.heap H locs → lv_has ls 5 [(0, .ref h), (1, .int x1), (2, .int x2), (3, .int x3), (4, .int x4)] → W p l e ({ frames := 1, cells := 0, slots := 0, locals := 22 } : Room) s m ([.ref h, .int p1, .int p2] : List Value).toArray below meth c H locs 0 0 (MQ below ((mQi D (WM h q cI cJ cZ v_a v_image v_texts v_tape v_taped v_fault v_faultPlace v_at v_place v_token v_number v_word v_text0 v_written v_sort0 v_pile v_piled v_opens v_isWhole v_once v_named v_values v_truth v_isWritten v_died v_aside v_likely v_safe v_headOf) o_r True) A) ([.ref h, .int p1, .int p2] : List Value).toArray s 0 0 A) (F0 m 5 ls []) := by
    intro n5
    induction n5 with
    | zero =>
      intro x1 x2 x3 x4 H locs ls hf hP hD hS hl
      simp [f_X12_crowdOf_5] at hf
    | succ n5 ih5 =>
      have b51 : ∀ (x1 : Int32) (x2 : Int32) (x4 : Int32) (s0 : Int32) (s1 : Int32) (H : Heap) (locs : List Loc) (ls : Array Slot), f_X12_crowdOf_51 N (f_X12_crowdOf_5 N n5) v_a x1 x2 x4 s0 s1 = some o_r → va_P D vwCl (WM h q cI cJ cZ v_a v_image v_texts v_tape v_taped v_fault v_faultPlace v_at v_place v_token v_number v_word v_text0 v_written v_sort0 v_pile v_piled v_opens v_isWhole v_once v_named v_values v_truth v_isWritten v_died v_aside v_likely v_safe v_headOf) H → va_D A (WM h q cI cJ cZ v_a v_image v_texts v_tape v_taped v_fault v_faultPlace v_at v_place v_token v_number v_word v_text0 v_written v_sort0 v_pile v_piled v_opens v_isWhole v_once v_named v_values v_truth v_isWritten v_died v_aside v_likely v_safe v_headOf) → va_S A s.heap H locs → lv_has ls 5 [(0, .ref h), (1, .int x1), (2, .int x2), (4, .int x4)] → W p l e ({ frames := 1, cells := 0, slots := 0, locals := 22 } : Room) s m ([.ref h, .int p1, .int p2] : List Value).toArray below meth c H locs 0 0 (MQ below ((mQi D (WM h q cI cJ cZ v_a v_image v_texts v_tape v_taped v_fault v_faultPlace v_at v_place v_token v_number v_word v_text0 v_written v_sort0 v_pile v_piled v_opens v_isWhole v_once v_named v_values v_truth v_isWritten v_died v_aside v_likely v_safe v_headOf) o_r True) A) ([.ref h, .int p1, .int p2] : List Value).toArray s 0 0 A) (F0 m 51 ls [.int s1, .int s0]) := by
        intro x1 x2 x4 s0 s1 H locs ls hf hP hD hS hl
        unfold f_X12_crowdOf_51 at hf
        refine lv_iadd hx hb dX12_crowdOf_51 ?_
        refine lv_istore_n (lv' := [(3, .int (s0 + s1)), (0, .ref h), (1, .int x1), (2, .int x2), (4, .int x4)]) hx hb dX12_crowdOf_52 rfl hl (by decide) rfl (fun ls hl => ?_)
        refine lv_iinc (v := (x4 + (1 : Int32))) (lv' := [(4, .int (x4 + (1 : Int32))), (3, .int (s0 + s1)), (0, .ref h), (1, .int x1), (2, .int x2)]) hx hb dX12_crowdOf_53 hl (k := 4) rfl rfl (by decide) rfl (fun ls hl => ?_)
        refine lv_goto (tgt := 5) hx hb dX12_crowdOf_56 (by decide) ?_
        exact ih5 x1 x2 (s0 + s1) (x4 + (1 : Int32)) _ _ _ hf hP hD hS (lv_sub hl [2, 3, 4, 1, 0] rfl)
      have b50 : ∀ (x1 : Int32) (x2 : Int32) (x4 : Int32) (s0 : Int32) (H : Heap) (locs : List Loc) (ls : Array Slot), f_X12_crowdOf_50 N (f_X12_crowdOf_5 N n5) v_a x1 x2 x4 s0 = some o_r → va_P D vwCl (WM h q cI cJ cZ v_a v_image v_texts v_tape v_taped v_fault v_faultPlace v_at v_place v_token v_number v_word v_text0 v_written v_sort0 v_pile v_piled v_opens v_isWhole v_once v_named v_values v_truth v_isWritten v_died v_aside v_likely v_safe v_headOf) H → va_D A (WM h q cI cJ cZ v_a v_image v_texts v_tape v_taped v_fault v_faultPlace v_at v_place v_token v_number v_word v_text0 v_written v_sort0 v_pile v_piled v_opens v_isWhole v_once v_named v_values v_truth v_isWritten v_died v_aside v_likely v_safe v_headOf) → va_S A s.heap H locs → lv_has ls 5 [(0, .ref h), (1, .int x1), (2, .int x2), (4, .int x4)] → W p l e ({ frames := 1, cells := 0, slots := 0, locals := 22 } : Room) s m ([.ref h, .int p1, .int p2] : List Value).toArray below meth c H locs 0 0 (MQ below ((mQi D (WM h q cI cJ cZ v_a v_image v_texts v_tape v_taped v_fault v_faultPlace v_at v_place v_token v_number v_word v_text0 v_written v_sort0 v_pile v_piled v_opens v_isWhole v_once v_named v_values v_truth v_isWritten v_died v_aside v_likely v_safe v_headOf) o_r True) A) ([.ref h, .int p1, .int p2] : List Value).toArray s 0 0 A) (F0 m 50 ls [.int s0]) := by
        intro x1 x2 x4 s0 H locs ls hf hP hD hS hl
        unfold f_X12_crowdOf_50 at hf
        refine lv_iconst (v := (0 : Int32)) hx hb dX12_crowdOf_50 (by decide) ?_
        exact b51 x1 x2 x4 s0 (0 : Int32) _ _ _ hf hP hD hS (lv_sub hl [0, 1, 2, 3] rfl)
      intro x1 x2 x3 x4 H locs ls hf hP hD hS hl
      rw [f_X12_crowdOf_5.eq_2] at hf
      refine lv_iload hx hb dX12_crowdOf_5 (lv_at hl 4 rfl) ?_
      refine lv_aload_n hx hb dX12_crowdOf_7 rfl (lv_at hl 0 rfl) ?_
      refine gfX12_7 hx hb hts hown hK hP 0 rfl rfl dX12_crowdOf_8 ?_
      refine lv_iconst (v := (1 : Int32)) hx hb dX12_crowdOf_11 (by decide) ?_
      refine xiald hx hb hK hP 1 0 rfl rfl dX12_crowdOf_12 hf (fun v12 hf => ?_)
      refine xicmp_ge hx hb 59 dX12_crowdOf_13 (by decide) hf (fun hf => ?_) (fun hf => ?_)
      · refine lv_iload_n hx hb dX12_crowdOf_59 rfl (lv_at hl 3 rfl) ?_
        cases hf
        exact mret_i hx hb hr hlocks hP hD hS dX12_crowdOf_60 rfl trivial
      · refine lv_iload_n hx hb dX12_crowdOf_16 rfl (lv_at hl 3 rfl) ?_
        refine lv_iload hx hb dX12_crowdOf_17 (lv_at hl 4 rfl) ?_
        refine lv_iload_n hx hb dX12_crowdOf_19 rfl (lv_at hl 1 rfl) ?_
        refine xicmp_eq hx hb 50 dX12_crowdOf_20 (by decide) hf (fun hf => ?_) (fun hf => ?_)
        · exact b50 x1 x2 x4 x3 _ _ _ hf hP hD hS (lv_sub hl [0, 1, 2, 4] rfl)
        · refine lv_aload_n hx hb dX12_crowdOf_23 rfl (lv_at hl 0 rfl) ?_
          refine lv_iload hx hb dX12_crowdOf_24 (lv_at hl 4 rfl) ?_
          refine lv_bipush (v := (6 : Int32)) hx hb dX12_crowdOf_26 (by decide) ?_
          obtain ⟨r28, hg28, hf⟩ := ob1_some hf
          refine mcV1_i (As := [.int x4, .int (6 : Int32)]) (rest := [.int x3]) hx hb hml hown hts hK hP hD hS hA (k_X12_get l N D cI cJ cZ cB cT h q v_a v_image v_texts v_tape v_taped v_fault v_faultPlace v_at v_place v_token v_number v_word v_text0 v_written v_sort0 v_pile v_piled v_opens v_isWhole v_once v_named v_values v_truth v_isWritten v_died v_aside v_likely v_safe v_headOf x4 (6 : Int32) r28 hg28) (kwX12_71 hts rfl rfl ⟨Nat.le_of_ble_eq_true rfl, Nat.le_of_ble_eq_true rfl⟩) 0 rfl rfl rfl rfl hl.1 rfl (Nat.le_of_ble_eq_true rfl) dX12_crowdOf_28 ⟨Nat.zero_le _, Nat.zero_le _⟩ (fun hB28 H locs hP hD hS => ?_)
          have hP : va_P D vwCl (WM h q cI cJ cZ v_a v_image v_texts v_tape v_taped v_fault v_faultPlace v_at v_place v_token v_number v_word v_text0 v_written v_sort0 v_pile v_piled v_opens v_isWhole v_once v_named v_values v_truth v_isWritten v_died v_aside v_likely v_safe v_headOf) H := hP
          have hD : va_D A (WM h q cI cJ cZ v_a v_image v_texts v_tape v_taped v_fault v_faultPlace v_at v_place v_token v_number v_word v_text0 v_written v_sort0 v_pile v_piled v_opens v_isWhole v_once v_named v_values v_truth v_isWritten v_died v_aside v_likely v_safe v_headOf) := hD
          refine lv_iconst (v := (3 : Int32)) hx hb dX12_crowdOf_31 (by decide) ?_
          refine xicmp_eq hx hb 50 dX12_crowdOf_32 (by decide) hf (fun hf => ?_) (fun hf => ?_)
          · exact b50 x1 x2 x4 x3 _ _ _ hf hP hD hS (lv_sub hl [0, 1, 2, 4] rfl)
          · refine lv_aload_n hx hb dX12_crowdOf_35 rfl (lv_at hl 0 rfl) ?_
            refine lv_iload hx hb dX12_crowdOf_36 (lv_at hl 4 rfl) ?_
            refine lv_iconst (v := (0 : Int32)) hx hb dX12_crowdOf_38 (by decide) ?_
            obtain ⟨r39, hg39, hf⟩ := ob1_some hf
            refine mcV1_i (As := [.int x4, .int (0 : Int32)]) (rest := [.int x3]) hx hb hml hown hts hK hP hD hS hA (k_X12_get l N D cI cJ cZ cB cT h q v_a v_image v_texts v_tape v_taped v_fault v_faultPlace v_at v_place v_token v_number v_word v_text0 v_written v_sort0 v_pile v_piled v_opens v_isWhole v_once v_named v_values v_truth v_isWritten v_died v_aside v_likely v_safe v_headOf x4 (0 : Int32) r39 hg39) (kwX12_71 hts rfl rfl ⟨Nat.le_of_ble_eq_true rfl, Nat.le_of_ble_eq_true rfl⟩) 0 rfl rfl rfl rfl hl.1 rfl (Nat.le_of_ble_eq_true rfl) dX12_crowdOf_39 ⟨Nat.zero_le _, Nat.zero_le _⟩ (fun hB39 H locs hP hD hS => ?_)
            have hP : va_P D vwCl (WM h q cI cJ cZ v_a v_image v_texts v_tape v_taped v_fault v_faultPlace v_at v_place v_token v_number v_word v_text0 v_written v_sort0 v_pile v_piled v_opens v_isWhole v_once v_named v_values v_truth v_isWritten v_died v_aside v_likely v_safe v_headOf) H := hP
            have hD : va_D A (WM h q cI cJ cZ v_a v_image v_texts v_tape v_taped v_fault v_faultPlace v_at v_place v_token v_number v_word v_text0 v_written v_sort0 v_pile v_piled v_opens v_isWhole v_once v_named v_values v_truth v_isWritten v_died v_aside v_likely v_safe v_headOf) := hD
            refine lv_iload_n hx hb dX12_crowdOf_42 rfl (lv_at hl 2 rfl) ?_
            refine xicmp_ne hx hb 50 dX12_crowdOf_43 (by decide) hf (fun hf => ?_) (fun hf => ?_)
            · refine lv_iconst (v := (1 : Int32)) hx hb dX12_crowdOf_46 (by decide) ?_
              refine lv_goto (tgt := 51) hx hb dX12_crowdOf_47 (by decide) ?_
              exact b51 x1 x2 x4 x3 (1 : Int32) _ _ _ hf hP hD hS (lv_sub hl [0, 1, 2, 4] rfl)
            · exact b50 x1 x2 x4 x3 _ _ _ hf hP hD hS (lv_sub hl [0, 1, 2, 4] rfl)
  unfold f_X12_crowdOf at hf
  refine lv_iconst (v := (0 : Int32)) hx hb dX12_crowdOf_0 (by decide) ?_
  refine lv_istore_n (lv' := [(3, .int (0 : Int32)), (0, .ref h), (1, .int p1), (2, .int p2)]) hx hb dX12_crowdOf_1 rfl hl (by decide) rfl (fun ls hl => ?_)
  refine lv_iconst (v := (0 : Int32)) hx hb dX12_crowdOf_2 (by decide) ?_
  refine lv_istore (lv' := [(4, .int (0 : Int32)), (3, .int (0 : Int32)), (0, .ref h), (1, .int p1), (2, .int p2)]) hx hb dX12_crowdOf_3 hl (by decide) rfl (fun ls hl => ?_)
  exact b5 N p1 p2 (0 : Int32) (0 : Int32) _ _ _ hf hP hD hS (lv_sub hl [2, 3, 4, 1, 0] rfl)
theorem dX12_nameIn_0 : decode cX12_nameIn 0 = .ok (.aload_n 0, 1) := by decide +kernel
theorem dX12_nameIn_1 : decode cX12_nameIn 1 = .ok (.getfield 32, 3) := by decide +kernel
theorem dX12_nameIn_4 : decode cX12_nameIn 4 = .ok (.iconst 0, 1) := by decide +kernel
theorem dX12_nameIn_5 : decode cX12_nameIn 5 = .ok (.aload_n 0, 1) := by decide +kernel
theorem dX12_nameIn_6 : decode cX12_nameIn 6 = .ok (.getfield 7, 3) := by decide +kernel
theorem dX12_nameIn_9 : decode cX12_nameIn 9 = .ok (.bipush 10, 2) := by decide +kernel
theorem dX12_nameIn_11 : decode cX12_nameIn 11 = .ok (.iaload, 1) := by decide +kernel
theorem dX12_nameIn_12 : decode cX12_nameIn 12 = .ok (.iastore, 1) := by decide +kernel
theorem dX12_nameIn_13 : decode cX12_nameIn 13 = .ok (.aload_n 0, 1) := by decide +kernel
theorem dX12_nameIn_14 : decode cX12_nameIn 14 = .ok (.getfield 32, 3) := by decide +kernel
theorem dX12_nameIn_17 : decode cX12_nameIn 17 = .ok (.iconst 1, 1) := by decide +kernel
theorem dX12_nameIn_18 : decode cX12_nameIn 18 = .ok (.iload_n 1, 1) := by decide +kernel
theorem dX12_nameIn_19 : decode cX12_nameIn 19 = .ok (.iastore, 1) := by decide +kernel
theorem dX12_nameIn_20 : decode cX12_nameIn 20 = .ok (.aload_n 0, 1) := by decide +kernel
theorem dX12_nameIn_21 : decode cX12_nameIn 21 = .ok (.getfield 32, 3) := by decide +kernel
theorem dX12_nameIn_24 : decode cX12_nameIn 24 = .ok (.iconst 2, 1) := by decide +kernel
theorem dX12_nameIn_25 : decode cX12_nameIn 25 = .ok (.aload_n 0, 1) := by decide +kernel
theorem dX12_nameIn_26 : decode cX12_nameIn 26 = .ok (.iload_n 1, 1) := by decide +kernel
theorem dX12_nameIn_27 : decode cX12_nameIn 27 = .ok (.bipush 7, 2) := by decide +kernel
theorem dX12_nameIn_29 : decode cX12_nameIn 29 = .ok (.invokevirtual 71, 3) := by decide +kernel
theorem dX12_nameIn_32 : decode cX12_nameIn 32 = .ok (.iastore, 1) := by decide +kernel
theorem dX12_nameIn_33 : decode cX12_nameIn 33 = .ok (.aload_n 0, 1) := by decide +kernel
theorem dX12_nameIn_34 : decode cX12_nameIn 34 = .ok (.getfield 32, 3) := by decide +kernel
theorem dX12_nameIn_37 : decode cX12_nameIn 37 = .ok (.iconst 3, 1) := by decide +kernel
theorem dX12_nameIn_38 : decode cX12_nameIn 38 = .ok (.iload_n 2, 1) := by decide +kernel
theorem dX12_nameIn_39 : decode cX12_nameIn 39 = .ok (.iastore, 1) := by decide +kernel
theorem dX12_nameIn_40 : decode cX12_nameIn 40 = .ok (.aload_n 0, 1) := by decide +kernel
theorem dX12_nameIn_41 : decode cX12_nameIn 41 = .ok (.getfield 32, 3) := by decide +kernel
theorem dX12_nameIn_44 : decode cX12_nameIn 44 = .ok (.iconst 4, 1) := by decide +kernel
theorem dX12_nameIn_45 : decode cX12_nameIn 45 = .ok (.aload_n 0, 1) := by decide +kernel
theorem dX12_nameIn_46 : decode cX12_nameIn 46 = .ok (.getfield 7, 3) := by decide +kernel
theorem dX12_nameIn_49 : decode cX12_nameIn 49 = .ok (.bipush 80, 2) := by decide +kernel
theorem dX12_nameIn_51 : decode cX12_nameIn 51 = .ok (.iload_n 2, 1) := by decide +kernel
theorem dX12_nameIn_52 : decode cX12_nameIn 52 = .ok (.iadd, 1) := by decide +kernel
theorem dX12_nameIn_53 : decode cX12_nameIn 53 = .ok (.iaload, 1) := by decide +kernel
theorem dX12_nameIn_54 : decode cX12_nameIn 54 = .ok (.iastore, 1) := by decide +kernel
theorem dX12_nameIn_55 : decode cX12_nameIn 55 = .ok (.aload_n 0, 1) := by decide +kernel
theorem dX12_nameIn_56 : decode cX12_nameIn 56 = .ok (.getfield 32, 3) := by decide +kernel
theorem dX12_nameIn_59 : decode cX12_nameIn 59 = .ok (.iconst 5, 1) := by decide +kernel
theorem dX12_nameIn_60 : decode cX12_nameIn 60 = .ok (.aload_n 0, 1) := by decide +kernel
theorem dX12_nameIn_61 : decode cX12_nameIn 61 = .ok (.iload_n 1, 1) := by decide +kernel
theorem dX12_nameIn_62 : decode cX12_nameIn 62 = .ok (.iconst 4, 1) := by decide +kernel
theorem dX12_nameIn_63 : decode cX12_nameIn 63 = .ok (.invokevirtual 71, 3) := by decide +kernel
theorem dX12_nameIn_66 : decode cX12_nameIn 66 = .ok (.iastore, 1) := by decide +kernel
theorem dX12_nameIn_67 : decode cX12_nameIn 67 = .ok (.aload_n 0, 1) := by decide +kernel
theorem dX12_nameIn_68 : decode cX12_nameIn 68 = .ok (.getfield 32, 3) := by decide +kernel
theorem dX12_nameIn_71 : decode cX12_nameIn 71 = .ok (.bipush 6, 2) := by decide +kernel
theorem dX12_nameIn_73 : decode cX12_nameIn 73 = .ok (.aload_n 0, 1) := by decide +kernel
theorem dX12_nameIn_74 : decode cX12_nameIn 74 = .ok (.iload_n 1, 1) := by decide +kernel
theorem dX12_nameIn_75 : decode cX12_nameIn 75 = .ok (.iconst 5, 1) := by decide +kernel
theorem dX12_nameIn_76 : decode cX12_nameIn 76 = .ok (.invokevirtual 71, 3) := by decide +kernel
theorem dX12_nameIn_79 : decode cX12_nameIn 79 = .ok (.iastore, 1) := by decide +kernel
theorem dX12_nameIn_80 : decode cX12_nameIn 80 = .ok (.aload_n 0, 1) := by decide +kernel
theorem dX12_nameIn_81 : decode cX12_nameIn 81 = .ok (.getfield 32, 3) := by decide +kernel
theorem dX12_nameIn_84 : decode cX12_nameIn 84 = .ok (.bipush 7, 2) := by decide +kernel
theorem dX12_nameIn_86 : decode cX12_nameIn 86 = .ok (.aload_n 0, 1) := by decide +kernel
theorem dX12_nameIn_87 : decode cX12_nameIn 87 = .ok (.iload_n 1, 1) := by decide +kernel
theorem dX12_nameIn_88 : decode cX12_nameIn 88 = .ok (.iconst 1, 1) := by decide +kernel
theorem dX12_nameIn_89 : decode cX12_nameIn 89 = .ok (.invokevirtual 71, 3) := by decide +kernel
theorem dX12_nameIn_92 : decode cX12_nameIn 92 = .ok (.iastore, 1) := by decide +kernel
theorem dX12_nameIn_93 : decode cX12_nameIn 93 = .ok (.aload_n 0, 1) := by decide +kernel
theorem dX12_nameIn_94 : decode cX12_nameIn 94 = .ok (.getfield 32, 3) := by decide +kernel
theorem dX12_nameIn_97 : decode cX12_nameIn 97 = .ok (.bipush 8, 2) := by decide +kernel
theorem dX12_nameIn_99 : decode cX12_nameIn 99 = .ok (.aload_n 0, 1) := by decide +kernel
theorem dX12_nameIn_100 : decode cX12_nameIn 100 = .ok (.iload_n 1, 1) := by decide +kernel
theorem dX12_nameIn_101 : decode cX12_nameIn 101 = .ok (.iconst 2, 1) := by decide +kernel
theorem dX12_nameIn_102 : decode cX12_nameIn 102 = .ok (.invokevirtual 71, 3) := by decide +kernel
theorem dX12_nameIn_105 : decode cX12_nameIn 105 = .ok (.iastore, 1) := by decide +kernel
theorem dX12_nameIn_106 : decode cX12_nameIn 106 = .ok (.aload_n 0, 1) := by decide +kernel
theorem dX12_nameIn_107 : decode cX12_nameIn 107 = .ok (.getfield 32, 3) := by decide +kernel
theorem dX12_nameIn_110 : decode cX12_nameIn 110 = .ok (.bipush 9, 2) := by decide +kernel
theorem dX12_nameIn_112 : decode cX12_nameIn 112 = .ok (.aload_n 0, 1) := by decide +kernel
theorem dX12_nameIn_113 : decode cX12_nameIn 113 = .ok (.iload_n 1, 1) := by decide +kernel
theorem dX12_nameIn_114 : decode cX12_nameIn 114 = .ok (.iload_n 2, 1) := by decide +kernel
theorem dX12_nameIn_115 : decode cX12_nameIn 115 = .ok (.invokevirtual 297, 3) := by decide +kernel
theorem dX12_nameIn_118 : decode cX12_nameIn 118 = .ok (.iastore, 1) := by decide +kernel
theorem dX12_nameIn_119 : decode cX12_nameIn 119 = .ok (.return_, 1) := by decide +kernel
def f_X12_nameIn (N : Nat) (v_a : Nat → Int32) (v_named : Nat → Int32) (p1 : Int32) (p2 : Int32) : Option ((Nat → Int32)) := gA v_a 8762 (10 : Int32) fun v11 => sA v_named 10 (0 : Int32) v11 fun v_named_12 => sA v_named_12 10 (1 : Int32) p1 fun v_named_19 => ob1 (f_X12_get N v_a p1 (7 : Int32)) fun r29 => sA v_named_19 10 (2 : Int32) r29 fun v_named_32 => sA v_named_32 10 (3 : Int32) p2 fun v_named_39 => gA v_a 8762 ((80 : Int32) + p2) fun v53 => sA v_named_39 10 (4 : Int32) v53 fun v_named_54 => ob1 (f_X12_get N v_a p1 (4 : Int32)) fun r63 => sA v_named_54 10 (5 : Int32) r63 fun v_named_66 => ob1 (f_X12_get N v_a p1 (5 : Int32)) fun r76 => sA v_named_66 10 (6 : Int32) r76 fun v_named_79 => ob1 (f_X12_get N v_a p1 (1 : Int32)) fun r89 => sA v_named_79 10 (7 : Int32) r89 fun v_named_92 => ob1 (f_X12_get N v_a p1 (2 : Int32)) fun r102 => sA v_named_92 10 (8 : Int32) r102 fun v_named_105 => ob1 (f_X12_crowdOf N v_a p1 p2) fun r115 => sA v_named_105 10 (9 : Int32) r115 fun v_named_118 => some v_named_118
set_option maxHeartbeats 4000000 in
set_option maxRecDepth 100000 in
theorem k_X12_nameIn (l : Launch) (N : Nat) (D : va_G) (cI cJ cZ cB cT : ClassId) (h : Nat) (q : Nat → Nat) (v_a : Nat → Int32) (v_image : Nat → Int32) (v_texts : Nat → Int32) (v_tape : Nat → Int32) (v_taped : Int32) (v_fault : Int32) (v_faultPlace : Int32) (v_at : Int32) (v_place : Int32) (v_token : Int32) (v_number : Int32) (v_word : Int64) (v_text0 : Int32) (v_written : Int32) (v_sort0 : Int32) (v_pile : Nat → Int32) (v_piled : Int32) (v_opens : Int32) (v_isWhole : Int32) (v_once : Int32) (v_named : Nat → Int32) (v_values : Nat → Int64) (v_truth : Nat → Int32) (v_isWritten : Int32) (v_died : Int32) (v_aside : Nat → Int32) (v_likely : Nat → Int32) (v_safe : Nat → Int32) (v_headOf : Nat → Int32) (p1 : Int32) (p2 : Int32) (o_v_named : Nat → Int32) (hf : f_X12_nameIn N v_a v_named p1 p2 = some o_v_named) : ∀ sz, Met l yX12_nameIn (mw yX12_nameIn cX12_nameIn 3 none) ({ frames := 2, cells := 0, slots := 0, locals := 46 } : Room) (mPre D (mT cI cJ cZ cB cT) (WM h q cI cJ cZ v_a v_image v_texts v_tape v_taped v_fault v_faultPlace v_at v_place v_token v_number v_word v_text0 v_written v_sort0 v_pile v_piled v_opens v_isWhole v_once v_named v_values v_truth v_isWritten v_died v_aside v_likely v_safe v_headOf) sz [.ref h, .int p1, .int p2]) ((mQv D (WM h q cI cJ cZ v_a v_image v_texts v_tape v_taped v_fault v_faultPlace v_at v_place v_token v_number v_word v_text0 v_written v_sort0 v_pile v_piled v_opens v_isWhole v_once o_v_named v_values v_truth v_isWritten v_died v_aside v_likely v_safe v_headOf)) (va_A (WM h q cI cJ cZ v_a v_image v_texts v_tape v_taped v_fault v_faultPlace v_at v_place v_token v_number v_word v_text0 v_written v_sort0 v_pile v_piled v_opens v_isWhole v_once v_named v_values v_truth v_isWritten v_died v_aside v_likely v_safe v_headOf) sz)) 0 0 (va_A (WM h q cI cJ cZ v_a v_image v_texts v_tape v_taped v_fault v_faultPlace v_at v_place v_token v_number v_word v_text0 v_written v_sort0 v_pile v_piled v_opens v_isWhole v_once v_named v_values v_truth v_isWritten v_died v_aside v_likely v_safe v_headOf) sz) := by
  refine mMet (Qc := (mQv D (WM h q cI cJ cZ v_a v_image v_texts v_tape v_taped v_fault v_faultPlace v_at v_place v_token v_number v_word v_text0 v_written v_sort0 v_pile v_piled v_opens v_isWhole v_once o_v_named v_values v_truth v_isWritten v_died v_aside v_likely v_safe v_headOf))) (by decide) (Nat.le_of_ble_eq_true rfl) (fun p e s m below meth c A ls hx hb hr hml hts hown hlocks hK hA hP hD hl => ?_)
  have hown : s.vm.findClass RX12 = some m.cls := hown
  have hl : lv_has ls 3 [(0, .ref h), (1, .int p1), (2, .int p2)] := hl
  have hS : va_S A s.heap s.heap [] := va_S.rf
  unfold f_X12_nameIn at hf
  refine lv_aload_n hx hb dX12_nameIn_0 rfl (lv_at hl 0 rfl) ?_
  refine gfX12_32 hx hb hts hown hK hP 0 rfl rfl dX12_nameIn_1 ?_
  refine lv_iconst (v := (0 : Int32)) hx hb dX12_nameIn_4 (by decide) ?_
  refine lv_aload_n hx hb dX12_nameIn_5 rfl (lv_at hl 0 rfl) ?_
  refine gfX12_7 hx hb hts hown hK hP 0 rfl rfl dX12_nameIn_6 ?_
  refine lv_bipush (v := (10 : Int32)) hx hb dX12_nameIn_9 (by decide) ?_
  refine xiald hx hb hK hP 1 0 rfl rfl dX12_nameIn_11 hf (fun v11 hf => ?_)
  refine xiast hx hb hK hP hD hS 6 0 rfl rfl dX12_nameIn_12 hf (fun v_named_12 hf H locs hP hD hS => ?_)
  have hP : va_P D vwCl (WM h q cI cJ cZ v_a v_image v_texts v_tape v_taped v_fault v_faultPlace v_at v_place v_token v_number v_word v_text0 v_written v_sort0 v_pile v_piled v_opens v_isWhole v_once v_named_12 v_values v_truth v_isWritten v_died v_aside v_likely v_safe v_headOf) H := hP
  have hD : va_D A (WM h q cI cJ cZ v_a v_image v_texts v_tape v_taped v_fault v_faultPlace v_at v_place v_token v_number v_word v_text0 v_written v_sort0 v_pile v_piled v_opens v_isWhole v_once v_named_12 v_values v_truth v_isWritten v_died v_aside v_likely v_safe v_headOf) := hD
  refine lv_aload_n hx hb dX12_nameIn_13 rfl (lv_at hl 0 rfl) ?_
  refine gfX12_32 hx hb hts hown hK hP 0 rfl rfl dX12_nameIn_14 ?_
  refine lv_iconst (v := (1 : Int32)) hx hb dX12_nameIn_17 (by decide) ?_
  refine lv_iload_n hx hb dX12_nameIn_18 rfl (lv_at hl 1 rfl) ?_
  refine xiast hx hb hK hP hD hS 6 0 rfl rfl dX12_nameIn_19 hf (fun v_named_19 hf H locs hP hD hS => ?_)
  have hP : va_P D vwCl (WM h q cI cJ cZ v_a v_image v_texts v_tape v_taped v_fault v_faultPlace v_at v_place v_token v_number v_word v_text0 v_written v_sort0 v_pile v_piled v_opens v_isWhole v_once v_named_19 v_values v_truth v_isWritten v_died v_aside v_likely v_safe v_headOf) H := hP
  have hD : va_D A (WM h q cI cJ cZ v_a v_image v_texts v_tape v_taped v_fault v_faultPlace v_at v_place v_token v_number v_word v_text0 v_written v_sort0 v_pile v_piled v_opens v_isWhole v_once v_named_19 v_values v_truth v_isWritten v_died v_aside v_likely v_safe v_headOf) := hD
  refine lv_aload_n hx hb dX12_nameIn_20 rfl (lv_at hl 0 rfl) ?_
  refine gfX12_32 hx hb hts hown hK hP 0 rfl rfl dX12_nameIn_21 ?_
  refine lv_iconst (v := (2 : Int32)) hx hb dX12_nameIn_24 (by decide) ?_
  refine lv_aload_n hx hb dX12_nameIn_25 rfl (lv_at hl 0 rfl) ?_
  refine lv_iload_n hx hb dX12_nameIn_26 rfl (lv_at hl 1 rfl) ?_
  refine lv_bipush (v := (7 : Int32)) hx hb dX12_nameIn_27 (by decide) ?_
  obtain ⟨r29, hg29, hf⟩ := ob1_some hf
  refine mcV1_i (As := [.int p1, .int (7 : Int32)]) (rest := [.int (2 : Int32), .ref (q 5)]) hx hb hml hown hts hK hP hD hS hA (k_X12_get l N D cI cJ cZ cB cT h q v_a v_image v_texts v_tape v_taped v_fault v_faultPlace v_at v_place v_token v_number v_word v_text0 v_written v_sort0 v_pile v_piled v_opens v_isWhole v_once v_named_19 v_values v_truth v_isWritten v_died v_aside v_likely v_safe v_headOf p1 (7 : Int32) r29 hg29) (kwX12_71 hts rfl rfl ⟨Nat.le_of_ble_eq_true rfl, Nat.le_of_ble_eq_true rfl⟩) 0 rfl rfl rfl rfl hl.1 rfl (Nat.le_of_ble_eq_true rfl) dX12_nameIn_29 ⟨Nat.zero_le _, Nat.zero_le _⟩ (fun hB29 H locs hP hD hS => ?_)
  have hP : va_P D vwCl (WM h q cI cJ cZ v_a v_image v_texts v_tape v_taped v_fault v_faultPlace v_at v_place v_token v_number v_word v_text0 v_written v_sort0 v_pile v_piled v_opens v_isWhole v_once v_named_19 v_values v_truth v_isWritten v_died v_aside v_likely v_safe v_headOf) H := hP
  have hD : va_D A (WM h q cI cJ cZ v_a v_image v_texts v_tape v_taped v_fault v_faultPlace v_at v_place v_token v_number v_word v_text0 v_written v_sort0 v_pile v_piled v_opens v_isWhole v_once v_named_19 v_values v_truth v_isWritten v_died v_aside v_likely v_safe v_headOf) := hD
  refine xiast hx hb hK hP hD hS 6 0 rfl rfl dX12_nameIn_32 hf (fun v_named_32 hf H locs hP hD hS => ?_)
  have hP : va_P D vwCl (WM h q cI cJ cZ v_a v_image v_texts v_tape v_taped v_fault v_faultPlace v_at v_place v_token v_number v_word v_text0 v_written v_sort0 v_pile v_piled v_opens v_isWhole v_once v_named_32 v_values v_truth v_isWritten v_died v_aside v_likely v_safe v_headOf) H := hP
  have hD : va_D A (WM h q cI cJ cZ v_a v_image v_texts v_tape v_taped v_fault v_faultPlace v_at v_place v_token v_number v_word v_text0 v_written v_sort0 v_pile v_piled v_opens v_isWhole v_once v_named_32 v_values v_truth v_isWritten v_died v_aside v_likely v_safe v_headOf) := hD
  refine lv_aload_n hx hb dX12_nameIn_33 rfl (lv_at hl 0 rfl) ?_
  refine gfX12_32 hx hb hts hown hK hP 0 rfl rfl dX12_nameIn_34 ?_
  refine lv_iconst (v := (3 : Int32)) hx hb dX12_nameIn_37 (by decide) ?_
  refine lv_iload_n hx hb dX12_nameIn_38 rfl (lv_at hl 2 rfl) ?_
  refine xiast hx hb hK hP hD hS 6 0 rfl rfl dX12_nameIn_39 hf (fun v_named_39 hf H locs hP hD hS => ?_)
  have hP : va_P D vwCl (WM h q cI cJ cZ v_a v_image v_texts v_tape v_taped v_fault v_faultPlace v_at v_place v_token v_number v_word v_text0 v_written v_sort0 v_pile v_piled v_opens v_isWhole v_once v_named_39 v_values v_truth v_isWritten v_died v_aside v_likely v_safe v_headOf) H := hP
  have hD : va_D A (WM h q cI cJ cZ v_a v_image v_texts v_tape v_taped v_fault v_faultPlace v_at v_place v_token v_number v_word v_text0 v_written v_sort0 v_pile v_piled v_opens v_isWhole v_once v_named_39 v_values v_truth v_isWritten v_died v_aside v_likely v_safe v_headOf) := hD
  refine lv_aload_n hx hb dX12_nameIn_40 rfl (lv_at hl 0 rfl) ?_
  refine gfX12_32 hx hb hts hown hK hP 0 rfl rfl dX12_nameIn_41 ?_
  refine lv_iconst (v := (4 : Int32)) hx hb dX12_nameIn_44 (by decide) ?_
  refine lv_aload_n hx hb dX12_nameIn_45 rfl (lv_at hl 0 rfl) ?_
  refine gfX12_7 hx hb hts hown hK hP 0 rfl rfl dX12_nameIn_46 ?_
  refine lv_bipush (v := (80 : Int32)) hx hb dX12_nameIn_49 (by decide) ?_
  refine lv_iload_n hx hb dX12_nameIn_51 rfl (lv_at hl 2 rfl) ?_
  refine lv_iadd hx hb dX12_nameIn_52 ?_
  refine xiald hx hb hK hP 1 0 rfl rfl dX12_nameIn_53 hf (fun v53 hf => ?_)
  refine xiast hx hb hK hP hD hS 6 0 rfl rfl dX12_nameIn_54 hf (fun v_named_54 hf H locs hP hD hS => ?_)
  have hP : va_P D vwCl (WM h q cI cJ cZ v_a v_image v_texts v_tape v_taped v_fault v_faultPlace v_at v_place v_token v_number v_word v_text0 v_written v_sort0 v_pile v_piled v_opens v_isWhole v_once v_named_54 v_values v_truth v_isWritten v_died v_aside v_likely v_safe v_headOf) H := hP
  have hD : va_D A (WM h q cI cJ cZ v_a v_image v_texts v_tape v_taped v_fault v_faultPlace v_at v_place v_token v_number v_word v_text0 v_written v_sort0 v_pile v_piled v_opens v_isWhole v_once v_named_54 v_values v_truth v_isWritten v_died v_aside v_likely v_safe v_headOf) := hD
  refine lv_aload_n hx hb dX12_nameIn_55 rfl (lv_at hl 0 rfl) ?_
  refine gfX12_32 hx hb hts hown hK hP 0 rfl rfl dX12_nameIn_56 ?_
  refine lv_iconst (v := (5 : Int32)) hx hb dX12_nameIn_59 (by decide) ?_
  refine lv_aload_n hx hb dX12_nameIn_60 rfl (lv_at hl 0 rfl) ?_
  refine lv_iload_n hx hb dX12_nameIn_61 rfl (lv_at hl 1 rfl) ?_
  refine lv_iconst (v := (4 : Int32)) hx hb dX12_nameIn_62 (by decide) ?_
  obtain ⟨r63, hg63, hf⟩ := ob1_some hf
  refine mcV1_i (As := [.int p1, .int (4 : Int32)]) (rest := [.int (5 : Int32), .ref (q 5)]) hx hb hml hown hts hK hP hD hS hA (k_X12_get l N D cI cJ cZ cB cT h q v_a v_image v_texts v_tape v_taped v_fault v_faultPlace v_at v_place v_token v_number v_word v_text0 v_written v_sort0 v_pile v_piled v_opens v_isWhole v_once v_named_54 v_values v_truth v_isWritten v_died v_aside v_likely v_safe v_headOf p1 (4 : Int32) r63 hg63) (kwX12_71 hts rfl rfl ⟨Nat.le_of_ble_eq_true rfl, Nat.le_of_ble_eq_true rfl⟩) 0 rfl rfl rfl rfl hl.1 rfl (Nat.le_of_ble_eq_true rfl) dX12_nameIn_63 ⟨Nat.zero_le _, Nat.zero_le _⟩ (fun hB63 H locs hP hD hS => ?_)
  have hP : va_P D vwCl (WM h q cI cJ cZ v_a v_image v_texts v_tape v_taped v_fault v_faultPlace v_at v_place v_token v_number v_word v_text0 v_written v_sort0 v_pile v_piled v_opens v_isWhole v_once v_named_54 v_values v_truth v_isWritten v_died v_aside v_likely v_safe v_headOf) H := hP
  have hD : va_D A (WM h q cI cJ cZ v_a v_image v_texts v_tape v_taped v_fault v_faultPlace v_at v_place v_token v_number v_word v_text0 v_written v_sort0 v_pile v_piled v_opens v_isWhole v_once v_named_54 v_values v_truth v_isWritten v_died v_aside v_likely v_safe v_headOf) := hD
  refine xiast hx hb hK hP hD hS 6 0 rfl rfl dX12_nameIn_66 hf (fun v_named_66 hf H locs hP hD hS => ?_)
  have hP : va_P D vwCl (WM h q cI cJ cZ v_a v_image v_texts v_tape v_taped v_fault v_faultPlace v_at v_place v_token v_number v_word v_text0 v_written v_sort0 v_pile v_piled v_opens v_isWhole v_once v_named_66 v_values v_truth v_isWritten v_died v_aside v_likely v_safe v_headOf) H := hP
  have hD : va_D A (WM h q cI cJ cZ v_a v_image v_texts v_tape v_taped v_fault v_faultPlace v_at v_place v_token v_number v_word v_text0 v_written v_sort0 v_pile v_piled v_opens v_isWhole v_once v_named_66 v_values v_truth v_isWritten v_died v_aside v_likely v_safe v_headOf) := hD
  refine lv_aload_n hx hb dX12_nameIn_67 rfl (lv_at hl 0 rfl) ?_
  refine gfX12_32 hx hb hts hown hK hP 0 rfl rfl dX12_nameIn_68 ?_
  refine lv_bipush (v := (6 : Int32)) hx hb dX12_nameIn_71 (by decide) ?_
  refine lv_aload_n hx hb dX12_nameIn_73 rfl (lv_at hl 0 rfl) ?_
  refine lv_iload_n hx hb dX12_nameIn_74 rfl (lv_at hl 1 rfl) ?_
  refine lv_iconst (v := (5 : Int32)) hx hb dX12_nameIn_75 (by decide) ?_
  obtain ⟨r76, hg76, hf⟩ := ob1_some hf
  refine mcV1_i (As := [.int p1, .int (5 : Int32)]) (rest := [.int (6 : Int32), .ref (q 5)]) hx hb hml hown hts hK hP hD hS hA (k_X12_get l N D cI cJ cZ cB cT h q v_a v_image v_texts v_tape v_taped v_fault v_faultPlace v_at v_place v_token v_number v_word v_text0 v_written v_sort0 v_pile v_piled v_opens v_isWhole v_once v_named_66 v_values v_truth v_isWritten v_died v_aside v_likely v_safe v_headOf p1 (5 : Int32) r76 hg76) (kwX12_71 hts rfl rfl ⟨Nat.le_of_ble_eq_true rfl, Nat.le_of_ble_eq_true rfl⟩) 0 rfl rfl rfl rfl hl.1 rfl (Nat.le_of_ble_eq_true rfl) dX12_nameIn_76 ⟨Nat.zero_le _, Nat.zero_le _⟩ (fun hB76 H locs hP hD hS => ?_)
  have hP : va_P D vwCl (WM h q cI cJ cZ v_a v_image v_texts v_tape v_taped v_fault v_faultPlace v_at v_place v_token v_number v_word v_text0 v_written v_sort0 v_pile v_piled v_opens v_isWhole v_once v_named_66 v_values v_truth v_isWritten v_died v_aside v_likely v_safe v_headOf) H := hP
  have hD : va_D A (WM h q cI cJ cZ v_a v_image v_texts v_tape v_taped v_fault v_faultPlace v_at v_place v_token v_number v_word v_text0 v_written v_sort0 v_pile v_piled v_opens v_isWhole v_once v_named_66 v_values v_truth v_isWritten v_died v_aside v_likely v_safe v_headOf) := hD
  refine xiast hx hb hK hP hD hS 6 0 rfl rfl dX12_nameIn_79 hf (fun v_named_79 hf H locs hP hD hS => ?_)
  have hP : va_P D vwCl (WM h q cI cJ cZ v_a v_image v_texts v_tape v_taped v_fault v_faultPlace v_at v_place v_token v_number v_word v_text0 v_written v_sort0 v_pile v_piled v_opens v_isWhole v_once v_named_79 v_values v_truth v_isWritten v_died v_aside v_likely v_safe v_headOf) H := hP
  have hD : va_D A (WM h q cI cJ cZ v_a v_image v_texts v_tape v_taped v_fault v_faultPlace v_at v_place v_token v_number v_word v_text0 v_written v_sort0 v_pile v_piled v_opens v_isWhole v_once v_named_79 v_values v_truth v_isWritten v_died v_aside v_likely v_safe v_headOf) := hD
  refine lv_aload_n hx hb dX12_nameIn_80 rfl (lv_at hl 0 rfl) ?_
  refine gfX12_32 hx hb hts hown hK hP 0 rfl rfl dX12_nameIn_81 ?_
  refine lv_bipush (v := (7 : Int32)) hx hb dX12_nameIn_84 (by decide) ?_
  refine lv_aload_n hx hb dX12_nameIn_86 rfl (lv_at hl 0 rfl) ?_
  refine lv_iload_n hx hb dX12_nameIn_87 rfl (lv_at hl 1 rfl) ?_
  refine lv_iconst (v := (1 : Int32)) hx hb dX12_nameIn_88 (by decide) ?_
  obtain ⟨r89, hg89, hf⟩ := ob1_some hf
  refine mcV1_i (As := [.int p1, .int (1 : Int32)]) (rest := [.int (7 : Int32), .ref (q 5)]) hx hb hml hown hts hK hP hD hS hA (k_X12_get l N D cI cJ cZ cB cT h q v_a v_image v_texts v_tape v_taped v_fault v_faultPlace v_at v_place v_token v_number v_word v_text0 v_written v_sort0 v_pile v_piled v_opens v_isWhole v_once v_named_79 v_values v_truth v_isWritten v_died v_aside v_likely v_safe v_headOf p1 (1 : Int32) r89 hg89) (kwX12_71 hts rfl rfl ⟨Nat.le_of_ble_eq_true rfl, Nat.le_of_ble_eq_true rfl⟩) 0 rfl rfl rfl rfl hl.1 rfl (Nat.le_of_ble_eq_true rfl) dX12_nameIn_89 ⟨Nat.zero_le _, Nat.zero_le _⟩ (fun hB89 H locs hP hD hS => ?_)
  have hP : va_P D vwCl (WM h q cI cJ cZ v_a v_image v_texts v_tape v_taped v_fault v_faultPlace v_at v_place v_token v_number v_word v_text0 v_written v_sort0 v_pile v_piled v_opens v_isWhole v_once v_named_79 v_values v_truth v_isWritten v_died v_aside v_likely v_safe v_headOf) H := hP
  have hD : va_D A (WM h q cI cJ cZ v_a v_image v_texts v_tape v_taped v_fault v_faultPlace v_at v_place v_token v_number v_word v_text0 v_written v_sort0 v_pile v_piled v_opens v_isWhole v_once v_named_79 v_values v_truth v_isWritten v_died v_aside v_likely v_safe v_headOf) := hD
  refine xiast hx hb hK hP hD hS 6 0 rfl rfl dX12_nameIn_92 hf (fun v_named_92 hf H locs hP hD hS => ?_)
  have hP : va_P D vwCl (WM h q cI cJ cZ v_a v_image v_texts v_tape v_taped v_fault v_faultPlace v_at v_place v_token v_number v_word v_text0 v_written v_sort0 v_pile v_piled v_opens v_isWhole v_once v_named_92 v_values v_truth v_isWritten v_died v_aside v_likely v_safe v_headOf) H := hP
  have hD : va_D A (WM h q cI cJ cZ v_a v_image v_texts v_tape v_taped v_fault v_faultPlace v_at v_place v_token v_number v_word v_text0 v_written v_sort0 v_pile v_piled v_opens v_isWhole v_once v_named_92 v_values v_truth v_isWritten v_died v_aside v_likely v_safe v_headOf) := hD
  refine lv_aload_n hx hb dX12_nameIn_93 rfl (lv_at hl 0 rfl) ?_
  refine gfX12_32 hx hb hts hown hK hP 0 rfl rfl dX12_nameIn_94 ?_
  refine lv_bipush (v := (8 : Int32)) hx hb dX12_nameIn_97 (by decide) ?_
  refine lv_aload_n hx hb dX12_nameIn_99 rfl (lv_at hl 0 rfl) ?_
  refine lv_iload_n hx hb dX12_nameIn_100 rfl (lv_at hl 1 rfl) ?_
  refine lv_iconst (v := (2 : Int32)) hx hb dX12_nameIn_101 (by decide) ?_
  obtain ⟨r102, hg102, hf⟩ := ob1_some hf
  refine mcV1_i (As := [.int p1, .int (2 : Int32)]) (rest := [.int (8 : Int32), .ref (q 5)]) hx hb hml hown hts hK hP hD hS hA (k_X12_get l N D cI cJ cZ cB cT h q v_a v_image v_texts v_tape v_taped v_fault v_faultPlace v_at v_place v_token v_number v_word v_text0 v_written v_sort0 v_pile v_piled v_opens v_isWhole v_once v_named_92 v_values v_truth v_isWritten v_died v_aside v_likely v_safe v_headOf p1 (2 : Int32) r102 hg102) (kwX12_71 hts rfl rfl ⟨Nat.le_of_ble_eq_true rfl, Nat.le_of_ble_eq_true rfl⟩) 0 rfl rfl rfl rfl hl.1 rfl (Nat.le_of_ble_eq_true rfl) dX12_nameIn_102 ⟨Nat.zero_le _, Nat.zero_le _⟩ (fun hB102 H locs hP hD hS => ?_)
  have hP : va_P D vwCl (WM h q cI cJ cZ v_a v_image v_texts v_tape v_taped v_fault v_faultPlace v_at v_place v_token v_number v_word v_text0 v_written v_sort0 v_pile v_piled v_opens v_isWhole v_once v_named_92 v_values v_truth v_isWritten v_died v_aside v_likely v_safe v_headOf) H := hP
  have hD : va_D A (WM h q cI cJ cZ v_a v_image v_texts v_tape v_taped v_fault v_faultPlace v_at v_place v_token v_number v_word v_text0 v_written v_sort0 v_pile v_piled v_opens v_isWhole v_once v_named_92 v_values v_truth v_isWritten v_died v_aside v_likely v_safe v_headOf) := hD
  refine xiast hx hb hK hP hD hS 6 0 rfl rfl dX12_nameIn_105 hf (fun v_named_105 hf H locs hP hD hS => ?_)
  have hP : va_P D vwCl (WM h q cI cJ cZ v_a v_image v_texts v_tape v_taped v_fault v_faultPlace v_at v_place v_token v_number v_word v_text0 v_written v_sort0 v_pile v_piled v_opens v_isWhole v_once v_named_105 v_values v_truth v_isWritten v_died v_aside v_likely v_safe v_headOf) H := hP
  have hD : va_D A (WM h q cI cJ cZ v_a v_image v_texts v_tape v_taped v_fault v_faultPlace v_at v_place v_token v_number v_word v_text0 v_written v_sort0 v_pile v_piled v_opens v_isWhole v_once v_named_105 v_values v_truth v_isWritten v_died v_aside v_likely v_safe v_headOf) := hD
  refine lv_aload_n hx hb dX12_nameIn_106 rfl (lv_at hl 0 rfl) ?_
  refine gfX12_32 hx hb hts hown hK hP 0 rfl rfl dX12_nameIn_107 ?_
  refine lv_bipush (v := (9 : Int32)) hx hb dX12_nameIn_110 (by decide) ?_
  refine lv_aload_n hx hb dX12_nameIn_112 rfl (lv_at hl 0 rfl) ?_
  refine lv_iload_n hx hb dX12_nameIn_113 rfl (lv_at hl 1 rfl) ?_
  refine lv_iload_n hx hb dX12_nameIn_114 rfl (lv_at hl 2 rfl) ?_
  obtain ⟨r115, hg115, hf⟩ := ob1_some hf
  refine mcV1_i (As := [.int p1, .int p2]) (rest := [.int (9 : Int32), .ref (q 5)]) hx hb hml hown hts hK hP hD hS hA (k_X12_crowdOf l N D cI cJ cZ cB cT h q v_a v_image v_texts v_tape v_taped v_fault v_faultPlace v_at v_place v_token v_number v_word v_text0 v_written v_sort0 v_pile v_piled v_opens v_isWhole v_once v_named_105 v_values v_truth v_isWritten v_died v_aside v_likely v_safe v_headOf p1 p2 r115 hg115) (kwX12_297 hts rfl rfl ⟨Nat.le_of_ble_eq_true rfl, Nat.le_of_ble_eq_true rfl⟩) 0 rfl rfl rfl rfl hl.1 rfl (Nat.le_of_ble_eq_true rfl) dX12_nameIn_115 ⟨Nat.zero_le _, Nat.zero_le _⟩ (fun hB115 H locs hP hD hS => ?_)
  have hP : va_P D vwCl (WM h q cI cJ cZ v_a v_image v_texts v_tape v_taped v_fault v_faultPlace v_at v_place v_token v_number v_word v_text0 v_written v_sort0 v_pile v_piled v_opens v_isWhole v_once v_named_105 v_values v_truth v_isWritten v_died v_aside v_likely v_safe v_headOf) H := hP
  have hD : va_D A (WM h q cI cJ cZ v_a v_image v_texts v_tape v_taped v_fault v_faultPlace v_at v_place v_token v_number v_word v_text0 v_written v_sort0 v_pile v_piled v_opens v_isWhole v_once v_named_105 v_values v_truth v_isWritten v_died v_aside v_likely v_safe v_headOf) := hD
  refine xiast hx hb hK hP hD hS 6 0 rfl rfl dX12_nameIn_118 hf (fun v_named_118 hf H locs hP hD hS => ?_)
  have hP : va_P D vwCl (WM h q cI cJ cZ v_a v_image v_texts v_tape v_taped v_fault v_faultPlace v_at v_place v_token v_number v_word v_text0 v_written v_sort0 v_pile v_piled v_opens v_isWhole v_once v_named_118 v_values v_truth v_isWritten v_died v_aside v_likely v_safe v_headOf) H := hP
  have hD : va_D A (WM h q cI cJ cZ v_a v_image v_texts v_tape v_taped v_fault v_faultPlace v_at v_place v_token v_number v_word v_text0 v_written v_sort0 v_pile v_piled v_opens v_isWhole v_once v_named_118 v_values v_truth v_isWritten v_died v_aside v_likely v_safe v_headOf) := hD
  cases hf
  exact mret_v hx hb hr hlocks hP hD hS dX12_nameIn_119
theorem dX12_hungersOf_0 : decode cX12_hungersOf 0 = .ok (.aload_n 0, 1) := by decide +kernel
theorem dX12_hungersOf_1 : decode cX12_hungersOf 1 = .ok (.iload_n 1, 1) := by decide +kernel
theorem dX12_hungersOf_2 : decode cX12_hungersOf 2 = .ok (.aload_n 0, 1) := by decide +kernel
theorem dX12_hungersOf_3 : decode cX12_hungersOf 3 = .ok (.iload_n 1, 1) := by decide +kernel
theorem dX12_hungersOf_4 : decode cX12_hungersOf 4 = .ok (.iconst 0, 1) := by decide +kernel
theorem dX12_hungersOf_5 : decode cX12_hungersOf 5 = .ok (.invokevirtual 71, 3) := by decide +kernel
theorem dX12_hungersOf_8 : decode cX12_hungersOf 8 = .ok (.invokevirtual 300, 3) := by decide +kernel
theorem dX12_hungersOf_11 : decode cX12_hungersOf 11 = .ok (.aload_n 0, 1) := by decide +kernel
theorem dX12_hungersOf_12 : decode cX12_hungersOf 12 = .ok (.aload_n 0, 1) := by decide +kernel
theorem dX12_hungersOf_13 : decode cX12_hungersOf 13 = .ok (.getfield 7, 3) := by decide +kernel
theorem dX12_hungersOf_16 : decode cX12_hungersOf 16 = .ok (.iconst 3, 1) := by decide +kernel
theorem dX12_hungersOf_17 : decode cX12_hungersOf 17 = .ok (.iaload, 1) := by decide +kernel
theorem dX12_hungersOf_18 : decode cX12_hungersOf 18 = .ok (.iconst 0, 1) := by decide +kernel
theorem dX12_hungersOf_19 : decode cX12_hungersOf 19 = .ok (.iconst 1, 1) := by decide +kernel
theorem dX12_hungersOf_20 : decode cX12_hungersOf 20 = .ok (.bipush 9, 2) := by decide +kernel
theorem dX12_hungersOf_22 : decode cX12_hungersOf 22 = .ok (.invokevirtual 303, 3) := by decide +kernel
theorem dX12_hungersOf_25 : decode cX12_hungersOf 25 = .ok (.ireturn, 1) := by decide +kernel
def f_X12_hungersOf (N : Nat) (v_a : Nat → Int32) (v_texts : Nat → Int32) (v_named : Nat → Int32) (v_values : Nat → Int64) (v_truth : Nat → Int32) (p1 : Int32) : Option (Int32 × (Nat → Int32) × (Nat → Int64) × (Nat → Int32)) := ob1 (f_X12_get N v_a p1 (0 : Int32)) fun r5 => ob1 (f_X12_nameIn N v_a v_named p1 r5) fun v_named_8 => gA v_a 8762 (3 : Int32) fun v17 => ob3 (f_X12_says N v_a v_texts v_named_8 v_values v_truth v17 (0 : Int32) (1 : Int32) (9 : Int32)) fun r22 v_values_22 v_truth_22 => some (r22, v_named_8, v_values_22, v_truth_22)
set_option maxHeartbeats 4000000 in
set_option maxRecDepth 100000 in
theorem k_X12_hungersOf (l : Launch) (N : Nat) (D : va_G) (cI cJ cZ cB cT : ClassId) (h : Nat) (q : Nat → Nat) (v_a : Nat → Int32) (v_image : Nat → Int32) (v_texts : Nat → Int32) (v_tape : Nat → Int32) (v_taped : Int32) (v_fault : Int32) (v_faultPlace : Int32) (v_at : Int32) (v_place : Int32) (v_token : Int32) (v_number : Int32) (v_word : Int64) (v_text0 : Int32) (v_written : Int32) (v_sort0 : Int32) (v_pile : Nat → Int32) (v_piled : Int32) (v_opens : Int32) (v_isWhole : Int32) (v_once : Int32) (v_named : Nat → Int32) (v_values : Nat → Int64) (v_truth : Nat → Int32) (v_isWritten : Int32) (v_died : Int32) (v_aside : Nat → Int32) (v_likely : Nat → Int32) (v_safe : Nat → Int32) (v_headOf : Nat → Int32) (p1 : Int32) (o_r : Int32) (o_v_named : Nat → Int32) (o_v_values : Nat → Int64) (o_v_truth : Nat → Int32) (hf : f_X12_hungersOf N v_a v_texts v_named v_values v_truth p1 = some (o_r, o_v_named, o_v_values, o_v_truth)) : ∀ sz, Met l yX12_hungersOf (mw yX12_hungersOf cX12_hungersOf 2 (some .int)) ({ frames := 5, cells := 0, slots := 0, locals := 121 } : Room) (mPre D (mT cI cJ cZ cB cT) (WM h q cI cJ cZ v_a v_image v_texts v_tape v_taped v_fault v_faultPlace v_at v_place v_token v_number v_word v_text0 v_written v_sort0 v_pile v_piled v_opens v_isWhole v_once v_named v_values v_truth v_isWritten v_died v_aside v_likely v_safe v_headOf) sz [.ref h, .int p1]) ((mQi D (WM h q cI cJ cZ v_a v_image v_texts v_tape v_taped v_fault v_faultPlace v_at v_place v_token v_number v_word v_text0 v_written v_sort0 v_pile v_piled v_opens v_isWhole v_once o_v_named o_v_values o_v_truth v_isWritten v_died v_aside v_likely v_safe v_headOf) o_r True) (va_A (WM h q cI cJ cZ v_a v_image v_texts v_tape v_taped v_fault v_faultPlace v_at v_place v_token v_number v_word v_text0 v_written v_sort0 v_pile v_piled v_opens v_isWhole v_once v_named v_values v_truth v_isWritten v_died v_aside v_likely v_safe v_headOf) sz)) 0 0 (va_A (WM h q cI cJ cZ v_a v_image v_texts v_tape v_taped v_fault v_faultPlace v_at v_place v_token v_number v_word v_text0 v_written v_sort0 v_pile v_piled v_opens v_isWhole v_once v_named v_values v_truth v_isWritten v_died v_aside v_likely v_safe v_headOf) sz) := by
  refine mMet (Qc := (mQi D (WM h q cI cJ cZ v_a v_image v_texts v_tape v_taped v_fault v_faultPlace v_at v_place v_token v_number v_word v_text0 v_written v_sort0 v_pile v_piled v_opens v_isWhole v_once o_v_named o_v_values o_v_truth v_isWritten v_died v_aside v_likely v_safe v_headOf) o_r True)) (by decide) (Nat.le_of_ble_eq_true rfl) (fun p e s m below meth c A ls hx hb hr hml hts hown hlocks hK hA hP hD hl => ?_)
  have hown : s.vm.findClass RX12 = some m.cls := hown
  have hl : lv_has ls 2 [(0, .ref h), (1, .int p1)] := hl
  have hS : va_S A s.heap s.heap [] := va_S.rf
  unfold f_X12_hungersOf at hf
  refine lv_aload_n hx hb dX12_hungersOf_0 rfl (lv_at hl 0 rfl) ?_
  refine lv_iload_n hx hb dX12_hungersOf_1 rfl (lv_at hl 1 rfl) ?_
  refine lv_aload_n hx hb dX12_hungersOf_2 rfl (lv_at hl 0 rfl) ?_
  refine lv_iload_n hx hb dX12_hungersOf_3 rfl (lv_at hl 1 rfl) ?_
  refine lv_iconst (v := (0 : Int32)) hx hb dX12_hungersOf_4 (by decide) ?_
  obtain ⟨r5, hg5, hf⟩ := ob1_some hf
  refine mcV1_i (As := [.int p1, .int (0 : Int32)]) (rest := [.int p1, .ref h]) hx hb hml hown hts hK hP hD hS hA (k_X12_get l N D cI cJ cZ cB cT h q v_a v_image v_texts v_tape v_taped v_fault v_faultPlace v_at v_place v_token v_number v_word v_text0 v_written v_sort0 v_pile v_piled v_opens v_isWhole v_once v_named v_values v_truth v_isWritten v_died v_aside v_likely v_safe v_headOf p1 (0 : Int32) r5 hg5) (kwX12_71 hts rfl rfl ⟨Nat.le_of_ble_eq_true rfl, Nat.le_of_ble_eq_true rfl⟩) 0 rfl rfl rfl rfl hl.1 rfl (Nat.le_of_ble_eq_true rfl) dX12_hungersOf_5 ⟨Nat.zero_le _, Nat.zero_le _⟩ (fun hB5 H locs hP hD hS => ?_)
  have hP : va_P D vwCl (WM h q cI cJ cZ v_a v_image v_texts v_tape v_taped v_fault v_faultPlace v_at v_place v_token v_number v_word v_text0 v_written v_sort0 v_pile v_piled v_opens v_isWhole v_once v_named v_values v_truth v_isWritten v_died v_aside v_likely v_safe v_headOf) H := hP
  have hD : va_D A (WM h q cI cJ cZ v_a v_image v_texts v_tape v_taped v_fault v_faultPlace v_at v_place v_token v_number v_word v_text0 v_written v_sort0 v_pile v_piled v_opens v_isWhole v_once v_named v_values v_truth v_isWritten v_died v_aside v_likely v_safe v_headOf) := hD
  obtain ⟨v_named_8, hg8, hf⟩ := ob1_some hf
  refine mcV1_v (As := [.int p1, .int r5]) (rest := []) hx hb hml hown hts hK hP hD hS hA (k_X12_nameIn l N D cI cJ cZ cB cT h q v_a v_image v_texts v_tape v_taped v_fault v_faultPlace v_at v_place v_token v_number v_word v_text0 v_written v_sort0 v_pile v_piled v_opens v_isWhole v_once v_named v_values v_truth v_isWritten v_died v_aside v_likely v_safe v_headOf p1 r5 v_named_8 hg8) (kwX12_300 hts rfl rfl ⟨Nat.le_of_ble_eq_true rfl, Nat.le_of_ble_eq_true rfl⟩) 0 rfl rfl rfl rfl hl.1 rfl (Nat.le_of_ble_eq_true rfl) dX12_hungersOf_8 ⟨Nat.zero_le _, Nat.zero_le _⟩ (fun H locs hP hD hS => ?_)
  have hP : va_P D vwCl (WM h q cI cJ cZ v_a v_image v_texts v_tape v_taped v_fault v_faultPlace v_at v_place v_token v_number v_word v_text0 v_written v_sort0 v_pile v_piled v_opens v_isWhole v_once v_named_8 v_values v_truth v_isWritten v_died v_aside v_likely v_safe v_headOf) H := hP
  have hD : va_D A (WM h q cI cJ cZ v_a v_image v_texts v_tape v_taped v_fault v_faultPlace v_at v_place v_token v_number v_word v_text0 v_written v_sort0 v_pile v_piled v_opens v_isWhole v_once v_named_8 v_values v_truth v_isWritten v_died v_aside v_likely v_safe v_headOf) := hD
  refine lv_aload_n hx hb dX12_hungersOf_11 rfl (lv_at hl 0 rfl) ?_
  refine lv_aload_n hx hb dX12_hungersOf_12 rfl (lv_at hl 0 rfl) ?_
  refine gfX12_7 hx hb hts hown hK hP 0 rfl rfl dX12_hungersOf_13 ?_
  refine lv_iconst (v := (3 : Int32)) hx hb dX12_hungersOf_16 (by decide) ?_
  refine xiald hx hb hK hP 1 0 rfl rfl dX12_hungersOf_17 hf (fun v17 hf => ?_)
  refine lv_iconst (v := (0 : Int32)) hx hb dX12_hungersOf_18 (by decide) ?_
  refine lv_iconst (v := (1 : Int32)) hx hb dX12_hungersOf_19 (by decide) ?_
  refine lv_bipush (v := (9 : Int32)) hx hb dX12_hungersOf_20 (by decide) ?_
  obtain ⟨r22, v_values_22, v_truth_22, hg22, hf⟩ := ob3_some hf
  refine mcV1_i (As := [.int v17, .int (0 : Int32), .int (1 : Int32), .int (9 : Int32)]) (rest := []) hx hb hml hown hts hK hP hD hS hA (k_X12_says l N D cI cJ cZ cB cT h q v_a v_image v_texts v_tape v_taped v_fault v_faultPlace v_at v_place v_token v_number v_word v_text0 v_written v_sort0 v_pile v_piled v_opens v_isWhole v_once v_named_8 v_values v_truth v_isWritten v_died v_aside v_likely v_safe v_headOf v17 (0 : Int32) (1 : Int32) (9 : Int32) r22 v_values_22 v_truth_22 hg22) (kwX12_303 hts rfl rfl ⟨Nat.le_of_ble_eq_true rfl, Nat.le_of_ble_eq_true rfl⟩) 0 rfl rfl rfl rfl hl.1 rfl (Nat.le_of_ble_eq_true rfl) dX12_hungersOf_22 ⟨Nat.zero_le _, Nat.zero_le _⟩ (fun hB22 H locs hP hD hS => ?_)
  have hP : va_P D vwCl (WM h q cI cJ cZ v_a v_image v_texts v_tape v_taped v_fault v_faultPlace v_at v_place v_token v_number v_word v_text0 v_written v_sort0 v_pile v_piled v_opens v_isWhole v_once v_named_8 v_values_22 v_truth_22 v_isWritten v_died v_aside v_likely v_safe v_headOf) H := hP
  have hD : va_D A (WM h q cI cJ cZ v_a v_image v_texts v_tape v_taped v_fault v_faultPlace v_at v_place v_token v_number v_word v_text0 v_written v_sort0 v_pile v_piled v_opens v_isWhole v_once v_named_8 v_values_22 v_truth_22 v_isWritten v_died v_aside v_likely v_safe v_headOf) := hD
  cases hf
  exact mret_i hx hb hr hlocks hP hD hS dX12_hungersOf_25 rfl trivial
theorem dX12_findsIn_0 : decode cX12_findsIn 0 = .ok (.aload_n 0, 1) := by decide +kernel
theorem dX12_findsIn_1 : decode cX12_findsIn 1 = .ok (.iload_n 1, 1) := by decide +kernel
theorem dX12_findsIn_2 : decode cX12_findsIn 2 = .ok (.iload_n 2, 1) := by decide +kernel
theorem dX12_findsIn_3 : decode cX12_findsIn 3 = .ok (.invokevirtual 300, 3) := by decide +kernel
theorem dX12_findsIn_6 : decode cX12_findsIn 6 = .ok (.aload_n 0, 1) := by decide +kernel
theorem dX12_findsIn_7 : decode cX12_findsIn 7 = .ok (.aload_n 0, 1) := by decide +kernel
theorem dX12_findsIn_8 : decode cX12_findsIn 8 = .ok (.getfield 7, 3) := by decide +kernel
theorem dX12_findsIn_11 : decode cX12_findsIn 11 = .ok (.iconst 3, 1) := by decide +kernel
theorem dX12_findsIn_12 : decode cX12_findsIn 12 = .ok (.iaload, 1) := by decide +kernel
theorem dX12_findsIn_13 : decode cX12_findsIn 13 = .ok (.iconst 1, 1) := by decide +kernel
theorem dX12_findsIn_14 : decode cX12_findsIn 14 = .ok (.iconst 5, 1) := by decide +kernel
theorem dX12_findsIn_15 : decode cX12_findsIn 15 = .ok (.aload_n 0, 1) := by decide +kernel
theorem dX12_findsIn_16 : decode cX12_findsIn 16 = .ok (.getfield 7, 3) := by decide +kernel
theorem dX12_findsIn_19 : decode cX12_findsIn 19 = .ok (.bipush 80, 2) := by decide +kernel
theorem dX12_findsIn_21 : decode cX12_findsIn 21 = .ok (.iload_n 2, 1) := by decide +kernel
theorem dX12_findsIn_22 : decode cX12_findsIn 22 = .ok (.iadd, 1) := by decide +kernel
theorem dX12_findsIn_23 : decode cX12_findsIn 23 = .ok (.iaload, 1) := by decide +kernel
theorem dX12_findsIn_24 : decode cX12_findsIn 24 = .ok (.iconst 2, 1) := by decide +kernel
theorem dX12_findsIn_25 : decode cX12_findsIn 25 = .ok (.idiv, 1) := by decide +kernel
theorem dX12_findsIn_26 : decode cX12_findsIn 26 = .ok (.isub, 1) := by decide +kernel
theorem dX12_findsIn_27 : decode cX12_findsIn 27 = .ok (.bipush 10, 2) := by decide +kernel
theorem dX12_findsIn_29 : decode cX12_findsIn 29 = .ok (.invokevirtual 303, 3) := by decide +kernel
theorem dX12_findsIn_32 : decode cX12_findsIn 32 = .ok (.ireturn, 1) := by decide +kernel
def f_X12_findsIn (N : Nat) (v_a : Nat → Int32) (v_texts : Nat → Int32) (v_named : Nat → Int32) (v_values : Nat → Int64) (v_truth : Nat → Int32) (p1 : Int32) (p2 : Int32) : Option (Int32 × (Nat → Int32) × (Nat → Int64) × (Nat → Int32)) := ob1 (f_X12_nameIn N v_a v_named p1 p2) fun v_named_3 => gA v_a 8762 (3 : Int32) fun v12 => gA v_a 8762 ((80 : Int32) + p2) fun v23 => dvI v23 (2 : Int32) fun v25 => ob3 (f_X12_says N v_a v_texts v_named_3 v_values v_truth v12 (1 : Int32) ((5 : Int32) - v25) (10 : Int32)) fun r29 v_values_29 v_truth_29 => some (r29, v_named_3, v_values_29, v_truth_29)
set_option maxHeartbeats 4000000 in
set_option maxRecDepth 100000 in
theorem k_X12_findsIn (l : Launch) (N : Nat) (D : va_G) (cI cJ cZ cB cT : ClassId) (h : Nat) (q : Nat → Nat) (v_a : Nat → Int32) (v_image : Nat → Int32) (v_texts : Nat → Int32) (v_tape : Nat → Int32) (v_taped : Int32) (v_fault : Int32) (v_faultPlace : Int32) (v_at : Int32) (v_place : Int32) (v_token : Int32) (v_number : Int32) (v_word : Int64) (v_text0 : Int32) (v_written : Int32) (v_sort0 : Int32) (v_pile : Nat → Int32) (v_piled : Int32) (v_opens : Int32) (v_isWhole : Int32) (v_once : Int32) (v_named : Nat → Int32) (v_values : Nat → Int64) (v_truth : Nat → Int32) (v_isWritten : Int32) (v_died : Int32) (v_aside : Nat → Int32) (v_likely : Nat → Int32) (v_safe : Nat → Int32) (v_headOf : Nat → Int32) (p1 : Int32) (p2 : Int32) (o_r : Int32) (o_v_named : Nat → Int32) (o_v_values : Nat → Int64) (o_v_truth : Nat → Int32) (hf : f_X12_findsIn N v_a v_texts v_named v_values v_truth p1 p2 = some (o_r, o_v_named, o_v_values, o_v_truth)) : ∀ sz, Met l yX12_findsIn (mw yX12_findsIn cX12_findsIn 3 (some .int)) ({ frames := 5, cells := 0, slots := 0, locals := 121 } : Room) (mPre D (mT cI cJ cZ cB cT) (WM h q cI cJ cZ v_a v_image v_texts v_tape v_taped v_fault v_faultPlace v_at v_place v_token v_number v_word v_text0 v_written v_sort0 v_pile v_piled v_opens v_isWhole v_once v_named v_values v_truth v_isWritten v_died v_aside v_likely v_safe v_headOf) sz [.ref h, .int p1, .int p2]) ((mQi D (WM h q cI cJ cZ v_a v_image v_texts v_tape v_taped v_fault v_faultPlace v_at v_place v_token v_number v_word v_text0 v_written v_sort0 v_pile v_piled v_opens v_isWhole v_once o_v_named o_v_values o_v_truth v_isWritten v_died v_aside v_likely v_safe v_headOf) o_r True) (va_A (WM h q cI cJ cZ v_a v_image v_texts v_tape v_taped v_fault v_faultPlace v_at v_place v_token v_number v_word v_text0 v_written v_sort0 v_pile v_piled v_opens v_isWhole v_once v_named v_values v_truth v_isWritten v_died v_aside v_likely v_safe v_headOf) sz)) 0 0 (va_A (WM h q cI cJ cZ v_a v_image v_texts v_tape v_taped v_fault v_faultPlace v_at v_place v_token v_number v_word v_text0 v_written v_sort0 v_pile v_piled v_opens v_isWhole v_once v_named v_values v_truth v_isWritten v_died v_aside v_likely v_safe v_headOf) sz) := by
  refine mMet (Qc := (mQi D (WM h q cI cJ cZ v_a v_image v_texts v_tape v_taped v_fault v_faultPlace v_at v_place v_token v_number v_word v_text0 v_written v_sort0 v_pile v_piled v_opens v_isWhole v_once o_v_named o_v_values o_v_truth v_isWritten v_died v_aside v_likely v_safe v_headOf) o_r True)) (by decide) (Nat.le_of_ble_eq_true rfl) (fun p e s m below meth c A ls hx hb hr hml hts hown hlocks hK hA hP hD hl => ?_)
  have hown : s.vm.findClass RX12 = some m.cls := hown
  have hl : lv_has ls 3 [(0, .ref h), (1, .int p1), (2, .int p2)] := hl
  have hS : va_S A s.heap s.heap [] := va_S.rf
  unfold f_X12_findsIn at hf
  refine lv_aload_n hx hb dX12_findsIn_0 rfl (lv_at hl 0 rfl) ?_
  refine lv_iload_n hx hb dX12_findsIn_1 rfl (lv_at hl 1 rfl) ?_
  refine lv_iload_n hx hb dX12_findsIn_2 rfl (lv_at hl 2 rfl) ?_
  obtain ⟨v_named_3, hg3, hf⟩ := ob1_some hf
  refine mcV1_v (As := [.int p1, .int p2]) (rest := []) hx hb hml hown hts hK hP hD hS hA (k_X12_nameIn l N D cI cJ cZ cB cT h q v_a v_image v_texts v_tape v_taped v_fault v_faultPlace v_at v_place v_token v_number v_word v_text0 v_written v_sort0 v_pile v_piled v_opens v_isWhole v_once v_named v_values v_truth v_isWritten v_died v_aside v_likely v_safe v_headOf p1 p2 v_named_3 hg3) (kwX12_300 hts rfl rfl ⟨Nat.le_of_ble_eq_true rfl, Nat.le_of_ble_eq_true rfl⟩) 0 rfl rfl rfl rfl hl.1 rfl (Nat.le_of_ble_eq_true rfl) dX12_findsIn_3 ⟨Nat.zero_le _, Nat.zero_le _⟩ (fun H locs hP hD hS => ?_)
  have hP : va_P D vwCl (WM h q cI cJ cZ v_a v_image v_texts v_tape v_taped v_fault v_faultPlace v_at v_place v_token v_number v_word v_text0 v_written v_sort0 v_pile v_piled v_opens v_isWhole v_once v_named_3 v_values v_truth v_isWritten v_died v_aside v_likely v_safe v_headOf) H := hP
  have hD : va_D A (WM h q cI cJ cZ v_a v_image v_texts v_tape v_taped v_fault v_faultPlace v_at v_place v_token v_number v_word v_text0 v_written v_sort0 v_pile v_piled v_opens v_isWhole v_once v_named_3 v_values v_truth v_isWritten v_died v_aside v_likely v_safe v_headOf) := hD
  refine lv_aload_n hx hb dX12_findsIn_6 rfl (lv_at hl 0 rfl) ?_
  refine lv_aload_n hx hb dX12_findsIn_7 rfl (lv_at hl 0 rfl) ?_
  refine gfX12_7 hx hb hts hown hK hP 0 rfl rfl dX12_findsIn_8 ?_
  refine lv_iconst (v := (3 : Int32)) hx hb dX12_findsIn_11 (by decide) ?_
  refine xiald hx hb hK hP 1 0 rfl rfl dX12_findsIn_12 hf (fun v12 hf => ?_)
  refine lv_iconst (v := (1 : Int32)) hx hb dX12_findsIn_13 (by decide) ?_
  refine lv_iconst (v := (5 : Int32)) hx hb dX12_findsIn_14 (by decide) ?_
  refine lv_aload_n hx hb dX12_findsIn_15 rfl (lv_at hl 0 rfl) ?_
  refine gfX12_7 hx hb hts hown hK hP 0 rfl rfl dX12_findsIn_16 ?_
  refine lv_bipush (v := (80 : Int32)) hx hb dX12_findsIn_19 (by decide) ?_
  refine lv_iload_n hx hb dX12_findsIn_21 rfl (lv_at hl 2 rfl) ?_
  refine lv_iadd hx hb dX12_findsIn_22 ?_
  refine xiald hx hb hK hP 1 0 rfl rfl dX12_findsIn_23 hf (fun v23 hf => ?_)
  refine lv_iconst (v := (2 : Int32)) hx hb dX12_findsIn_24 (by decide) ?_
  refine xidiv hx hb dX12_findsIn_25 hf (fun v25 hf => ?_)
  refine lv_isub hx hb dX12_findsIn_26 ?_
  refine lv_bipush (v := (10 : Int32)) hx hb dX12_findsIn_27 (by decide) ?_
  obtain ⟨r29, v_values_29, v_truth_29, hg29, hf⟩ := ob3_some hf
  refine mcV1_i (As := [.int v12, .int (1 : Int32), .int ((5 : Int32) - v25), .int (10 : Int32)]) (rest := []) hx hb hml hown hts hK hP hD hS hA (k_X12_says l N D cI cJ cZ cB cT h q v_a v_image v_texts v_tape v_taped v_fault v_faultPlace v_at v_place v_token v_number v_word v_text0 v_written v_sort0 v_pile v_piled v_opens v_isWhole v_once v_named_3 v_values v_truth v_isWritten v_died v_aside v_likely v_safe v_headOf v12 (1 : Int32) ((5 : Int32) - v25) (10 : Int32) r29 v_values_29 v_truth_29 hg29) (kwX12_303 hts rfl rfl ⟨Nat.le_of_ble_eq_true rfl, Nat.le_of_ble_eq_true rfl⟩) 0 rfl rfl rfl rfl hl.1 rfl (Nat.le_of_ble_eq_true rfl) dX12_findsIn_29 ⟨Nat.zero_le _, Nat.zero_le _⟩ (fun hB29 H locs hP hD hS => ?_)
  have hP : va_P D vwCl (WM h q cI cJ cZ v_a v_image v_texts v_tape v_taped v_fault v_faultPlace v_at v_place v_token v_number v_word v_text0 v_written v_sort0 v_pile v_piled v_opens v_isWhole v_once v_named_3 v_values_29 v_truth_29 v_isWritten v_died v_aside v_likely v_safe v_headOf) H := hP
  have hD : va_D A (WM h q cI cJ cZ v_a v_image v_texts v_tape v_taped v_fault v_faultPlace v_at v_place v_token v_number v_word v_text0 v_written v_sort0 v_pile v_piled v_opens v_isWhole v_once v_named_3 v_values_29 v_truth_29 v_isWritten v_died v_aside v_likely v_safe v_headOf) := hD
  cases hf
  exact mret_i hx hb hr hlocks hP hD hS dX12_findsIn_32 rfl trivial
theorem dX12_findsOf_0 : decode cX12_findsOf 0 = .ok (.aload_n 0, 1) := by decide +kernel
theorem dX12_findsOf_1 : decode cX12_findsOf 1 = .ok (.iload_n 1, 1) := by decide +kernel
theorem dX12_findsOf_2 : decode cX12_findsOf 2 = .ok (.aload_n 0, 1) := by decide +kernel
theorem dX12_findsOf_3 : decode cX12_findsOf 3 = .ok (.iload_n 1, 1) := by decide +kernel
theorem dX12_findsOf_4 : decode cX12_findsOf 4 = .ok (.iconst 0, 1) := by decide +kernel
theorem dX12_findsOf_5 : decode cX12_findsOf 5 = .ok (.invokevirtual 71, 3) := by decide +kernel
theorem dX12_findsOf_8 : decode cX12_findsOf 8 = .ok (.invokevirtual 307, 3) := by decide +kernel
theorem dX12_findsOf_11 : decode cX12_findsOf 11 = .ok (.ireturn, 1) := by decide +kernel
def f_X12_findsOf (N : Nat) (v_a : Nat → Int32) (v_texts : Nat → Int32) (v_named : Nat → Int32) (v_values : Nat → Int64) (v_truth : Nat → Int32) (p1 : Int32) : Option (Int32 × (Nat → Int32) × (Nat → Int64) × (Nat → Int32)) := ob1 (f_X12_get N v_a p1 (0 : Int32)) fun r5 => ob4 (f_X12_findsIn N v_a v_texts v_named v_values v_truth p1 r5) fun r8 v_named_8 v_values_8 v_truth_8 => some (r8, v_named_8, v_values_8, v_truth_8)
set_option maxHeartbeats 4000000 in
set_option maxRecDepth 100000 in
theorem k_X12_findsOf (l : Launch) (N : Nat) (D : va_G) (cI cJ cZ cB cT : ClassId) (h : Nat) (q : Nat → Nat) (v_a : Nat → Int32) (v_image : Nat → Int32) (v_texts : Nat → Int32) (v_tape : Nat → Int32) (v_taped : Int32) (v_fault : Int32) (v_faultPlace : Int32) (v_at : Int32) (v_place : Int32) (v_token : Int32) (v_number : Int32) (v_word : Int64) (v_text0 : Int32) (v_written : Int32) (v_sort0 : Int32) (v_pile : Nat → Int32) (v_piled : Int32) (v_opens : Int32) (v_isWhole : Int32) (v_once : Int32) (v_named : Nat → Int32) (v_values : Nat → Int64) (v_truth : Nat → Int32) (v_isWritten : Int32) (v_died : Int32) (v_aside : Nat → Int32) (v_likely : Nat → Int32) (v_safe : Nat → Int32) (v_headOf : Nat → Int32) (p1 : Int32) (o_r : Int32) (o_v_named : Nat → Int32) (o_v_values : Nat → Int64) (o_v_truth : Nat → Int32) (hf : f_X12_findsOf N v_a v_texts v_named v_values v_truth p1 = some (o_r, o_v_named, o_v_values, o_v_truth)) : ∀ sz, Met l yX12_findsOf (mw yX12_findsOf cX12_findsOf 2 (some .int)) ({ frames := 6, cells := 0, slots := 0, locals := 143 } : Room) (mPre D (mT cI cJ cZ cB cT) (WM h q cI cJ cZ v_a v_image v_texts v_tape v_taped v_fault v_faultPlace v_at v_place v_token v_number v_word v_text0 v_written v_sort0 v_pile v_piled v_opens v_isWhole v_once v_named v_values v_truth v_isWritten v_died v_aside v_likely v_safe v_headOf) sz [.ref h, .int p1]) ((mQi D (WM h q cI cJ cZ v_a v_image v_texts v_tape v_taped v_fault v_faultPlace v_at v_place v_token v_number v_word v_text0 v_written v_sort0 v_pile v_piled v_opens v_isWhole v_once o_v_named o_v_values o_v_truth v_isWritten v_died v_aside v_likely v_safe v_headOf) o_r True) (va_A (WM h q cI cJ cZ v_a v_image v_texts v_tape v_taped v_fault v_faultPlace v_at v_place v_token v_number v_word v_text0 v_written v_sort0 v_pile v_piled v_opens v_isWhole v_once v_named v_values v_truth v_isWritten v_died v_aside v_likely v_safe v_headOf) sz)) 0 0 (va_A (WM h q cI cJ cZ v_a v_image v_texts v_tape v_taped v_fault v_faultPlace v_at v_place v_token v_number v_word v_text0 v_written v_sort0 v_pile v_piled v_opens v_isWhole v_once v_named v_values v_truth v_isWritten v_died v_aside v_likely v_safe v_headOf) sz) := by
  refine mMet (Qc := (mQi D (WM h q cI cJ cZ v_a v_image v_texts v_tape v_taped v_fault v_faultPlace v_at v_place v_token v_number v_word v_text0 v_written v_sort0 v_pile v_piled v_opens v_isWhole v_once o_v_named o_v_values o_v_truth v_isWritten v_died v_aside v_likely v_safe v_headOf) o_r True)) (by decide) (Nat.le_of_ble_eq_true rfl) (fun p e s m below meth c A ls hx hb hr hml hts hown hlocks hK hA hP hD hl => ?_)
  have hown : s.vm.findClass RX12 = some m.cls := hown
  have hl : lv_has ls 2 [(0, .ref h), (1, .int p1)] := hl
  have hS : va_S A s.heap s.heap [] := va_S.rf
  unfold f_X12_findsOf at hf
  refine lv_aload_n hx hb dX12_findsOf_0 rfl (lv_at hl 0 rfl) ?_
  refine lv_iload_n hx hb dX12_findsOf_1 rfl (lv_at hl 1 rfl) ?_
  refine lv_aload_n hx hb dX12_findsOf_2 rfl (lv_at hl 0 rfl) ?_
  refine lv_iload_n hx hb dX12_findsOf_3 rfl (lv_at hl 1 rfl) ?_
  refine lv_iconst (v := (0 : Int32)) hx hb dX12_findsOf_4 (by decide) ?_
  obtain ⟨r5, hg5, hf⟩ := ob1_some hf
  refine mcV1_i (As := [.int p1, .int (0 : Int32)]) (rest := [.int p1, .ref h]) hx hb hml hown hts hK hP hD hS hA (k_X12_get l N D cI cJ cZ cB cT h q v_a v_image v_texts v_tape v_taped v_fault v_faultPlace v_at v_place v_token v_number v_word v_text0 v_written v_sort0 v_pile v_piled v_opens v_isWhole v_once v_named v_values v_truth v_isWritten v_died v_aside v_likely v_safe v_headOf p1 (0 : Int32) r5 hg5) (kwX12_71 hts rfl rfl ⟨Nat.le_of_ble_eq_true rfl, Nat.le_of_ble_eq_true rfl⟩) 0 rfl rfl rfl rfl hl.1 rfl (Nat.le_of_ble_eq_true rfl) dX12_findsOf_5 ⟨Nat.zero_le _, Nat.zero_le _⟩ (fun hB5 H locs hP hD hS => ?_)
  have hP : va_P D vwCl (WM h q cI cJ cZ v_a v_image v_texts v_tape v_taped v_fault v_faultPlace v_at v_place v_token v_number v_word v_text0 v_written v_sort0 v_pile v_piled v_opens v_isWhole v_once v_named v_values v_truth v_isWritten v_died v_aside v_likely v_safe v_headOf) H := hP
  have hD : va_D A (WM h q cI cJ cZ v_a v_image v_texts v_tape v_taped v_fault v_faultPlace v_at v_place v_token v_number v_word v_text0 v_written v_sort0 v_pile v_piled v_opens v_isWhole v_once v_named v_values v_truth v_isWritten v_died v_aside v_likely v_safe v_headOf) := hD
  obtain ⟨r8, v_named_8, v_values_8, v_truth_8, hg8, hf⟩ := ob4_some hf
  refine mcV1_i (As := [.int p1, .int r5]) (rest := []) hx hb hml hown hts hK hP hD hS hA (k_X12_findsIn l N D cI cJ cZ cB cT h q v_a v_image v_texts v_tape v_taped v_fault v_faultPlace v_at v_place v_token v_number v_word v_text0 v_written v_sort0 v_pile v_piled v_opens v_isWhole v_once v_named v_values v_truth v_isWritten v_died v_aside v_likely v_safe v_headOf p1 r5 r8 v_named_8 v_values_8 v_truth_8 hg8) (kwX12_307 hts rfl rfl ⟨Nat.le_of_ble_eq_true rfl, Nat.le_of_ble_eq_true rfl⟩) 0 rfl rfl rfl rfl hl.1 rfl (Nat.le_of_ble_eq_true rfl) dX12_findsOf_8 ⟨Nat.zero_le _, Nat.zero_le _⟩ (fun hB8 H locs hP hD hS => ?_)
  have hP : va_P D vwCl (WM h q cI cJ cZ v_a v_image v_texts v_tape v_taped v_fault v_faultPlace v_at v_place v_token v_number v_word v_text0 v_written v_sort0 v_pile v_piled v_opens v_isWhole v_once v_named_8 v_values_8 v_truth_8 v_isWritten v_died v_aside v_likely v_safe v_headOf) H := hP
  have hD : va_D A (WM h q cI cJ cZ v_a v_image v_texts v_tape v_taped v_fault v_faultPlace v_at v_place v_token v_number v_word v_text0 v_written v_sort0 v_pile v_piled v_opens v_isWhole v_once v_named_8 v_values_8 v_truth_8 v_isWritten v_died v_aside v_likely v_safe v_headOf) := hD
  cases hf
  exact mret_i hx hb hr hlocks hP hD hS dX12_findsOf_11 rfl trivial
theorem dX12_priceOf_0 : decode cX12_priceOf 0 = .ok (.aload_n 0, 1) := by decide +kernel
theorem dX12_priceOf_1 : decode cX12_priceOf 1 = .ok (.iload_n 2, 1) := by decide +kernel
theorem dX12_priceOf_2 : decode cX12_priceOf 2 = .ok (.aload_n 0, 1) := by decide +kernel
theorem dX12_priceOf_3 : decode cX12_priceOf 3 = .ok (.iload_n 2, 1) := by decide +kernel
theorem dX12_priceOf_4 : decode cX12_priceOf 4 = .ok (.iconst 0, 1) := by decide +kernel
theorem dX12_priceOf_5 : decode cX12_priceOf 5 = .ok (.invokevirtual 71, 3) := by decide +kernel
theorem dX12_priceOf_8 : decode cX12_priceOf 8 = .ok (.invokevirtual 300, 3) := by decide +kernel
theorem dX12_priceOf_11 : decode cX12_priceOf 11 = .ok (.aload_n 0, 1) := by decide +kernel
theorem dX12_priceOf_12 : decode cX12_priceOf 12 = .ok (.iload_n 1, 1) := by decide +kernel
theorem dX12_priceOf_13 : decode cX12_priceOf 13 = .ok (.iconst 2, 1) := by decide +kernel
theorem dX12_priceOf_14 : decode cX12_priceOf 14 = .ok (.bipush 100, 2) := by decide +kernel
theorem dX12_priceOf_16 : decode cX12_priceOf 16 = .ok (.bipush 20, 2) := by decide +kernel
theorem dX12_priceOf_18 : decode cX12_priceOf 18 = .ok (.aload_n 0, 1) := by decide +kernel
theorem dX12_priceOf_19 : decode cX12_priceOf 19 = .ok (.iload_n 2, 1) := by decide +kernel
theorem dX12_priceOf_20 : decode cX12_priceOf 20 = .ok (.iconst 5, 1) := by decide +kernel
theorem dX12_priceOf_21 : decode cX12_priceOf 21 = .ok (.invokevirtual 71, 3) := by decide +kernel
theorem dX12_priceOf_24 : decode cX12_priceOf 24 = .ok (.imul, 1) := by decide +kernel
theorem dX12_priceOf_25 : decode cX12_priceOf 25 = .ok (.iadd, 1) := by decide +kernel
theorem dX12_priceOf_26 : decode cX12_priceOf 26 = .ok (.sipush 9999, 3) := by decide +kernel
theorem dX12_priceOf_29 : decode cX12_priceOf 29 = .ok (.invokevirtual 303, 3) := by decide +kernel
theorem dX12_priceOf_32 : decode cX12_priceOf 32 = .ok (.ireturn, 1) := by decide +kernel
def f_X12_priceOf (N : Nat) (v_a : Nat → Int32) (v_texts : Nat → Int32) (v_named : Nat → Int32) (v_values : Nat → Int64) (v_truth : Nat → Int32) (p1 : Int32) (p2 : Int32) : Option (Int32 × (Nat → Int32) × (Nat → Int64) × (Nat → Int32)) := ob1 (f_X12_get N v_a p2 (0 : Int32)) fun r5 => ob1 (f_X12_nameIn N v_a v_named p2 r5) fun v_named_8 => ob1 (f_X12_get N v_a p2 (5 : Int32)) fun r21 => ob3 (f_X12_says N v_a v_texts v_named_8 v_values v_truth p1 (2 : Int32) ((100 : Int32) + ((20 : Int32) * r21)) (9999 : Int32)) fun r29 v_values_29 v_truth_29 => some (r29, v_named_8, v_values_29, v_truth_29)
set_option maxHeartbeats 4000000 in
set_option maxRecDepth 100000 in
theorem k_X12_priceOf (l : Launch) (N : Nat) (D : va_G) (cI cJ cZ cB cT : ClassId) (h : Nat) (q : Nat → Nat) (v_a : Nat → Int32) (v_image : Nat → Int32) (v_texts : Nat → Int32) (v_tape : Nat → Int32) (v_taped : Int32) (v_fault : Int32) (v_faultPlace : Int32) (v_at : Int32) (v_place : Int32) (v_token : Int32) (v_number : Int32) (v_word : Int64) (v_text0 : Int32) (v_written : Int32) (v_sort0 : Int32) (v_pile : Nat → Int32) (v_piled : Int32) (v_opens : Int32) (v_isWhole : Int32) (v_once : Int32) (v_named : Nat → Int32) (v_values : Nat → Int64) (v_truth : Nat → Int32) (v_isWritten : Int32) (v_died : Int32) (v_aside : Nat → Int32) (v_likely : Nat → Int32) (v_safe : Nat → Int32) (v_headOf : Nat → Int32) (p1 : Int32) (p2 : Int32) (o_r : Int32) (o_v_named : Nat → Int32) (o_v_values : Nat → Int64) (o_v_truth : Nat → Int32) (hf : f_X12_priceOf N v_a v_texts v_named v_values v_truth p1 p2 = some (o_r, o_v_named, o_v_values, o_v_truth)) : ∀ sz, Met l yX12_priceOf (mw yX12_priceOf cX12_priceOf 3 (some .int)) ({ frames := 5, cells := 0, slots := 0, locals := 121 } : Room) (mPre D (mT cI cJ cZ cB cT) (WM h q cI cJ cZ v_a v_image v_texts v_tape v_taped v_fault v_faultPlace v_at v_place v_token v_number v_word v_text0 v_written v_sort0 v_pile v_piled v_opens v_isWhole v_once v_named v_values v_truth v_isWritten v_died v_aside v_likely v_safe v_headOf) sz [.ref h, .int p1, .int p2]) ((mQi D (WM h q cI cJ cZ v_a v_image v_texts v_tape v_taped v_fault v_faultPlace v_at v_place v_token v_number v_word v_text0 v_written v_sort0 v_pile v_piled v_opens v_isWhole v_once o_v_named o_v_values o_v_truth v_isWritten v_died v_aside v_likely v_safe v_headOf) o_r True) (va_A (WM h q cI cJ cZ v_a v_image v_texts v_tape v_taped v_fault v_faultPlace v_at v_place v_token v_number v_word v_text0 v_written v_sort0 v_pile v_piled v_opens v_isWhole v_once v_named v_values v_truth v_isWritten v_died v_aside v_likely v_safe v_headOf) sz)) 0 0 (va_A (WM h q cI cJ cZ v_a v_image v_texts v_tape v_taped v_fault v_faultPlace v_at v_place v_token v_number v_word v_text0 v_written v_sort0 v_pile v_piled v_opens v_isWhole v_once v_named v_values v_truth v_isWritten v_died v_aside v_likely v_safe v_headOf) sz) := by
  refine mMet (Qc := (mQi D (WM h q cI cJ cZ v_a v_image v_texts v_tape v_taped v_fault v_faultPlace v_at v_place v_token v_number v_word v_text0 v_written v_sort0 v_pile v_piled v_opens v_isWhole v_once o_v_named o_v_values o_v_truth v_isWritten v_died v_aside v_likely v_safe v_headOf) o_r True)) (by decide) (Nat.le_of_ble_eq_true rfl) (fun p e s m below meth c A ls hx hb hr hml hts hown hlocks hK hA hP hD hl => ?_)
  have hown : s.vm.findClass RX12 = some m.cls := hown
  have hl : lv_has ls 3 [(0, .ref h), (1, .int p1), (2, .int p2)] := hl
  have hS : va_S A s.heap s.heap [] := va_S.rf
  unfold f_X12_priceOf at hf
  refine lv_aload_n hx hb dX12_priceOf_0 rfl (lv_at hl 0 rfl) ?_
  refine lv_iload_n hx hb dX12_priceOf_1 rfl (lv_at hl 2 rfl) ?_
  refine lv_aload_n hx hb dX12_priceOf_2 rfl (lv_at hl 0 rfl) ?_
  refine lv_iload_n hx hb dX12_priceOf_3 rfl (lv_at hl 2 rfl) ?_
  refine lv_iconst (v := (0 : Int32)) hx hb dX12_priceOf_4 (by decide) ?_
  obtain ⟨r5, hg5, hf⟩ := ob1_some hf
  refine mcV1_i (As := [.int p2, .int (0 : Int32)]) (rest := [.int p2, .ref h]) hx hb hml hown hts hK hP hD hS hA (k_X12_get l N D cI cJ cZ cB cT h q v_a v_image v_texts v_tape v_taped v_fault v_faultPlace v_at v_place v_token v_number v_word v_text0 v_written v_sort0 v_pile v_piled v_opens v_isWhole v_once v_named v_values v_truth v_isWritten v_died v_aside v_likely v_safe v_headOf p2 (0 : Int32) r5 hg5) (kwX12_71 hts rfl rfl ⟨Nat.le_of_ble_eq_true rfl, Nat.le_of_ble_eq_true rfl⟩) 0 rfl rfl rfl rfl hl.1 rfl (Nat.le_of_ble_eq_true rfl) dX12_priceOf_5 ⟨Nat.zero_le _, Nat.zero_le _⟩ (fun hB5 H locs hP hD hS => ?_)
  have hP : va_P D vwCl (WM h q cI cJ cZ v_a v_image v_texts v_tape v_taped v_fault v_faultPlace v_at v_place v_token v_number v_word v_text0 v_written v_sort0 v_pile v_piled v_opens v_isWhole v_once v_named v_values v_truth v_isWritten v_died v_aside v_likely v_safe v_headOf) H := hP
  have hD : va_D A (WM h q cI cJ cZ v_a v_image v_texts v_tape v_taped v_fault v_faultPlace v_at v_place v_token v_number v_word v_text0 v_written v_sort0 v_pile v_piled v_opens v_isWhole v_once v_named v_values v_truth v_isWritten v_died v_aside v_likely v_safe v_headOf) := hD
  obtain ⟨v_named_8, hg8, hf⟩ := ob1_some hf
  refine mcV1_v (As := [.int p2, .int r5]) (rest := []) hx hb hml hown hts hK hP hD hS hA (k_X12_nameIn l N D cI cJ cZ cB cT h q v_a v_image v_texts v_tape v_taped v_fault v_faultPlace v_at v_place v_token v_number v_word v_text0 v_written v_sort0 v_pile v_piled v_opens v_isWhole v_once v_named v_values v_truth v_isWritten v_died v_aside v_likely v_safe v_headOf p2 r5 v_named_8 hg8) (kwX12_300 hts rfl rfl ⟨Nat.le_of_ble_eq_true rfl, Nat.le_of_ble_eq_true rfl⟩) 0 rfl rfl rfl rfl hl.1 rfl (Nat.le_of_ble_eq_true rfl) dX12_priceOf_8 ⟨Nat.zero_le _, Nat.zero_le _⟩ (fun H locs hP hD hS => ?_)
  have hP : va_P D vwCl (WM h q cI cJ cZ v_a v_image v_texts v_tape v_taped v_fault v_faultPlace v_at v_place v_token v_number v_word v_text0 v_written v_sort0 v_pile v_piled v_opens v_isWhole v_once v_named_8 v_values v_truth v_isWritten v_died v_aside v_likely v_safe v_headOf) H := hP
  have hD : va_D A (WM h q cI cJ cZ v_a v_image v_texts v_tape v_taped v_fault v_faultPlace v_at v_place v_token v_number v_word v_text0 v_written v_sort0 v_pile v_piled v_opens v_isWhole v_once v_named_8 v_values v_truth v_isWritten v_died v_aside v_likely v_safe v_headOf) := hD
  refine lv_aload_n hx hb dX12_priceOf_11 rfl (lv_at hl 0 rfl) ?_
  refine lv_iload_n hx hb dX12_priceOf_12 rfl (lv_at hl 1 rfl) ?_
  refine lv_iconst (v := (2 : Int32)) hx hb dX12_priceOf_13 (by decide) ?_
  refine lv_bipush (v := (100 : Int32)) hx hb dX12_priceOf_14 (by decide) ?_
  refine lv_bipush (v := (20 : Int32)) hx hb dX12_priceOf_16 (by decide) ?_
  refine lv_aload_n hx hb dX12_priceOf_18 rfl (lv_at hl 0 rfl) ?_
  refine lv_iload_n hx hb dX12_priceOf_19 rfl (lv_at hl 2 rfl) ?_
  refine lv_iconst (v := (5 : Int32)) hx hb dX12_priceOf_20 (by decide) ?_
  obtain ⟨r21, hg21, hf⟩ := ob1_some hf
  refine mcV1_i (As := [.int p2, .int (5 : Int32)]) (rest := [.int (20 : Int32), .int (100 : Int32), .int (2 : Int32), .int p1, .ref h]) hx hb hml hown hts hK hP hD hS hA (k_X12_get l N D cI cJ cZ cB cT h q v_a v_image v_texts v_tape v_taped v_fault v_faultPlace v_at v_place v_token v_number v_word v_text0 v_written v_sort0 v_pile v_piled v_opens v_isWhole v_once v_named_8 v_values v_truth v_isWritten v_died v_aside v_likely v_safe v_headOf p2 (5 : Int32) r21 hg21) (kwX12_71 hts rfl rfl ⟨Nat.le_of_ble_eq_true rfl, Nat.le_of_ble_eq_true rfl⟩) 0 rfl rfl rfl rfl hl.1 rfl (Nat.le_of_ble_eq_true rfl) dX12_priceOf_21 ⟨Nat.zero_le _, Nat.zero_le _⟩ (fun hB21 H locs hP hD hS => ?_)
  have hP : va_P D vwCl (WM h q cI cJ cZ v_a v_image v_texts v_tape v_taped v_fault v_faultPlace v_at v_place v_token v_number v_word v_text0 v_written v_sort0 v_pile v_piled v_opens v_isWhole v_once v_named_8 v_values v_truth v_isWritten v_died v_aside v_likely v_safe v_headOf) H := hP
  have hD : va_D A (WM h q cI cJ cZ v_a v_image v_texts v_tape v_taped v_fault v_faultPlace v_at v_place v_token v_number v_word v_text0 v_written v_sort0 v_pile v_piled v_opens v_isWhole v_once v_named_8 v_values v_truth v_isWritten v_died v_aside v_likely v_safe v_headOf) := hD
  refine lv_imul hx hb dX12_priceOf_24 ?_
  refine lv_iadd hx hb dX12_priceOf_25 ?_
  refine lv_sipush (v := (9999 : Int32)) hx hb dX12_priceOf_26 (by decide) ?_
  obtain ⟨r29, v_values_29, v_truth_29, hg29, hf⟩ := ob3_some hf
  refine mcV1_i (As := [.int p1, .int (2 : Int32), .int ((100 : Int32) + ((20 : Int32) * r21)), .int (9999 : Int32)]) (rest := []) hx hb hml hown hts hK hP hD hS hA (k_X12_says l N D cI cJ cZ cB cT h q v_a v_image v_texts v_tape v_taped v_fault v_faultPlace v_at v_place v_token v_number v_word v_text0 v_written v_sort0 v_pile v_piled v_opens v_isWhole v_once v_named_8 v_values v_truth v_isWritten v_died v_aside v_likely v_safe v_headOf p1 (2 : Int32) ((100 : Int32) + ((20 : Int32) * r21)) (9999 : Int32) r29 v_values_29 v_truth_29 hg29) (kwX12_303 hts rfl rfl ⟨Nat.le_of_ble_eq_true rfl, Nat.le_of_ble_eq_true rfl⟩) 0 rfl rfl rfl rfl hl.1 rfl (Nat.le_of_ble_eq_true rfl) dX12_priceOf_29 ⟨Nat.zero_le _, Nat.zero_le _⟩ (fun hB29 H locs hP hD hS => ?_)
  have hP : va_P D vwCl (WM h q cI cJ cZ v_a v_image v_texts v_tape v_taped v_fault v_faultPlace v_at v_place v_token v_number v_word v_text0 v_written v_sort0 v_pile v_piled v_opens v_isWhole v_once v_named_8 v_values_29 v_truth_29 v_isWritten v_died v_aside v_likely v_safe v_headOf) H := hP
  have hD : va_D A (WM h q cI cJ cZ v_a v_image v_texts v_tape v_taped v_fault v_faultPlace v_at v_place v_token v_number v_word v_text0 v_written v_sort0 v_pile v_piled v_opens v_isWhole v_once v_named_8 v_values_29 v_truth_29 v_isWritten v_died v_aside v_likely v_safe v_headOf) := hD
  cases hf
  exact mret_i hx hb hr hlocks hP hD hS dX12_priceOf_32 rfl trivial
theorem dX12_earnsOf_0 : decode cX12_earnsOf 0 = .ok (.aload_n 0, 1) := by decide +kernel
theorem dX12_earnsOf_1 : decode cX12_earnsOf 1 = .ok (.iload_n 1, 1) := by decide +kernel
theorem dX12_earnsOf_2 : decode cX12_earnsOf 2 = .ok (.aload_n 0, 1) := by decide +kernel
theorem dX12_earnsOf_3 : decode cX12_earnsOf 3 = .ok (.iload_n 1, 1) := by decide +kernel
theorem dX12_earnsOf_4 : decode cX12_earnsOf 4 = .ok (.iconst 0, 1) := by decide +kernel
theorem dX12_earnsOf_5 : decode cX12_earnsOf 5 = .ok (.invokevirtual 71, 3) := by decide +kernel
theorem dX12_earnsOf_8 : decode cX12_earnsOf 8 = .ok (.invokevirtual 300, 3) := by decide +kernel
theorem dX12_earnsOf_11 : decode cX12_earnsOf 11 = .ok (.aload_n 0, 1) := by decide +kernel
theorem dX12_earnsOf_12 : decode cX12_earnsOf 12 = .ok (.aload_n 0, 1) := by decide +kernel
theorem dX12_earnsOf_13 : decode cX12_earnsOf 13 = .ok (.getfield 7, 3) := by decide +kernel
theorem dX12_earnsOf_16 : decode cX12_earnsOf 16 = .ok (.iconst 3, 1) := by decide +kernel
theorem dX12_earnsOf_17 : decode cX12_earnsOf 17 = .ok (.iaload, 1) := by decide +kernel
theorem dX12_earnsOf_18 : decode cX12_earnsOf 18 = .ok (.iconst 3, 1) := by decide +kernel
theorem dX12_earnsOf_19 : decode cX12_earnsOf 19 = .ok (.bipush 10, 2) := by decide +kernel
theorem dX12_earnsOf_21 : decode cX12_earnsOf 21 = .ok (.bipush 99, 2) := by decide +kernel
theorem dX12_earnsOf_23 : decode cX12_earnsOf 23 = .ok (.invokevirtual 303, 3) := by decide +kernel
theorem dX12_earnsOf_26 : decode cX12_earnsOf 26 = .ok (.ireturn, 1) := by decide +kernel
def f_X12_earnsOf (N : Nat) (v_a : Nat → Int32) (v_texts : Nat → Int32) (v_named : Nat → Int32) (v_values : Nat → Int64) (v_truth : Nat → Int32) (p1 : Int32) : Option (Int32 × (Nat → Int32) × (Nat → Int64) × (Nat → Int32)) := ob1 (f_X12_get N v_a p1 (0 : Int32)) fun r5 => ob1 (f_X12_nameIn N v_a v_named p1 r5) fun v_named_8 => gA v_a 8762 (3 : Int32) fun v17 => ob3 (f_X12_says N v_a v_texts v_named_8 v_values v_truth v17 (3 : Int32) (10 : Int32) (99 : Int32)) fun r23 v_values_23 v_truth_23 => some (r23, v_named_8, v_values_23, v_truth_23)
set_option maxHeartbeats 4000000 in
set_option maxRecDepth 100000 in
theorem k_X12_earnsOf (l : Launch) (N : Nat) (D : va_G) (cI cJ cZ cB cT : ClassId) (h : Nat) (q : Nat → Nat) (v_a : Nat → Int32) (v_image : Nat → Int32) (v_texts : Nat → Int32) (v_tape : Nat → Int32) (v_taped : Int32) (v_fault : Int32) (v_faultPlace : Int32) (v_at : Int32) (v_place : Int32) (v_token : Int32) (v_number : Int32) (v_word : Int64) (v_text0 : Int32) (v_written : Int32) (v_sort0 : Int32) (v_pile : Nat → Int32) (v_piled : Int32) (v_opens : Int32) (v_isWhole : Int32) (v_once : Int32) (v_named : Nat → Int32) (v_values : Nat → Int64) (v_truth : Nat → Int32) (v_isWritten : Int32) (v_died : Int32) (v_aside : Nat → Int32) (v_likely : Nat → Int32) (v_safe : Nat → Int32) (v_headOf : Nat → Int32) (p1 : Int32) (o_r : Int32) (o_v_named : Nat → Int32) (o_v_values : Nat → Int64) (o_v_truth : Nat → Int32) (hf : f_X12_earnsOf N v_a v_texts v_named v_values v_truth p1 = some (o_r, o_v_named, o_v_values, o_v_truth)) : ∀ sz, Met l yX12_earnsOf (mw yX12_earnsOf cX12_earnsOf 2 (some .int)) ({ frames := 5, cells := 0, slots := 0, locals := 121 } : Room) (mPre D (mT cI cJ cZ cB cT) (WM h q cI cJ cZ v_a v_image v_texts v_tape v_taped v_fault v_faultPlace v_at v_place v_token v_number v_word v_text0 v_written v_sort0 v_pile v_piled v_opens v_isWhole v_once v_named v_values v_truth v_isWritten v_died v_aside v_likely v_safe v_headOf) sz [.ref h, .int p1]) ((mQi D (WM h q cI cJ cZ v_a v_image v_texts v_tape v_taped v_fault v_faultPlace v_at v_place v_token v_number v_word v_text0 v_written v_sort0 v_pile v_piled v_opens v_isWhole v_once o_v_named o_v_values o_v_truth v_isWritten v_died v_aside v_likely v_safe v_headOf) o_r True) (va_A (WM h q cI cJ cZ v_a v_image v_texts v_tape v_taped v_fault v_faultPlace v_at v_place v_token v_number v_word v_text0 v_written v_sort0 v_pile v_piled v_opens v_isWhole v_once v_named v_values v_truth v_isWritten v_died v_aside v_likely v_safe v_headOf) sz)) 0 0 (va_A (WM h q cI cJ cZ v_a v_image v_texts v_tape v_taped v_fault v_faultPlace v_at v_place v_token v_number v_word v_text0 v_written v_sort0 v_pile v_piled v_opens v_isWhole v_once v_named v_values v_truth v_isWritten v_died v_aside v_likely v_safe v_headOf) sz) := by
  refine mMet (Qc := (mQi D (WM h q cI cJ cZ v_a v_image v_texts v_tape v_taped v_fault v_faultPlace v_at v_place v_token v_number v_word v_text0 v_written v_sort0 v_pile v_piled v_opens v_isWhole v_once o_v_named o_v_values o_v_truth v_isWritten v_died v_aside v_likely v_safe v_headOf) o_r True)) (by decide) (Nat.le_of_ble_eq_true rfl) (fun p e s m below meth c A ls hx hb hr hml hts hown hlocks hK hA hP hD hl => ?_)
  have hown : s.vm.findClass RX12 = some m.cls := hown
  have hl : lv_has ls 2 [(0, .ref h), (1, .int p1)] := hl
  have hS : va_S A s.heap s.heap [] := va_S.rf
  unfold f_X12_earnsOf at hf
  refine lv_aload_n hx hb dX12_earnsOf_0 rfl (lv_at hl 0 rfl) ?_
  refine lv_iload_n hx hb dX12_earnsOf_1 rfl (lv_at hl 1 rfl) ?_
  refine lv_aload_n hx hb dX12_earnsOf_2 rfl (lv_at hl 0 rfl) ?_
  refine lv_iload_n hx hb dX12_earnsOf_3 rfl (lv_at hl 1 rfl) ?_
  refine lv_iconst (v := (0 : Int32)) hx hb dX12_earnsOf_4 (by decide) ?_
  obtain ⟨r5, hg5, hf⟩ := ob1_some hf
  refine mcV1_i (As := [.int p1, .int (0 : Int32)]) (rest := [.int p1, .ref h]) hx hb hml hown hts hK hP hD hS hA (k_X12_get l N D cI cJ cZ cB cT h q v_a v_image v_texts v_tape v_taped v_fault v_faultPlace v_at v_place v_token v_number v_word v_text0 v_written v_sort0 v_pile v_piled v_opens v_isWhole v_once v_named v_values v_truth v_isWritten v_died v_aside v_likely v_safe v_headOf p1 (0 : Int32) r5 hg5) (kwX12_71 hts rfl rfl ⟨Nat.le_of_ble_eq_true rfl, Nat.le_of_ble_eq_true rfl⟩) 0 rfl rfl rfl rfl hl.1 rfl (Nat.le_of_ble_eq_true rfl) dX12_earnsOf_5 ⟨Nat.zero_le _, Nat.zero_le _⟩ (fun hB5 H locs hP hD hS => ?_)
  have hP : va_P D vwCl (WM h q cI cJ cZ v_a v_image v_texts v_tape v_taped v_fault v_faultPlace v_at v_place v_token v_number v_word v_text0 v_written v_sort0 v_pile v_piled v_opens v_isWhole v_once v_named v_values v_truth v_isWritten v_died v_aside v_likely v_safe v_headOf) H := hP
  have hD : va_D A (WM h q cI cJ cZ v_a v_image v_texts v_tape v_taped v_fault v_faultPlace v_at v_place v_token v_number v_word v_text0 v_written v_sort0 v_pile v_piled v_opens v_isWhole v_once v_named v_values v_truth v_isWritten v_died v_aside v_likely v_safe v_headOf) := hD
  obtain ⟨v_named_8, hg8, hf⟩ := ob1_some hf
  refine mcV1_v (As := [.int p1, .int r5]) (rest := []) hx hb hml hown hts hK hP hD hS hA (k_X12_nameIn l N D cI cJ cZ cB cT h q v_a v_image v_texts v_tape v_taped v_fault v_faultPlace v_at v_place v_token v_number v_word v_text0 v_written v_sort0 v_pile v_piled v_opens v_isWhole v_once v_named v_values v_truth v_isWritten v_died v_aside v_likely v_safe v_headOf p1 r5 v_named_8 hg8) (kwX12_300 hts rfl rfl ⟨Nat.le_of_ble_eq_true rfl, Nat.le_of_ble_eq_true rfl⟩) 0 rfl rfl rfl rfl hl.1 rfl (Nat.le_of_ble_eq_true rfl) dX12_earnsOf_8 ⟨Nat.zero_le _, Nat.zero_le _⟩ (fun H locs hP hD hS => ?_)
  have hP : va_P D vwCl (WM h q cI cJ cZ v_a v_image v_texts v_tape v_taped v_fault v_faultPlace v_at v_place v_token v_number v_word v_text0 v_written v_sort0 v_pile v_piled v_opens v_isWhole v_once v_named_8 v_values v_truth v_isWritten v_died v_aside v_likely v_safe v_headOf) H := hP
  have hD : va_D A (WM h q cI cJ cZ v_a v_image v_texts v_tape v_taped v_fault v_faultPlace v_at v_place v_token v_number v_word v_text0 v_written v_sort0 v_pile v_piled v_opens v_isWhole v_once v_named_8 v_values v_truth v_isWritten v_died v_aside v_likely v_safe v_headOf) := hD
  refine lv_aload_n hx hb dX12_earnsOf_11 rfl (lv_at hl 0 rfl) ?_
  refine lv_aload_n hx hb dX12_earnsOf_12 rfl (lv_at hl 0 rfl) ?_
  refine gfX12_7 hx hb hts hown hK hP 0 rfl rfl dX12_earnsOf_13 ?_
  refine lv_iconst (v := (3 : Int32)) hx hb dX12_earnsOf_16 (by decide) ?_
  refine xiald hx hb hK hP 1 0 rfl rfl dX12_earnsOf_17 hf (fun v17 hf => ?_)
  refine lv_iconst (v := (3 : Int32)) hx hb dX12_earnsOf_18 (by decide) ?_
  refine lv_bipush (v := (10 : Int32)) hx hb dX12_earnsOf_19 (by decide) ?_
  refine lv_bipush (v := (99 : Int32)) hx hb dX12_earnsOf_21 (by decide) ?_
  obtain ⟨r23, v_values_23, v_truth_23, hg23, hf⟩ := ob3_some hf
  refine mcV1_i (As := [.int v17, .int (3 : Int32), .int (10 : Int32), .int (99 : Int32)]) (rest := []) hx hb hml hown hts hK hP hD hS hA (k_X12_says l N D cI cJ cZ cB cT h q v_a v_image v_texts v_tape v_taped v_fault v_faultPlace v_at v_place v_token v_number v_word v_text0 v_written v_sort0 v_pile v_piled v_opens v_isWhole v_once v_named_8 v_values v_truth v_isWritten v_died v_aside v_likely v_safe v_headOf v17 (3 : Int32) (10 : Int32) (99 : Int32) r23 v_values_23 v_truth_23 hg23) (kwX12_303 hts rfl rfl ⟨Nat.le_of_ble_eq_true rfl, Nat.le_of_ble_eq_true rfl⟩) 0 rfl rfl rfl rfl hl.1 rfl (Nat.le_of_ble_eq_true rfl) dX12_earnsOf_23 ⟨Nat.zero_le _, Nat.zero_le _⟩ (fun hB23 H locs hP hD hS => ?_)
  have hP : va_P D vwCl (WM h q cI cJ cZ v_a v_image v_texts v_tape v_taped v_fault v_faultPlace v_at v_place v_token v_number v_word v_text0 v_written v_sort0 v_pile v_piled v_opens v_isWhole v_once v_named_8 v_values_23 v_truth_23 v_isWritten v_died v_aside v_likely v_safe v_headOf) H := hP
  have hD : va_D A (WM h q cI cJ cZ v_a v_image v_texts v_tape v_taped v_fault v_faultPlace v_at v_place v_token v_number v_word v_text0 v_written v_sort0 v_pile v_piled v_opens v_isWhole v_once v_named_8 v_values_23 v_truth_23 v_isWritten v_died v_aside v_likely v_safe v_headOf) := hD
  cases hf
  exact mret_i hx hb hr hlocks hP hD hS dX12_earnsOf_26 rfl trivial
theorem dX12_write_0 : decode cX12_write 0 = .ok (.aload_n 0, 1) := by decide +kernel
theorem dX12_write_1 : decode cX12_write 1 = .ok (.getfield 43, 3) := by decide +kernel
theorem dX12_write_4 : decode cX12_write 4 = .ok (.ifCond .ne 4, 3) := by decide +kernel
theorem dX12_write_7 : decode cX12_write 7 = .ok (.return_, 1) := by decide +kernel
theorem dX12_write_8 : decode cX12_write 8 = .ok (.aload_n 0, 1) := by decide +kernel
theorem dX12_write_9 : decode cX12_write 9 = .ok (.getfield 7, 3) := by decide +kernel
theorem dX12_write_12 : decode cX12_write 12 = .ok (.sipush 1522, 3) := by decide +kernel
theorem dX12_write_15 : decode cX12_write 15 = .ok (.aload_n 0, 1) := by decide +kernel
theorem dX12_write_16 : decode cX12_write 16 = .ok (.getfield 7, 3) := by decide +kernel
theorem dX12_write_19 : decode cX12_write 19 = .ok (.bipush 12, 2) := by decide +kernel
theorem dX12_write_21 : decode cX12_write 21 = .ok (.iaload, 1) := by decide +kernel
theorem dX12_write_22 : decode cX12_write 22 = .ok (.sipush 7240, 3) := by decide +kernel
theorem dX12_write_25 : decode cX12_write 25 = .ok (.irem, 1) := by decide +kernel
theorem dX12_write_26 : decode cX12_write 26 = .ok (.iadd, 1) := by decide +kernel
theorem dX12_write_27 : decode cX12_write 27 = .ok (.aload_n 0, 1) := by decide +kernel
theorem dX12_write_28 : decode cX12_write 28 = .ok (.getfield 7, 3) := by decide +kernel
theorem dX12_write_31 : decode cX12_write 31 = .ok (.bipush 10, 2) := by decide +kernel
theorem dX12_write_33 : decode cX12_write 33 = .ok (.iaload, 1) := by decide +kernel
theorem dX12_write_34 : decode cX12_write 34 = .ok (.bipush 8, 2) := by decide +kernel
theorem dX12_write_36 : decode cX12_write 36 = .ok (.imul, 1) := by decide +kernel
theorem dX12_write_37 : decode cX12_write 37 = .ok (.iload_n 1, 1) := by decide +kernel
theorem dX12_write_38 : decode cX12_write 38 = .ok (.iadd, 1) := by decide +kernel
theorem dX12_write_39 : decode cX12_write 39 = .ok (.bipush 8, 2) := by decide +kernel
theorem dX12_write_41 : decode cX12_write 41 = .ok (.imul, 1) := by decide +kernel
theorem dX12_write_42 : decode cX12_write 42 = .ok (.iload_n 2, 1) := by decide +kernel
theorem dX12_write_43 : decode cX12_write 43 = .ok (.iadd, 1) := by decide +kernel
theorem dX12_write_44 : decode cX12_write 44 = .ok (.iastore, 1) := by decide +kernel
theorem dX12_write_45 : decode cX12_write 45 = .ok (.aload_n 0, 1) := by decide +kernel
theorem dX12_write_46 : decode cX12_write 46 = .ok (.getfield 7, 3) := by decide +kernel
theorem dX12_write_49 : decode cX12_write 49 = .ok (.bipush 12, 2) := by decide +kernel
theorem dX12_write_51 : decode cX12_write 51 = .ok (.dup2, 1) := by decide +kernel
theorem dX12_write_52 : decode cX12_write 52 = .ok (.iaload, 1) := by decide +kernel
theorem dX12_write_53 : decode cX12_write 53 = .ok (.iconst 1, 1) := by decide +kernel
theorem dX12_write_54 : decode cX12_write 54 = .ok (.iadd, 1) := by decide +kernel
theorem dX12_write_55 : decode cX12_write 55 = .ok (.iastore, 1) := by decide +kernel
theorem dX12_write_56 : decode cX12_write 56 = .ok (.return_, 1) := by decide +kernel
def f_X12_write (N : Nat) (v_a : Nat → Int32) (v_isWritten : Int32) (p1 : Int32) (p2 : Int32) : Option ((Nat → Int32)) := if v_isWritten = 0 then (some v_a) else (gA v_a 8762 (12 : Int32) fun v21 => rmI v21 (7240 : Int32) fun v25 => gA v_a 8762 (10 : Int32) fun v33 => sA v_a 8762 ((1522 : Int32) + v25) ((((v33 * (8 : Int32)) + p1) * (8 : Int32)) + p2) fun v_a_44 => gA v_a_44 8762 (12 : Int32) fun v52 => sA v_a_44 8762 (12 : Int32) (v52 + (1 : Int32)) fun v_a_55 => some v_a_55)
set_option maxHeartbeats 4000000 in
set_option maxRecDepth 100000 in
theorem k_X12_write (l : Launch) (N : Nat) (D : va_G) (cI cJ cZ cB cT : ClassId) (h : Nat) (q : Nat → Nat) (v_a : Nat → Int32) (v_image : Nat → Int32) (v_texts : Nat → Int32) (v_tape : Nat → Int32) (v_taped : Int32) (v_fault : Int32) (v_faultPlace : Int32) (v_at : Int32) (v_place : Int32) (v_token : Int32) (v_number : Int32) (v_word : Int64) (v_text0 : Int32) (v_written : Int32) (v_sort0 : Int32) (v_pile : Nat → Int32) (v_piled : Int32) (v_opens : Int32) (v_isWhole : Int32) (v_once : Int32) (v_named : Nat → Int32) (v_values : Nat → Int64) (v_truth : Nat → Int32) (v_isWritten : Int32) (v_died : Int32) (v_aside : Nat → Int32) (v_likely : Nat → Int32) (v_safe : Nat → Int32) (v_headOf : Nat → Int32) (p1 : Int32) (p2 : Int32) (o_v_a : Nat → Int32) (hf : f_X12_write N v_a v_isWritten p1 p2 = some o_v_a) : ∀ sz, Met l yX12_write (mw yX12_write cX12_write 3 none) ({ frames := 0, cells := 0, slots := 0, locals := 0 } : Room) (mPre D (mT cI cJ cZ cB cT) (WM h q cI cJ cZ v_a v_image v_texts v_tape v_taped v_fault v_faultPlace v_at v_place v_token v_number v_word v_text0 v_written v_sort0 v_pile v_piled v_opens v_isWhole v_once v_named v_values v_truth v_isWritten v_died v_aside v_likely v_safe v_headOf) sz [.ref h, .int p1, .int p2]) ((mQv D (WM h q cI cJ cZ o_v_a v_image v_texts v_tape v_taped v_fault v_faultPlace v_at v_place v_token v_number v_word v_text0 v_written v_sort0 v_pile v_piled v_opens v_isWhole v_once v_named v_values v_truth v_isWritten v_died v_aside v_likely v_safe v_headOf)) (va_A (WM h q cI cJ cZ v_a v_image v_texts v_tape v_taped v_fault v_faultPlace v_at v_place v_token v_number v_word v_text0 v_written v_sort0 v_pile v_piled v_opens v_isWhole v_once v_named v_values v_truth v_isWritten v_died v_aside v_likely v_safe v_headOf) sz)) 0 0 (va_A (WM h q cI cJ cZ v_a v_image v_texts v_tape v_taped v_fault v_faultPlace v_at v_place v_token v_number v_word v_text0 v_written v_sort0 v_pile v_piled v_opens v_isWhole v_once v_named v_values v_truth v_isWritten v_died v_aside v_likely v_safe v_headOf) sz) := by
  refine mMet (Qc := (mQv D (WM h q cI cJ cZ o_v_a v_image v_texts v_tape v_taped v_fault v_faultPlace v_at v_place v_token v_number v_word v_text0 v_written v_sort0 v_pile v_piled v_opens v_isWhole v_once v_named v_values v_truth v_isWritten v_died v_aside v_likely v_safe v_headOf))) (by decide) (Nat.le_of_ble_eq_true rfl) (fun p e s m below meth c A ls hx hb hr hml hts hown hlocks hK hA hP hD hl => ?_)
  have hown : s.vm.findClass RX12 = some m.cls := hown
  have hl : lv_has ls 3 [(0, .ref h), (1, .int p1), (2, .int p2)] := hl
  have hS : va_S A s.heap s.heap [] := va_S.rf
  unfold f_X12_write at hf
  refine lv_aload_n hx hb dX12_write_0 rfl (lv_at hl 0 rfl) ?_
  refine gfX12_43 hx hb hts hown hK hP 0 rfl rfl dX12_write_1 ?_
  refine xif_ne hx hb 8 dX12_write_4 (by decide) hf (fun hf => ?_) (fun hf => ?_)
  · cases hf
    exact mret_v hx hb hr hlocks hP hD hS dX12_write_7
  · refine lv_aload_n hx hb dX12_write_8 rfl (lv_at hl 0 rfl) ?_
    refine gfX12_7 hx hb hts hown hK hP 0 rfl rfl dX12_write_9 ?_
    refine lv_sipush (v := (1522 : Int32)) hx hb dX12_write_12 (by decide) ?_
    refine lv_aload_n hx hb dX12_write_15 rfl (lv_at hl 0 rfl) ?_
    refine gfX12_7 hx hb hts hown hK hP 0 rfl rfl dX12_write_16 ?_
    refine lv_bipush (v := (12 : Int32)) hx hb dX12_write_19 (by decide) ?_
    refine xiald hx hb hK hP 1 0 rfl rfl dX12_write_21 hf (fun v21 hf => ?_)
    refine lv_sipush (v := (7240 : Int32)) hx hb dX12_write_22 (by decide) ?_
    refine xirem hx hb dX12_write_25 hf (fun v25 hf => ?_)
    refine lv_iadd hx hb dX12_write_26 ?_
    refine lv_aload_n hx hb dX12_write_27 rfl (lv_at hl 0 rfl) ?_
    refine gfX12_7 hx hb hts hown hK hP 0 rfl rfl dX12_write_28 ?_
    refine lv_bipush (v := (10 : Int32)) hx hb dX12_write_31 (by decide) ?_
    refine xiald hx hb hK hP 1 0 rfl rfl dX12_write_33 hf (fun v33 hf => ?_)
    refine lv_bipush (v := (8 : Int32)) hx hb dX12_write_34 (by decide) ?_
    refine lv_imul hx hb dX12_write_36 ?_
    refine lv_iload_n hx hb dX12_write_37 rfl (lv_at hl 1 rfl) ?_
    refine lv_iadd hx hb dX12_write_38 ?_
    refine lv_bipush (v := (8 : Int32)) hx hb dX12_write_39 (by decide) ?_
    refine lv_imul hx hb dX12_write_41 ?_
    refine lv_iload_n hx hb dX12_write_42 rfl (lv_at hl 2 rfl) ?_
    refine lv_iadd hx hb dX12_write_43 ?_
    refine xiast hx hb hK hP hD hS 1 0 rfl rfl dX12_write_44 hf (fun v_a_44 hf H locs hP hD hS => ?_)
    have hP : va_P D vwCl (WM h q cI cJ cZ v_a_44 v_image v_texts v_tape v_taped v_fault v_faultPlace v_at v_place v_token v_number v_word v_text0 v_written v_sort0 v_pile v_piled v_opens v_isWhole v_once v_named v_values v_truth v_isWritten v_died v_aside v_likely v_safe v_headOf) H := hP
    have hD : va_D A (WM h q cI cJ cZ v_a_44 v_image v_texts v_tape v_taped v_fault v_faultPlace v_at v_place v_token v_number v_word v_text0 v_written v_sort0 v_pile v_piled v_opens v_isWhole v_once v_named v_values v_truth v_isWritten v_died v_aside v_likely v_safe v_headOf) := hD
    refine lv_aload_n hx hb dX12_write_45 rfl (lv_at hl 0 rfl) ?_
    refine gfX12_7 hx hb hts hown hK hP 0 rfl rfl dX12_write_46 ?_
    refine lv_bipush (v := (12 : Int32)) hx hb dX12_write_49 (by decide) ?_
    refine lv_dup2_11 hx hb dX12_write_51 rfl rfl ?_
    refine xiald hx hb hK hP 1 0 rfl rfl dX12_write_52 hf (fun v52 hf => ?_)
    refine lv_iconst (v := (1 : Int32)) hx hb dX12_write_53 (by decide) ?_
    refine lv_iadd hx hb dX12_write_54 ?_
    refine xiast hx hb hK hP hD hS 1 0 rfl rfl dX12_write_55 hf (fun v_a_55 hf H locs hP hD hS => ?_)
    have hP : va_P D vwCl (WM h q cI cJ cZ v_a_55 v_image v_texts v_tape v_taped v_fault v_faultPlace v_at v_place v_token v_number v_word v_text0 v_written v_sort0 v_pile v_piled v_opens v_isWhole v_once v_named v_values v_truth v_isWritten v_died v_aside v_likely v_safe v_headOf) H := hP
    have hD : va_D A (WM h q cI cJ cZ v_a_55 v_image v_texts v_tape v_taped v_fault v_faultPlace v_at v_place v_token v_number v_word v_text0 v_written v_sort0 v_pile v_piled v_opens v_isWhole v_once v_named v_values v_truth v_isWritten v_died v_aside v_likely v_safe v_headOf) := hD
    cases hf
    exact mret_v hx hb hr hlocks hP hD hS dX12_write_56
theorem dX12_anew_0 : decode cX12_anew 0 = .ok (.aload_n 0, 1) := by decide +kernel
theorem dX12_anew_1 : decode cX12_anew 1 = .ok (.getfield 7, 3) := by decide +kernel
theorem dX12_anew_4 : decode cX12_anew 4 = .ok (.bipush 11, 2) := by decide +kernel
theorem dX12_anew_6 : decode cX12_anew 6 = .ok (.aload_n 0, 1) := by decide +kernel
theorem dX12_anew_7 : decode cX12_anew 7 = .ok (.getfield 7, 3) := by decide +kernel
theorem dX12_anew_10 : decode cX12_anew 10 = .ok (.bipush 11, 2) := by decide +kernel
theorem dX12_anew_12 : decode cX12_anew 12 = .ok (.iaload, 1) := by decide +kernel
theorem dX12_anew_13 : decode cX12_anew 13 = .ok (.i2l, 1) := by decide +kernel
theorem dX12_anew_14 : decode cX12_anew 14 = .ok (.ldc2_w 313, 3) := by decide +kernel
theorem dX12_anew_17 : decode cX12_anew 17 = .ok (.lmul, 1) := by decide +kernel
theorem dX12_anew_18 : decode cX12_anew 18 = .ok (.ldc2_w 315, 3) := by decide +kernel
theorem dX12_anew_21 : decode cX12_anew 21 = .ok (.ladd, 1) := by decide +kernel
theorem dX12_anew_22 : decode cX12_anew 22 = .ok (.ldc2_w 317, 3) := by decide +kernel
theorem dX12_anew_25 : decode cX12_anew 25 = .ok (.lrem, 1) := by decide +kernel
theorem dX12_anew_26 : decode cX12_anew 26 = .ok (.l2i, 1) := by decide +kernel
theorem dX12_anew_27 : decode cX12_anew 27 = .ok (.iastore, 1) := by decide +kernel
theorem dX12_anew_28 : decode cX12_anew 28 = .ok (.return_, 1) := by decide +kernel
def f_X12_anew (N : Nat) (v_a : Nat → Int32) : Option ((Nat → Int32)) := gA v_a 8762 (11 : Int32) fun v12 => rmL ((v12.toInt64 * (379 : Int64)) + (257 : Int64)) (30469 : Int64) fun v25 => sA v_a 8762 (11 : Int32) v25.toInt32 fun v_a_27 => some v_a_27
set_option maxHeartbeats 4000000 in
set_option maxRecDepth 100000 in
theorem k_X12_anew (l : Launch) (N : Nat) (D : va_G) (cI cJ cZ cB cT : ClassId) (h : Nat) (q : Nat → Nat) (v_a : Nat → Int32) (v_image : Nat → Int32) (v_texts : Nat → Int32) (v_tape : Nat → Int32) (v_taped : Int32) (v_fault : Int32) (v_faultPlace : Int32) (v_at : Int32) (v_place : Int32) (v_token : Int32) (v_number : Int32) (v_word : Int64) (v_text0 : Int32) (v_written : Int32) (v_sort0 : Int32) (v_pile : Nat → Int32) (v_piled : Int32) (v_opens : Int32) (v_isWhole : Int32) (v_once : Int32) (v_named : Nat → Int32) (v_values : Nat → Int64) (v_truth : Nat → Int32) (v_isWritten : Int32) (v_died : Int32) (v_aside : Nat → Int32) (v_likely : Nat → Int32) (v_safe : Nat → Int32) (v_headOf : Nat → Int32) (o_v_a : Nat → Int32) (hf : f_X12_anew N v_a = some o_v_a) : ∀ sz, Met l yX12_anew (mw yX12_anew cX12_anew 1 none) ({ frames := 0, cells := 0, slots := 0, locals := 0 } : Room) (mPre D (mT cI cJ cZ cB cT) (WM h q cI cJ cZ v_a v_image v_texts v_tape v_taped v_fault v_faultPlace v_at v_place v_token v_number v_word v_text0 v_written v_sort0 v_pile v_piled v_opens v_isWhole v_once v_named v_values v_truth v_isWritten v_died v_aside v_likely v_safe v_headOf) sz [.ref h]) ((mQv D (WM h q cI cJ cZ o_v_a v_image v_texts v_tape v_taped v_fault v_faultPlace v_at v_place v_token v_number v_word v_text0 v_written v_sort0 v_pile v_piled v_opens v_isWhole v_once v_named v_values v_truth v_isWritten v_died v_aside v_likely v_safe v_headOf)) (va_A (WM h q cI cJ cZ v_a v_image v_texts v_tape v_taped v_fault v_faultPlace v_at v_place v_token v_number v_word v_text0 v_written v_sort0 v_pile v_piled v_opens v_isWhole v_once v_named v_values v_truth v_isWritten v_died v_aside v_likely v_safe v_headOf) sz)) 0 0 (va_A (WM h q cI cJ cZ v_a v_image v_texts v_tape v_taped v_fault v_faultPlace v_at v_place v_token v_number v_word v_text0 v_written v_sort0 v_pile v_piled v_opens v_isWhole v_once v_named v_values v_truth v_isWritten v_died v_aside v_likely v_safe v_headOf) sz) := by
  refine mMet (Qc := (mQv D (WM h q cI cJ cZ o_v_a v_image v_texts v_tape v_taped v_fault v_faultPlace v_at v_place v_token v_number v_word v_text0 v_written v_sort0 v_pile v_piled v_opens v_isWhole v_once v_named v_values v_truth v_isWritten v_died v_aside v_likely v_safe v_headOf))) (by decide) (Nat.le_of_ble_eq_true rfl) (fun p e s m below meth c A ls hx hb hr hml hts hown hlocks hK hA hP hD hl => ?_)
  have hown : s.vm.findClass RX12 = some m.cls := hown
  have hl : lv_has ls 1 [(0, .ref h)] := hl
  have hS : va_S A s.heap s.heap [] := va_S.rf
  unfold f_X12_anew at hf
  refine lv_aload_n hx hb dX12_anew_0 rfl (lv_at hl 0 rfl) ?_
  refine gfX12_7 hx hb hts hown hK hP 0 rfl rfl dX12_anew_1 ?_
  refine lv_bipush (v := (11 : Int32)) hx hb dX12_anew_4 (by decide) ?_
  refine lv_aload_n hx hb dX12_anew_6 rfl (lv_at hl 0 rfl) ?_
  refine gfX12_7 hx hb hts hown hK hP 0 rfl rfl dX12_anew_7 ?_
  refine lv_bipush (v := (11 : Int32)) hx hb dX12_anew_10 (by decide) ?_
  refine xiald hx hb hK hP 1 0 rfl rfl dX12_anew_12 hf (fun v12 hf => ?_)
  refine lv_i2l hx hb dX12_anew_13 rfl ?_
  refine lv_ldc2 hx hb hown (hts _ ctX12_313) dX12_anew_14 ?_
  refine lv_lmul hx hb dX12_anew_17 ?_
  refine lv_ldc2 hx hb hown (hts _ ctX12_315) dX12_anew_18 ?_
  refine lv_ladd hx hb dX12_anew_21 ?_
  refine lv_ldc2 hx hb hown (hts _ ctX12_317) dX12_anew_22 ?_
  refine xlrem hx hb dX12_anew_25 hf (fun v25 hf => ?_)
  refine lv_l2i hx hb dX12_anew_26 rfl ?_
  refine xiast hx hb hK hP hD hS 1 0 rfl rfl dX12_anew_27 hf (fun v_a_27 hf H locs hP hD hS => ?_)
  have hP : va_P D vwCl (WM h q cI cJ cZ v_a_27 v_image v_texts v_tape v_taped v_fault v_faultPlace v_at v_place v_token v_number v_word v_text0 v_written v_sort0 v_pile v_piled v_opens v_isWhole v_once v_named v_values v_truth v_isWritten v_died v_aside v_likely v_safe v_headOf) H := hP
  have hD : va_D A (WM h q cI cJ cZ v_a_27 v_image v_texts v_tape v_taped v_fault v_faultPlace v_at v_place v_token v_number v_word v_text0 v_written v_sort0 v_pile v_piled v_opens v_isWhole v_once v_named v_values v_truth v_isWritten v_died v_aside v_likely v_safe v_headOf) := hD
  cases hf
  exact mret_v hx hb hr hlocks hP hD hS dX12_anew_28
theorem dX12_drawn_0 : decode cX12_drawn 0 = .ok (.aload_n 0, 1) := by decide +kernel
theorem dX12_drawn_1 : decode cX12_drawn 1 = .ok (.getfield 7, 3) := by decide +kernel
theorem dX12_drawn_4 : decode cX12_drawn 4 = .ok (.bipush 11, 2) := by decide +kernel
theorem dX12_drawn_6 : decode cX12_drawn 6 = .ok (.iaload, 1) := by decide +kernel
theorem dX12_drawn_7 : decode cX12_drawn 7 = .ok (.iload_n 1, 1) := by decide +kernel
theorem dX12_drawn_8 : decode cX12_drawn 8 = .ok (.irem, 1) := by decide +kernel
theorem dX12_drawn_9 : decode cX12_drawn 9 = .ok (.istore_n 2, 1) := by decide +kernel
theorem dX12_drawn_10 : decode cX12_drawn 10 = .ok (.aload_n 0, 1) := by decide +kernel
theorem dX12_drawn_11 : decode cX12_drawn 11 = .ok (.invokevirtual 310, 3) := by decide +kernel
theorem dX12_drawn_14 : decode cX12_drawn 14 = .ok (.iload_n 2, 1) := by decide +kernel
theorem dX12_drawn_15 : decode cX12_drawn 15 = .ok (.ireturn, 1) := by decide +kernel
def f_X12_drawn (N : Nat) (v_a : Nat → Int32) (p1 : Int32) : Option (Int32 × (Nat → Int32)) := gA v_a 8762 (11 : Int32) fun v6 => rmI v6 p1 fun v8 => ob1 (f_X12_anew N v_a) fun v_a_11 => some (v8, v_a_11)
set_option maxHeartbeats 4000000 in
set_option maxRecDepth 100000 in
theorem k_X12_drawn (l : Launch) (N : Nat) (D : va_G) (cI cJ cZ cB cT : ClassId) (h : Nat) (q : Nat → Nat) (v_a : Nat → Int32) (v_image : Nat → Int32) (v_texts : Nat → Int32) (v_tape : Nat → Int32) (v_taped : Int32) (v_fault : Int32) (v_faultPlace : Int32) (v_at : Int32) (v_place : Int32) (v_token : Int32) (v_number : Int32) (v_word : Int64) (v_text0 : Int32) (v_written : Int32) (v_sort0 : Int32) (v_pile : Nat → Int32) (v_piled : Int32) (v_opens : Int32) (v_isWhole : Int32) (v_once : Int32) (v_named : Nat → Int32) (v_values : Nat → Int64) (v_truth : Nat → Int32) (v_isWritten : Int32) (v_died : Int32) (v_aside : Nat → Int32) (v_likely : Nat → Int32) (v_safe : Nat → Int32) (v_headOf : Nat → Int32) (p1 : Int32) (o_r : Int32) (o_v_a : Nat → Int32) (hf : f_X12_drawn N v_a p1 = some (o_r, o_v_a)) : ∀ sz, Met l yX12_drawn (mw yX12_drawn cX12_drawn 3 (some .int)) ({ frames := 1, cells := 0, slots := 0, locals := 20 } : Room) (mPre D (mT cI cJ cZ cB cT) (WM h q cI cJ cZ v_a v_image v_texts v_tape v_taped v_fault v_faultPlace v_at v_place v_token v_number v_word v_text0 v_written v_sort0 v_pile v_piled v_opens v_isWhole v_once v_named v_values v_truth v_isWritten v_died v_aside v_likely v_safe v_headOf) sz [.ref h, .int p1]) ((mQi D (WM h q cI cJ cZ o_v_a v_image v_texts v_tape v_taped v_fault v_faultPlace v_at v_place v_token v_number v_word v_text0 v_written v_sort0 v_pile v_piled v_opens v_isWhole v_once v_named v_values v_truth v_isWritten v_died v_aside v_likely v_safe v_headOf) o_r True) (va_A (WM h q cI cJ cZ v_a v_image v_texts v_tape v_taped v_fault v_faultPlace v_at v_place v_token v_number v_word v_text0 v_written v_sort0 v_pile v_piled v_opens v_isWhole v_once v_named v_values v_truth v_isWritten v_died v_aside v_likely v_safe v_headOf) sz)) 0 0 (va_A (WM h q cI cJ cZ v_a v_image v_texts v_tape v_taped v_fault v_faultPlace v_at v_place v_token v_number v_word v_text0 v_written v_sort0 v_pile v_piled v_opens v_isWhole v_once v_named v_values v_truth v_isWritten v_died v_aside v_likely v_safe v_headOf) sz) := by
  refine mMet (Qc := (mQi D (WM h q cI cJ cZ o_v_a v_image v_texts v_tape v_taped v_fault v_faultPlace v_at v_place v_token v_number v_word v_text0 v_written v_sort0 v_pile v_piled v_opens v_isWhole v_once v_named v_values v_truth v_isWritten v_died v_aside v_likely v_safe v_headOf) o_r True)) (by decide) (Nat.le_of_ble_eq_true rfl) (fun p e s m below meth c A ls hx hb hr hml hts hown hlocks hK hA hP hD hl => ?_)
  have hown : s.vm.findClass RX12 = some m.cls := hown
  have hl : lv_has ls 3 [(0, .ref h), (1, .int p1)] := hl
  have hS : va_S A s.heap s.heap [] := va_S.rf
  unfold f_X12_drawn at hf
  refine lv_aload_n hx hb dX12_drawn_0 rfl (lv_at hl 0 rfl) ?_
  refine gfX12_7 hx hb hts hown hK hP 0 rfl rfl dX12_drawn_1 ?_
  refine lv_bipush (v := (11 : Int32)) hx hb dX12_drawn_4 (by decide) ?_
  refine xiald hx hb hK hP 1 0 rfl rfl dX12_drawn_6 hf (fun v6 hf => ?_)
  refine lv_iload_n hx hb dX12_drawn_7 rfl (lv_at hl 1 rfl) ?_
  refine xirem hx hb dX12_drawn_8 hf (fun v8 hf => ?_)
  refine lv_istore_n (lv' := [(2, .int v8), (0, .ref h), (1, .int p1)]) hx hb dX12_drawn_9 rfl hl (by decide) rfl (fun ls hl => ?_)
  refine lv_aload_n hx hb dX12_drawn_10 rfl (lv_at hl 1 rfl) ?_
  obtain ⟨v_a_11, hg11, hf⟩ := ob1_some hf
  refine mcV1_v (As := []) (rest := []) hx hb hml hown hts hK hP hD hS hA (k_X12_anew l N D cI cJ cZ cB cT h q v_a v_image v_texts v_tape v_taped v_fault v_faultPlace v_at v_place v_token v_number v_word v_text0 v_written v_sort0 v_pile v_piled v_opens v_isWhole v_once v_named v_values v_truth v_isWritten v_died v_aside v_likely v_safe v_headOf v_a_11 hg11) (kwX12_310 hts rfl rfl ⟨Nat.le_of_ble_eq_true rfl, Nat.le_of_ble_eq_true rfl⟩) 0 rfl rfl rfl rfl hl.1 rfl (Nat.le_of_ble_eq_true rfl) dX12_drawn_11 ⟨Nat.zero_le _, Nat.zero_le _⟩ (fun H locs hP hD hS => ?_)
  have hP : va_P D vwCl (WM h q cI cJ cZ v_a_11 v_image v_texts v_tape v_taped v_fault v_faultPlace v_at v_place v_token v_number v_word v_text0 v_written v_sort0 v_pile v_piled v_opens v_isWhole v_once v_named v_values v_truth v_isWritten v_died v_aside v_likely v_safe v_headOf) H := hP
  have hD : va_D A (WM h q cI cJ cZ v_a_11 v_image v_texts v_tape v_taped v_fault v_faultPlace v_at v_place v_token v_number v_word v_text0 v_written v_sort0 v_pile v_piled v_opens v_isWhole v_once v_named v_values v_truth v_isWritten v_died v_aside v_likely v_safe v_headOf) := hD
  refine lv_iload_n hx hb dX12_drawn_14 rfl (lv_at hl 0 rfl) ?_
  cases hf
  exact mret_i hx hb hr hlocks hP hD hS dX12_drawn_15 rfl trivial
theorem dX12_die_0 : decode cX12_die 0 = .ok (.aload_n 0, 1) := by decide +kernel
theorem dX12_die_1 : decode cX12_die 1 = .ok (.iload_n 1, 1) := by decide +kernel
theorem dX12_die_2 : decode cX12_die 2 = .ok (.bipush 6, 2) := by decide +kernel
theorem dX12_die_4 : decode cX12_die 4 = .ok (.iconst 3, 1) := by decide +kernel
theorem dX12_die_5 : decode cX12_die 5 = .ok (.invokevirtual 82, 3) := by decide +kernel
theorem dX12_die_8 : decode cX12_die 8 = .ok (.aload_n 0, 1) := by decide +kernel
theorem dX12_die_9 : decode cX12_die 9 = .ok (.iload_n 1, 1) := by decide +kernel
theorem dX12_die_10 : decode cX12_die 10 = .ok (.iload_n 2, 1) := by decide +kernel
theorem dX12_die_11 : decode cX12_die 11 = .ok (.invokevirtual 319, 3) := by decide +kernel
theorem dX12_die_14 : decode cX12_die 14 = .ok (.aload_n 0, 1) := by decide +kernel
theorem dX12_die_15 : decode cX12_die 15 = .ok (.dup, 1) := by decide +kernel
theorem dX12_die_16 : decode cX12_die 16 = .ok (.getfield 322, 3) := by decide +kernel
theorem dX12_die_19 : decode cX12_die 19 = .ok (.iconst 1, 1) := by decide +kernel
theorem dX12_die_20 : decode cX12_die 20 = .ok (.iadd, 1) := by decide +kernel
theorem dX12_die_21 : decode cX12_die 21 = .ok (.putfield 322, 3) := by decide +kernel
theorem dX12_die_24 : decode cX12_die 24 = .ok (.return_, 1) := by decide +kernel
def f_X12_die (N : Nat) (v_a : Nat → Int32) (v_isWritten : Int32) (v_died : Int32) (p1 : Int32) (p2 : Int32) : Option ((Nat → Int32) × Int32) := ob1 (f_X12_put N v_a p1 (6 : Int32) (3 : Int32)) fun v_a_5 => ob1 (f_X12_write N v_a_5 v_isWritten p1 p2) fun v_a_11 => some (v_a_11, (v_died + (1 : Int32)))
set_option maxHeartbeats 4000000 in
set_option maxRecDepth 100000 in
theorem k_X12_die (l : Launch) (N : Nat) (D : va_G) (cI cJ cZ cB cT : ClassId) (h : Nat) (q : Nat → Nat) (v_a : Nat → Int32) (v_image : Nat → Int32) (v_texts : Nat → Int32) (v_tape : Nat → Int32) (v_taped : Int32) (v_fault : Int32) (v_faultPlace : Int32) (v_at : Int32) (v_place : Int32) (v_token : Int32) (v_number : Int32) (v_word : Int64) (v_text0 : Int32) (v_written : Int32) (v_sort0 : Int32) (v_pile : Nat → Int32) (v_piled : Int32) (v_opens : Int32) (v_isWhole : Int32) (v_once : Int32) (v_named : Nat → Int32) (v_values : Nat → Int64) (v_truth : Nat → Int32) (v_isWritten : Int32) (v_died : Int32) (v_aside : Nat → Int32) (v_likely : Nat → Int32) (v_safe : Nat → Int32) (v_headOf : Nat → Int32) (p1 : Int32) (p2 : Int32) (o_v_a : Nat → Int32) (o_v_died : Int32) (hf : f_X12_die N v_a v_isWritten v_died p1 p2 = some (o_v_a, o_v_died)) : ∀ sz, Met l yX12_die (mw yX12_die cX12_die 3 none) ({ frames := 1, cells := 0, slots := 0, locals := 23 } : Room) (mPre D (mT cI cJ cZ cB cT) (WM h q cI cJ cZ v_a v_image v_texts v_tape v_taped v_fault v_faultPlace v_at v_place v_token v_number v_word v_text0 v_written v_sort0 v_pile v_piled v_opens v_isWhole v_once v_named v_values v_truth v_isWritten v_died v_aside v_likely v_safe v_headOf) sz [.ref h, .int p1, .int p2]) ((mQv D (WM h q cI cJ cZ o_v_a v_image v_texts v_tape v_taped v_fault v_faultPlace v_at v_place v_token v_number v_word v_text0 v_written v_sort0 v_pile v_piled v_opens v_isWhole v_once v_named v_values v_truth v_isWritten o_v_died v_aside v_likely v_safe v_headOf)) (va_A (WM h q cI cJ cZ v_a v_image v_texts v_tape v_taped v_fault v_faultPlace v_at v_place v_token v_number v_word v_text0 v_written v_sort0 v_pile v_piled v_opens v_isWhole v_once v_named v_values v_truth v_isWritten v_died v_aside v_likely v_safe v_headOf) sz)) 0 0 (va_A (WM h q cI cJ cZ v_a v_image v_texts v_tape v_taped v_fault v_faultPlace v_at v_place v_token v_number v_word v_text0 v_written v_sort0 v_pile v_piled v_opens v_isWhole v_once v_named v_values v_truth v_isWritten v_died v_aside v_likely v_safe v_headOf) sz) := by
  refine mMet (Qc := (mQv D (WM h q cI cJ cZ o_v_a v_image v_texts v_tape v_taped v_fault v_faultPlace v_at v_place v_token v_number v_word v_text0 v_written v_sort0 v_pile v_piled v_opens v_isWhole v_once v_named v_values v_truth v_isWritten o_v_died v_aside v_likely v_safe v_headOf))) (by decide) (Nat.le_of_ble_eq_true rfl) (fun p e s m below meth c A ls hx hb hr hml hts hown hlocks hK hA hP hD hl => ?_)
  have hown : s.vm.findClass RX12 = some m.cls := hown
  have hl : lv_has ls 3 [(0, .ref h), (1, .int p1), (2, .int p2)] := hl
  have hS : va_S A s.heap s.heap [] := va_S.rf
  unfold f_X12_die at hf
  refine lv_aload_n hx hb dX12_die_0 rfl (lv_at hl 0 rfl) ?_
  refine lv_iload_n hx hb dX12_die_1 rfl (lv_at hl 1 rfl) ?_
  refine lv_bipush (v := (6 : Int32)) hx hb dX12_die_2 (by decide) ?_
  refine lv_iconst (v := (3 : Int32)) hx hb dX12_die_4 (by decide) ?_
  obtain ⟨v_a_5, hg5, hf⟩ := ob1_some hf
  refine mcV1_v (As := [.int p1, .int (6 : Int32), .int (3 : Int32)]) (rest := []) hx hb hml hown hts hK hP hD hS hA (k_X12_put l N D cI cJ cZ cB cT h q v_a v_image v_texts v_tape v_taped v_fault v_faultPlace v_at v_place v_token v_number v_word v_text0 v_written v_sort0 v_pile v_piled v_opens v_isWhole v_once v_named v_values v_truth v_isWritten v_died v_aside v_likely v_safe v_headOf p1 (6 : Int32) (3 : Int32) v_a_5 hg5) (kwX12_82 hts rfl rfl ⟨Nat.le_of_ble_eq_true rfl, Nat.le_of_ble_eq_true rfl⟩) 0 rfl rfl rfl rfl hl.1 rfl (Nat.le_of_ble_eq_true rfl) dX12_die_5 ⟨Nat.zero_le _, Nat.zero_le _⟩ (fun H locs hP hD hS => ?_)
  have hP : va_P D vwCl (WM h q cI cJ cZ v_a_5 v_image v_texts v_tape v_taped v_fault v_faultPlace v_at v_place v_token v_number v_word v_text0 v_written v_sort0 v_pile v_piled v_opens v_isWhole v_once v_named v_values v_truth v_isWritten v_died v_aside v_likely v_safe v_headOf) H := hP
  have hD : va_D A (WM h q cI cJ cZ v_a_5 v_image v_texts v_tape v_taped v_fault v_faultPlace v_at v_place v_token v_number v_word v_text0 v_written v_sort0 v_pile v_piled v_opens v_isWhole v_once v_named v_values v_truth v_isWritten v_died v_aside v_likely v_safe v_headOf) := hD
  refine lv_aload_n hx hb dX12_die_8 rfl (lv_at hl 0 rfl) ?_
  refine lv_iload_n hx hb dX12_die_9 rfl (lv_at hl 1 rfl) ?_
  refine lv_iload_n hx hb dX12_die_10 rfl (lv_at hl 2 rfl) ?_
  obtain ⟨v_a_11, hg11, hf⟩ := ob1_some hf
  refine mcV1_v (As := [.int p1, .int p2]) (rest := []) hx hb hml hown hts hK hP hD hS hA (k_X12_write l N D cI cJ cZ cB cT h q v_a_5 v_image v_texts v_tape v_taped v_fault v_faultPlace v_at v_place v_token v_number v_word v_text0 v_written v_sort0 v_pile v_piled v_opens v_isWhole v_once v_named v_values v_truth v_isWritten v_died v_aside v_likely v_safe v_headOf p1 p2 v_a_11 hg11) (kwX12_319 hts rfl rfl ⟨Nat.le_of_ble_eq_true rfl, Nat.le_of_ble_eq_true rfl⟩) 0 rfl rfl rfl rfl hl.1 rfl (Nat.le_of_ble_eq_true rfl) dX12_die_11 ⟨Nat.zero_le _, Nat.zero_le _⟩ (fun H locs hP hD hS => ?_)
  have hP : va_P D vwCl (WM h q cI cJ cZ v_a_11 v_image v_texts v_tape v_taped v_fault v_faultPlace v_at v_place v_token v_number v_word v_text0 v_written v_sort0 v_pile v_piled v_opens v_isWhole v_once v_named v_values v_truth v_isWritten v_died v_aside v_likely v_safe v_headOf) H := hP
  have hD : va_D A (WM h q cI cJ cZ v_a_11 v_image v_texts v_tape v_taped v_fault v_faultPlace v_at v_place v_token v_number v_word v_text0 v_written v_sort0 v_pile v_piled v_opens v_isWhole v_once v_named v_values v_truth v_isWritten v_died v_aside v_likely v_safe v_headOf) := hD
  refine lv_aload_n hx hb dX12_die_14 rfl (lv_at hl 0 rfl) ?_
  refine lv_dup hx hb dX12_die_15 rfl ?_
  refine gfX12_322 hx hb hts hown hK hP 0 rfl rfl dX12_die_16 ?_
  refine lv_iconst (v := (1 : Int32)) hx hb dX12_die_19 (by decide) ?_
  refine lv_iadd hx hb dX12_die_20 ?_
  refine pfX12_322 hx hb hts hown hK hP hD hS 0 rfl (Nat.le_of_ble_eq_true rfl) dX12_die_21 (fun H locs hP hD hS => ?_)
  have hP : va_P D vwCl (WM h q cI cJ cZ v_a_11 v_image v_texts v_tape v_taped v_fault v_faultPlace v_at v_place v_token v_number v_word v_text0 v_written v_sort0 v_pile v_piled v_opens v_isWhole v_once v_named v_values v_truth v_isWritten (v_died + (1 : Int32)) v_aside v_likely v_safe v_headOf) H := hP
  have hD : va_D A (WM h q cI cJ cZ v_a_11 v_image v_texts v_tape v_taped v_fault v_faultPlace v_at v_place v_token v_number v_word v_text0 v_written v_sort0 v_pile v_piled v_opens v_isWhole v_once v_named v_values v_truth v_isWritten (v_died + (1 : Int32)) v_aside v_likely v_safe v_headOf) := hD
  cases hf
  exact mret_v hx hb hr hlocks hP hD hS dX12_die_24
theorem dX12_live_0 : decode cX12_live 0 = .ok (.aload_n 0, 1) := by decide +kernel
theorem dX12_live_1 : decode cX12_live 1 = .ok (.iload_n 1, 1) := by decide +kernel
theorem dX12_live_2 : decode cX12_live 2 = .ok (.bipush 6, 2) := by decide +kernel
theorem dX12_live_4 : decode cX12_live 4 = .ok (.invokevirtual 71, 3) := by decide +kernel
theorem dX12_live_7 : decode cX12_live 7 = .ok (.iconst 3, 1) := by decide +kernel
theorem dX12_live_8 : decode cX12_live 8 = .ok (.if_icmp .ne 4, 3) := by decide +kernel
theorem dX12_live_11 : decode cX12_live 11 = .ok (.return_, 1) := by decide +kernel
theorem dX12_live_12 : decode cX12_live 12 = .ok (.aload_n 0, 1) := by decide +kernel
theorem dX12_live_13 : decode cX12_live 13 = .ok (.iload_n 1, 1) := by decide +kernel
theorem dX12_live_14 : decode cX12_live 14 = .ok (.bipush 6, 2) := by decide +kernel
theorem dX12_live_16 : decode cX12_live 16 = .ok (.invokevirtual 71, 3) := by decide +kernel
theorem dX12_live_19 : decode cX12_live 19 = .ok (.iconst 1, 1) := by decide +kernel
theorem dX12_live_20 : decode cX12_live 20 = .ok (.if_icmp .eq 30, 3) := by decide +kernel
theorem dX12_live_23 : decode cX12_live 23 = .ok (.aload_n 0, 1) := by decide +kernel
theorem dX12_live_24 : decode cX12_live 24 = .ok (.iload_n 1, 1) := by decide +kernel
theorem dX12_live_25 : decode cX12_live 25 = .ok (.iconst 1, 1) := by decide +kernel
theorem dX12_live_26 : decode cX12_live 26 = .ok (.aload_n 0, 1) := by decide +kernel
theorem dX12_live_27 : decode cX12_live 27 = .ok (.iload_n 1, 1) := by decide +kernel
theorem dX12_live_28 : decode cX12_live 28 = .ok (.iconst 1, 1) := by decide +kernel
theorem dX12_live_29 : decode cX12_live 29 = .ok (.invokevirtual 71, 3) := by decide +kernel
theorem dX12_live_32 : decode cX12_live 32 = .ok (.aload_n 0, 1) := by decide +kernel
theorem dX12_live_33 : decode cX12_live 33 = .ok (.iload_n 1, 1) := by decide +kernel
theorem dX12_live_34 : decode cX12_live 34 = .ok (.invokevirtual 325, 3) := by decide +kernel
theorem dX12_live_37 : decode cX12_live 37 = .ok (.iadd, 1) := by decide +kernel
theorem dX12_live_38 : decode cX12_live 38 = .ok (.i2l, 1) := by decide +kernel
theorem dX12_live_39 : decode cX12_live 39 = .ok (.iconst 0, 1) := by decide +kernel
theorem dX12_live_40 : decode cX12_live 40 = .ok (.sipush 9999, 3) := by decide +kernel
theorem dX12_live_43 : decode cX12_live 43 = .ok (.invokestatic 294, 3) := by decide +kernel
theorem dX12_live_46 : decode cX12_live 46 = .ok (.invokevirtual 82, 3) := by decide +kernel
theorem dX12_live_49 : decode cX12_live 49 = .ok (.return_, 1) := by decide +kernel
theorem dX12_live_50 : decode cX12_live 50 = .ok (.aload_n 0, 1) := by decide +kernel
theorem dX12_live_51 : decode cX12_live 51 = .ok (.iload_n 1, 1) := by decide +kernel
theorem dX12_live_52 : decode cX12_live 52 = .ok (.iconst 4, 1) := by decide +kernel
theorem dX12_live_53 : decode cX12_live 53 = .ok (.aload_n 0, 1) := by decide +kernel
theorem dX12_live_54 : decode cX12_live 54 = .ok (.iload_n 1, 1) := by decide +kernel
theorem dX12_live_55 : decode cX12_live 55 = .ok (.iconst 4, 1) := by decide +kernel
theorem dX12_live_56 : decode cX12_live 56 = .ok (.invokevirtual 71, 3) := by decide +kernel
theorem dX12_live_59 : decode cX12_live 59 = .ok (.aload_n 0, 1) := by decide +kernel
theorem dX12_live_60 : decode cX12_live 60 = .ok (.iload_n 1, 1) := by decide +kernel
theorem dX12_live_61 : decode cX12_live 61 = .ok (.invokevirtual 328, 3) := by decide +kernel
theorem dX12_live_64 : decode cX12_live 64 = .ok (.iadd, 1) := by decide +kernel
theorem dX12_live_65 : decode cX12_live 65 = .ok (.i2l, 1) := by decide +kernel
theorem dX12_live_66 : decode cX12_live 66 = .ok (.iconst 0, 1) := by decide +kernel
theorem dX12_live_67 : decode cX12_live 67 = .ok (.bipush 9, 2) := by decide +kernel
theorem dX12_live_69 : decode cX12_live 69 = .ok (.invokestatic 294, 3) := by decide +kernel
theorem dX12_live_72 : decode cX12_live 72 = .ok (.invokevirtual 82, 3) := by decide +kernel
theorem dX12_live_75 : decode cX12_live 75 = .ok (.aload_n 0, 1) := by decide +kernel
theorem dX12_live_76 : decode cX12_live 76 = .ok (.iload_n 1, 1) := by decide +kernel
theorem dX12_live_77 : decode cX12_live 77 = .ok (.iconst 4, 1) := by decide +kernel
theorem dX12_live_78 : decode cX12_live 78 = .ok (.invokevirtual 71, 3) := by decide +kernel
theorem dX12_live_81 : decode cX12_live 81 = .ok (.bipush 9, 2) := by decide +kernel
theorem dX12_live_83 : decode cX12_live 83 = .ok (.if_icmp .ne 10, 3) := by decide +kernel
theorem dX12_live_86 : decode cX12_live 86 = .ok (.aload_n 0, 1) := by decide +kernel
theorem dX12_live_87 : decode cX12_live 87 = .ok (.iload_n 1, 1) := by decide +kernel
theorem dX12_live_88 : decode cX12_live 88 = .ok (.iconst 3, 1) := by decide +kernel
theorem dX12_live_89 : decode cX12_live 89 = .ok (.invokevirtual 331, 3) := by decide +kernel
theorem dX12_live_92 : decode cX12_live 92 = .ok (.return_, 1) := by decide +kernel
theorem dX12_live_93 : decode cX12_live 93 = .ok (.aload_n 0, 1) := by decide +kernel
theorem dX12_live_94 : decode cX12_live 94 = .ok (.iload_n 1, 1) := by decide +kernel
theorem dX12_live_95 : decode cX12_live 95 = .ok (.invokevirtual 334, 3) := by decide +kernel
theorem dX12_live_98 : decode cX12_live 98 = .ok (.istore_n 2, 1) := by decide +kernel
theorem dX12_live_99 : decode cX12_live 99 = .ok (.aload_n 0, 1) := by decide +kernel
theorem dX12_live_100 : decode cX12_live 100 = .ok (.bipush 10, 2) := by decide +kernel
theorem dX12_live_102 : decode cX12_live 102 = .ok (.invokevirtual 337, 3) := by decide +kernel
theorem dX12_live_105 : decode cX12_live 105 = .ok (.iload_n 2, 1) := by decide +kernel
theorem dX12_live_106 : decode cX12_live 106 = .ok (.if_icmp .ge 12, 3) := by decide +kernel
theorem dX12_live_109 : decode cX12_live 109 = .ok (.aload_n 0, 1) := by decide +kernel
theorem dX12_live_110 : decode cX12_live 110 = .ok (.iload_n 1, 1) := by decide +kernel
theorem dX12_live_111 : decode cX12_live 111 = .ok (.iconst 4, 1) := by decide +kernel
theorem dX12_live_112 : decode cX12_live 112 = .ok (.invokevirtual 331, 3) := by decide +kernel
theorem dX12_live_115 : decode cX12_live 115 = .ok (.goto 17, 3) := by decide +kernel
theorem dX12_live_118 : decode cX12_live 118 = .ok (.aload_n 0, 1) := by decide +kernel
theorem dX12_live_119 : decode cX12_live 119 = .ok (.iload_n 1, 1) := by decide +kernel
theorem dX12_live_120 : decode cX12_live 120 = .ok (.iconst 5, 1) := by decide +kernel
theorem dX12_live_121 : decode cX12_live 121 = .ok (.aload_n 0, 1) := by decide +kernel
theorem dX12_live_122 : decode cX12_live 122 = .ok (.iload_n 1, 1) := by decide +kernel
theorem dX12_live_123 : decode cX12_live 123 = .ok (.iconst 5, 1) := by decide +kernel
theorem dX12_live_124 : decode cX12_live 124 = .ok (.invokevirtual 71, 3) := by decide +kernel
theorem dX12_live_127 : decode cX12_live 127 = .ok (.iconst 1, 1) := by decide +kernel
theorem dX12_live_128 : decode cX12_live 128 = .ok (.iadd, 1) := by decide +kernel
theorem dX12_live_129 : decode cX12_live 129 = .ok (.invokevirtual 82, 3) := by decide +kernel
theorem dX12_live_132 : decode cX12_live 132 = .ok (.return_, 1) := by decide +kernel
def f_X12_live (N : Nat) (v_a : Nat → Int32) (v_texts : Nat → Int32) (v_named : Nat → Int32) (v_values : Nat → Int64) (v_truth : Nat → Int32) (v_isWritten : Int32) (v_died : Int32) (p1 : Int32) : Option ((Nat → Int32) × (Nat → Int32) × (Nat → Int64) × (Nat → Int32) × Int32) := ob1 (f_X12_get N v_a p1 (6 : Int32)) fun r4 => if r4 = (3 : Int32) then (some (v_a, v_named, v_values, v_truth, v_died)) else (ob1 (f_X12_get N v_a p1 (6 : Int32)) fun r16 => if r16 = (1 : Int32) then (ob1 (f_X12_get N v_a p1 (4 : Int32)) fun r56 => ob4 (f_X12_hungersOf N v_a v_texts v_named v_values v_truth p1) fun r61 v_named_61 v_values_61 v_truth_61 => ob1 (f_X12_cut N ((r56 + r61).toInt64) (0 : Int32) (9 : Int32)) fun r69 => ob1 (f_X12_put N v_a p1 (4 : Int32) r69) fun v_a_72 => ob1 (f_X12_get N v_a_72 p1 (4 : Int32)) fun r78 => if r78 = (9 : Int32) then (ob2 (f_X12_die N v_a_72 v_isWritten v_died p1 (3 : Int32)) fun v_a_89 v_died_89 => some (v_a_89, v_named_61, v_values_61, v_truth_61, v_died_89)) else (ob4 (f_X12_findsOf N v_a_72 v_texts v_named_61 v_values_61 v_truth_61 p1) fun r95 v_named_95 v_values_95 v_truth_95 => ob2 (f_X12_drawn N v_a_72 (10 : Int32)) fun r102 v_a_102 => if r95 ≤ r102 then (ob1 (f_X12_get N v_a_102 p1 (5 : Int32)) fun r124 => ob1 (f_X12_put N v_a_102 p1 (5 : Int32) (r124 + (1 : Int32))) fun v_a_129 => some (v_a_129, v_named_95, v_values_95, v_truth_95, v_died)) else (ob2 (f_X12_die N v_a_102 v_isWritten v_died p1 (4 : Int32)) fun v_a_112 v_died_112 => some (v_a_112, v_named_95, v_values_95, v_truth_95, v_died_112)))) else (ob1 (f_X12_get N v_a p1 (1 : Int32)) fun r29 => ob4 (f_X12_earnsOf N v_a v_texts v_named v_values v_truth p1) fun r34 v_named_34 v_values_34 v_truth_34 => ob1 (f_X12_cut N ((r29 + r34).toInt64) (0 : Int32) (9999 : Int32)) fun r43 => ob1 (f_X12_put N v_a p1 (1 : Int32) r43) fun v_a_46 => some (v_a_46, v_named_34, v_values_34, v_truth_34, v_died)))
set_option maxHeartbeats 4000000 in
set_option maxRecDepth 100000 in
theorem k_X12_live (l : Launch) (N : Nat) (D : va_G) (cI cJ cZ cB cT : ClassId) (h : Nat) (q : Nat → Nat) (v_a : Nat → Int32) (v_image : Nat → Int32) (v_texts : Nat → Int32) (v_tape : Nat → Int32) (v_taped : Int32) (v_fault : Int32) (v_faultPlace : Int32) (v_at : Int32) (v_place : Int32) (v_token : Int32) (v_number : Int32) (v_word : Int64) (v_text0 : Int32) (v_written : Int32) (v_sort0 : Int32) (v_pile : Nat → Int32) (v_piled : Int32) (v_opens : Int32) (v_isWhole : Int32) (v_once : Int32) (v_named : Nat → Int32) (v_values : Nat → Int64) (v_truth : Nat → Int32) (v_isWritten : Int32) (v_died : Int32) (v_aside : Nat → Int32) (v_likely : Nat → Int32) (v_safe : Nat → Int32) (v_headOf : Nat → Int32) (p1 : Int32) (o_v_a : Nat → Int32) (o_v_named : Nat → Int32) (o_v_values : Nat → Int64) (o_v_truth : Nat → Int32) (o_v_died : Int32) (hf : f_X12_live N v_a v_texts v_named v_values v_truth v_isWritten v_died p1 = some (o_v_a, o_v_named, o_v_values, o_v_truth, o_v_died)) : ∀ sz, Met l yX12_live (mw yX12_live cX12_live 3 none) ({ frames := 7, cells := 0, slots := 0, locals := 164 } : Room) (mPre D (mT cI cJ cZ cB cT) (WM h q cI cJ cZ v_a v_image v_texts v_tape v_taped v_fault v_faultPlace v_at v_place v_token v_number v_word v_text0 v_written v_sort0 v_pile v_piled v_opens v_isWhole v_once v_named v_values v_truth v_isWritten v_died v_aside v_likely v_safe v_headOf) sz [.ref h, .int p1]) ((mQv D (WM h q cI cJ cZ o_v_a v_image v_texts v_tape v_taped v_fault v_faultPlace v_at v_place v_token v_number v_word v_text0 v_written v_sort0 v_pile v_piled v_opens v_isWhole v_once o_v_named o_v_values o_v_truth v_isWritten o_v_died v_aside v_likely v_safe v_headOf)) (va_A (WM h q cI cJ cZ v_a v_image v_texts v_tape v_taped v_fault v_faultPlace v_at v_place v_token v_number v_word v_text0 v_written v_sort0 v_pile v_piled v_opens v_isWhole v_once v_named v_values v_truth v_isWritten v_died v_aside v_likely v_safe v_headOf) sz)) 0 0 (va_A (WM h q cI cJ cZ v_a v_image v_texts v_tape v_taped v_fault v_faultPlace v_at v_place v_token v_number v_word v_text0 v_written v_sort0 v_pile v_piled v_opens v_isWhole v_once v_named v_values v_truth v_isWritten v_died v_aside v_likely v_safe v_headOf) sz) := by
  refine mMet (Qc := (mQv D (WM h q cI cJ cZ o_v_a v_image v_texts v_tape v_taped v_fault v_faultPlace v_at v_place v_token v_number v_word v_text0 v_written v_sort0 v_pile v_piled v_opens v_isWhole v_once o_v_named o_v_values o_v_truth v_isWritten o_v_died v_aside v_likely v_safe v_headOf))) (by decide) (Nat.le_of_ble_eq_true rfl) (fun p e s m below meth c A ls hx hb hr hml hts hown hlocks hK hA hP hD hl => ?_)
  have hown : s.vm.findClass RX12 = some m.cls := hown
  have hl : lv_has ls 3 [(0, .ref h), (1, .int p1)] := hl
  have hS : va_S A s.heap s.heap [] := va_S.rf
  unfold f_X12_live at hf
  refine lv_aload_n hx hb dX12_live_0 rfl (lv_at hl 0 rfl) ?_
  refine lv_iload_n hx hb dX12_live_1 rfl (lv_at hl 1 rfl) ?_
  refine lv_bipush (v := (6 : Int32)) hx hb dX12_live_2 (by decide) ?_
  obtain ⟨r4, hg4, hf⟩ := ob1_some hf
  refine mcV1_i (As := [.int p1, .int (6 : Int32)]) (rest := []) hx hb hml hown hts hK hP hD hS hA (k_X12_get l N D cI cJ cZ cB cT h q v_a v_image v_texts v_tape v_taped v_fault v_faultPlace v_at v_place v_token v_number v_word v_text0 v_written v_sort0 v_pile v_piled v_opens v_isWhole v_once v_named v_values v_truth v_isWritten v_died v_aside v_likely v_safe v_headOf p1 (6 : Int32) r4 hg4) (kwX12_71 hts rfl rfl ⟨Nat.le_of_ble_eq_true rfl, Nat.le_of_ble_eq_true rfl⟩) 0 rfl rfl rfl rfl hl.1 rfl (Nat.le_of_ble_eq_true rfl) dX12_live_4 ⟨Nat.zero_le _, Nat.zero_le _⟩ (fun hB4 H locs hP hD hS => ?_)
  have hP : va_P D vwCl (WM h q cI cJ cZ v_a v_image v_texts v_tape v_taped v_fault v_faultPlace v_at v_place v_token v_number v_word v_text0 v_written v_sort0 v_pile v_piled v_opens v_isWhole v_once v_named v_values v_truth v_isWritten v_died v_aside v_likely v_safe v_headOf) H := hP
  have hD : va_D A (WM h q cI cJ cZ v_a v_image v_texts v_tape v_taped v_fault v_faultPlace v_at v_place v_token v_number v_word v_text0 v_written v_sort0 v_pile v_piled v_opens v_isWhole v_once v_named v_values v_truth v_isWritten v_died v_aside v_likely v_safe v_headOf) := hD
  refine lv_iconst (v := (3 : Int32)) hx hb dX12_live_7 (by decide) ?_
  refine xicmp_ne hx hb 12 dX12_live_8 (by decide) hf (fun hf => ?_) (fun hf => ?_)
  · cases hf
    exact mret_v hx hb hr hlocks hP hD hS dX12_live_11
  · refine lv_aload_n hx hb dX12_live_12 rfl (lv_at hl 0 rfl) ?_
    refine lv_iload_n hx hb dX12_live_13 rfl (lv_at hl 1 rfl) ?_
    refine lv_bipush (v := (6 : Int32)) hx hb dX12_live_14 (by decide) ?_
    obtain ⟨r16, hg16, hf⟩ := ob1_some hf
    refine mcV1_i (As := [.int p1, .int (6 : Int32)]) (rest := []) hx hb hml hown hts hK hP hD hS hA (k_X12_get l N D cI cJ cZ cB cT h q v_a v_image v_texts v_tape v_taped v_fault v_faultPlace v_at v_place v_token v_number v_word v_text0 v_written v_sort0 v_pile v_piled v_opens v_isWhole v_once v_named v_values v_truth v_isWritten v_died v_aside v_likely v_safe v_headOf p1 (6 : Int32) r16 hg16) (kwX12_71 hts rfl rfl ⟨Nat.le_of_ble_eq_true rfl, Nat.le_of_ble_eq_true rfl⟩) 0 rfl rfl rfl rfl hl.1 rfl (Nat.le_of_ble_eq_true rfl) dX12_live_16 ⟨Nat.zero_le _, Nat.zero_le _⟩ (fun hB16 H locs hP hD hS => ?_)
    have hP : va_P D vwCl (WM h q cI cJ cZ v_a v_image v_texts v_tape v_taped v_fault v_faultPlace v_at v_place v_token v_number v_word v_text0 v_written v_sort0 v_pile v_piled v_opens v_isWhole v_once v_named v_values v_truth v_isWritten v_died v_aside v_likely v_safe v_headOf) H := hP
    have hD : va_D A (WM h q cI cJ cZ v_a v_image v_texts v_tape v_taped v_fault v_faultPlace v_at v_place v_token v_number v_word v_text0 v_written v_sort0 v_pile v_piled v_opens v_isWhole v_once v_named v_values v_truth v_isWritten v_died v_aside v_likely v_safe v_headOf) := hD
    refine lv_iconst (v := (1 : Int32)) hx hb dX12_live_19 (by decide) ?_
    refine xicmp_eq hx hb 50 dX12_live_20 (by decide) hf (fun hf => ?_) (fun hf => ?_)
    · refine lv_aload_n hx hb dX12_live_50 rfl (lv_at hl 0 rfl) ?_
      refine lv_iload_n hx hb dX12_live_51 rfl (lv_at hl 1 rfl) ?_
      refine lv_iconst (v := (4 : Int32)) hx hb dX12_live_52 (by decide) ?_
      refine lv_aload_n hx hb dX12_live_53 rfl (lv_at hl 0 rfl) ?_
      refine lv_iload_n hx hb dX12_live_54 rfl (lv_at hl 1 rfl) ?_
      refine lv_iconst (v := (4 : Int32)) hx hb dX12_live_55 (by decide) ?_
      obtain ⟨r56, hg56, hf⟩ := ob1_some hf
      refine mcV1_i (As := [.int p1, .int (4 : Int32)]) (rest := [.int (4 : Int32), .int p1, .ref h]) hx hb hml hown hts hK hP hD hS hA (k_X12_get l N D cI cJ cZ cB cT h q v_a v_image v_texts v_tape v_taped v_fault v_faultPlace v_at v_place v_token v_number v_word v_text0 v_written v_sort0 v_pile v_piled v_opens v_isWhole v_once v_named v_values v_truth v_isWritten v_died v_aside v_likely v_safe v_headOf p1 (4 : Int32) r56 hg56) (kwX12_71 hts rfl rfl ⟨Nat.le_of_ble_eq_true rfl, Nat.le_of_ble_eq_true rfl⟩) 0 rfl rfl rfl rfl hl.1 rfl (Nat.le_of_ble_eq_true rfl) dX12_live_56 ⟨Nat.zero_le _, Nat.zero_le _⟩ (fun hB56 H locs hP hD hS => ?_)
      have hP : va_P D vwCl (WM h q cI cJ cZ v_a v_image v_texts v_tape v_taped v_fault v_faultPlace v_at v_place v_token v_number v_word v_text0 v_written v_sort0 v_pile v_piled v_opens v_isWhole v_once v_named v_values v_truth v_isWritten v_died v_aside v_likely v_safe v_headOf) H := hP
      have hD : va_D A (WM h q cI cJ cZ v_a v_image v_texts v_tape v_taped v_fault v_faultPlace v_at v_place v_token v_number v_word v_text0 v_written v_sort0 v_pile v_piled v_opens v_isWhole v_once v_named v_values v_truth v_isWritten v_died v_aside v_likely v_safe v_headOf) := hD
      refine lv_aload_n hx hb dX12_live_59 rfl (lv_at hl 0 rfl) ?_
      refine lv_iload_n hx hb dX12_live_60 rfl (lv_at hl 1 rfl) ?_
      obtain ⟨r61, v_named_61, v_values_61, v_truth_61, hg61, hf⟩ := ob4_some hf
      refine mcV1_i (As := [.int p1]) (rest := [.int r56, .int (4 : Int32), .int p1, .ref h]) hx hb hml hown hts hK hP hD hS hA (k_X12_hungersOf l N D cI cJ cZ cB cT h q v_a v_image v_texts v_tape v_taped v_fault v_faultPlace v_at v_place v_token v_number v_word v_text0 v_written v_sort0 v_pile v_piled v_opens v_isWhole v_once v_named v_values v_truth v_isWritten v_died v_aside v_likely v_safe v_headOf p1 r61 v_named_61 v_values_61 v_truth_61 hg61) (kwX12_328 hts rfl rfl ⟨Nat.le_of_ble_eq_true rfl, Nat.le_of_ble_eq_true rfl⟩) 0 rfl rfl rfl rfl hl.1 rfl (Nat.le_of_ble_eq_true rfl) dX12_live_61 ⟨Nat.zero_le _, Nat.zero_le _⟩ (fun hB61 H locs hP hD hS => ?_)
      have hP : va_P D vwCl (WM h q cI cJ cZ v_a v_image v_texts v_tape v_taped v_fault v_faultPlace v_at v_place v_token v_number v_word v_text0 v_written v_sort0 v_pile v_piled v_opens v_isWhole v_once v_named_61 v_values_61 v_truth_61 v_isWritten v_died v_aside v_likely v_safe v_headOf) H := hP
      have hD : va_D A (WM h q cI cJ cZ v_a v_image v_texts v_tape v_taped v_fault v_faultPlace v_at v_place v_token v_number v_word v_text0 v_written v_sort0 v_pile v_piled v_opens v_isWhole v_once v_named_61 v_values_61 v_truth_61 v_isWritten v_died v_aside v_likely v_safe v_headOf) := hD
      refine lv_iadd hx hb dX12_live_64 ?_
      refine lv_i2l hx hb dX12_live_65 rfl ?_
      refine lv_iconst (v := (0 : Int32)) hx hb dX12_live_66 (by decide) ?_
      refine lv_bipush (v := (9 : Int32)) hx hb dX12_live_67 (by decide) ?_
      obtain ⟨r69, hg69, hf⟩ := ob1_some hf
      refine mcS0_i (As := [.long ((r56 + r61).toInt64), .int (0 : Int32), .int (9 : Int32)]) (rest := [.int (4 : Int32), .int p1, .ref h]) hx hb hml hown hts hK hP hD hS hA (k_X12_cut l N D cI cJ cZ cB cT ((r56 + r61).toInt64) (0 : Int32) (9 : Int32) r69 hg69) (kwX12_294 hts rfl rfl ⟨Nat.le_of_ble_eq_true rfl, Nat.le_of_ble_eq_true rfl⟩) rfl hl.1 rfl (Nat.le_of_ble_eq_true rfl) dX12_live_69 ⟨Nat.zero_le _, Nat.zero_le _⟩ (fun hB69 H locs hP hD hS => ?_)
      obtain ⟨v_a_72, hg72, hf⟩ := ob1_some hf
      refine mcV1_v (As := [.int p1, .int (4 : Int32), .int r69]) (rest := []) hx hb hml hown hts hK hP hD hS hA (k_X12_put l N D cI cJ cZ cB cT h q v_a v_image v_texts v_tape v_taped v_fault v_faultPlace v_at v_place v_token v_number v_word v_text0 v_written v_sort0 v_pile v_piled v_opens v_isWhole v_once v_named_61 v_values_61 v_truth_61 v_isWritten v_died v_aside v_likely v_safe v_headOf p1 (4 : Int32) r69 v_a_72 hg72) (kwX12_82 hts rfl rfl ⟨Nat.le_of_ble_eq_true rfl, Nat.le_of_ble_eq_true rfl⟩) 0 rfl rfl rfl rfl hl.1 rfl (Nat.le_of_ble_eq_true rfl) dX12_live_72 ⟨Nat.zero_le _, Nat.zero_le _⟩ (fun H locs hP hD hS => ?_)
      have hP : va_P D vwCl (WM h q cI cJ cZ v_a_72 v_image v_texts v_tape v_taped v_fault v_faultPlace v_at v_place v_token v_number v_word v_text0 v_written v_sort0 v_pile v_piled v_opens v_isWhole v_once v_named_61 v_values_61 v_truth_61 v_isWritten v_died v_aside v_likely v_safe v_headOf) H := hP
      have hD : va_D A (WM h q cI cJ cZ v_a_72 v_image v_texts v_tape v_taped v_fault v_faultPlace v_at v_place v_token v_number v_word v_text0 v_written v_sort0 v_pile v_piled v_opens v_isWhole v_once v_named_61 v_values_61 v_truth_61 v_isWritten v_died v_aside v_likely v_safe v_headOf) := hD
      refine lv_aload_n hx hb dX12_live_75 rfl (lv_at hl 0 rfl) ?_
      refine lv_iload_n hx hb dX12_live_76 rfl (lv_at hl 1 rfl) ?_
      refine lv_iconst (v := (4 : Int32)) hx hb dX12_live_77 (by decide) ?_
      obtain ⟨r78, hg78, hf⟩ := ob1_some hf
      refine mcV1_i (As := [.int p1, .int (4 : Int32)]) (rest := []) hx hb hml hown hts hK hP hD hS hA (k_X12_get l N D cI cJ cZ cB cT h q v_a_72 v_image v_texts v_tape v_taped v_fault v_faultPlace v_at v_place v_token v_number v_word v_text0 v_written v_sort0 v_pile v_piled v_opens v_isWhole v_once v_named_61 v_values_61 v_truth_61 v_isWritten v_died v_aside v_likely v_safe v_headOf p1 (4 : Int32) r78 hg78) (kwX12_71 hts rfl rfl ⟨Nat.le_of_ble_eq_true rfl, Nat.le_of_ble_eq_true rfl⟩) 0 rfl rfl rfl rfl hl.1 rfl (Nat.le_of_ble_eq_true rfl) dX12_live_78 ⟨Nat.zero_le _, Nat.zero_le _⟩ (fun hB78 H locs hP hD hS => ?_)
      have hP : va_P D vwCl (WM h q cI cJ cZ v_a_72 v_image v_texts v_tape v_taped v_fault v_faultPlace v_at v_place v_token v_number v_word v_text0 v_written v_sort0 v_pile v_piled v_opens v_isWhole v_once v_named_61 v_values_61 v_truth_61 v_isWritten v_died v_aside v_likely v_safe v_headOf) H := hP
      have hD : va_D A (WM h q cI cJ cZ v_a_72 v_image v_texts v_tape v_taped v_fault v_faultPlace v_at v_place v_token v_number v_word v_text0 v_written v_sort0 v_pile v_piled v_opens v_isWhole v_once v_named_61 v_values_61 v_truth_61 v_isWritten v_died v_aside v_likely v_safe v_headOf) := hD
      refine lv_bipush (v := (9 : Int32)) hx hb dX12_live_81 (by decide) ?_
      refine xicmp_ne hx hb 93 dX12_live_83 (by decide) hf (fun hf => ?_) (fun hf => ?_)
      · refine lv_aload_n hx hb dX12_live_86 rfl (lv_at hl 0 rfl) ?_
        refine lv_iload_n hx hb dX12_live_87 rfl (lv_at hl 1 rfl) ?_
        refine lv_iconst (v := (3 : Int32)) hx hb dX12_live_88 (by decide) ?_
        obtain ⟨v_a_89, v_died_89, hg89, hf⟩ := ob2_some hf
        refine mcV1_v (As := [.int p1, .int (3 : Int32)]) (rest := []) hx hb hml hown hts hK hP hD hS hA (k_X12_die l N D cI cJ cZ cB cT h q v_a_72 v_image v_texts v_tape v_taped v_fault v_faultPlace v_at v_place v_token v_number v_word v_text0 v_written v_sort0 v_pile v_piled v_opens v_isWhole v_once v_named_61 v_values_61 v_truth_61 v_isWritten v_died v_aside v_likely v_safe v_headOf p1 (3 : Int32) v_a_89 v_died_89 hg89) (kwX12_331 hts rfl rfl ⟨Nat.le_of_ble_eq_true rfl, Nat.le_of_ble_eq_true rfl⟩) 0 rfl rfl rfl rfl hl.1 rfl (Nat.le_of_ble_eq_true rfl) dX12_live_89 ⟨Nat.zero_le _, Nat.zero_le _⟩ (fun H locs hP hD hS => ?_)
        have hP : va_P D vwCl (WM h q cI cJ cZ v_a_89 v_image v_texts v_tape v_taped v_fault v_faultPlace v_at v_place v_token v_number v_word v_text0 v_written v_sort0 v_pile v_piled v_opens v_isWhole v_once v_named_61 v_values_61 v_truth_61 v_isWritten v_died_89 v_aside v_likely v_safe v_headOf) H := hP
        have hD : va_D A (WM h q cI cJ cZ v_a_89 v_image v_texts v_tape v_taped v_fault v_faultPlace v_at v_place v_token v_number v_word v_text0 v_written v_sort0 v_pile v_piled v_opens v_isWhole v_once v_named_61 v_values_61 v_truth_61 v_isWritten v_died_89 v_aside v_likely v_safe v_headOf) := hD
        cases hf
        exact mret_v hx hb hr hlocks hP hD hS dX12_live_92
      · refine lv_aload_n hx hb dX12_live_93 rfl (lv_at hl 0 rfl) ?_
        refine lv_iload_n hx hb dX12_live_94 rfl (lv_at hl 1 rfl) ?_
        obtain ⟨r95, v_named_95, v_values_95, v_truth_95, hg95, hf⟩ := ob4_some hf
        refine mcV1_i (As := [.int p1]) (rest := []) hx hb hml hown hts hK hP hD hS hA (k_X12_findsOf l N D cI cJ cZ cB cT h q v_a_72 v_image v_texts v_tape v_taped v_fault v_faultPlace v_at v_place v_token v_number v_word v_text0 v_written v_sort0 v_pile v_piled v_opens v_isWhole v_once v_named_61 v_values_61 v_truth_61 v_isWritten v_died v_aside v_likely v_safe v_headOf p1 r95 v_named_95 v_values_95 v_truth_95 hg95) (kwX12_334 hts rfl rfl ⟨Nat.le_of_ble_eq_true rfl, Nat.le_of_ble_eq_true rfl⟩) 0 rfl rfl rfl rfl hl.1 rfl (Nat.le_of_ble_eq_true rfl) dX12_live_95 ⟨Nat.zero_le _, Nat.zero_le _⟩ (fun hB95 H locs hP hD hS => ?_)
        have hP : va_P D vwCl (WM h q cI cJ cZ v_a_72 v_image v_texts v_tape v_taped v_fault v_faultPlace v_at v_place v_token v_number v_word v_text0 v_written v_sort0 v_pile v_piled v_opens v_isWhole v_once v_named_95 v_values_95 v_truth_95 v_isWritten v_died v_aside v_likely v_safe v_headOf) H := hP
        have hD : va_D A (WM h q cI cJ cZ v_a_72 v_image v_texts v_tape v_taped v_fault v_faultPlace v_at v_place v_token v_number v_word v_text0 v_written v_sort0 v_pile v_piled v_opens v_isWhole v_once v_named_95 v_values_95 v_truth_95 v_isWritten v_died v_aside v_likely v_safe v_headOf) := hD
        refine lv_istore_n (lv' := [(2, .int r95), (0, .ref h), (1, .int p1)]) hx hb dX12_live_98 rfl hl (by decide) rfl (fun ls hl => ?_)
        refine lv_aload_n hx hb dX12_live_99 rfl (lv_at hl 1 rfl) ?_
        refine lv_bipush (v := (10 : Int32)) hx hb dX12_live_100 (by decide) ?_
        obtain ⟨r102, v_a_102, hg102, hf⟩ := ob2_some hf
        refine mcV1_i (As := [.int (10 : Int32)]) (rest := []) hx hb hml hown hts hK hP hD hS hA (k_X12_drawn l N D cI cJ cZ cB cT h q v_a_72 v_image v_texts v_tape v_taped v_fault v_faultPlace v_at v_place v_token v_number v_word v_text0 v_written v_sort0 v_pile v_piled v_opens v_isWhole v_once v_named_95 v_values_95 v_truth_95 v_isWritten v_died v_aside v_likely v_safe v_headOf (10 : Int32) r102 v_a_102 hg102) (kwX12_337 hts rfl rfl ⟨Nat.le_of_ble_eq_true rfl, Nat.le_of_ble_eq_true rfl⟩) 0 rfl rfl rfl rfl hl.1 rfl (Nat.le_of_ble_eq_true rfl) dX12_live_102 ⟨Nat.zero_le _, Nat.zero_le _⟩ (fun hB102 H locs hP hD hS => ?_)
        have hP : va_P D vwCl (WM h q cI cJ cZ v_a_102 v_image v_texts v_tape v_taped v_fault v_faultPlace v_at v_place v_token v_number v_word v_text0 v_written v_sort0 v_pile v_piled v_opens v_isWhole v_once v_named_95 v_values_95 v_truth_95 v_isWritten v_died v_aside v_likely v_safe v_headOf) H := hP
        have hD : va_D A (WM h q cI cJ cZ v_a_102 v_image v_texts v_tape v_taped v_fault v_faultPlace v_at v_place v_token v_number v_word v_text0 v_written v_sort0 v_pile v_piled v_opens v_isWhole v_once v_named_95 v_values_95 v_truth_95 v_isWritten v_died v_aside v_likely v_safe v_headOf) := hD
        refine lv_iload_n hx hb dX12_live_105 rfl (lv_at hl 0 rfl) ?_
        refine xicmp_ge hx hb 118 dX12_live_106 (by decide) hf (fun hf => ?_) (fun hf => ?_)
        · refine lv_aload_n hx hb dX12_live_118 rfl (lv_at hl 1 rfl) ?_
          refine lv_iload_n hx hb dX12_live_119 rfl (lv_at hl 2 rfl) ?_
          refine lv_iconst (v := (5 : Int32)) hx hb dX12_live_120 (by decide) ?_
          refine lv_aload_n hx hb dX12_live_121 rfl (lv_at hl 1 rfl) ?_
          refine lv_iload_n hx hb dX12_live_122 rfl (lv_at hl 2 rfl) ?_
          refine lv_iconst (v := (5 : Int32)) hx hb dX12_live_123 (by decide) ?_
          obtain ⟨r124, hg124, hf⟩ := ob1_some hf
          refine mcV1_i (As := [.int p1, .int (5 : Int32)]) (rest := [.int (5 : Int32), .int p1, .ref h]) hx hb hml hown hts hK hP hD hS hA (k_X12_get l N D cI cJ cZ cB cT h q v_a_102 v_image v_texts v_tape v_taped v_fault v_faultPlace v_at v_place v_token v_number v_word v_text0 v_written v_sort0 v_pile v_piled v_opens v_isWhole v_once v_named_95 v_values_95 v_truth_95 v_isWritten v_died v_aside v_likely v_safe v_headOf p1 (5 : Int32) r124 hg124) (kwX12_71 hts rfl rfl ⟨Nat.le_of_ble_eq_true rfl, Nat.le_of_ble_eq_true rfl⟩) 0 rfl rfl rfl rfl hl.1 rfl (Nat.le_of_ble_eq_true rfl) dX12_live_124 ⟨Nat.zero_le _, Nat.zero_le _⟩ (fun hB124 H locs hP hD hS => ?_)
          have hP : va_P D vwCl (WM h q cI cJ cZ v_a_102 v_image v_texts v_tape v_taped v_fault v_faultPlace v_at v_place v_token v_number v_word v_text0 v_written v_sort0 v_pile v_piled v_opens v_isWhole v_once v_named_95 v_values_95 v_truth_95 v_isWritten v_died v_aside v_likely v_safe v_headOf) H := hP
          have hD : va_D A (WM h q cI cJ cZ v_a_102 v_image v_texts v_tape v_taped v_fault v_faultPlace v_at v_place v_token v_number v_word v_text0 v_written v_sort0 v_pile v_piled v_opens v_isWhole v_once v_named_95 v_values_95 v_truth_95 v_isWritten v_died v_aside v_likely v_safe v_headOf) := hD
          refine lv_iconst (v := (1 : Int32)) hx hb dX12_live_127 (by decide) ?_
          refine lv_iadd hx hb dX12_live_128 ?_
          obtain ⟨v_a_129, hg129, hf⟩ := ob1_some hf
          refine mcV1_v (As := [.int p1, .int (5 : Int32), .int (r124 + (1 : Int32))]) (rest := []) hx hb hml hown hts hK hP hD hS hA (k_X12_put l N D cI cJ cZ cB cT h q v_a_102 v_image v_texts v_tape v_taped v_fault v_faultPlace v_at v_place v_token v_number v_word v_text0 v_written v_sort0 v_pile v_piled v_opens v_isWhole v_once v_named_95 v_values_95 v_truth_95 v_isWritten v_died v_aside v_likely v_safe v_headOf p1 (5 : Int32) (r124 + (1 : Int32)) v_a_129 hg129) (kwX12_82 hts rfl rfl ⟨Nat.le_of_ble_eq_true rfl, Nat.le_of_ble_eq_true rfl⟩) 0 rfl rfl rfl rfl hl.1 rfl (Nat.le_of_ble_eq_true rfl) dX12_live_129 ⟨Nat.zero_le _, Nat.zero_le _⟩ (fun H locs hP hD hS => ?_)
          have hP : va_P D vwCl (WM h q cI cJ cZ v_a_129 v_image v_texts v_tape v_taped v_fault v_faultPlace v_at v_place v_token v_number v_word v_text0 v_written v_sort0 v_pile v_piled v_opens v_isWhole v_once v_named_95 v_values_95 v_truth_95 v_isWritten v_died v_aside v_likely v_safe v_headOf) H := hP
          have hD : va_D A (WM h q cI cJ cZ v_a_129 v_image v_texts v_tape v_taped v_fault v_faultPlace v_at v_place v_token v_number v_word v_text0 v_written v_sort0 v_pile v_piled v_opens v_isWhole v_once v_named_95 v_values_95 v_truth_95 v_isWritten v_died v_aside v_likely v_safe v_headOf) := hD
          cases hf
          exact mret_v hx hb hr hlocks hP hD hS dX12_live_132
        · refine lv_aload_n hx hb dX12_live_109 rfl (lv_at hl 1 rfl) ?_
          refine lv_iload_n hx hb dX12_live_110 rfl (lv_at hl 2 rfl) ?_
          refine lv_iconst (v := (4 : Int32)) hx hb dX12_live_111 (by decide) ?_
          obtain ⟨v_a_112, v_died_112, hg112, hf⟩ := ob2_some hf
          refine mcV1_v (As := [.int p1, .int (4 : Int32)]) (rest := []) hx hb hml hown hts hK hP hD hS hA (k_X12_die l N D cI cJ cZ cB cT h q v_a_102 v_image v_texts v_tape v_taped v_fault v_faultPlace v_at v_place v_token v_number v_word v_text0 v_written v_sort0 v_pile v_piled v_opens v_isWhole v_once v_named_95 v_values_95 v_truth_95 v_isWritten v_died v_aside v_likely v_safe v_headOf p1 (4 : Int32) v_a_112 v_died_112 hg112) (kwX12_331 hts rfl rfl ⟨Nat.le_of_ble_eq_true rfl, Nat.le_of_ble_eq_true rfl⟩) 0 rfl rfl rfl rfl hl.1 rfl (Nat.le_of_ble_eq_true rfl) dX12_live_112 ⟨Nat.zero_le _, Nat.zero_le _⟩ (fun H locs hP hD hS => ?_)
          have hP : va_P D vwCl (WM h q cI cJ cZ v_a_112 v_image v_texts v_tape v_taped v_fault v_faultPlace v_at v_place v_token v_number v_word v_text0 v_written v_sort0 v_pile v_piled v_opens v_isWhole v_once v_named_95 v_values_95 v_truth_95 v_isWritten v_died_112 v_aside v_likely v_safe v_headOf) H := hP
          have hD : va_D A (WM h q cI cJ cZ v_a_112 v_image v_texts v_tape v_taped v_fault v_faultPlace v_at v_place v_token v_number v_word v_text0 v_written v_sort0 v_pile v_piled v_opens v_isWhole v_once v_named_95 v_values_95 v_truth_95 v_isWritten v_died_112 v_aside v_likely v_safe v_headOf) := hD
          refine lv_goto (tgt := 132) hx hb dX12_live_115 (by decide) ?_
          cases hf
          exact mret_v hx hb hr hlocks hP hD hS dX12_live_132
    · refine lv_aload_n hx hb dX12_live_23 rfl (lv_at hl 0 rfl) ?_
      refine lv_iload_n hx hb dX12_live_24 rfl (lv_at hl 1 rfl) ?_
      refine lv_iconst (v := (1 : Int32)) hx hb dX12_live_25 (by decide) ?_
      refine lv_aload_n hx hb dX12_live_26 rfl (lv_at hl 0 rfl) ?_
      refine lv_iload_n hx hb dX12_live_27 rfl (lv_at hl 1 rfl) ?_
      refine lv_iconst (v := (1 : Int32)) hx hb dX12_live_28 (by decide) ?_
      obtain ⟨r29, hg29, hf⟩ := ob1_some hf
      refine mcV1_i (As := [.int p1, .int (1 : Int32)]) (rest := [.int (1 : Int32), .int p1, .ref h]) hx hb hml hown hts hK hP hD hS hA (k_X12_get l N D cI cJ cZ cB cT h q v_a v_image v_texts v_tape v_taped v_fault v_faultPlace v_at v_place v_token v_number v_word v_text0 v_written v_sort0 v_pile v_piled v_opens v_isWhole v_once v_named v_values v_truth v_isWritten v_died v_aside v_likely v_safe v_headOf p1 (1 : Int32) r29 hg29) (kwX12_71 hts rfl rfl ⟨Nat.le_of_ble_eq_true rfl, Nat.le_of_ble_eq_true rfl⟩) 0 rfl rfl rfl rfl hl.1 rfl (Nat.le_of_ble_eq_true rfl) dX12_live_29 ⟨Nat.zero_le _, Nat.zero_le _⟩ (fun hB29 H locs hP hD hS => ?_)
      have hP : va_P D vwCl (WM h q cI cJ cZ v_a v_image v_texts v_tape v_taped v_fault v_faultPlace v_at v_place v_token v_number v_word v_text0 v_written v_sort0 v_pile v_piled v_opens v_isWhole v_once v_named v_values v_truth v_isWritten v_died v_aside v_likely v_safe v_headOf) H := hP
      have hD : va_D A (WM h q cI cJ cZ v_a v_image v_texts v_tape v_taped v_fault v_faultPlace v_at v_place v_token v_number v_word v_text0 v_written v_sort0 v_pile v_piled v_opens v_isWhole v_once v_named v_values v_truth v_isWritten v_died v_aside v_likely v_safe v_headOf) := hD
      refine lv_aload_n hx hb dX12_live_32 rfl (lv_at hl 0 rfl) ?_
      refine lv_iload_n hx hb dX12_live_33 rfl (lv_at hl 1 rfl) ?_
      obtain ⟨r34, v_named_34, v_values_34, v_truth_34, hg34, hf⟩ := ob4_some hf
      refine mcV1_i (As := [.int p1]) (rest := [.int r29, .int (1 : Int32), .int p1, .ref h]) hx hb hml hown hts hK hP hD hS hA (k_X12_earnsOf l N D cI cJ cZ cB cT h q v_a v_image v_texts v_tape v_taped v_fault v_faultPlace v_at v_place v_token v_number v_word v_text0 v_written v_sort0 v_pile v_piled v_opens v_isWhole v_once v_named v_values v_truth v_isWritten v_died v_aside v_likely v_safe v_headOf p1 r34 v_named_34 v_values_34 v_truth_34 hg34) (kwX12_325 hts rfl rfl ⟨Nat.le_of_ble_eq_true rfl, Nat.le_of_ble_eq_true rfl⟩) 0 rfl rfl rfl rfl hl.1 rfl (Nat.le_of_ble_eq_true rfl) dX12_live_34 ⟨Nat.zero_le _, Nat.zero_le _⟩ (fun hB34 H locs hP hD hS => ?_)
      have hP : va_P D vwCl (WM h q cI cJ cZ v_a v_image v_texts v_tape v_taped v_fault v_faultPlace v_at v_place v_token v_number v_word v_text0 v_written v_sort0 v_pile v_piled v_opens v_isWhole v_once v_named_34 v_values_34 v_truth_34 v_isWritten v_died v_aside v_likely v_safe v_headOf) H := hP
      have hD : va_D A (WM h q cI cJ cZ v_a v_image v_texts v_tape v_taped v_fault v_faultPlace v_at v_place v_token v_number v_word v_text0 v_written v_sort0 v_pile v_piled v_opens v_isWhole v_once v_named_34 v_values_34 v_truth_34 v_isWritten v_died v_aside v_likely v_safe v_headOf) := hD
      refine lv_iadd hx hb dX12_live_37 ?_
      refine lv_i2l hx hb dX12_live_38 rfl ?_
      refine lv_iconst (v := (0 : Int32)) hx hb dX12_live_39 (by decide) ?_
      refine lv_sipush (v := (9999 : Int32)) hx hb dX12_live_40 (by decide) ?_
      obtain ⟨r43, hg43, hf⟩ := ob1_some hf
      refine mcS0_i (As := [.long ((r29 + r34).toInt64), .int (0 : Int32), .int (9999 : Int32)]) (rest := [.int (1 : Int32), .int p1, .ref h]) hx hb hml hown hts hK hP hD hS hA (k_X12_cut l N D cI cJ cZ cB cT ((r29 + r34).toInt64) (0 : Int32) (9999 : Int32) r43 hg43) (kwX12_294 hts rfl rfl ⟨Nat.le_of_ble_eq_true rfl, Nat.le_of_ble_eq_true rfl⟩) rfl hl.1 rfl (Nat.le_of_ble_eq_true rfl) dX12_live_43 ⟨Nat.zero_le _, Nat.zero_le _⟩ (fun hB43 H locs hP hD hS => ?_)
      obtain ⟨v_a_46, hg46, hf⟩ := ob1_some hf
      refine mcV1_v (As := [.int p1, .int (1 : Int32), .int r43]) (rest := []) hx hb hml hown hts hK hP hD hS hA (k_X12_put l N D cI cJ cZ cB cT h q v_a v_image v_texts v_tape v_taped v_fault v_faultPlace v_at v_place v_token v_number v_word v_text0 v_written v_sort0 v_pile v_piled v_opens v_isWhole v_once v_named_34 v_values_34 v_truth_34 v_isWritten v_died v_aside v_likely v_safe v_headOf p1 (1 : Int32) r43 v_a_46 hg46) (kwX12_82 hts rfl rfl ⟨Nat.le_of_ble_eq_true rfl, Nat.le_of_ble_eq_true rfl⟩) 0 rfl rfl rfl rfl hl.1 rfl (Nat.le_of_ble_eq_true rfl) dX12_live_46 ⟨Nat.zero_le _, Nat.zero_le _⟩ (fun H locs hP hD hS => ?_)
      have hP : va_P D vwCl (WM h q cI cJ cZ v_a_46 v_image v_texts v_tape v_taped v_fault v_faultPlace v_at v_place v_token v_number v_word v_text0 v_written v_sort0 v_pile v_piled v_opens v_isWhole v_once v_named_34 v_values_34 v_truth_34 v_isWritten v_died v_aside v_likely v_safe v_headOf) H := hP
      have hD : va_D A (WM h q cI cJ cZ v_a_46 v_image v_texts v_tape v_taped v_fault v_faultPlace v_at v_place v_token v_number v_word v_text0 v_written v_sort0 v_pile v_piled v_opens v_isWhole v_once v_named_34 v_values_34 v_truth_34 v_isWritten v_died v_aside v_likely v_safe v_headOf) := hD
      cases hf
      exact mret_v hx hb hr hlocks hP hD hS dX12_live_49
