theorem dX12_goOn_0 : decode cX12_goOn 0 = .ok (.iconst 0, 1) := by decide +kernel
theorem dX12_goOn_1 : decode cX12_goOn 1 = .ok (.istore_n 1, 1) := by decide +kernel
theorem dX12_goOn_2 : decode cX12_goOn 2 = .ok (.iload_n 1, 1) := by decide +kernel
theorem dX12_goOn_3 : decode cX12_goOn 3 = .ok (.aload_n 0, 1) := by decide +kernel
theorem dX12_goOn_4 : decode cX12_goOn 4 = .ok (.getfield 7, 3) := by decide +kernel
theorem dX12_goOn_7 : decode cX12_goOn 7 = .ok (.iconst 1, 1) := by decide +kernel
theorem dX12_goOn_8 : decode cX12_goOn 8 = .ok (.iaload, 1) := by decide +kernel
theorem dX12_goOn_9 : decode cX12_goOn 9 = .ok (.if_icmp .ge 14, 3) := by decide +kernel
theorem dX12_goOn_12 : decode cX12_goOn 12 = .ok (.aload_n 0, 1) := by decide +kernel
theorem dX12_goOn_13 : decode cX12_goOn 13 = .ok (.iload_n 1, 1) := by decide +kernel
theorem dX12_goOn_14 : decode cX12_goOn 14 = .ok (.invokevirtual 340, 3) := by decide +kernel
theorem dX12_goOn_17 : decode cX12_goOn 17 = .ok (.iinc 1 1, 3) := by decide +kernel
theorem dX12_goOn_20 : decode cX12_goOn 20 = .ok (.goto (-18), 3) := by decide +kernel
theorem dX12_goOn_23 : decode cX12_goOn 23 = .ok (.aload_n 0, 1) := by decide +kernel
theorem dX12_goOn_24 : decode cX12_goOn 24 = .ok (.getfield 7, 3) := by decide +kernel
theorem dX12_goOn_27 : decode cX12_goOn 27 = .ok (.bipush 10, 2) := by decide +kernel
theorem dX12_goOn_29 : decode cX12_goOn 29 = .ok (.dup2, 1) := by decide +kernel
theorem dX12_goOn_30 : decode cX12_goOn 30 = .ok (.iaload, 1) := by decide +kernel
theorem dX12_goOn_31 : decode cX12_goOn 31 = .ok (.iconst 1, 1) := by decide +kernel
theorem dX12_goOn_32 : decode cX12_goOn 32 = .ok (.iadd, 1) := by decide +kernel
theorem dX12_goOn_33 : decode cX12_goOn 33 = .ok (.iastore, 1) := by decide +kernel
theorem dX12_goOn_34 : decode cX12_goOn 34 = .ok (.return_, 1) := by decide +kernel
def f_X12_goOn_2 (N : Nat) : Nat → (Nat → Int32) → (Nat → Int32) → (Nat → Int32) → (Nat → Int64) → (Nat → Int32) → Int32 → Int32 → Int32 → Option ((Nat → Int32) × (Nat → Int32) × (Nat → Int64) × (Nat → Int32) × Int32)
  | 0, _, _, _, _, _, _, _, _ => none
  | n + 1, v_a, v_texts, v_named, v_values, v_truth, v_isWritten, v_died, x1 => gA v_a 8762 (1 : Int32) fun v8 => if v8 ≤ x1 then (gA v_a 8762 (10 : Int32) fun v30 => sA v_a 8762 (10 : Int32) (v30 + (1 : Int32)) fun v_a_33 => some (v_a_33, v_named, v_values, v_truth, v_died)) else (ob5 (f_X12_live N v_a v_texts v_named v_values v_truth v_isWritten v_died x1) fun v_a_14 v_named_14 v_values_14 v_truth_14 v_died_14 => (f_X12_goOn_2 N n) v_a_14 v_texts v_named_14 v_values_14 v_truth_14 v_isWritten v_died_14 (x1 + (1 : Int32)))
def f_X12_goOn (N : Nat) (v_a : Nat → Int32) (v_texts : Nat → Int32) (v_named : Nat → Int32) (v_values : Nat → Int64) (v_truth : Nat → Int32) (v_isWritten : Int32) (v_died : Int32) : Option ((Nat → Int32) × (Nat → Int32) × (Nat → Int64) × (Nat → Int32) × Int32) := f_X12_goOn_2 N N v_a v_texts v_named v_values v_truth v_isWritten v_died (0 : Int32)
set_option maxHeartbeats 4000000 in
set_option maxRecDepth 100000 in
theorem k_X12_goOn (l : Launch) (N : Nat) (D : va_G) (cI cJ cZ cB cT : ClassId) (h : Nat) (q : Nat → Nat) (v_a : Nat → Int32) (v_image : Nat → Int32) (v_texts : Nat → Int32) (v_tape : Nat → Int32) (v_taped : Int32) (v_fault : Int32) (v_faultPlace : Int32) (v_at : Int32) (v_place : Int32) (v_token : Int32) (v_number : Int32) (v_word : Int64) (v_text0 : Int32) (v_written : Int32) (v_sort0 : Int32) (v_pile : Nat → Int32) (v_piled : Int32) (v_opens : Int32) (v_isWhole : Int32) (v_once : Int32) (v_named : Nat → Int32) (v_values : Nat → Int64) (v_truth : Nat → Int32) (v_isWritten : Int32) (v_died : Int32) (v_aside : Nat → Int32) (v_likely : Nat → Int32) (v_safe : Nat → Int32) (v_headOf : Nat → Int32) (o_v_a : Nat → Int32) (o_v_named : Nat → Int32) (o_v_values : Nat → Int64) (o_v_truth : Nat → Int32) (o_v_died : Int32) (hf : f_X12_goOn N v_a v_texts v_named v_values v_truth v_isWritten v_died = some (o_v_a, o_v_named, o_v_values, o_v_truth, o_v_died)) : ∀ sz, Met l yX12_goOn (mw yX12_goOn cX12_goOn 2 none) ({ frames := 8, cells := 0, slots := 0, locals := 186 } : Room) (mPre D (mT cI cJ cZ cB cT) (WM h q cI cJ cZ v_a v_image v_texts v_tape v_taped v_fault v_faultPlace v_at v_place v_token v_number v_word v_text0 v_written v_sort0 v_pile v_piled v_opens v_isWhole v_once v_named v_values v_truth v_isWritten v_died v_aside v_likely v_safe v_headOf) sz [.ref h]) ((mQv D (WM h q cI cJ cZ o_v_a v_image v_texts v_tape v_taped v_fault v_faultPlace v_at v_place v_token v_number v_word v_text0 v_written v_sort0 v_pile v_piled v_opens v_isWhole v_once o_v_named o_v_values o_v_truth v_isWritten o_v_died v_aside v_likely v_safe v_headOf)) (va_A (WM h q cI cJ cZ v_a v_image v_texts v_tape v_taped v_fault v_faultPlace v_at v_place v_token v_number v_word v_text0 v_written v_sort0 v_pile v_piled v_opens v_isWhole v_once v_named v_values v_truth v_isWritten v_died v_aside v_likely v_safe v_headOf) sz)) 0 0 (va_A (WM h q cI cJ cZ v_a v_image v_texts v_tape v_taped v_fault v_faultPlace v_at v_place v_token v_number v_word v_text0 v_written v_sort0 v_pile v_piled v_opens v_isWhole v_once v_named v_values v_truth v_isWritten v_died v_aside v_likely v_safe v_headOf) sz) := by
  refine mMet (Qc := (mQv D (WM h q cI cJ cZ o_v_a v_image v_texts v_tape v_taped v_fault v_faultPlace v_at v_place v_token v_number v_word v_text0 v_written v_sort0 v_pile v_piled v_opens v_isWhole v_once o_v_named o_v_values o_v_truth v_isWritten o_v_died v_aside v_likely v_safe v_headOf))) (by decide) (Nat.le_of_ble_eq_true rfl) (fun p e s m below meth c A ls hx hb hr hml hts hown hlocks hK hA hP hD hl => ?_)
  have hown : s.vm.findClass RX12 = some m.cls := hown
  have hl : lv_has ls 2 [(0, .ref h)] := hl
  have hS : va_S A s.heap s.heap [] := va_S.rf
  have b2 : ∀ n2 : Nat, ∀ (v_a : Nat → Int32) (v_named : Nat → Int32) (v_values : Nat → Int64) (v_truth : Nat → Int32) (v_died : Int32) (x1 : Int32) (H : Heap) (locs : List Loc) (ls : Array Slot), f_X12_goOn_2 N n2 v_a v_texts v_named v_values v_truth v_isWritten v_died x1 = some (o_v_a, o_v_named, o_v_values, o_v_truth, o_v_died) → va_P D vwCl (WM h q cI cJ cZ v_a v_image v_texts v_tape v_taped v_fault v_faultPlace v_at v_place v_token v_number v_word v_text0 v_written v_sort0 v_pile v_piled v_opens v_isWhole v_once v_named v_values v_truth v_isWritten v_died v_aside v_likely v_safe v_headOf) H → va_D A (WM h q cI cJ cZ v_a v_image v_texts v_tape v_taped v_fault v_faultPlace v_at v_place v_token v_number v_word v_text0 v_written v_sort0 v_pile v_piled v_opens v_isWhole v_once v_named v_values v_truth v_isWritten v_died v_aside v_likely v_safe v_headOf) → va_S A s.heap H locs → lv_has ls 2 [(0, .ref h), (1, .int x1)] → W p l e ({ frames := 8, cells := 0, slots := 0, locals := 186 } : Room) s m ([.ref h] : List Value).toArray below meth c H locs 0 0 (MQ below ((mQv D (WM h q cI cJ cZ o_v_a v_image v_texts v_tape v_taped v_fault v_faultPlace v_at v_place v_token v_number v_word v_text0 v_written v_sort0 v_pile v_piled v_opens v_isWhole v_once o_v_named o_v_values o_v_truth v_isWritten o_v_died v_aside v_likely v_safe v_headOf)) A) ([.ref h] : List Value).toArray s 0 0 A) (F0 m 2 ls []) := by
    intro n2
    induction n2 with
    | zero =>
      intro v_a v_named v_values v_truth v_died x1 H locs ls hf hP hD hS hl
      simp [f_X12_goOn_2] at hf
    | succ n2 ih2 =>
      intro v_a v_named v_values v_truth v_died x1 H locs ls hf hP hD hS hl
      rw [f_X12_goOn_2.eq_2] at hf
      refine lv_iload_n hx hb dX12_goOn_2 rfl (lv_at hl 1 rfl) ?_
      refine lv_aload_n hx hb dX12_goOn_3 rfl (lv_at hl 0 rfl) ?_
      refine gfX12_7 hx hb hts hown hK hP 0 rfl rfl dX12_goOn_4 ?_
      refine lv_iconst (v := (1 : Int32)) hx hb dX12_goOn_7 (by decide) ?_
      refine xiald hx hb hK hP 1 0 rfl rfl dX12_goOn_8 hf (fun v8 hf => ?_)
      refine xicmp_ge hx hb 23 dX12_goOn_9 (by decide) hf (fun hf => ?_) (fun hf => ?_)
      · refine lv_aload_n hx hb dX12_goOn_23 rfl (lv_at hl 0 rfl) ?_
        refine gfX12_7 hx hb hts hown hK hP 0 rfl rfl dX12_goOn_24 ?_
        refine lv_bipush (v := (10 : Int32)) hx hb dX12_goOn_27 (by decide) ?_
        refine lv_dup2_11 hx hb dX12_goOn_29 rfl rfl ?_
        refine xiald hx hb hK hP 1 0 rfl rfl dX12_goOn_30 hf (fun v30 hf => ?_)
        refine lv_iconst (v := (1 : Int32)) hx hb dX12_goOn_31 (by decide) ?_
        refine lv_iadd hx hb dX12_goOn_32 ?_
        refine xiast hx hb hK hP hD hS 1 0 rfl rfl dX12_goOn_33 hf (fun v_a_33 hf H locs hP hD hS => ?_)
        have hP : va_P D vwCl (WM h q cI cJ cZ v_a_33 v_image v_texts v_tape v_taped v_fault v_faultPlace v_at v_place v_token v_number v_word v_text0 v_written v_sort0 v_pile v_piled v_opens v_isWhole v_once v_named v_values v_truth v_isWritten v_died v_aside v_likely v_safe v_headOf) H := hP
        have hD : va_D A (WM h q cI cJ cZ v_a_33 v_image v_texts v_tape v_taped v_fault v_faultPlace v_at v_place v_token v_number v_word v_text0 v_written v_sort0 v_pile v_piled v_opens v_isWhole v_once v_named v_values v_truth v_isWritten v_died v_aside v_likely v_safe v_headOf) := hD
        cases hf
        exact mret_v hx hb hr hlocks hP hD hS dX12_goOn_34
      · refine lv_aload_n hx hb dX12_goOn_12 rfl (lv_at hl 0 rfl) ?_
        refine lv_iload_n hx hb dX12_goOn_13 rfl (lv_at hl 1 rfl) ?_
        obtain ⟨v_a_14, v_named_14, v_values_14, v_truth_14, v_died_14, hg14, hf⟩ := ob5_some hf
        refine mcV1_v (As := [.int x1]) (rest := []) hx hb hml hown hts hK hP hD hS hA (k_X12_live l N D cI cJ cZ cB cT h q v_a v_image v_texts v_tape v_taped v_fault v_faultPlace v_at v_place v_token v_number v_word v_text0 v_written v_sort0 v_pile v_piled v_opens v_isWhole v_once v_named v_values v_truth v_isWritten v_died v_aside v_likely v_safe v_headOf x1 v_a_14 v_named_14 v_values_14 v_truth_14 v_died_14 hg14) (kwX12_340 hts rfl rfl ⟨Nat.le_of_ble_eq_true rfl, Nat.le_of_ble_eq_true rfl⟩) 0 rfl rfl rfl rfl hl.1 rfl (Nat.le_of_ble_eq_true rfl) dX12_goOn_14 ⟨Nat.zero_le _, Nat.zero_le _⟩ (fun H locs hP hD hS => ?_)
        have hP : va_P D vwCl (WM h q cI cJ cZ v_a_14 v_image v_texts v_tape v_taped v_fault v_faultPlace v_at v_place v_token v_number v_word v_text0 v_written v_sort0 v_pile v_piled v_opens v_isWhole v_once v_named_14 v_values_14 v_truth_14 v_isWritten v_died_14 v_aside v_likely v_safe v_headOf) H := hP
        have hD : va_D A (WM h q cI cJ cZ v_a_14 v_image v_texts v_tape v_taped v_fault v_faultPlace v_at v_place v_token v_number v_word v_text0 v_written v_sort0 v_pile v_piled v_opens v_isWhole v_once v_named_14 v_values_14 v_truth_14 v_isWritten v_died_14 v_aside v_likely v_safe v_headOf) := hD
        refine lv_iinc (v := (x1 + (1 : Int32))) (lv' := [(1, .int (x1 + (1 : Int32))), (0, .ref h)]) hx hb dX12_goOn_17 hl (k := 1) rfl rfl (by decide) rfl (fun ls hl => ?_)
        refine lv_goto (tgt := 2) hx hb dX12_goOn_20 (by decide) ?_
        exact ih2 v_a_14 v_named_14 v_values_14 v_truth_14 v_died_14 (x1 + (1 : Int32)) _ _ _ hf hP hD hS (lv_sub hl [1, 0] rfl)
  unfold f_X12_goOn at hf
  refine lv_iconst (v := (0 : Int32)) hx hb dX12_goOn_0 (by decide) ?_
  refine lv_istore_n (lv' := [(1, .int (0 : Int32)), (0, .ref h)]) hx hb dX12_goOn_1 rfl hl (by decide) rfl (fun ls hl => ?_)
  exact b2 N v_a v_named v_values v_truth v_died (0 : Int32) _ _ _ hf hP hD hS (lv_sub hl [1, 0] rfl)
theorem dX12_keep_0 : decode cX12_keep 0 = .ok (.aload_n 0, 1) := by decide +kernel
theorem dX12_keep_1 : decode cX12_keep 1 = .ok (.getfield 7, 3) := by decide +kernel
theorem dX12_keep_4 : decode cX12_keep 4 = .ok (.iconst 4, 1) := by decide +kernel
theorem dX12_keep_5 : decode cX12_keep 5 = .ok (.iaload, 1) := by decide +kernel
theorem dX12_keep_6 : decode cX12_keep 6 = .ok (.bipush 30, 2) := by decide +kernel
theorem dX12_keep_8 : decode cX12_keep 8 = .ok (.if_icmp .ne 48, 3) := by decide +kernel
theorem dX12_keep_11 : decode cX12_keep 11 = .ok (.iconst 0, 1) := by decide +kernel
theorem dX12_keep_12 : decode cX12_keep 12 = .ok (.istore_n 1, 1) := by decide +kernel
theorem dX12_keep_13 : decode cX12_keep 13 = .ok (.iload_n 1, 1) := by decide +kernel
theorem dX12_keep_14 : decode cX12_keep 14 = .ok (.sipush 1334, 3) := by decide +kernel
theorem dX12_keep_17 : decode cX12_keep 17 = .ok (.if_icmp .ge 29, 3) := by decide +kernel
theorem dX12_keep_20 : decode cX12_keep 20 = .ok (.aload_n 0, 1) := by decide +kernel
theorem dX12_keep_21 : decode cX12_keep 21 = .ok (.getfield 7, 3) := by decide +kernel
theorem dX12_keep_24 : decode cX12_keep 24 = .ok (.sipush 142, 3) := by decide +kernel
theorem dX12_keep_27 : decode cX12_keep 27 = .ok (.iload_n 1, 1) := by decide +kernel
theorem dX12_keep_28 : decode cX12_keep 28 = .ok (.iadd, 1) := by decide +kernel
theorem dX12_keep_29 : decode cX12_keep 29 = .ok (.aload_n 0, 1) := by decide +kernel
theorem dX12_keep_30 : decode cX12_keep 30 = .ok (.getfield 7, 3) := by decide +kernel
theorem dX12_keep_33 : decode cX12_keep 33 = .ok (.sipush 188, 3) := by decide +kernel
theorem dX12_keep_36 : decode cX12_keep 36 = .ok (.iload_n 1, 1) := by decide +kernel
theorem dX12_keep_37 : decode cX12_keep 37 = .ok (.iadd, 1) := by decide +kernel
theorem dX12_keep_38 : decode cX12_keep 38 = .ok (.iaload, 1) := by decide +kernel
theorem dX12_keep_39 : decode cX12_keep 39 = .ok (.iastore, 1) := by decide +kernel
theorem dX12_keep_40 : decode cX12_keep 40 = .ok (.iinc 1 1, 3) := by decide +kernel
theorem dX12_keep_43 : decode cX12_keep 43 = .ok (.goto (-30), 3) := by decide +kernel
theorem dX12_keep_46 : decode cX12_keep 46 = .ok (.aload_n 0, 1) := by decide +kernel
theorem dX12_keep_47 : decode cX12_keep 47 = .ok (.getfield 7, 3) := by decide +kernel
theorem dX12_keep_50 : decode cX12_keep 50 = .ok (.iconst 4, 1) := by decide +kernel
theorem dX12_keep_51 : decode cX12_keep 51 = .ok (.dup2, 1) := by decide +kernel
theorem dX12_keep_52 : decode cX12_keep 52 = .ok (.iaload, 1) := by decide +kernel
theorem dX12_keep_53 : decode cX12_keep 53 = .ok (.iconst 1, 1) := by decide +kernel
theorem dX12_keep_54 : decode cX12_keep 54 = .ok (.isub, 1) := by decide +kernel
theorem dX12_keep_55 : decode cX12_keep 55 = .ok (.iastore, 1) := by decide +kernel
theorem dX12_keep_56 : decode cX12_keep 56 = .ok (.sipush 142, 3) := by decide +kernel
theorem dX12_keep_59 : decode cX12_keep 59 = .ok (.bipush 46, 2) := by decide +kernel
theorem dX12_keep_61 : decode cX12_keep 61 = .ok (.aload_n 0, 1) := by decide +kernel
theorem dX12_keep_62 : decode cX12_keep 62 = .ok (.getfield 7, 3) := by decide +kernel
theorem dX12_keep_65 : decode cX12_keep 65 = .ok (.iconst 4, 1) := by decide +kernel
theorem dX12_keep_66 : decode cX12_keep 66 = .ok (.iaload, 1) := by decide +kernel
theorem dX12_keep_67 : decode cX12_keep 67 = .ok (.imul, 1) := by decide +kernel
theorem dX12_keep_68 : decode cX12_keep 68 = .ok (.iadd, 1) := by decide +kernel
theorem dX12_keep_69 : decode cX12_keep 69 = .ok (.istore_n 1, 1) := by decide +kernel
theorem dX12_keep_70 : decode cX12_keep 70 = .ok (.aload_n 0, 1) := by decide +kernel
theorem dX12_keep_71 : decode cX12_keep 71 = .ok (.getfield 7, 3) := by decide +kernel
theorem dX12_keep_74 : decode cX12_keep 74 = .ok (.iload_n 1, 1) := by decide +kernel
theorem dX12_keep_75 : decode cX12_keep 75 = .ok (.aload_n 0, 1) := by decide +kernel
theorem dX12_keep_76 : decode cX12_keep 76 = .ok (.getfield 7, 3) := by decide +kernel
theorem dX12_keep_79 : decode cX12_keep 79 = .ok (.iconst 1, 1) := by decide +kernel
theorem dX12_keep_80 : decode cX12_keep 80 = .ok (.iaload, 1) := by decide +kernel
theorem dX12_keep_81 : decode cX12_keep 81 = .ok (.iastore, 1) := by decide +kernel
theorem dX12_keep_82 : decode cX12_keep 82 = .ok (.iconst 0, 1) := by decide +kernel
theorem dX12_keep_83 : decode cX12_keep 83 = .ok (.istore_n 2, 1) := by decide +kernel
theorem dX12_keep_84 : decode cX12_keep 84 = .ok (.iload_n 2, 1) := by decide +kernel
theorem dX12_keep_85 : decode cX12_keep 85 = .ok (.iconst 3, 1) := by decide +kernel
theorem dX12_keep_86 : decode cX12_keep 86 = .ok (.if_icmp .ge 28, 3) := by decide +kernel
theorem dX12_keep_89 : decode cX12_keep 89 = .ok (.aload_n 0, 1) := by decide +kernel
theorem dX12_keep_90 : decode cX12_keep 90 = .ok (.getfield 7, 3) := by decide +kernel
theorem dX12_keep_93 : decode cX12_keep 93 = .ok (.iload_n 1, 1) := by decide +kernel
theorem dX12_keep_94 : decode cX12_keep 94 = .ok (.iconst 1, 1) := by decide +kernel
theorem dX12_keep_95 : decode cX12_keep 95 = .ok (.iadd, 1) := by decide +kernel
theorem dX12_keep_96 : decode cX12_keep 96 = .ok (.iload_n 2, 1) := by decide +kernel
theorem dX12_keep_97 : decode cX12_keep 97 = .ok (.iadd, 1) := by decide +kernel
theorem dX12_keep_98 : decode cX12_keep 98 = .ok (.aload_n 0, 1) := by decide +kernel
theorem dX12_keep_99 : decode cX12_keep 99 = .ok (.getfield 7, 3) := by decide +kernel
theorem dX12_keep_102 : decode cX12_keep 102 = .ok (.bipush 10, 2) := by decide +kernel
theorem dX12_keep_104 : decode cX12_keep 104 = .ok (.iload_n 2, 1) := by decide +kernel
theorem dX12_keep_105 : decode cX12_keep 105 = .ok (.iadd, 1) := by decide +kernel
theorem dX12_keep_106 : decode cX12_keep 106 = .ok (.iaload, 1) := by decide +kernel
theorem dX12_keep_107 : decode cX12_keep 107 = .ok (.iastore, 1) := by decide +kernel
theorem dX12_keep_108 : decode cX12_keep 108 = .ok (.iinc 2 1, 3) := by decide +kernel
theorem dX12_keep_111 : decode cX12_keep 111 = .ok (.goto (-27), 3) := by decide +kernel
theorem dX12_keep_114 : decode cX12_keep 114 = .ok (.iconst 0, 1) := by decide +kernel
theorem dX12_keep_115 : decode cX12_keep 115 = .ok (.istore_n 2, 1) := by decide +kernel
theorem dX12_keep_116 : decode cX12_keep 116 = .ok (.iload_n 2, 1) := by decide +kernel
theorem dX12_keep_117 : decode cX12_keep 117 = .ok (.bipush 6, 2) := by decide +kernel
theorem dX12_keep_119 : decode cX12_keep 119 = .ok (.if_icmp .ge 44, 3) := by decide +kernel
theorem dX12_keep_122 : decode cX12_keep 122 = .ok (.iconst 0, 1) := by decide +kernel
theorem dX12_keep_123 : decode cX12_keep 123 = .ok (.istore_n 3, 1) := by decide +kernel
theorem dX12_keep_124 : decode cX12_keep 124 = .ok (.iload_n 3, 1) := by decide +kernel
theorem dX12_keep_125 : decode cX12_keep 125 = .ok (.bipush 7, 2) := by decide +kernel
theorem dX12_keep_127 : decode cX12_keep 127 = .ok (.if_icmp .ge 30, 3) := by decide +kernel
theorem dX12_keep_130 : decode cX12_keep 130 = .ok (.aload_n 0, 1) := by decide +kernel
theorem dX12_keep_131 : decode cX12_keep 131 = .ok (.getfield 7, 3) := by decide +kernel
theorem dX12_keep_134 : decode cX12_keep 134 = .ok (.iload_n 1, 1) := by decide +kernel
theorem dX12_keep_135 : decode cX12_keep 135 = .ok (.iconst 4, 1) := by decide +kernel
theorem dX12_keep_136 : decode cX12_keep 136 = .ok (.iadd, 1) := by decide +kernel
theorem dX12_keep_137 : decode cX12_keep 137 = .ok (.bipush 7, 2) := by decide +kernel
theorem dX12_keep_139 : decode cX12_keep 139 = .ok (.iload_n 2, 1) := by decide +kernel
theorem dX12_keep_140 : decode cX12_keep 140 = .ok (.imul, 1) := by decide +kernel
theorem dX12_keep_141 : decode cX12_keep 141 = .ok (.iadd, 1) := by decide +kernel
theorem dX12_keep_142 : decode cX12_keep 142 = .ok (.iload_n 3, 1) := by decide +kernel
theorem dX12_keep_143 : decode cX12_keep 143 = .ok (.iadd, 1) := by decide +kernel
theorem dX12_keep_144 : decode cX12_keep 144 = .ok (.aload_n 0, 1) := by decide +kernel
theorem dX12_keep_145 : decode cX12_keep 145 = .ok (.iload_n 2, 1) := by decide +kernel
theorem dX12_keep_146 : decode cX12_keep 146 = .ok (.iload_n 3, 1) := by decide +kernel
theorem dX12_keep_147 : decode cX12_keep 147 = .ok (.invokevirtual 71, 3) := by decide +kernel
theorem dX12_keep_150 : decode cX12_keep 150 = .ok (.iastore, 1) := by decide +kernel
theorem dX12_keep_151 : decode cX12_keep 151 = .ok (.iinc 3 1, 3) := by decide +kernel
theorem dX12_keep_154 : decode cX12_keep 154 = .ok (.goto (-30), 3) := by decide +kernel
theorem dX12_keep_157 : decode cX12_keep 157 = .ok (.iinc 2 1, 3) := by decide +kernel
theorem dX12_keep_160 : decode cX12_keep 160 = .ok (.goto (-44), 3) := by decide +kernel
theorem dX12_keep_163 : decode cX12_keep 163 = .ok (.aload_n 0, 1) := by decide +kernel
theorem dX12_keep_164 : decode cX12_keep 164 = .ok (.getfield 7, 3) := by decide +kernel
theorem dX12_keep_167 : decode cX12_keep 167 = .ok (.iconst 4, 1) := by decide +kernel
theorem dX12_keep_168 : decode cX12_keep 168 = .ok (.dup2, 1) := by decide +kernel
theorem dX12_keep_169 : decode cX12_keep 169 = .ok (.iaload, 1) := by decide +kernel
theorem dX12_keep_170 : decode cX12_keep 170 = .ok (.iconst 1, 1) := by decide +kernel
theorem dX12_keep_171 : decode cX12_keep 171 = .ok (.iadd, 1) := by decide +kernel
theorem dX12_keep_172 : decode cX12_keep 172 = .ok (.iastore, 1) := by decide +kernel
theorem dX12_keep_173 : decode cX12_keep 173 = .ok (.return_, 1) := by decide +kernel
def f_X12_keep_124 (N : Nat) (k_116 : (Nat → Int32) → Int32 → Int32 → Option ((Nat → Int32))) : Nat → (Nat → Int32) → Int32 → Int32 → Int32 → Option ((Nat → Int32))
  | 0, _, _, _, _ => none
  | n + 1, v_a, x1, x2, x3 => if (7 : Int32) ≤ x3 then (k_116 v_a x1 (x2 + (1 : Int32))) else (ob1 (f_X12_get N v_a x2 x3) fun r147 => sA v_a 8762 (((x1 + (4 : Int32)) + ((7 : Int32) * x2)) + x3) r147 fun v_a_150 => (f_X12_keep_124 N k_116 n) v_a_150 x1 x2 (x3 + (1 : Int32)))
def f_X12_keep_116 (N : Nat) : Nat → (Nat → Int32) → Int32 → Int32 → Option ((Nat → Int32))
  | 0, _, _, _ => none
  | n + 1, v_a, x1, x2 => if (6 : Int32) ≤ x2 then (gA v_a 8762 (4 : Int32) fun v169 => sA v_a 8762 (4 : Int32) (v169 + (1 : Int32)) fun v_a_172 => some v_a_172) else (f_X12_keep_124 N (f_X12_keep_116 N n) N v_a x1 x2 (0 : Int32))
def f_X12_keep_84 (N : Nat) : Nat → (Nat → Int32) → Int32 → Int32 → Option ((Nat → Int32))
  | 0, _, _, _ => none
  | n + 1, v_a, x1, x2 => if (3 : Int32) ≤ x2 then (f_X12_keep_116 N N v_a x1 (0 : Int32)) else (gA v_a 8762 ((10 : Int32) + x2) fun v106 => sA v_a 8762 ((x1 + (1 : Int32)) + x2) v106 fun v_a_107 => (f_X12_keep_84 N n) v_a_107 x1 (x2 + (1 : Int32)))
def f_X12_keep_56 (N : Nat) (v_a : Nat → Int32) : Option ((Nat → Int32)) := gA v_a 8762 (4 : Int32) fun v66 => gA v_a 8762 (1 : Int32) fun v80 => sA v_a 8762 ((142 : Int32) + ((46 : Int32) * v66)) v80 fun v_a_81 => f_X12_keep_84 N N v_a_81 ((142 : Int32) + ((46 : Int32) * v66)) (0 : Int32)
def f_X12_keep_13 (N : Nat) : Nat → (Nat → Int32) → Int32 → Option ((Nat → Int32))
  | 0, _, _ => none
  | n + 1, v_a, x1 => if (1334 : Int32) ≤ x1 then (gA v_a 8762 (4 : Int32) fun v52 => sA v_a 8762 (4 : Int32) (v52 - (1 : Int32)) fun v_a_55 => f_X12_keep_56 N v_a_55) else (gA v_a 8762 ((188 : Int32) + x1) fun v38 => sA v_a 8762 ((142 : Int32) + x1) v38 fun v_a_39 => (f_X12_keep_13 N n) v_a_39 (x1 + (1 : Int32)))
def f_X12_keep (N : Nat) (v_a : Nat → Int32) : Option ((Nat → Int32)) := gA v_a 8762 (4 : Int32) fun v5 => if v5 = (30 : Int32) then (f_X12_keep_13 N N v_a (0 : Int32)) else (f_X12_keep_56 N v_a)
set_option maxHeartbeats 4000000 in
set_option maxRecDepth 100000 in
theorem k_X12_keep (l : Launch) (N : Nat) (D : va_G) (cI cJ cZ cB cT : ClassId) (h : Nat) (q : Nat → Nat) (v_a : Nat → Int32) (v_image : Nat → Int32) (v_texts : Nat → Int32) (v_tape : Nat → Int32) (v_taped : Int32) (v_fault : Int32) (v_faultPlace : Int32) (v_at : Int32) (v_place : Int32) (v_token : Int32) (v_number : Int32) (v_word : Int64) (v_text0 : Int32) (v_written : Int32) (v_sort0 : Int32) (v_pile : Nat → Int32) (v_piled : Int32) (v_opens : Int32) (v_isWhole : Int32) (v_once : Int32) (v_named : Nat → Int32) (v_values : Nat → Int64) (v_truth : Nat → Int32) (v_isWritten : Int32) (v_died : Int32) (v_aside : Nat → Int32) (v_likely : Nat → Int32) (v_safe : Nat → Int32) (v_headOf : Nat → Int32) (o_v_a : Nat → Int32) (hf : f_X12_keep N v_a = some o_v_a) : ∀ sz, Met l yX12_keep (mw yX12_keep cX12_keep 4 none) ({ frames := 1, cells := 0, slots := 0, locals := 22 } : Room) (mPre D (mT cI cJ cZ cB cT) (WM h q cI cJ cZ v_a v_image v_texts v_tape v_taped v_fault v_faultPlace v_at v_place v_token v_number v_word v_text0 v_written v_sort0 v_pile v_piled v_opens v_isWhole v_once v_named v_values v_truth v_isWritten v_died v_aside v_likely v_safe v_headOf) sz [.ref h]) ((mQv D (WM h q cI cJ cZ o_v_a v_image v_texts v_tape v_taped v_fault v_faultPlace v_at v_place v_token v_number v_word v_text0 v_written v_sort0 v_pile v_piled v_opens v_isWhole v_once v_named v_values v_truth v_isWritten v_died v_aside v_likely v_safe v_headOf)) (va_A (WM h q cI cJ cZ v_a v_image v_texts v_tape v_taped v_fault v_faultPlace v_at v_place v_token v_number v_word v_text0 v_written v_sort0 v_pile v_piled v_opens v_isWhole v_once v_named v_values v_truth v_isWritten v_died v_aside v_likely v_safe v_headOf) sz)) 0 0 (va_A (WM h q cI cJ cZ v_a v_image v_texts v_tape v_taped v_fault v_faultPlace v_at v_place v_token v_number v_word v_text0 v_written v_sort0 v_pile v_piled v_opens v_isWhole v_once v_named v_values v_truth v_isWritten v_died v_aside v_likely v_safe v_headOf) sz) := by
  refine mMet (Qc := (mQv D (WM h q cI cJ cZ o_v_a v_image v_texts v_tape v_taped v_fault v_faultPlace v_at v_place v_token v_number v_word v_text0 v_written v_sort0 v_pile v_piled v_opens v_isWhole v_once v_named v_values v_truth v_isWritten v_died v_aside v_likely v_safe v_headOf))) (by decide) (Nat.le_of_ble_eq_true rfl) (fun p e s m below meth c A ls hx hb hr hml hts hown hlocks hK hA hP hD hl => ?_)
  have hown : s.vm.findClass RX12 = some m.cls := hown
  have hl : lv_has ls 4 [(0, .ref h)] := hl
  have hS : va_S A s.heap s.heap [] := va_S.rf
  have b116 : ∀ n116 : Nat, ∀ (v_a : Nat → Int32) (x1 : Int32) (x2 : Int32) (H : Heap) (locs : List Loc) (ls : Array Slot), f_X12_keep_116 N n116 v_a x1 x2 = some o_v_a → va_P D vwCl (WM h q cI cJ cZ v_a v_image v_texts v_tape v_taped v_fault v_faultPlace v_at v_place v_token v_number v_word v_text0 v_written v_sort0 v_pile v_piled v_opens v_isWhole v_once v_named v_values v_truth v_isWritten v_died v_aside v_likely v_safe v_headOf) H → va_D A (WM h q cI cJ cZ v_a v_image v_texts v_tape v_taped v_fault v_faultPlace v_at v_place v_token v_number v_word v_text0 v_written v_sort0 v_pile v_piled v_opens v_isWhole v_once v_named v_values v_truth v_isWritten v_died v_aside v_likely v_safe v_headOf) → va_S A s.heap H locs → lv_has ls 4 [(0, .ref h), (1, .int x1), (2, .int x2)] → W p l e ({ frames := 1, cells := 0, slots := 0, locals := 22 } : Room) s m ([.ref h] : List Value).toArray below meth c H locs 0 0 (MQ below ((mQv D (WM h q cI cJ cZ o_v_a v_image v_texts v_tape v_taped v_fault v_faultPlace v_at v_place v_token v_number v_word v_text0 v_written v_sort0 v_pile v_piled v_opens v_isWhole v_once v_named v_values v_truth v_isWritten v_died v_aside v_likely v_safe v_headOf)) A) ([.ref h] : List Value).toArray s 0 0 A) (F0 m 116 ls []) := by
    intro n116
    induction n116 with
    | zero =>
      intro v_a x1 x2 H locs ls hf hP hD hS hl
      simp [f_X12_keep_116] at hf
    | succ n116 ih116 =>
      have b124 : ∀ n124 : Nat, ∀ (v_a : Nat → Int32) (x1 : Int32) (x2 : Int32) (x3 : Int32) (H : Heap) (locs : List Loc) (ls : Array Slot), f_X12_keep_124 N (f_X12_keep_116 N n116) n124 v_a x1 x2 x3 = some o_v_a → va_P D vwCl (WM h q cI cJ cZ v_a v_image v_texts v_tape v_taped v_fault v_faultPlace v_at v_place v_token v_number v_word v_text0 v_written v_sort0 v_pile v_piled v_opens v_isWhole v_once v_named v_values v_truth v_isWritten v_died v_aside v_likely v_safe v_headOf) H → va_D A (WM h q cI cJ cZ v_a v_image v_texts v_tape v_taped v_fault v_faultPlace v_at v_place v_token v_number v_word v_text0 v_written v_sort0 v_pile v_piled v_opens v_isWhole v_once v_named v_values v_truth v_isWritten v_died v_aside v_likely v_safe v_headOf) → va_S A s.heap H locs → lv_has ls 4 [(0, .ref h), (1, .int x1), (2, .int x2), (3, .int x3)] → W p l e ({ frames := 1, cells := 0, slots := 0, locals := 22 } : Room) s m ([.ref h] : List Value).toArray below meth c H locs 0 0 (MQ below ((mQv D (WM h q cI cJ cZ o_v_a v_image v_texts v_tape v_taped v_fault v_faultPlace v_at v_place v_token v_number v_word v_text0 v_written v_sort0 v_pile v_piled v_opens v_isWhole v_once v_named v_values v_truth v_isWritten v_died v_aside v_likely v_safe v_headOf)) A) ([.ref h] : List Value).toArray s 0 0 A) (F0 m 124 ls []) := by
        intro n124
        induction n124 with
        | zero =>
          intro v_a x1 x2 x3 H locs ls hf hP hD hS hl
          simp [f_X12_keep_124] at hf
        | succ n124 ih124 =>
          intro v_a x1 x2 x3 H locs ls hf hP hD hS hl
          rw [f_X12_keep_124.eq_2] at hf
          refine lv_iload_n hx hb dX12_keep_124 rfl (lv_at hl 3 rfl) ?_
          refine lv_bipush (v := (7 : Int32)) hx hb dX12_keep_125 (by decide) ?_
          refine xicmp_ge hx hb 157 dX12_keep_127 (by decide) hf (fun hf => ?_) (fun hf => ?_)
          · refine lv_iinc (v := (x2 + (1 : Int32))) (lv' := [(2, .int (x2 + (1 : Int32))), (0, .ref h), (1, .int x1), (3, .int x3)]) hx hb dX12_keep_157 hl (k := 2) rfl rfl (by decide) rfl (fun ls hl => ?_)
            refine lv_goto (tgt := 116) hx hb dX12_keep_160 (by decide) ?_
            exact ih116 v_a x1 (x2 + (1 : Int32)) _ _ _ hf hP hD hS (lv_sub hl [1, 2, 0] rfl)
          · refine lv_aload_n hx hb dX12_keep_130 rfl (lv_at hl 0 rfl) ?_
            refine gfX12_7 hx hb hts hown hK hP 0 rfl rfl dX12_keep_131 ?_
            refine lv_iload_n hx hb dX12_keep_134 rfl (lv_at hl 1 rfl) ?_
            refine lv_iconst (v := (4 : Int32)) hx hb dX12_keep_135 (by decide) ?_
            refine lv_iadd hx hb dX12_keep_136 ?_
            refine lv_bipush (v := (7 : Int32)) hx hb dX12_keep_137 (by decide) ?_
            refine lv_iload_n hx hb dX12_keep_139 rfl (lv_at hl 2 rfl) ?_
            refine lv_imul hx hb dX12_keep_140 ?_
            refine lv_iadd hx hb dX12_keep_141 ?_
            refine lv_iload_n hx hb dX12_keep_142 rfl (lv_at hl 3 rfl) ?_
            refine lv_iadd hx hb dX12_keep_143 ?_
            refine lv_aload_n hx hb dX12_keep_144 rfl (lv_at hl 0 rfl) ?_
            refine lv_iload_n hx hb dX12_keep_145 rfl (lv_at hl 2 rfl) ?_
            refine lv_iload_n hx hb dX12_keep_146 rfl (lv_at hl 3 rfl) ?_
            obtain ⟨r147, hg147, hf⟩ := ob1_some hf
            refine mcV1_i (As := [.int x2, .int x3]) (rest := [.int (((x1 + (4 : Int32)) + ((7 : Int32) * x2)) + x3), .ref (q 0)]) hx hb hml hown hts hK hP hD hS hA (k_X12_get l N D cI cJ cZ cB cT h q v_a v_image v_texts v_tape v_taped v_fault v_faultPlace v_at v_place v_token v_number v_word v_text0 v_written v_sort0 v_pile v_piled v_opens v_isWhole v_once v_named v_values v_truth v_isWritten v_died v_aside v_likely v_safe v_headOf x2 x3 r147 hg147) (kwX12_71 hts rfl rfl ⟨Nat.le_of_ble_eq_true rfl, Nat.le_of_ble_eq_true rfl⟩) 0 rfl rfl rfl rfl hl.1 rfl (Nat.le_of_ble_eq_true rfl) dX12_keep_147 ⟨Nat.zero_le _, Nat.zero_le _⟩ (fun hB147 H locs hP hD hS => ?_)
            have hP : va_P D vwCl (WM h q cI cJ cZ v_a v_image v_texts v_tape v_taped v_fault v_faultPlace v_at v_place v_token v_number v_word v_text0 v_written v_sort0 v_pile v_piled v_opens v_isWhole v_once v_named v_values v_truth v_isWritten v_died v_aside v_likely v_safe v_headOf) H := hP
            have hD : va_D A (WM h q cI cJ cZ v_a v_image v_texts v_tape v_taped v_fault v_faultPlace v_at v_place v_token v_number v_word v_text0 v_written v_sort0 v_pile v_piled v_opens v_isWhole v_once v_named v_values v_truth v_isWritten v_died v_aside v_likely v_safe v_headOf) := hD
            refine xiast hx hb hK hP hD hS 1 0 rfl rfl dX12_keep_150 hf (fun v_a_150 hf H locs hP hD hS => ?_)
            have hP : va_P D vwCl (WM h q cI cJ cZ v_a_150 v_image v_texts v_tape v_taped v_fault v_faultPlace v_at v_place v_token v_number v_word v_text0 v_written v_sort0 v_pile v_piled v_opens v_isWhole v_once v_named v_values v_truth v_isWritten v_died v_aside v_likely v_safe v_headOf) H := hP
            have hD : va_D A (WM h q cI cJ cZ v_a_150 v_image v_texts v_tape v_taped v_fault v_faultPlace v_at v_place v_token v_number v_word v_text0 v_written v_sort0 v_pile v_piled v_opens v_isWhole v_once v_named v_values v_truth v_isWritten v_died v_aside v_likely v_safe v_headOf) := hD
            refine lv_iinc (v := (x3 + (1 : Int32))) (lv' := [(3, .int (x3 + (1 : Int32))), (0, .ref h), (1, .int x1), (2, .int x2)]) hx hb dX12_keep_151 hl (k := 3) rfl rfl (by decide) rfl (fun ls hl => ?_)
            refine lv_goto (tgt := 124) hx hb dX12_keep_154 (by decide) ?_
            exact ih124 v_a_150 x1 x2 (x3 + (1 : Int32)) _ _ _ hf hP hD hS (lv_sub hl [1, 2, 3, 0] rfl)
      intro v_a x1 x2 H locs ls hf hP hD hS hl
      rw [f_X12_keep_116.eq_2] at hf
      refine lv_iload_n hx hb dX12_keep_116 rfl (lv_at hl 2 rfl) ?_
      refine lv_bipush (v := (6 : Int32)) hx hb dX12_keep_117 (by decide) ?_
      refine xicmp_ge hx hb 163 dX12_keep_119 (by decide) hf (fun hf => ?_) (fun hf => ?_)
      · refine lv_aload_n hx hb dX12_keep_163 rfl (lv_at hl 0 rfl) ?_
        refine gfX12_7 hx hb hts hown hK hP 0 rfl rfl dX12_keep_164 ?_
        refine lv_iconst (v := (4 : Int32)) hx hb dX12_keep_167 (by decide) ?_
        refine lv_dup2_11 hx hb dX12_keep_168 rfl rfl ?_
        refine xiald hx hb hK hP 1 0 rfl rfl dX12_keep_169 hf (fun v169 hf => ?_)
        refine lv_iconst (v := (1 : Int32)) hx hb dX12_keep_170 (by decide) ?_
        refine lv_iadd hx hb dX12_keep_171 ?_
        refine xiast hx hb hK hP hD hS 1 0 rfl rfl dX12_keep_172 hf (fun v_a_172 hf H locs hP hD hS => ?_)
        have hP : va_P D vwCl (WM h q cI cJ cZ v_a_172 v_image v_texts v_tape v_taped v_fault v_faultPlace v_at v_place v_token v_number v_word v_text0 v_written v_sort0 v_pile v_piled v_opens v_isWhole v_once v_named v_values v_truth v_isWritten v_died v_aside v_likely v_safe v_headOf) H := hP
        have hD : va_D A (WM h q cI cJ cZ v_a_172 v_image v_texts v_tape v_taped v_fault v_faultPlace v_at v_place v_token v_number v_word v_text0 v_written v_sort0 v_pile v_piled v_opens v_isWhole v_once v_named v_values v_truth v_isWritten v_died v_aside v_likely v_safe v_headOf) := hD
        cases hf
        exact mret_v hx hb hr hlocks hP hD hS dX12_keep_173
      · refine lv_iconst (v := (0 : Int32)) hx hb dX12_keep_122 (by decide) ?_
        refine lv_istore_n (lv' := [(3, .int (0 : Int32)), (0, .ref h), (1, .int x1), (2, .int x2)]) hx hb dX12_keep_123 rfl hl (by decide) rfl (fun ls hl => ?_)
        exact b124 N v_a x1 x2 (0 : Int32) _ _ _ hf hP hD hS (lv_sub hl [1, 2, 3, 0] rfl)
  have b84 : ∀ n84 : Nat, ∀ (v_a : Nat → Int32) (x1 : Int32) (x2 : Int32) (H : Heap) (locs : List Loc) (ls : Array Slot), f_X12_keep_84 N n84 v_a x1 x2 = some o_v_a → va_P D vwCl (WM h q cI cJ cZ v_a v_image v_texts v_tape v_taped v_fault v_faultPlace v_at v_place v_token v_number v_word v_text0 v_written v_sort0 v_pile v_piled v_opens v_isWhole v_once v_named v_values v_truth v_isWritten v_died v_aside v_likely v_safe v_headOf) H → va_D A (WM h q cI cJ cZ v_a v_image v_texts v_tape v_taped v_fault v_faultPlace v_at v_place v_token v_number v_word v_text0 v_written v_sort0 v_pile v_piled v_opens v_isWhole v_once v_named v_values v_truth v_isWritten v_died v_aside v_likely v_safe v_headOf) → va_S A s.heap H locs → lv_has ls 4 [(0, .ref h), (1, .int x1), (2, .int x2)] → W p l e ({ frames := 1, cells := 0, slots := 0, locals := 22 } : Room) s m ([.ref h] : List Value).toArray below meth c H locs 0 0 (MQ below ((mQv D (WM h q cI cJ cZ o_v_a v_image v_texts v_tape v_taped v_fault v_faultPlace v_at v_place v_token v_number v_word v_text0 v_written v_sort0 v_pile v_piled v_opens v_isWhole v_once v_named v_values v_truth v_isWritten v_died v_aside v_likely v_safe v_headOf)) A) ([.ref h] : List Value).toArray s 0 0 A) (F0 m 84 ls []) := by
    intro n84
    induction n84 with
    | zero =>
      intro v_a x1 x2 H locs ls hf hP hD hS hl
      simp [f_X12_keep_84] at hf
    | succ n84 ih84 =>
      intro v_a x1 x2 H locs ls hf hP hD hS hl
      rw [f_X12_keep_84.eq_2] at hf
      refine lv_iload_n hx hb dX12_keep_84 rfl (lv_at hl 2 rfl) ?_
      refine lv_iconst (v := (3 : Int32)) hx hb dX12_keep_85 (by decide) ?_
      refine xicmp_ge hx hb 114 dX12_keep_86 (by decide) hf (fun hf => ?_) (fun hf => ?_)
      · refine lv_iconst (v := (0 : Int32)) hx hb dX12_keep_114 (by decide) ?_
        refine lv_istore_n (lv' := [(2, .int (0 : Int32)), (0, .ref h), (1, .int x1)]) hx hb dX12_keep_115 rfl hl (by decide) rfl (fun ls hl => ?_)
        exact b116 N v_a x1 (0 : Int32) _ _ _ hf hP hD hS (lv_sub hl [1, 2, 0] rfl)
      · refine lv_aload_n hx hb dX12_keep_89 rfl (lv_at hl 0 rfl) ?_
        refine gfX12_7 hx hb hts hown hK hP 0 rfl rfl dX12_keep_90 ?_
        refine lv_iload_n hx hb dX12_keep_93 rfl (lv_at hl 1 rfl) ?_
        refine lv_iconst (v := (1 : Int32)) hx hb dX12_keep_94 (by decide) ?_
        refine lv_iadd hx hb dX12_keep_95 ?_
        refine lv_iload_n hx hb dX12_keep_96 rfl (lv_at hl 2 rfl) ?_
        refine lv_iadd hx hb dX12_keep_97 ?_
        refine lv_aload_n hx hb dX12_keep_98 rfl (lv_at hl 0 rfl) ?_
        refine gfX12_7 hx hb hts hown hK hP 0 rfl rfl dX12_keep_99 ?_
        refine lv_bipush (v := (10 : Int32)) hx hb dX12_keep_102 (by decide) ?_
        refine lv_iload_n hx hb dX12_keep_104 rfl (lv_at hl 2 rfl) ?_
        refine lv_iadd hx hb dX12_keep_105 ?_
        refine xiald hx hb hK hP 1 0 rfl rfl dX12_keep_106 hf (fun v106 hf => ?_)
        refine xiast hx hb hK hP hD hS 1 0 rfl rfl dX12_keep_107 hf (fun v_a_107 hf H locs hP hD hS => ?_)
        have hP : va_P D vwCl (WM h q cI cJ cZ v_a_107 v_image v_texts v_tape v_taped v_fault v_faultPlace v_at v_place v_token v_number v_word v_text0 v_written v_sort0 v_pile v_piled v_opens v_isWhole v_once v_named v_values v_truth v_isWritten v_died v_aside v_likely v_safe v_headOf) H := hP
        have hD : va_D A (WM h q cI cJ cZ v_a_107 v_image v_texts v_tape v_taped v_fault v_faultPlace v_at v_place v_token v_number v_word v_text0 v_written v_sort0 v_pile v_piled v_opens v_isWhole v_once v_named v_values v_truth v_isWritten v_died v_aside v_likely v_safe v_headOf) := hD
        refine lv_iinc (v := (x2 + (1 : Int32))) (lv' := [(2, .int (x2 + (1 : Int32))), (0, .ref h), (1, .int x1)]) hx hb dX12_keep_108 hl (k := 2) rfl rfl (by decide) rfl (fun ls hl => ?_)
        refine lv_goto (tgt := 84) hx hb dX12_keep_111 (by decide) ?_
        exact ih84 v_a_107 x1 (x2 + (1 : Int32)) _ _ _ hf hP hD hS (lv_sub hl [1, 2, 0] rfl)
  have b56 : ∀ (v_a : Nat → Int32) (H : Heap) (locs : List Loc) (ls : Array Slot), f_X12_keep_56 N v_a = some o_v_a → va_P D vwCl (WM h q cI cJ cZ v_a v_image v_texts v_tape v_taped v_fault v_faultPlace v_at v_place v_token v_number v_word v_text0 v_written v_sort0 v_pile v_piled v_opens v_isWhole v_once v_named v_values v_truth v_isWritten v_died v_aside v_likely v_safe v_headOf) H → va_D A (WM h q cI cJ cZ v_a v_image v_texts v_tape v_taped v_fault v_faultPlace v_at v_place v_token v_number v_word v_text0 v_written v_sort0 v_pile v_piled v_opens v_isWhole v_once v_named v_values v_truth v_isWritten v_died v_aside v_likely v_safe v_headOf) → va_S A s.heap H locs → lv_has ls 4 [(0, .ref h)] → W p l e ({ frames := 1, cells := 0, slots := 0, locals := 22 } : Room) s m ([.ref h] : List Value).toArray below meth c H locs 0 0 (MQ below ((mQv D (WM h q cI cJ cZ o_v_a v_image v_texts v_tape v_taped v_fault v_faultPlace v_at v_place v_token v_number v_word v_text0 v_written v_sort0 v_pile v_piled v_opens v_isWhole v_once v_named v_values v_truth v_isWritten v_died v_aside v_likely v_safe v_headOf)) A) ([.ref h] : List Value).toArray s 0 0 A) (F0 m 56 ls []) := by
    intro v_a H locs ls hf hP hD hS hl
    unfold f_X12_keep_56 at hf
    refine lv_sipush (v := (142 : Int32)) hx hb dX12_keep_56 (by decide) ?_
    refine lv_bipush (v := (46 : Int32)) hx hb dX12_keep_59 (by decide) ?_
    refine lv_aload_n hx hb dX12_keep_61 rfl (lv_at hl 0 rfl) ?_
    refine gfX12_7 hx hb hts hown hK hP 0 rfl rfl dX12_keep_62 ?_
    refine lv_iconst (v := (4 : Int32)) hx hb dX12_keep_65 (by decide) ?_
    refine xiald hx hb hK hP 1 0 rfl rfl dX12_keep_66 hf (fun v66 hf => ?_)
    refine lv_imul hx hb dX12_keep_67 ?_
    refine lv_iadd hx hb dX12_keep_68 ?_
    refine lv_istore_n (lv' := [(1, .int ((142 : Int32) + ((46 : Int32) * v66))), (0, .ref h)]) hx hb dX12_keep_69 rfl hl (by decide) rfl (fun ls hl => ?_)
    refine lv_aload_n hx hb dX12_keep_70 rfl (lv_at hl 1 rfl) ?_
    refine gfX12_7 hx hb hts hown hK hP 0 rfl rfl dX12_keep_71 ?_
    refine lv_iload_n hx hb dX12_keep_74 rfl (lv_at hl 0 rfl) ?_
    refine lv_aload_n hx hb dX12_keep_75 rfl (lv_at hl 1 rfl) ?_
    refine gfX12_7 hx hb hts hown hK hP 0 rfl rfl dX12_keep_76 ?_
    refine lv_iconst (v := (1 : Int32)) hx hb dX12_keep_79 (by decide) ?_
    refine xiald hx hb hK hP 1 0 rfl rfl dX12_keep_80 hf (fun v80 hf => ?_)
    refine xiast hx hb hK hP hD hS 1 0 rfl rfl dX12_keep_81 hf (fun v_a_81 hf H locs hP hD hS => ?_)
    have hP : va_P D vwCl (WM h q cI cJ cZ v_a_81 v_image v_texts v_tape v_taped v_fault v_faultPlace v_at v_place v_token v_number v_word v_text0 v_written v_sort0 v_pile v_piled v_opens v_isWhole v_once v_named v_values v_truth v_isWritten v_died v_aside v_likely v_safe v_headOf) H := hP
    have hD : va_D A (WM h q cI cJ cZ v_a_81 v_image v_texts v_tape v_taped v_fault v_faultPlace v_at v_place v_token v_number v_word v_text0 v_written v_sort0 v_pile v_piled v_opens v_isWhole v_once v_named v_values v_truth v_isWritten v_died v_aside v_likely v_safe v_headOf) := hD
    refine lv_iconst (v := (0 : Int32)) hx hb dX12_keep_82 (by decide) ?_
    refine lv_istore_n (lv' := [(2, .int (0 : Int32)), (1, .int ((142 : Int32) + ((46 : Int32) * v66))), (0, .ref h)]) hx hb dX12_keep_83 rfl hl (by decide) rfl (fun ls hl => ?_)
    exact b84 N v_a_81 ((142 : Int32) + ((46 : Int32) * v66)) (0 : Int32) _ _ _ hf hP hD hS (lv_sub hl [2, 1, 0] rfl)
  have b13 : ∀ n13 : Nat, ∀ (v_a : Nat → Int32) (x1 : Int32) (H : Heap) (locs : List Loc) (ls : Array Slot), f_X12_keep_13 N n13 v_a x1 = some o_v_a → va_P D vwCl (WM h q cI cJ cZ v_a v_image v_texts v_tape v_taped v_fault v_faultPlace v_at v_place v_token v_number v_word v_text0 v_written v_sort0 v_pile v_piled v_opens v_isWhole v_once v_named v_values v_truth v_isWritten v_died v_aside v_likely v_safe v_headOf) H → va_D A (WM h q cI cJ cZ v_a v_image v_texts v_tape v_taped v_fault v_faultPlace v_at v_place v_token v_number v_word v_text0 v_written v_sort0 v_pile v_piled v_opens v_isWhole v_once v_named v_values v_truth v_isWritten v_died v_aside v_likely v_safe v_headOf) → va_S A s.heap H locs → lv_has ls 4 [(0, .ref h), (1, .int x1)] → W p l e ({ frames := 1, cells := 0, slots := 0, locals := 22 } : Room) s m ([.ref h] : List Value).toArray below meth c H locs 0 0 (MQ below ((mQv D (WM h q cI cJ cZ o_v_a v_image v_texts v_tape v_taped v_fault v_faultPlace v_at v_place v_token v_number v_word v_text0 v_written v_sort0 v_pile v_piled v_opens v_isWhole v_once v_named v_values v_truth v_isWritten v_died v_aside v_likely v_safe v_headOf)) A) ([.ref h] : List Value).toArray s 0 0 A) (F0 m 13 ls []) := by
    intro n13
    induction n13 with
    | zero =>
      intro v_a x1 H locs ls hf hP hD hS hl
      simp [f_X12_keep_13] at hf
    | succ n13 ih13 =>
      intro v_a x1 H locs ls hf hP hD hS hl
      rw [f_X12_keep_13.eq_2] at hf
      refine lv_iload_n hx hb dX12_keep_13 rfl (lv_at hl 1 rfl) ?_
      refine lv_sipush (v := (1334 : Int32)) hx hb dX12_keep_14 (by decide) ?_
      refine xicmp_ge hx hb 46 dX12_keep_17 (by decide) hf (fun hf => ?_) (fun hf => ?_)
      · refine lv_aload_n hx hb dX12_keep_46 rfl (lv_at hl 0 rfl) ?_
        refine gfX12_7 hx hb hts hown hK hP 0 rfl rfl dX12_keep_47 ?_
        refine lv_iconst (v := (4 : Int32)) hx hb dX12_keep_50 (by decide) ?_
        refine lv_dup2_11 hx hb dX12_keep_51 rfl rfl ?_
        refine xiald hx hb hK hP 1 0 rfl rfl dX12_keep_52 hf (fun v52 hf => ?_)
        refine lv_iconst (v := (1 : Int32)) hx hb dX12_keep_53 (by decide) ?_
        refine lv_isub hx hb dX12_keep_54 ?_
        refine xiast hx hb hK hP hD hS 1 0 rfl rfl dX12_keep_55 hf (fun v_a_55 hf H locs hP hD hS => ?_)
        have hP : va_P D vwCl (WM h q cI cJ cZ v_a_55 v_image v_texts v_tape v_taped v_fault v_faultPlace v_at v_place v_token v_number v_word v_text0 v_written v_sort0 v_pile v_piled v_opens v_isWhole v_once v_named v_values v_truth v_isWritten v_died v_aside v_likely v_safe v_headOf) H := hP
        have hD : va_D A (WM h q cI cJ cZ v_a_55 v_image v_texts v_tape v_taped v_fault v_faultPlace v_at v_place v_token v_number v_word v_text0 v_written v_sort0 v_pile v_piled v_opens v_isWhole v_once v_named v_values v_truth v_isWritten v_died v_aside v_likely v_safe v_headOf) := hD
        exact b56 v_a_55 _ _ _ hf hP hD hS (lv_sub hl [0] rfl)
      · refine lv_aload_n hx hb dX12_keep_20 rfl (lv_at hl 0 rfl) ?_
        refine gfX12_7 hx hb hts hown hK hP 0 rfl rfl dX12_keep_21 ?_
        refine lv_sipush (v := (142 : Int32)) hx hb dX12_keep_24 (by decide) ?_
        refine lv_iload_n hx hb dX12_keep_27 rfl (lv_at hl 1 rfl) ?_
        refine lv_iadd hx hb dX12_keep_28 ?_
        refine lv_aload_n hx hb dX12_keep_29 rfl (lv_at hl 0 rfl) ?_
        refine gfX12_7 hx hb hts hown hK hP 0 rfl rfl dX12_keep_30 ?_
        refine lv_sipush (v := (188 : Int32)) hx hb dX12_keep_33 (by decide) ?_
        refine lv_iload_n hx hb dX12_keep_36 rfl (lv_at hl 1 rfl) ?_
        refine lv_iadd hx hb dX12_keep_37 ?_
        refine xiald hx hb hK hP 1 0 rfl rfl dX12_keep_38 hf (fun v38 hf => ?_)
        refine xiast hx hb hK hP hD hS 1 0 rfl rfl dX12_keep_39 hf (fun v_a_39 hf H locs hP hD hS => ?_)
        have hP : va_P D vwCl (WM h q cI cJ cZ v_a_39 v_image v_texts v_tape v_taped v_fault v_faultPlace v_at v_place v_token v_number v_word v_text0 v_written v_sort0 v_pile v_piled v_opens v_isWhole v_once v_named v_values v_truth v_isWritten v_died v_aside v_likely v_safe v_headOf) H := hP
        have hD : va_D A (WM h q cI cJ cZ v_a_39 v_image v_texts v_tape v_taped v_fault v_faultPlace v_at v_place v_token v_number v_word v_text0 v_written v_sort0 v_pile v_piled v_opens v_isWhole v_once v_named v_values v_truth v_isWritten v_died v_aside v_likely v_safe v_headOf) := hD
        refine lv_iinc (v := (x1 + (1 : Int32))) (lv' := [(1, .int (x1 + (1 : Int32))), (0, .ref h)]) hx hb dX12_keep_40 hl (k := 1) rfl rfl (by decide) rfl (fun ls hl => ?_)
        refine lv_goto (tgt := 13) hx hb dX12_keep_43 (by decide) ?_
        exact ih13 v_a_39 (x1 + (1 : Int32)) _ _ _ hf hP hD hS (lv_sub hl [1, 0] rfl)
  unfold f_X12_keep at hf
  refine lv_aload_n hx hb dX12_keep_0 rfl (lv_at hl 0 rfl) ?_
  refine gfX12_7 hx hb hts hown hK hP 0 rfl rfl dX12_keep_1 ?_
  refine lv_iconst (v := (4 : Int32)) hx hb dX12_keep_4 (by decide) ?_
  refine xiald hx hb hK hP 1 0 rfl rfl dX12_keep_5 hf (fun v5 hf => ?_)
  refine lv_bipush (v := (30 : Int32)) hx hb dX12_keep_6 (by decide) ?_
  refine xicmp_ne hx hb 56 dX12_keep_8 (by decide) hf (fun hf => ?_) (fun hf => ?_)
  · refine lv_iconst (v := (0 : Int32)) hx hb dX12_keep_11 (by decide) ?_
    refine lv_istore_n (lv' := [(1, .int (0 : Int32)), (0, .ref h)]) hx hb dX12_keep_12 rfl hl (by decide) rfl (fun ls hl => ?_)
    exact b13 N v_a (0 : Int32) _ _ _ hf hP hD hS (lv_sub hl [1, 0] rfl)
  · exact b56 v_a _ _ _ hf hP hD hS (lv_sub hl [0] rfl)
theorem dX12_undo_0 : decode cX12_undo 0 = .ok (.aload_n 0, 1) := by decide +kernel
theorem dX12_undo_1 : decode cX12_undo 1 = .ok (.getfield 7, 3) := by decide +kernel
theorem dX12_undo_4 : decode cX12_undo 4 = .ok (.iconst 4, 1) := by decide +kernel
theorem dX12_undo_5 : decode cX12_undo 5 = .ok (.iaload, 1) := by decide +kernel
theorem dX12_undo_6 : decode cX12_undo 6 = .ok (.ifCond .ne 5, 3) := by decide +kernel
theorem dX12_undo_9 : decode cX12_undo 9 = .ok (.iconst (-1), 1) := by decide +kernel
theorem dX12_undo_10 : decode cX12_undo 10 = .ok (.ireturn, 1) := by decide +kernel
theorem dX12_undo_11 : decode cX12_undo 11 = .ok (.aload_n 0, 1) := by decide +kernel
theorem dX12_undo_12 : decode cX12_undo 12 = .ok (.getfield 7, 3) := by decide +kernel
theorem dX12_undo_15 : decode cX12_undo 15 = .ok (.iconst 4, 1) := by decide +kernel
theorem dX12_undo_16 : decode cX12_undo 16 = .ok (.dup2, 1) := by decide +kernel
theorem dX12_undo_17 : decode cX12_undo 17 = .ok (.iaload, 1) := by decide +kernel
theorem dX12_undo_18 : decode cX12_undo 18 = .ok (.iconst 1, 1) := by decide +kernel
theorem dX12_undo_19 : decode cX12_undo 19 = .ok (.isub, 1) := by decide +kernel
theorem dX12_undo_20 : decode cX12_undo 20 = .ok (.iastore, 1) := by decide +kernel
theorem dX12_undo_21 : decode cX12_undo 21 = .ok (.sipush 142, 3) := by decide +kernel
theorem dX12_undo_24 : decode cX12_undo 24 = .ok (.bipush 46, 2) := by decide +kernel
theorem dX12_undo_26 : decode cX12_undo 26 = .ok (.aload_n 0, 1) := by decide +kernel
theorem dX12_undo_27 : decode cX12_undo 27 = .ok (.getfield 7, 3) := by decide +kernel
theorem dX12_undo_30 : decode cX12_undo 30 = .ok (.iconst 4, 1) := by decide +kernel
theorem dX12_undo_31 : decode cX12_undo 31 = .ok (.iaload, 1) := by decide +kernel
theorem dX12_undo_32 : decode cX12_undo 32 = .ok (.imul, 1) := by decide +kernel
theorem dX12_undo_33 : decode cX12_undo 33 = .ok (.iadd, 1) := by decide +kernel
theorem dX12_undo_34 : decode cX12_undo 34 = .ok (.istore_n 1, 1) := by decide +kernel
theorem dX12_undo_35 : decode cX12_undo 35 = .ok (.iconst 0, 1) := by decide +kernel
theorem dX12_undo_36 : decode cX12_undo 36 = .ok (.istore_n 2, 1) := by decide +kernel
theorem dX12_undo_37 : decode cX12_undo 37 = .ok (.iload_n 2, 1) := by decide +kernel
theorem dX12_undo_38 : decode cX12_undo 38 = .ok (.iconst 3, 1) := by decide +kernel
theorem dX12_undo_39 : decode cX12_undo 39 = .ok (.if_icmp .ge 28, 3) := by decide +kernel
theorem dX12_undo_42 : decode cX12_undo 42 = .ok (.aload_n 0, 1) := by decide +kernel
theorem dX12_undo_43 : decode cX12_undo 43 = .ok (.getfield 7, 3) := by decide +kernel
theorem dX12_undo_46 : decode cX12_undo 46 = .ok (.bipush 10, 2) := by decide +kernel
theorem dX12_undo_48 : decode cX12_undo 48 = .ok (.iload_n 2, 1) := by decide +kernel
theorem dX12_undo_49 : decode cX12_undo 49 = .ok (.iadd, 1) := by decide +kernel
theorem dX12_undo_50 : decode cX12_undo 50 = .ok (.aload_n 0, 1) := by decide +kernel
theorem dX12_undo_51 : decode cX12_undo 51 = .ok (.getfield 7, 3) := by decide +kernel
theorem dX12_undo_54 : decode cX12_undo 54 = .ok (.iload_n 1, 1) := by decide +kernel
theorem dX12_undo_55 : decode cX12_undo 55 = .ok (.iconst 1, 1) := by decide +kernel
theorem dX12_undo_56 : decode cX12_undo 56 = .ok (.iadd, 1) := by decide +kernel
theorem dX12_undo_57 : decode cX12_undo 57 = .ok (.iload_n 2, 1) := by decide +kernel
theorem dX12_undo_58 : decode cX12_undo 58 = .ok (.iadd, 1) := by decide +kernel
theorem dX12_undo_59 : decode cX12_undo 59 = .ok (.iaload, 1) := by decide +kernel
theorem dX12_undo_60 : decode cX12_undo 60 = .ok (.iastore, 1) := by decide +kernel
theorem dX12_undo_61 : decode cX12_undo 61 = .ok (.iinc 2 1, 3) := by decide +kernel
theorem dX12_undo_64 : decode cX12_undo 64 = .ok (.goto (-27), 3) := by decide +kernel
theorem dX12_undo_67 : decode cX12_undo 67 = .ok (.iconst 0, 1) := by decide +kernel
theorem dX12_undo_68 : decode cX12_undo 68 = .ok (.istore_n 2, 1) := by decide +kernel
theorem dX12_undo_69 : decode cX12_undo 69 = .ok (.iload_n 2, 1) := by decide +kernel
theorem dX12_undo_70 : decode cX12_undo 70 = .ok (.aload_n 0, 1) := by decide +kernel
theorem dX12_undo_71 : decode cX12_undo 71 = .ok (.getfield 7, 3) := by decide +kernel
theorem dX12_undo_74 : decode cX12_undo 74 = .ok (.iconst 1, 1) := by decide +kernel
theorem dX12_undo_75 : decode cX12_undo 75 = .ok (.iaload, 1) := by decide +kernel
theorem dX12_undo_76 : decode cX12_undo 76 = .ok (.if_icmp .ge 69, 3) := by decide +kernel
theorem dX12_undo_79 : decode cX12_undo 79 = .ok (.iload_n 2, 1) := by decide +kernel
theorem dX12_undo_80 : decode cX12_undo 80 = .ok (.aload_n 0, 1) := by decide +kernel
theorem dX12_undo_81 : decode cX12_undo 81 = .ok (.getfield 7, 3) := by decide +kernel
theorem dX12_undo_84 : decode cX12_undo 84 = .ok (.iload_n 1, 1) := by decide +kernel
theorem dX12_undo_85 : decode cX12_undo 85 = .ok (.iaload, 1) := by decide +kernel
theorem dX12_undo_86 : decode cX12_undo 86 = .ok (.if_icmp .lt 8, 3) := by decide +kernel
theorem dX12_undo_89 : decode cX12_undo 89 = .ok (.aload_n 0, 1) := by decide +kernel
theorem dX12_undo_90 : decode cX12_undo 90 = .ok (.iload_n 2, 1) := by decide +kernel
theorem dX12_undo_91 : decode cX12_undo 91 = .ok (.invokevirtual 86, 3) := by decide +kernel
theorem dX12_undo_94 : decode cX12_undo 94 = .ok (.iconst 0, 1) := by decide +kernel
theorem dX12_undo_95 : decode cX12_undo 95 = .ok (.istore_n 3, 1) := by decide +kernel
theorem dX12_undo_96 : decode cX12_undo 96 = .ok (.iload_n 3, 1) := by decide +kernel
theorem dX12_undo_97 : decode cX12_undo 97 = .ok (.bipush 7, 2) := by decide +kernel
theorem dX12_undo_99 : decode cX12_undo 99 = .ok (.if_icmp .ge 40, 3) := by decide +kernel
theorem dX12_undo_102 : decode cX12_undo 102 = .ok (.iload_n 2, 1) := by decide +kernel
theorem dX12_undo_103 : decode cX12_undo 103 = .ok (.aload_n 0, 1) := by decide +kernel
theorem dX12_undo_104 : decode cX12_undo 104 = .ok (.getfield 7, 3) := by decide +kernel
theorem dX12_undo_107 : decode cX12_undo 107 = .ok (.iload_n 1, 1) := by decide +kernel
theorem dX12_undo_108 : decode cX12_undo 108 = .ok (.iaload, 1) := by decide +kernel
theorem dX12_undo_109 : decode cX12_undo 109 = .ok (.if_icmp .ge 30, 3) := by decide +kernel
theorem dX12_undo_112 : decode cX12_undo 112 = .ok (.aload_n 0, 1) := by decide +kernel
theorem dX12_undo_113 : decode cX12_undo 113 = .ok (.iload_n 2, 1) := by decide +kernel
theorem dX12_undo_114 : decode cX12_undo 114 = .ok (.iload_n 3, 1) := by decide +kernel
theorem dX12_undo_115 : decode cX12_undo 115 = .ok (.aload_n 0, 1) := by decide +kernel
theorem dX12_undo_116 : decode cX12_undo 116 = .ok (.getfield 7, 3) := by decide +kernel
theorem dX12_undo_119 : decode cX12_undo 119 = .ok (.iload_n 1, 1) := by decide +kernel
theorem dX12_undo_120 : decode cX12_undo 120 = .ok (.iconst 4, 1) := by decide +kernel
theorem dX12_undo_121 : decode cX12_undo 121 = .ok (.iadd, 1) := by decide +kernel
theorem dX12_undo_122 : decode cX12_undo 122 = .ok (.bipush 7, 2) := by decide +kernel
theorem dX12_undo_124 : decode cX12_undo 124 = .ok (.iload_n 2, 1) := by decide +kernel
theorem dX12_undo_125 : decode cX12_undo 125 = .ok (.imul, 1) := by decide +kernel
theorem dX12_undo_126 : decode cX12_undo 126 = .ok (.iadd, 1) := by decide +kernel
theorem dX12_undo_127 : decode cX12_undo 127 = .ok (.iload_n 3, 1) := by decide +kernel
theorem dX12_undo_128 : decode cX12_undo 128 = .ok (.iadd, 1) := by decide +kernel
theorem dX12_undo_129 : decode cX12_undo 129 = .ok (.iaload, 1) := by decide +kernel
theorem dX12_undo_130 : decode cX12_undo 130 = .ok (.invokevirtual 82, 3) := by decide +kernel
theorem dX12_undo_133 : decode cX12_undo 133 = .ok (.iinc 3 1, 3) := by decide +kernel
theorem dX12_undo_136 : decode cX12_undo 136 = .ok (.goto (-40), 3) := by decide +kernel
theorem dX12_undo_139 : decode cX12_undo 139 = .ok (.iinc 2 1, 3) := by decide +kernel
theorem dX12_undo_142 : decode cX12_undo 142 = .ok (.goto (-73), 3) := by decide +kernel
theorem dX12_undo_145 : decode cX12_undo 145 = .ok (.aload_n 0, 1) := by decide +kernel
theorem dX12_undo_146 : decode cX12_undo 146 = .ok (.getfield 7, 3) := by decide +kernel
theorem dX12_undo_149 : decode cX12_undo 149 = .ok (.iconst 4, 1) := by decide +kernel
theorem dX12_undo_150 : decode cX12_undo 150 = .ok (.iaload, 1) := by decide +kernel
theorem dX12_undo_151 : decode cX12_undo 151 = .ok (.ireturn, 1) := by decide +kernel
def f_X12_undo_139 (N : Nat) (k_69 : (Nat → Int32) → Int32 → Int32 → Option (Int32 × (Nat → Int32))) (v_a : Nat → Int32) (x1 : Int32) (x2 : Int32) : Option (Int32 × (Nat → Int32)) := k_69 v_a x1 (x2 + (1 : Int32))
def f_X12_undo_96 (N : Nat) (k_69 : (Nat → Int32) → Int32 → Int32 → Option (Int32 × (Nat → Int32))) : Nat → (Nat → Int32) → Int32 → Int32 → Int32 → Option (Int32 × (Nat → Int32))
  | 0, _, _, _, _ => none
  | n + 1, v_a, x1, x2, x3 => if (7 : Int32) ≤ x3 then (f_X12_undo_139 N k_69 v_a x1 x2) else (gA v_a 8762 x1 fun v108 => if v108 ≤ x2 then (f_X12_undo_139 N k_69 v_a x1 x2) else (gA v_a 8762 (((x1 + (4 : Int32)) + ((7 : Int32) * x2)) + x3) fun v129 => ob1 (f_X12_put N v_a x2 x3 v129) fun v_a_130 => (f_X12_undo_96 N k_69 n) v_a_130 x1 x2 (x3 + (1 : Int32))))
def f_X12_undo_94 (N : Nat) (k_69 : (Nat → Int32) → Int32 → Int32 → Option (Int32 × (Nat → Int32))) (v_a : Nat → Int32) (x1 : Int32) (x2 : Int32) : Option (Int32 × (Nat → Int32)) := f_X12_undo_96 N k_69 N v_a x1 x2 (0 : Int32)
def f_X12_undo_69 (N : Nat) : Nat → (Nat → Int32) → Int32 → Int32 → Option (Int32 × (Nat → Int32))
  | 0, _, _, _ => none
  | n + 1, v_a, x1, x2 => gA v_a 8762 (1 : Int32) fun v75 => if v75 ≤ x2 then (gA v_a 8762 (4 : Int32) fun v150 => some (v150, v_a)) else (gA v_a 8762 x1 fun v85 => if x2 < v85 then (f_X12_undo_94 N (f_X12_undo_69 N n) v_a x1 x2) else (ob1 (f_X12_begin N v_a x2) fun v_a_91 => f_X12_undo_94 N (f_X12_undo_69 N n) v_a_91 x1 x2))
def f_X12_undo_37 (N : Nat) : Nat → (Nat → Int32) → Int32 → Int32 → Option (Int32 × (Nat → Int32))
  | 0, _, _, _ => none
  | n + 1, v_a, x1, x2 => if (3 : Int32) ≤ x2 then (f_X12_undo_69 N N v_a x1 (0 : Int32)) else (gA v_a 8762 ((x1 + (1 : Int32)) + x2) fun v59 => sA v_a 8762 ((10 : Int32) + x2) v59 fun v_a_60 => (f_X12_undo_37 N n) v_a_60 x1 (x2 + (1 : Int32)))
def f_X12_undo (N : Nat) (v_a : Nat → Int32) : Option (Int32 × (Nat → Int32)) := gA v_a 8762 (4 : Int32) fun v5 => if v5 = 0 then (some ((-1 : Int32), v_a)) else (gA v_a 8762 (4 : Int32) fun v17 => sA v_a 8762 (4 : Int32) (v17 - (1 : Int32)) fun v_a_20 => gA v_a_20 8762 (4 : Int32) fun v31 => f_X12_undo_37 N N v_a_20 ((142 : Int32) + ((46 : Int32) * v31)) (0 : Int32))
set_option maxHeartbeats 4000000 in
set_option maxRecDepth 100000 in
theorem k_X12_undo (l : Launch) (N : Nat) (D : va_G) (cI cJ cZ cB cT : ClassId) (h : Nat) (q : Nat → Nat) (v_a : Nat → Int32) (v_image : Nat → Int32) (v_texts : Nat → Int32) (v_tape : Nat → Int32) (v_taped : Int32) (v_fault : Int32) (v_faultPlace : Int32) (v_at : Int32) (v_place : Int32) (v_token : Int32) (v_number : Int32) (v_word : Int64) (v_text0 : Int32) (v_written : Int32) (v_sort0 : Int32) (v_pile : Nat → Int32) (v_piled : Int32) (v_opens : Int32) (v_isWhole : Int32) (v_once : Int32) (v_named : Nat → Int32) (v_values : Nat → Int64) (v_truth : Nat → Int32) (v_isWritten : Int32) (v_died : Int32) (v_aside : Nat → Int32) (v_likely : Nat → Int32) (v_safe : Nat → Int32) (v_headOf : Nat → Int32) (o_r : Int32) (o_v_a : Nat → Int32) (hf : f_X12_undo N v_a = some (o_r, o_v_a)) : ∀ sz, Met l yX12_undo (mw yX12_undo cX12_undo 4 (some .int)) ({ frames := 2, cells := 0, slots := 0, locals := 45 } : Room) (mPre D (mT cI cJ cZ cB cT) (WM h q cI cJ cZ v_a v_image v_texts v_tape v_taped v_fault v_faultPlace v_at v_place v_token v_number v_word v_text0 v_written v_sort0 v_pile v_piled v_opens v_isWhole v_once v_named v_values v_truth v_isWritten v_died v_aside v_likely v_safe v_headOf) sz [.ref h]) ((mQi D (WM h q cI cJ cZ o_v_a v_image v_texts v_tape v_taped v_fault v_faultPlace v_at v_place v_token v_number v_word v_text0 v_written v_sort0 v_pile v_piled v_opens v_isWhole v_once v_named v_values v_truth v_isWritten v_died v_aside v_likely v_safe v_headOf) o_r True) (va_A (WM h q cI cJ cZ v_a v_image v_texts v_tape v_taped v_fault v_faultPlace v_at v_place v_token v_number v_word v_text0 v_written v_sort0 v_pile v_piled v_opens v_isWhole v_once v_named v_values v_truth v_isWritten v_died v_aside v_likely v_safe v_headOf) sz)) 0 0 (va_A (WM h q cI cJ cZ v_a v_image v_texts v_tape v_taped v_fault v_faultPlace v_at v_place v_token v_number v_word v_text0 v_written v_sort0 v_pile v_piled v_opens v_isWhole v_once v_named v_values v_truth v_isWritten v_died v_aside v_likely v_safe v_headOf) sz) := by
  refine mMet (Qc := (mQi D (WM h q cI cJ cZ o_v_a v_image v_texts v_tape v_taped v_fault v_faultPlace v_at v_place v_token v_number v_word v_text0 v_written v_sort0 v_pile v_piled v_opens v_isWhole v_once v_named v_values v_truth v_isWritten v_died v_aside v_likely v_safe v_headOf) o_r True)) (by decide) (Nat.le_of_ble_eq_true rfl) (fun p e s m below meth c A ls hx hb hr hml hts hown hlocks hK hA hP hD hl => ?_)
  have hown : s.vm.findClass RX12 = some m.cls := hown
  have hl : lv_has ls 4 [(0, .ref h)] := hl
  have hS : va_S A s.heap s.heap [] := va_S.rf
  have b69 : ∀ n69 : Nat, ∀ (v_a : Nat → Int32) (x1 : Int32) (x2 : Int32) (H : Heap) (locs : List Loc) (ls : Array Slot), f_X12_undo_69 N n69 v_a x1 x2 = some (o_r, o_v_a) → va_P D vwCl (WM h q cI cJ cZ v_a v_image v_texts v_tape v_taped v_fault v_faultPlace v_at v_place v_token v_number v_word v_text0 v_written v_sort0 v_pile v_piled v_opens v_isWhole v_once v_named v_values v_truth v_isWritten v_died v_aside v_likely v_safe v_headOf) H → va_D A (WM h q cI cJ cZ v_a v_image v_texts v_tape v_taped v_fault v_faultPlace v_at v_place v_token v_number v_word v_text0 v_written v_sort0 v_pile v_piled v_opens v_isWhole v_once v_named v_values v_truth v_isWritten v_died v_aside v_likely v_safe v_headOf) → va_S A s.heap H locs → lv_has ls 4 [(0, .ref h), (1, .int x1), (2, .int x2)] → W p l e ({ frames := 2, cells := 0, slots := 0, locals := 45 } : Room) s m ([.ref h] : List Value).toArray below meth c H locs 0 0 (MQ below ((mQi D (WM h q cI cJ cZ o_v_a v_image v_texts v_tape v_taped v_fault v_faultPlace v_at v_place v_token v_number v_word v_text0 v_written v_sort0 v_pile v_piled v_opens v_isWhole v_once v_named v_values v_truth v_isWritten v_died v_aside v_likely v_safe v_headOf) o_r True) A) ([.ref h] : List Value).toArray s 0 0 A) (F0 m 69 ls []) := by
    intro n69
    induction n69 with
    | zero =>
      intro v_a x1 x2 H locs ls hf hP hD hS hl
      simp [f_X12_undo_69] at hf
    | succ n69 ih69 =>
      have b139 : ∀ (v_a : Nat → Int32) (x1 : Int32) (x2 : Int32) (H : Heap) (locs : List Loc) (ls : Array Slot), f_X12_undo_139 N (f_X12_undo_69 N n69) v_a x1 x2 = some (o_r, o_v_a) → va_P D vwCl (WM h q cI cJ cZ v_a v_image v_texts v_tape v_taped v_fault v_faultPlace v_at v_place v_token v_number v_word v_text0 v_written v_sort0 v_pile v_piled v_opens v_isWhole v_once v_named v_values v_truth v_isWritten v_died v_aside v_likely v_safe v_headOf) H → va_D A (WM h q cI cJ cZ v_a v_image v_texts v_tape v_taped v_fault v_faultPlace v_at v_place v_token v_number v_word v_text0 v_written v_sort0 v_pile v_piled v_opens v_isWhole v_once v_named v_values v_truth v_isWritten v_died v_aside v_likely v_safe v_headOf) → va_S A s.heap H locs → lv_has ls 4 [(0, .ref h), (1, .int x1), (2, .int x2)] → W p l e ({ frames := 2, cells := 0, slots := 0, locals := 45 } : Room) s m ([.ref h] : List Value).toArray below meth c H locs 0 0 (MQ below ((mQi D (WM h q cI cJ cZ o_v_a v_image v_texts v_tape v_taped v_fault v_faultPlace v_at v_place v_token v_number v_word v_text0 v_written v_sort0 v_pile v_piled v_opens v_isWhole v_once v_named v_values v_truth v_isWritten v_died v_aside v_likely v_safe v_headOf) o_r True) A) ([.ref h] : List Value).toArray s 0 0 A) (F0 m 139 ls []) := by
        intro v_a x1 x2 H locs ls hf hP hD hS hl
        unfold f_X12_undo_139 at hf
        refine lv_iinc (v := (x2 + (1 : Int32))) (lv' := [(2, .int (x2 + (1 : Int32))), (0, .ref h), (1, .int x1)]) hx hb dX12_undo_139 hl (k := 2) rfl rfl (by decide) rfl (fun ls hl => ?_)
        refine lv_goto (tgt := 69) hx hb dX12_undo_142 (by decide) ?_
        exact ih69 v_a x1 (x2 + (1 : Int32)) _ _ _ hf hP hD hS (lv_sub hl [1, 2, 0] rfl)
      have b96 : ∀ n96 : Nat, ∀ (v_a : Nat → Int32) (x1 : Int32) (x2 : Int32) (x3 : Int32) (H : Heap) (locs : List Loc) (ls : Array Slot), f_X12_undo_96 N (f_X12_undo_69 N n69) n96 v_a x1 x2 x3 = some (o_r, o_v_a) → va_P D vwCl (WM h q cI cJ cZ v_a v_image v_texts v_tape v_taped v_fault v_faultPlace v_at v_place v_token v_number v_word v_text0 v_written v_sort0 v_pile v_piled v_opens v_isWhole v_once v_named v_values v_truth v_isWritten v_died v_aside v_likely v_safe v_headOf) H → va_D A (WM h q cI cJ cZ v_a v_image v_texts v_tape v_taped v_fault v_faultPlace v_at v_place v_token v_number v_word v_text0 v_written v_sort0 v_pile v_piled v_opens v_isWhole v_once v_named v_values v_truth v_isWritten v_died v_aside v_likely v_safe v_headOf) → va_S A s.heap H locs → lv_has ls 4 [(0, .ref h), (1, .int x1), (2, .int x2), (3, .int x3)] → W p l e ({ frames := 2, cells := 0, slots := 0, locals := 45 } : Room) s m ([.ref h] : List Value).toArray below meth c H locs 0 0 (MQ below ((mQi D (WM h q cI cJ cZ o_v_a v_image v_texts v_tape v_taped v_fault v_faultPlace v_at v_place v_token v_number v_word v_text0 v_written v_sort0 v_pile v_piled v_opens v_isWhole v_once v_named v_values v_truth v_isWritten v_died v_aside v_likely v_safe v_headOf) o_r True) A) ([.ref h] : List Value).toArray s 0 0 A) (F0 m 96 ls []) := by
        intro n96
        induction n96 with
        | zero =>
          intro v_a x1 x2 x3 H locs ls hf hP hD hS hl
          simp [f_X12_undo_96] at hf
        | succ n96 ih96 =>
          intro v_a x1 x2 x3 H locs ls hf hP hD hS hl
          rw [f_X12_undo_96.eq_2] at hf
          refine lv_iload_n hx hb dX12_undo_96 rfl (lv_at hl 3 rfl) ?_
          refine lv_bipush (v := (7 : Int32)) hx hb dX12_undo_97 (by decide) ?_
          refine xicmp_ge hx hb 139 dX12_undo_99 (by decide) hf (fun hf => ?_) (fun hf => ?_)
          · exact b139 v_a x1 x2 _ _ _ hf hP hD hS (lv_sub hl [0, 1, 2] rfl)
          · refine lv_iload_n hx hb dX12_undo_102 rfl (lv_at hl 2 rfl) ?_
            refine lv_aload_n hx hb dX12_undo_103 rfl (lv_at hl 0 rfl) ?_
            refine gfX12_7 hx hb hts hown hK hP 0 rfl rfl dX12_undo_104 ?_
            refine lv_iload_n hx hb dX12_undo_107 rfl (lv_at hl 1 rfl) ?_
            refine xiald hx hb hK hP 1 0 rfl rfl dX12_undo_108 hf (fun v108 hf => ?_)
            refine xicmp_ge hx hb 139 dX12_undo_109 (by decide) hf (fun hf => ?_) (fun hf => ?_)
            · exact b139 v_a x1 x2 _ _ _ hf hP hD hS (lv_sub hl [0, 1, 2] rfl)
            · refine lv_aload_n hx hb dX12_undo_112 rfl (lv_at hl 0 rfl) ?_
              refine lv_iload_n hx hb dX12_undo_113 rfl (lv_at hl 2 rfl) ?_
              refine lv_iload_n hx hb dX12_undo_114 rfl (lv_at hl 3 rfl) ?_
              refine lv_aload_n hx hb dX12_undo_115 rfl (lv_at hl 0 rfl) ?_
              refine gfX12_7 hx hb hts hown hK hP 0 rfl rfl dX12_undo_116 ?_
              refine lv_iload_n hx hb dX12_undo_119 rfl (lv_at hl 1 rfl) ?_
              refine lv_iconst (v := (4 : Int32)) hx hb dX12_undo_120 (by decide) ?_
              refine lv_iadd hx hb dX12_undo_121 ?_
              refine lv_bipush (v := (7 : Int32)) hx hb dX12_undo_122 (by decide) ?_
              refine lv_iload_n hx hb dX12_undo_124 rfl (lv_at hl 2 rfl) ?_
              refine lv_imul hx hb dX12_undo_125 ?_
              refine lv_iadd hx hb dX12_undo_126 ?_
              refine lv_iload_n hx hb dX12_undo_127 rfl (lv_at hl 3 rfl) ?_
              refine lv_iadd hx hb dX12_undo_128 ?_
              refine xiald hx hb hK hP 1 0 rfl rfl dX12_undo_129 hf (fun v129 hf => ?_)
              obtain ⟨v_a_130, hg130, hf⟩ := ob1_some hf
              refine mcV1_v (As := [.int x2, .int x3, .int v129]) (rest := []) hx hb hml hown hts hK hP hD hS hA (k_X12_put l N D cI cJ cZ cB cT h q v_a v_image v_texts v_tape v_taped v_fault v_faultPlace v_at v_place v_token v_number v_word v_text0 v_written v_sort0 v_pile v_piled v_opens v_isWhole v_once v_named v_values v_truth v_isWritten v_died v_aside v_likely v_safe v_headOf x2 x3 v129 v_a_130 hg130) (kwX12_82 hts rfl rfl ⟨Nat.le_of_ble_eq_true rfl, Nat.le_of_ble_eq_true rfl⟩) 0 rfl rfl rfl rfl hl.1 rfl (Nat.le_of_ble_eq_true rfl) dX12_undo_130 ⟨Nat.zero_le _, Nat.zero_le _⟩ (fun H locs hP hD hS => ?_)
              have hP : va_P D vwCl (WM h q cI cJ cZ v_a_130 v_image v_texts v_tape v_taped v_fault v_faultPlace v_at v_place v_token v_number v_word v_text0 v_written v_sort0 v_pile v_piled v_opens v_isWhole v_once v_named v_values v_truth v_isWritten v_died v_aside v_likely v_safe v_headOf) H := hP
              have hD : va_D A (WM h q cI cJ cZ v_a_130 v_image v_texts v_tape v_taped v_fault v_faultPlace v_at v_place v_token v_number v_word v_text0 v_written v_sort0 v_pile v_piled v_opens v_isWhole v_once v_named v_values v_truth v_isWritten v_died v_aside v_likely v_safe v_headOf) := hD
              refine lv_iinc (v := (x3 + (1 : Int32))) (lv' := [(3, .int (x3 + (1 : Int32))), (0, .ref h), (1, .int x1), (2, .int x2)]) hx hb dX12_undo_133 hl (k := 3) rfl rfl (by decide) rfl (fun ls hl => ?_)
              refine lv_goto (tgt := 96) hx hb dX12_undo_136 (by decide) ?_
              exact ih96 v_a_130 x1 x2 (x3 + (1 : Int32)) _ _ _ hf hP hD hS (lv_sub hl [1, 2, 3, 0] rfl)
      have b94 : ∀ (v_a : Nat → Int32) (x1 : Int32) (x2 : Int32) (H : Heap) (locs : List Loc) (ls : Array Slot), f_X12_undo_94 N (f_X12_undo_69 N n69) v_a x1 x2 = some (o_r, o_v_a) → va_P D vwCl (WM h q cI cJ cZ v_a v_image v_texts v_tape v_taped v_fault v_faultPlace v_at v_place v_token v_number v_word v_text0 v_written v_sort0 v_pile v_piled v_opens v_isWhole v_once v_named v_values v_truth v_isWritten v_died v_aside v_likely v_safe v_headOf) H → va_D A (WM h q cI cJ cZ v_a v_image v_texts v_tape v_taped v_fault v_faultPlace v_at v_place v_token v_number v_word v_text0 v_written v_sort0 v_pile v_piled v_opens v_isWhole v_once v_named v_values v_truth v_isWritten v_died v_aside v_likely v_safe v_headOf) → va_S A s.heap H locs → lv_has ls 4 [(0, .ref h), (1, .int x1), (2, .int x2)] → W p l e ({ frames := 2, cells := 0, slots := 0, locals := 45 } : Room) s m ([.ref h] : List Value).toArray below meth c H locs 0 0 (MQ below ((mQi D (WM h q cI cJ cZ o_v_a v_image v_texts v_tape v_taped v_fault v_faultPlace v_at v_place v_token v_number v_word v_text0 v_written v_sort0 v_pile v_piled v_opens v_isWhole v_once v_named v_values v_truth v_isWritten v_died v_aside v_likely v_safe v_headOf) o_r True) A) ([.ref h] : List Value).toArray s 0 0 A) (F0 m 94 ls []) := by
        intro v_a x1 x2 H locs ls hf hP hD hS hl
        unfold f_X12_undo_94 at hf
        refine lv_iconst (v := (0 : Int32)) hx hb dX12_undo_94 (by decide) ?_
        refine lv_istore_n (lv' := [(3, .int (0 : Int32)), (0, .ref h), (1, .int x1), (2, .int x2)]) hx hb dX12_undo_95 rfl hl (by decide) rfl (fun ls hl => ?_)
        exact b96 N v_a x1 x2 (0 : Int32) _ _ _ hf hP hD hS (lv_sub hl [1, 2, 3, 0] rfl)
      intro v_a x1 x2 H locs ls hf hP hD hS hl
      rw [f_X12_undo_69.eq_2] at hf
      refine lv_iload_n hx hb dX12_undo_69 rfl (lv_at hl 2 rfl) ?_
      refine lv_aload_n hx hb dX12_undo_70 rfl (lv_at hl 0 rfl) ?_
      refine gfX12_7 hx hb hts hown hK hP 0 rfl rfl dX12_undo_71 ?_
      refine lv_iconst (v := (1 : Int32)) hx hb dX12_undo_74 (by decide) ?_
      refine xiald hx hb hK hP 1 0 rfl rfl dX12_undo_75 hf (fun v75 hf => ?_)
      refine xicmp_ge hx hb 145 dX12_undo_76 (by decide) hf (fun hf => ?_) (fun hf => ?_)
      · refine lv_aload_n hx hb dX12_undo_145 rfl (lv_at hl 0 rfl) ?_
        refine gfX12_7 hx hb hts hown hK hP 0 rfl rfl dX12_undo_146 ?_
        refine lv_iconst (v := (4 : Int32)) hx hb dX12_undo_149 (by decide) ?_
        refine xiald hx hb hK hP 1 0 rfl rfl dX12_undo_150 hf (fun v150 hf => ?_)
        cases hf
        exact mret_i hx hb hr hlocks hP hD hS dX12_undo_151 rfl trivial
      · refine lv_iload_n hx hb dX12_undo_79 rfl (lv_at hl 2 rfl) ?_
        refine lv_aload_n hx hb dX12_undo_80 rfl (lv_at hl 0 rfl) ?_
        refine gfX12_7 hx hb hts hown hK hP 0 rfl rfl dX12_undo_81 ?_
        refine lv_iload_n hx hb dX12_undo_84 rfl (lv_at hl 1 rfl) ?_
        refine xiald hx hb hK hP 1 0 rfl rfl dX12_undo_85 hf (fun v85 hf => ?_)
        refine xicmp_lt hx hb 94 dX12_undo_86 (by decide) hf (fun hf => ?_) (fun hf => ?_)
        · exact b94 v_a x1 x2 _ _ _ hf hP hD hS (lv_sub hl [0, 1, 2] rfl)
        · refine lv_aload_n hx hb dX12_undo_89 rfl (lv_at hl 0 rfl) ?_
          refine lv_iload_n hx hb dX12_undo_90 rfl (lv_at hl 2 rfl) ?_
          obtain ⟨v_a_91, hg91, hf⟩ := ob1_some hf
          refine mcV1_v (As := [.int x2]) (rest := []) hx hb hml hown hts hK hP hD hS hA (k_X12_begin l N D cI cJ cZ cB cT h q v_a v_image v_texts v_tape v_taped v_fault v_faultPlace v_at v_place v_token v_number v_word v_text0 v_written v_sort0 v_pile v_piled v_opens v_isWhole v_once v_named v_values v_truth v_isWritten v_died v_aside v_likely v_safe v_headOf x2 v_a_91 hg91) (kwX12_86 hts rfl rfl ⟨Nat.le_of_ble_eq_true rfl, Nat.le_of_ble_eq_true rfl⟩) 0 rfl rfl rfl rfl hl.1 rfl (Nat.le_of_ble_eq_true rfl) dX12_undo_91 ⟨Nat.zero_le _, Nat.zero_le _⟩ (fun H locs hP hD hS => ?_)
          have hP : va_P D vwCl (WM h q cI cJ cZ v_a_91 v_image v_texts v_tape v_taped v_fault v_faultPlace v_at v_place v_token v_number v_word v_text0 v_written v_sort0 v_pile v_piled v_opens v_isWhole v_once v_named v_values v_truth v_isWritten v_died v_aside v_likely v_safe v_headOf) H := hP
          have hD : va_D A (WM h q cI cJ cZ v_a_91 v_image v_texts v_tape v_taped v_fault v_faultPlace v_at v_place v_token v_number v_word v_text0 v_written v_sort0 v_pile v_piled v_opens v_isWhole v_once v_named v_values v_truth v_isWritten v_died v_aside v_likely v_safe v_headOf) := hD
          exact b94 v_a_91 x1 x2 _ _ _ hf hP hD hS (lv_sub hl [0, 1, 2] rfl)
  have b37 : ∀ n37 : Nat, ∀ (v_a : Nat → Int32) (x1 : Int32) (x2 : Int32) (H : Heap) (locs : List Loc) (ls : Array Slot), f_X12_undo_37 N n37 v_a x1 x2 = some (o_r, o_v_a) → va_P D vwCl (WM h q cI cJ cZ v_a v_image v_texts v_tape v_taped v_fault v_faultPlace v_at v_place v_token v_number v_word v_text0 v_written v_sort0 v_pile v_piled v_opens v_isWhole v_once v_named v_values v_truth v_isWritten v_died v_aside v_likely v_safe v_headOf) H → va_D A (WM h q cI cJ cZ v_a v_image v_texts v_tape v_taped v_fault v_faultPlace v_at v_place v_token v_number v_word v_text0 v_written v_sort0 v_pile v_piled v_opens v_isWhole v_once v_named v_values v_truth v_isWritten v_died v_aside v_likely v_safe v_headOf) → va_S A s.heap H locs → lv_has ls 4 [(0, .ref h), (1, .int x1), (2, .int x2)] → W p l e ({ frames := 2, cells := 0, slots := 0, locals := 45 } : Room) s m ([.ref h] : List Value).toArray below meth c H locs 0 0 (MQ below ((mQi D (WM h q cI cJ cZ o_v_a v_image v_texts v_tape v_taped v_fault v_faultPlace v_at v_place v_token v_number v_word v_text0 v_written v_sort0 v_pile v_piled v_opens v_isWhole v_once v_named v_values v_truth v_isWritten v_died v_aside v_likely v_safe v_headOf) o_r True) A) ([.ref h] : List Value).toArray s 0 0 A) (F0 m 37 ls []) := by
    intro n37
    induction n37 with
    | zero =>
      intro v_a x1 x2 H locs ls hf hP hD hS hl
      simp [f_X12_undo_37] at hf
    | succ n37 ih37 =>
      intro v_a x1 x2 H locs ls hf hP hD hS hl
      rw [f_X12_undo_37.eq_2] at hf
      refine lv_iload_n hx hb dX12_undo_37 rfl (lv_at hl 2 rfl) ?_
      refine lv_iconst (v := (3 : Int32)) hx hb dX12_undo_38 (by decide) ?_
      refine xicmp_ge hx hb 67 dX12_undo_39 (by decide) hf (fun hf => ?_) (fun hf => ?_)
      · refine lv_iconst (v := (0 : Int32)) hx hb dX12_undo_67 (by decide) ?_
        refine lv_istore_n (lv' := [(2, .int (0 : Int32)), (0, .ref h), (1, .int x1)]) hx hb dX12_undo_68 rfl hl (by decide) rfl (fun ls hl => ?_)
        exact b69 N v_a x1 (0 : Int32) _ _ _ hf hP hD hS (lv_sub hl [1, 2, 0] rfl)
      · refine lv_aload_n hx hb dX12_undo_42 rfl (lv_at hl 0 rfl) ?_
        refine gfX12_7 hx hb hts hown hK hP 0 rfl rfl dX12_undo_43 ?_
        refine lv_bipush (v := (10 : Int32)) hx hb dX12_undo_46 (by decide) ?_
        refine lv_iload_n hx hb dX12_undo_48 rfl (lv_at hl 2 rfl) ?_
        refine lv_iadd hx hb dX12_undo_49 ?_
        refine lv_aload_n hx hb dX12_undo_50 rfl (lv_at hl 0 rfl) ?_
        refine gfX12_7 hx hb hts hown hK hP 0 rfl rfl dX12_undo_51 ?_
        refine lv_iload_n hx hb dX12_undo_54 rfl (lv_at hl 1 rfl) ?_
        refine lv_iconst (v := (1 : Int32)) hx hb dX12_undo_55 (by decide) ?_
        refine lv_iadd hx hb dX12_undo_56 ?_
        refine lv_iload_n hx hb dX12_undo_57 rfl (lv_at hl 2 rfl) ?_
        refine lv_iadd hx hb dX12_undo_58 ?_
        refine xiald hx hb hK hP 1 0 rfl rfl dX12_undo_59 hf (fun v59 hf => ?_)
        refine xiast hx hb hK hP hD hS 1 0 rfl rfl dX12_undo_60 hf (fun v_a_60 hf H locs hP hD hS => ?_)
        have hP : va_P D vwCl (WM h q cI cJ cZ v_a_60 v_image v_texts v_tape v_taped v_fault v_faultPlace v_at v_place v_token v_number v_word v_text0 v_written v_sort0 v_pile v_piled v_opens v_isWhole v_once v_named v_values v_truth v_isWritten v_died v_aside v_likely v_safe v_headOf) H := hP
        have hD : va_D A (WM h q cI cJ cZ v_a_60 v_image v_texts v_tape v_taped v_fault v_faultPlace v_at v_place v_token v_number v_word v_text0 v_written v_sort0 v_pile v_piled v_opens v_isWhole v_once v_named v_values v_truth v_isWritten v_died v_aside v_likely v_safe v_headOf) := hD
        refine lv_iinc (v := (x2 + (1 : Int32))) (lv' := [(2, .int (x2 + (1 : Int32))), (0, .ref h), (1, .int x1)]) hx hb dX12_undo_61 hl (k := 2) rfl rfl (by decide) rfl (fun ls hl => ?_)
        refine lv_goto (tgt := 37) hx hb dX12_undo_64 (by decide) ?_
        exact ih37 v_a_60 x1 (x2 + (1 : Int32)) _ _ _ hf hP hD hS (lv_sub hl [1, 2, 0] rfl)
  unfold f_X12_undo at hf
  refine lv_aload_n hx hb dX12_undo_0 rfl (lv_at hl 0 rfl) ?_
  refine gfX12_7 hx hb hts hown hK hP 0 rfl rfl dX12_undo_1 ?_
  refine lv_iconst (v := (4 : Int32)) hx hb dX12_undo_4 (by decide) ?_
  refine xiald hx hb hK hP 1 0 rfl rfl dX12_undo_5 hf (fun v5 hf => ?_)
  refine xif_ne hx hb 11 dX12_undo_6 (by decide) hf (fun hf => ?_) (fun hf => ?_)
  · refine lv_iconst (v := (-1 : Int32)) hx hb dX12_undo_9 (by decide) ?_
    cases hf
    exact mret_i hx hb hr hlocks hP hD hS dX12_undo_10 rfl trivial
  · refine lv_aload_n hx hb dX12_undo_11 rfl (lv_at hl 0 rfl) ?_
    refine gfX12_7 hx hb hts hown hK hP 0 rfl rfl dX12_undo_12 ?_
    refine lv_iconst (v := (4 : Int32)) hx hb dX12_undo_15 (by decide) ?_
    refine lv_dup2_11 hx hb dX12_undo_16 rfl rfl ?_
    refine xiald hx hb hK hP 1 0 rfl rfl dX12_undo_17 hf (fun v17 hf => ?_)
    refine lv_iconst (v := (1 : Int32)) hx hb dX12_undo_18 (by decide) ?_
    refine lv_isub hx hb dX12_undo_19 ?_
    refine xiast hx hb hK hP hD hS 1 0 rfl rfl dX12_undo_20 hf (fun v_a_20 hf H locs hP hD hS => ?_)
    have hP : va_P D vwCl (WM h q cI cJ cZ v_a_20 v_image v_texts v_tape v_taped v_fault v_faultPlace v_at v_place v_token v_number v_word v_text0 v_written v_sort0 v_pile v_piled v_opens v_isWhole v_once v_named v_values v_truth v_isWritten v_died v_aside v_likely v_safe v_headOf) H := hP
    have hD : va_D A (WM h q cI cJ cZ v_a_20 v_image v_texts v_tape v_taped v_fault v_faultPlace v_at v_place v_token v_number v_word v_text0 v_written v_sort0 v_pile v_piled v_opens v_isWhole v_once v_named v_values v_truth v_isWritten v_died v_aside v_likely v_safe v_headOf) := hD
    refine lv_sipush (v := (142 : Int32)) hx hb dX12_undo_21 (by decide) ?_
    refine lv_bipush (v := (46 : Int32)) hx hb dX12_undo_24 (by decide) ?_
    refine lv_aload_n hx hb dX12_undo_26 rfl (lv_at hl 0 rfl) ?_
    refine gfX12_7 hx hb hts hown hK hP 0 rfl rfl dX12_undo_27 ?_
    refine lv_iconst (v := (4 : Int32)) hx hb dX12_undo_30 (by decide) ?_
    refine xiald hx hb hK hP 1 0 rfl rfl dX12_undo_31 hf (fun v31 hf => ?_)
    refine lv_imul hx hb dX12_undo_32 ?_
    refine lv_iadd hx hb dX12_undo_33 ?_
    refine lv_istore_n (lv' := [(1, .int ((142 : Int32) + ((46 : Int32) * v31))), (0, .ref h)]) hx hb dX12_undo_34 rfl hl (by decide) rfl (fun ls hl => ?_)
    refine lv_iconst (v := (0 : Int32)) hx hb dX12_undo_35 (by decide) ?_
    refine lv_istore_n (lv' := [(2, .int (0 : Int32)), (1, .int ((142 : Int32) + ((46 : Int32) * v31))), (0, .ref h)]) hx hb dX12_undo_36 rfl hl (by decide) rfl (fun ls hl => ?_)
    exact b37 N v_a_20 ((142 : Int32) + ((46 : Int32) * v31)) (0 : Int32) _ _ _ hf hP hD hS (lv_sub hl [2, 1, 0] rfl)
theorem dX12_canCall_0 : decode cX12_canCall 0 = .ok (.aload_n 0, 1) := by decide +kernel
theorem dX12_canCall_1 : decode cX12_canCall 1 = .ok (.iload_n 1, 1) := by decide +kernel
theorem dX12_canCall_2 : decode cX12_canCall 2 = .ok (.invokevirtual 343, 3) := by decide +kernel
theorem dX12_canCall_5 : decode cX12_canCall 5 = .ok (.ifCond .eq 26, 3) := by decide +kernel
theorem dX12_canCall_8 : decode cX12_canCall 8 = .ok (.aload_n 0, 1) := by decide +kernel
theorem dX12_canCall_9 : decode cX12_canCall 9 = .ok (.iload_n 1, 1) := by decide +kernel
theorem dX12_canCall_10 : decode cX12_canCall 10 = .ok (.bipush 6, 2) := by decide +kernel
theorem dX12_canCall_12 : decode cX12_canCall 12 = .ok (.invokevirtual 71, 3) := by decide +kernel
theorem dX12_canCall_15 : decode cX12_canCall 15 = .ok (.iconst 1, 1) := by decide +kernel
theorem dX12_canCall_16 : decode cX12_canCall 16 = .ok (.if_icmp .eq 15, 3) := by decide +kernel
theorem dX12_canCall_19 : decode cX12_canCall 19 = .ok (.aload_n 0, 1) := by decide +kernel
theorem dX12_canCall_20 : decode cX12_canCall 20 = .ok (.iload_n 2, 1) := by decide +kernel
theorem dX12_canCall_21 : decode cX12_canCall 21 = .ok (.invokevirtual 75, 3) := by decide +kernel
theorem dX12_canCall_24 : decode cX12_canCall 24 = .ok (.ifCond .eq 7, 3) := by decide +kernel
theorem dX12_canCall_27 : decode cX12_canCall 27 = .ok (.iconst 1, 1) := by decide +kernel
theorem dX12_canCall_28 : decode cX12_canCall 28 = .ok (.goto 4, 3) := by decide +kernel
theorem dX12_canCall_31 : decode cX12_canCall 31 = .ok (.iconst 0, 1) := by decide +kernel
theorem dX12_canCall_32 : decode cX12_canCall 32 = .ok (.ireturn, 1) := by decide +kernel
def f_X12_canCall (N : Nat) (v_a : Nat → Int32) (p1 : Int32) (p2 : Int32) : Option (Int32) := ob1 (f_X12_isAlive N v_a p1) fun r2 => if r2 = 0 then (some (0 : Int32)) else (ob1 (f_X12_get N v_a p1 (6 : Int32)) fun r12 => if r12 = (1 : Int32) then (some (0 : Int32)) else (ob1 (f_X12_isLand N v_a p2) fun r21 => if r21 = 0 then (some (0 : Int32)) else (some (1 : Int32))))
set_option maxHeartbeats 4000000 in
set_option maxRecDepth 100000 in
theorem k_X12_canCall (l : Launch) (N : Nat) (D : va_G) (cI cJ cZ cB cT : ClassId) (h : Nat) (q : Nat → Nat) (v_a : Nat → Int32) (v_image : Nat → Int32) (v_texts : Nat → Int32) (v_tape : Nat → Int32) (v_taped : Int32) (v_fault : Int32) (v_faultPlace : Int32) (v_at : Int32) (v_place : Int32) (v_token : Int32) (v_number : Int32) (v_word : Int64) (v_text0 : Int32) (v_written : Int32) (v_sort0 : Int32) (v_pile : Nat → Int32) (v_piled : Int32) (v_opens : Int32) (v_isWhole : Int32) (v_once : Int32) (v_named : Nat → Int32) (v_values : Nat → Int64) (v_truth : Nat → Int32) (v_isWritten : Int32) (v_died : Int32) (v_aside : Nat → Int32) (v_likely : Nat → Int32) (v_safe : Nat → Int32) (v_headOf : Nat → Int32) (p1 : Int32) (p2 : Int32) (o_r : Int32) (hf : f_X12_canCall N v_a p1 p2 = some o_r) : ∀ sz, Met l yX12_canCall (mw yX12_canCall cX12_canCall 3 (some .boolean)) ({ frames := 3, cells := 0, slots := 0, locals := 64 } : Room) (mPre D (mT cI cJ cZ cB cT) (WM h q cI cJ cZ v_a v_image v_texts v_tape v_taped v_fault v_faultPlace v_at v_place v_token v_number v_word v_text0 v_written v_sort0 v_pile v_piled v_opens v_isWhole v_once v_named v_values v_truth v_isWritten v_died v_aside v_likely v_safe v_headOf) sz [.ref h, .int p1, .int p2]) ((mQi D (WM h q cI cJ cZ v_a v_image v_texts v_tape v_taped v_fault v_faultPlace v_at v_place v_token v_number v_word v_text0 v_written v_sort0 v_pile v_piled v_opens v_isWhole v_once v_named v_values v_truth v_isWritten v_died v_aside v_likely v_safe v_headOf) o_r (mB o_r)) (va_A (WM h q cI cJ cZ v_a v_image v_texts v_tape v_taped v_fault v_faultPlace v_at v_place v_token v_number v_word v_text0 v_written v_sort0 v_pile v_piled v_opens v_isWhole v_once v_named v_values v_truth v_isWritten v_died v_aside v_likely v_safe v_headOf) sz)) 0 0 (va_A (WM h q cI cJ cZ v_a v_image v_texts v_tape v_taped v_fault v_faultPlace v_at v_place v_token v_number v_word v_text0 v_written v_sort0 v_pile v_piled v_opens v_isWhole v_once v_named v_values v_truth v_isWritten v_died v_aside v_likely v_safe v_headOf) sz) := by
  refine mMet (Qc := (mQi D (WM h q cI cJ cZ v_a v_image v_texts v_tape v_taped v_fault v_faultPlace v_at v_place v_token v_number v_word v_text0 v_written v_sort0 v_pile v_piled v_opens v_isWhole v_once v_named v_values v_truth v_isWritten v_died v_aside v_likely v_safe v_headOf) o_r (mB o_r))) (by decide) (Nat.le_of_ble_eq_true rfl) (fun p e s m below meth c A ls hx hb hr hml hts hown hlocks hK hA hP hD hl => ?_)
  have hown : s.vm.findClass RX12 = some m.cls := hown
  have hl : lv_has ls 3 [(0, .ref h), (1, .int p1), (2, .int p2)] := hl
  have hS : va_S A s.heap s.heap [] := va_S.rf
  unfold f_X12_canCall at hf
  refine lv_aload_n hx hb dX12_canCall_0 rfl (lv_at hl 0 rfl) ?_
  refine lv_iload_n hx hb dX12_canCall_1 rfl (lv_at hl 1 rfl) ?_
  obtain ⟨r2, hg2, hf⟩ := ob1_some hf
  refine mcV1_i (As := [.int p1]) (rest := []) hx hb hml hown hts hK hP hD hS hA (k_X12_isAlive l N D cI cJ cZ cB cT h q v_a v_image v_texts v_tape v_taped v_fault v_faultPlace v_at v_place v_token v_number v_word v_text0 v_written v_sort0 v_pile v_piled v_opens v_isWhole v_once v_named v_values v_truth v_isWritten v_died v_aside v_likely v_safe v_headOf p1 r2 hg2) (kwX12_343 hts rfl rfl ⟨Nat.le_of_ble_eq_true rfl, Nat.le_of_ble_eq_true rfl⟩) 0 rfl rfl rfl rfl hl.1 rfl (Nat.le_of_ble_eq_true rfl) dX12_canCall_2 ⟨Nat.zero_le _, Nat.zero_le _⟩ (fun hB2 H locs hP hD hS => ?_)
  have hP : va_P D vwCl (WM h q cI cJ cZ v_a v_image v_texts v_tape v_taped v_fault v_faultPlace v_at v_place v_token v_number v_word v_text0 v_written v_sort0 v_pile v_piled v_opens v_isWhole v_once v_named v_values v_truth v_isWritten v_died v_aside v_likely v_safe v_headOf) H := hP
  have hD : va_D A (WM h q cI cJ cZ v_a v_image v_texts v_tape v_taped v_fault v_faultPlace v_at v_place v_token v_number v_word v_text0 v_written v_sort0 v_pile v_piled v_opens v_isWhole v_once v_named v_values v_truth v_isWritten v_died v_aside v_likely v_safe v_headOf) := hD
  refine xif_eq hx hb 31 dX12_canCall_5 (by decide) hf (fun hf => ?_) (fun hf => ?_)
  · refine lv_iconst (v := (0 : Int32)) hx hb dX12_canCall_31 (by decide) ?_
    cases hf
    exact mret_z hx hb hr hlocks hP hD hS dX12_canCall_32 rfl rfl
  · refine lv_aload_n hx hb dX12_canCall_8 rfl (lv_at hl 0 rfl) ?_
    refine lv_iload_n hx hb dX12_canCall_9 rfl (lv_at hl 1 rfl) ?_
    refine lv_bipush (v := (6 : Int32)) hx hb dX12_canCall_10 (by decide) ?_
    obtain ⟨r12, hg12, hf⟩ := ob1_some hf
    refine mcV1_i (As := [.int p1, .int (6 : Int32)]) (rest := []) hx hb hml hown hts hK hP hD hS hA (k_X12_get l N D cI cJ cZ cB cT h q v_a v_image v_texts v_tape v_taped v_fault v_faultPlace v_at v_place v_token v_number v_word v_text0 v_written v_sort0 v_pile v_piled v_opens v_isWhole v_once v_named v_values v_truth v_isWritten v_died v_aside v_likely v_safe v_headOf p1 (6 : Int32) r12 hg12) (kwX12_71 hts rfl rfl ⟨Nat.le_of_ble_eq_true rfl, Nat.le_of_ble_eq_true rfl⟩) 0 rfl rfl rfl rfl hl.1 rfl (Nat.le_of_ble_eq_true rfl) dX12_canCall_12 ⟨Nat.zero_le _, Nat.zero_le _⟩ (fun hB12 H locs hP hD hS => ?_)
    have hP : va_P D vwCl (WM h q cI cJ cZ v_a v_image v_texts v_tape v_taped v_fault v_faultPlace v_at v_place v_token v_number v_word v_text0 v_written v_sort0 v_pile v_piled v_opens v_isWhole v_once v_named v_values v_truth v_isWritten v_died v_aside v_likely v_safe v_headOf) H := hP
    have hD : va_D A (WM h q cI cJ cZ v_a v_image v_texts v_tape v_taped v_fault v_faultPlace v_at v_place v_token v_number v_word v_text0 v_written v_sort0 v_pile v_piled v_opens v_isWhole v_once v_named v_values v_truth v_isWritten v_died v_aside v_likely v_safe v_headOf) := hD
    refine lv_iconst (v := (1 : Int32)) hx hb dX12_canCall_15 (by decide) ?_
    refine xicmp_eq hx hb 31 dX12_canCall_16 (by decide) hf (fun hf => ?_) (fun hf => ?_)
    · refine lv_iconst (v := (0 : Int32)) hx hb dX12_canCall_31 (by decide) ?_
      cases hf
      exact mret_z hx hb hr hlocks hP hD hS dX12_canCall_32 rfl rfl
    · refine lv_aload_n hx hb dX12_canCall_19 rfl (lv_at hl 0 rfl) ?_
      refine lv_iload_n hx hb dX12_canCall_20 rfl (lv_at hl 2 rfl) ?_
      obtain ⟨r21, hg21, hf⟩ := ob1_some hf
      refine mcV1_i (As := [.int p2]) (rest := []) hx hb hml hown hts hK hP hD hS hA (k_X12_isLand l N D cI cJ cZ cB cT h q v_a v_image v_texts v_tape v_taped v_fault v_faultPlace v_at v_place v_token v_number v_word v_text0 v_written v_sort0 v_pile v_piled v_opens v_isWhole v_once v_named v_values v_truth v_isWritten v_died v_aside v_likely v_safe v_headOf p2 r21 hg21) (kwX12_75 hts rfl rfl ⟨Nat.le_of_ble_eq_true rfl, Nat.le_of_ble_eq_true rfl⟩) 0 rfl rfl rfl rfl hl.1 rfl (Nat.le_of_ble_eq_true rfl) dX12_canCall_21 ⟨Nat.zero_le _, Nat.zero_le _⟩ (fun hB21 H locs hP hD hS => ?_)
      have hP : va_P D vwCl (WM h q cI cJ cZ v_a v_image v_texts v_tape v_taped v_fault v_faultPlace v_at v_place v_token v_number v_word v_text0 v_written v_sort0 v_pile v_piled v_opens v_isWhole v_once v_named v_values v_truth v_isWritten v_died v_aside v_likely v_safe v_headOf) H := hP
      have hD : va_D A (WM h q cI cJ cZ v_a v_image v_texts v_tape v_taped v_fault v_faultPlace v_at v_place v_token v_number v_word v_text0 v_written v_sort0 v_pile v_piled v_opens v_isWhole v_once v_named v_values v_truth v_isWritten v_died v_aside v_likely v_safe v_headOf) := hD
      refine xif_eq hx hb 31 dX12_canCall_24 (by decide) hf (fun hf => ?_) (fun hf => ?_)
      · refine lv_iconst (v := (0 : Int32)) hx hb dX12_canCall_31 (by decide) ?_
        cases hf
        exact mret_z hx hb hr hlocks hP hD hS dX12_canCall_32 rfl rfl
      · refine lv_iconst (v := (1 : Int32)) hx hb dX12_canCall_27 (by decide) ?_
        refine lv_goto (tgt := 32) hx hb dX12_canCall_28 (by decide) ?_
        cases hf
        exact mret_z hx hb hr hlocks hP hD hS dX12_canCall_32 rfl rfl
theorem dX12_callNow_0 : decode cX12_callNow 0 = .ok (.aload_n 0, 1) := by decide +kernel
theorem dX12_callNow_1 : decode cX12_callNow 1 = .ok (.iload_n 1, 1) := by decide +kernel
theorem dX12_callNow_2 : decode cX12_callNow 2 = .ok (.iconst 0, 1) := by decide +kernel
theorem dX12_callNow_3 : decode cX12_callNow 3 = .ok (.invokevirtual 71, 3) := by decide +kernel
theorem dX12_callNow_6 : decode cX12_callNow 6 = .ok (.iload_n 2, 1) := by decide +kernel
theorem dX12_callNow_7 : decode cX12_callNow 7 = .ok (.if_icmp .ne 17, 3) := by decide +kernel
theorem dX12_callNow_10 : decode cX12_callNow 10 = .ok (.aload_n 0, 1) := by decide +kernel
theorem dX12_callNow_11 : decode cX12_callNow 11 = .ok (.iload_n 1, 1) := by decide +kernel
theorem dX12_callNow_12 : decode cX12_callNow 12 = .ok (.iconst 3, 1) := by decide +kernel
theorem dX12_callNow_13 : decode cX12_callNow 13 = .ok (.iconst 0, 1) := by decide +kernel
theorem dX12_callNow_14 : decode cX12_callNow 14 = .ok (.invokevirtual 82, 3) := by decide +kernel
theorem dX12_callNow_17 : decode cX12_callNow 17 = .ok (.aload_n 0, 1) := by decide +kernel
theorem dX12_callNow_18 : decode cX12_callNow 18 = .ok (.iload_n 1, 1) := by decide +kernel
theorem dX12_callNow_19 : decode cX12_callNow 19 = .ok (.iconst 0, 1) := by decide +kernel
theorem dX12_callNow_20 : decode cX12_callNow 20 = .ok (.invokevirtual 319, 3) := by decide +kernel
theorem dX12_callNow_23 : decode cX12_callNow 23 = .ok (.return_, 1) := by decide +kernel
theorem dX12_callNow_24 : decode cX12_callNow 24 = .ok (.aload_n 0, 1) := by decide +kernel
theorem dX12_callNow_25 : decode cX12_callNow 25 = .ok (.iload_n 1, 1) := by decide +kernel
theorem dX12_callNow_26 : decode cX12_callNow 26 = .ok (.iconst 3, 1) := by decide +kernel
theorem dX12_callNow_27 : decode cX12_callNow 27 = .ok (.aload_n 0, 1) := by decide +kernel
theorem dX12_callNow_28 : decode cX12_callNow 28 = .ok (.iload_n 1, 1) := by decide +kernel
theorem dX12_callNow_29 : decode cX12_callNow 29 = .ok (.iconst 3, 1) := by decide +kernel
theorem dX12_callNow_30 : decode cX12_callNow 30 = .ok (.invokevirtual 71, 3) := by decide +kernel
theorem dX12_callNow_33 : decode cX12_callNow 33 = .ok (.iconst 1, 1) := by decide +kernel
theorem dX12_callNow_34 : decode cX12_callNow 34 = .ok (.iadd, 1) := by decide +kernel
theorem dX12_callNow_35 : decode cX12_callNow 35 = .ok (.invokevirtual 82, 3) := by decide +kernel
theorem dX12_callNow_38 : decode cX12_callNow 38 = .ok (.aload_n 0, 1) := by decide +kernel
theorem dX12_callNow_39 : decode cX12_callNow 39 = .ok (.iload_n 1, 1) := by decide +kernel
theorem dX12_callNow_40 : decode cX12_callNow 40 = .ok (.iconst 3, 1) := by decide +kernel
theorem dX12_callNow_41 : decode cX12_callNow 41 = .ok (.invokevirtual 71, 3) := by decide +kernel
theorem dX12_callNow_44 : decode cX12_callNow 44 = .ok (.iconst 5, 1) := by decide +kernel
theorem dX12_callNow_45 : decode cX12_callNow 45 = .ok (.if_icmp .ge 4, 3) := by decide +kernel
theorem dX12_callNow_48 : decode cX12_callNow 48 = .ok (.return_, 1) := by decide +kernel
theorem dX12_callNow_49 : decode cX12_callNow 49 = .ok (.aload_n 0, 1) := by decide +kernel
theorem dX12_callNow_50 : decode cX12_callNow 50 = .ok (.iload_n 1, 1) := by decide +kernel
theorem dX12_callNow_51 : decode cX12_callNow 51 = .ok (.bipush 6, 2) := by decide +kernel
theorem dX12_callNow_53 : decode cX12_callNow 53 = .ok (.iconst 1, 1) := by decide +kernel
theorem dX12_callNow_54 : decode cX12_callNow 54 = .ok (.invokevirtual 82, 3) := by decide +kernel
theorem dX12_callNow_57 : decode cX12_callNow 57 = .ok (.iconst 1, 1) := by decide +kernel
theorem dX12_callNow_58 : decode cX12_callNow 58 = .ok (.istore_n 3, 1) := by decide +kernel
theorem dX12_callNow_59 : decode cX12_callNow 59 = .ok (.iload_n 3, 1) := by decide +kernel
theorem dX12_callNow_60 : decode cX12_callNow 60 = .ok (.iconst 5, 1) := by decide +kernel
theorem dX12_callNow_61 : decode cX12_callNow 61 = .ok (.if_icmp .gt 16, 3) := by decide +kernel
theorem dX12_callNow_64 : decode cX12_callNow 64 = .ok (.aload_n 0, 1) := by decide +kernel
theorem dX12_callNow_65 : decode cX12_callNow 65 = .ok (.iload_n 1, 1) := by decide +kernel
theorem dX12_callNow_66 : decode cX12_callNow 66 = .ok (.iload_n 3, 1) := by decide +kernel
theorem dX12_callNow_67 : decode cX12_callNow 67 = .ok (.iconst 0, 1) := by decide +kernel
theorem dX12_callNow_68 : decode cX12_callNow 68 = .ok (.invokevirtual 82, 3) := by decide +kernel
theorem dX12_callNow_71 : decode cX12_callNow 71 = .ok (.iinc 3 1, 3) := by decide +kernel
theorem dX12_callNow_74 : decode cX12_callNow 74 = .ok (.goto (-15), 3) := by decide +kernel
theorem dX12_callNow_77 : decode cX12_callNow 77 = .ok (.aload_n 0, 1) := by decide +kernel
theorem dX12_callNow_78 : decode cX12_callNow 78 = .ok (.iload_n 1, 1) := by decide +kernel
theorem dX12_callNow_79 : decode cX12_callNow 79 = .ok (.iconst 1, 1) := by decide +kernel
theorem dX12_callNow_80 : decode cX12_callNow 80 = .ok (.invokevirtual 319, 3) := by decide +kernel
theorem dX12_callNow_83 : decode cX12_callNow 83 = .ok (.return_, 1) := by decide +kernel
def f_X12_callNow_59 (N : Nat) : Nat → (Nat → Int32) → Int32 → Int32 → Int32 → Option ((Nat → Int32))
  | 0, _, _, _, _ => none
  | n + 1, v_a, v_isWritten, x1, x3 => if (5 : Int32) < x3 then (ob1 (f_X12_write N v_a v_isWritten x1 (1 : Int32)) fun v_a_80 => some v_a_80) else (ob1 (f_X12_put N v_a x1 x3 (0 : Int32)) fun v_a_68 => (f_X12_callNow_59 N n) v_a_68 v_isWritten x1 (x3 + (1 : Int32)))
def f_X12_callNow (N : Nat) (v_a : Nat → Int32) (v_isWritten : Int32) (p1 : Int32) (p2 : Int32) : Option ((Nat → Int32)) := ob1 (f_X12_get N v_a p1 (0 : Int32)) fun r3 => if r3 = p2 then (ob1 (f_X12_put N v_a p1 (3 : Int32) (0 : Int32)) fun v_a_14 => ob1 (f_X12_write N v_a_14 v_isWritten p1 (0 : Int32)) fun v_a_20 => some v_a_20) else (ob1 (f_X12_get N v_a p1 (3 : Int32)) fun r30 => ob1 (f_X12_put N v_a p1 (3 : Int32) (r30 + (1 : Int32))) fun v_a_35 => ob1 (f_X12_get N v_a_35 p1 (3 : Int32)) fun r41 => if (5 : Int32) ≤ r41 then (ob1 (f_X12_put N v_a_35 p1 (6 : Int32) (1 : Int32)) fun v_a_54 => f_X12_callNow_59 N N v_a_54 v_isWritten p1 (1 : Int32)) else (some v_a_35))
set_option maxHeartbeats 4000000 in
set_option maxRecDepth 100000 in
theorem k_X12_callNow (l : Launch) (N : Nat) (D : va_G) (cI cJ cZ cB cT : ClassId) (h : Nat) (q : Nat → Nat) (v_a : Nat → Int32) (v_image : Nat → Int32) (v_texts : Nat → Int32) (v_tape : Nat → Int32) (v_taped : Int32) (v_fault : Int32) (v_faultPlace : Int32) (v_at : Int32) (v_place : Int32) (v_token : Int32) (v_number : Int32) (v_word : Int64) (v_text0 : Int32) (v_written : Int32) (v_sort0 : Int32) (v_pile : Nat → Int32) (v_piled : Int32) (v_opens : Int32) (v_isWhole : Int32) (v_once : Int32) (v_named : Nat → Int32) (v_values : Nat → Int64) (v_truth : Nat → Int32) (v_isWritten : Int32) (v_died : Int32) (v_aside : Nat → Int32) (v_likely : Nat → Int32) (v_safe : Nat → Int32) (v_headOf : Nat → Int32) (p1 : Int32) (p2 : Int32) (o_v_a : Nat → Int32) (hf : f_X12_callNow N v_a v_isWritten p1 p2 = some o_v_a) : ∀ sz, Met l yX12_callNow (mw yX12_callNow cX12_callNow 4 none) ({ frames := 1, cells := 0, slots := 0, locals := 23 } : Room) (mPre D (mT cI cJ cZ cB cT) (WM h q cI cJ cZ v_a v_image v_texts v_tape v_taped v_fault v_faultPlace v_at v_place v_token v_number v_word v_text0 v_written v_sort0 v_pile v_piled v_opens v_isWhole v_once v_named v_values v_truth v_isWritten v_died v_aside v_likely v_safe v_headOf) sz [.ref h, .int p1, .int p2]) ((mQv D (WM h q cI cJ cZ o_v_a v_image v_texts v_tape v_taped v_fault v_faultPlace v_at v_place v_token v_number v_word v_text0 v_written v_sort0 v_pile v_piled v_opens v_isWhole v_once v_named v_values v_truth v_isWritten v_died v_aside v_likely v_safe v_headOf)) (va_A (WM h q cI cJ cZ v_a v_image v_texts v_tape v_taped v_fault v_faultPlace v_at v_place v_token v_number v_word v_text0 v_written v_sort0 v_pile v_piled v_opens v_isWhole v_once v_named v_values v_truth v_isWritten v_died v_aside v_likely v_safe v_headOf) sz)) 0 0 (va_A (WM h q cI cJ cZ v_a v_image v_texts v_tape v_taped v_fault v_faultPlace v_at v_place v_token v_number v_word v_text0 v_written v_sort0 v_pile v_piled v_opens v_isWhole v_once v_named v_values v_truth v_isWritten v_died v_aside v_likely v_safe v_headOf) sz) := by
  refine mMet (Qc := (mQv D (WM h q cI cJ cZ o_v_a v_image v_texts v_tape v_taped v_fault v_faultPlace v_at v_place v_token v_number v_word v_text0 v_written v_sort0 v_pile v_piled v_opens v_isWhole v_once v_named v_values v_truth v_isWritten v_died v_aside v_likely v_safe v_headOf))) (by decide) (Nat.le_of_ble_eq_true rfl) (fun p e s m below meth c A ls hx hb hr hml hts hown hlocks hK hA hP hD hl => ?_)
  have hown : s.vm.findClass RX12 = some m.cls := hown
  have hl : lv_has ls 4 [(0, .ref h), (1, .int p1), (2, .int p2)] := hl
  have hS : va_S A s.heap s.heap [] := va_S.rf
  have b59 : ∀ n59 : Nat, ∀ (v_a : Nat → Int32) (x1 : Int32) (x3 : Int32) (H : Heap) (locs : List Loc) (ls : Array Slot), f_X12_callNow_59 N n59 v_a v_isWritten x1 x3 = some o_v_a → va_P D vwCl (WM h q cI cJ cZ v_a v_image v_texts v_tape v_taped v_fault v_faultPlace v_at v_place v_token v_number v_word v_text0 v_written v_sort0 v_pile v_piled v_opens v_isWhole v_once v_named v_values v_truth v_isWritten v_died v_aside v_likely v_safe v_headOf) H → va_D A (WM h q cI cJ cZ v_a v_image v_texts v_tape v_taped v_fault v_faultPlace v_at v_place v_token v_number v_word v_text0 v_written v_sort0 v_pile v_piled v_opens v_isWhole v_once v_named v_values v_truth v_isWritten v_died v_aside v_likely v_safe v_headOf) → va_S A s.heap H locs → lv_has ls 4 [(0, .ref h), (1, .int x1), (3, .int x3)] → W p l e ({ frames := 1, cells := 0, slots := 0, locals := 23 } : Room) s m ([.ref h, .int p1, .int p2] : List Value).toArray below meth c H locs 0 0 (MQ below ((mQv D (WM h q cI cJ cZ o_v_a v_image v_texts v_tape v_taped v_fault v_faultPlace v_at v_place v_token v_number v_word v_text0 v_written v_sort0 v_pile v_piled v_opens v_isWhole v_once v_named v_values v_truth v_isWritten v_died v_aside v_likely v_safe v_headOf)) A) ([.ref h, .int p1, .int p2] : List Value).toArray s 0 0 A) (F0 m 59 ls []) := by
    intro n59
    induction n59 with
    | zero =>
      intro v_a x1 x3 H locs ls hf hP hD hS hl
      simp [f_X12_callNow_59] at hf
    | succ n59 ih59 =>
      intro v_a x1 x3 H locs ls hf hP hD hS hl
      rw [f_X12_callNow_59.eq_2] at hf
      refine lv_iload_n hx hb dX12_callNow_59 rfl (lv_at hl 2 rfl) ?_
      refine lv_iconst (v := (5 : Int32)) hx hb dX12_callNow_60 (by decide) ?_
      refine xicmp_gt hx hb 77 dX12_callNow_61 (by decide) hf (fun hf => ?_) (fun hf => ?_)
      · refine lv_aload_n hx hb dX12_callNow_77 rfl (lv_at hl 0 rfl) ?_
        refine lv_iload_n hx hb dX12_callNow_78 rfl (lv_at hl 1 rfl) ?_
        refine lv_iconst (v := (1 : Int32)) hx hb dX12_callNow_79 (by decide) ?_
        obtain ⟨v_a_80, hg80, hf⟩ := ob1_some hf
        refine mcV1_v (As := [.int x1, .int (1 : Int32)]) (rest := []) hx hb hml hown hts hK hP hD hS hA (k_X12_write l N D cI cJ cZ cB cT h q v_a v_image v_texts v_tape v_taped v_fault v_faultPlace v_at v_place v_token v_number v_word v_text0 v_written v_sort0 v_pile v_piled v_opens v_isWhole v_once v_named v_values v_truth v_isWritten v_died v_aside v_likely v_safe v_headOf x1 (1 : Int32) v_a_80 hg80) (kwX12_319 hts rfl rfl ⟨Nat.le_of_ble_eq_true rfl, Nat.le_of_ble_eq_true rfl⟩) 0 rfl rfl rfl rfl hl.1 rfl (Nat.le_of_ble_eq_true rfl) dX12_callNow_80 ⟨Nat.zero_le _, Nat.zero_le _⟩ (fun H locs hP hD hS => ?_)
        have hP : va_P D vwCl (WM h q cI cJ cZ v_a_80 v_image v_texts v_tape v_taped v_fault v_faultPlace v_at v_place v_token v_number v_word v_text0 v_written v_sort0 v_pile v_piled v_opens v_isWhole v_once v_named v_values v_truth v_isWritten v_died v_aside v_likely v_safe v_headOf) H := hP
        have hD : va_D A (WM h q cI cJ cZ v_a_80 v_image v_texts v_tape v_taped v_fault v_faultPlace v_at v_place v_token v_number v_word v_text0 v_written v_sort0 v_pile v_piled v_opens v_isWhole v_once v_named v_values v_truth v_isWritten v_died v_aside v_likely v_safe v_headOf) := hD
        cases hf
        exact mret_v hx hb hr hlocks hP hD hS dX12_callNow_83
      · refine lv_aload_n hx hb dX12_callNow_64 rfl (lv_at hl 0 rfl) ?_
        refine lv_iload_n hx hb dX12_callNow_65 rfl (lv_at hl 1 rfl) ?_
        refine lv_iload_n hx hb dX12_callNow_66 rfl (lv_at hl 2 rfl) ?_
        refine lv_iconst (v := (0 : Int32)) hx hb dX12_callNow_67 (by decide) ?_
        obtain ⟨v_a_68, hg68, hf⟩ := ob1_some hf
        refine mcV1_v (As := [.int x1, .int x3, .int (0 : Int32)]) (rest := []) hx hb hml hown hts hK hP hD hS hA (k_X12_put l N D cI cJ cZ cB cT h q v_a v_image v_texts v_tape v_taped v_fault v_faultPlace v_at v_place v_token v_number v_word v_text0 v_written v_sort0 v_pile v_piled v_opens v_isWhole v_once v_named v_values v_truth v_isWritten v_died v_aside v_likely v_safe v_headOf x1 x3 (0 : Int32) v_a_68 hg68) (kwX12_82 hts rfl rfl ⟨Nat.le_of_ble_eq_true rfl, Nat.le_of_ble_eq_true rfl⟩) 0 rfl rfl rfl rfl hl.1 rfl (Nat.le_of_ble_eq_true rfl) dX12_callNow_68 ⟨Nat.zero_le _, Nat.zero_le _⟩ (fun H locs hP hD hS => ?_)
        have hP : va_P D vwCl (WM h q cI cJ cZ v_a_68 v_image v_texts v_tape v_taped v_fault v_faultPlace v_at v_place v_token v_number v_word v_text0 v_written v_sort0 v_pile v_piled v_opens v_isWhole v_once v_named v_values v_truth v_isWritten v_died v_aside v_likely v_safe v_headOf) H := hP
        have hD : va_D A (WM h q cI cJ cZ v_a_68 v_image v_texts v_tape v_taped v_fault v_faultPlace v_at v_place v_token v_number v_word v_text0 v_written v_sort0 v_pile v_piled v_opens v_isWhole v_once v_named v_values v_truth v_isWritten v_died v_aside v_likely v_safe v_headOf) := hD
        refine lv_iinc (v := (x3 + (1 : Int32))) (lv' := [(3, .int (x3 + (1 : Int32))), (0, .ref h), (1, .int x1)]) hx hb dX12_callNow_71 hl (k := 2) rfl rfl (by decide) rfl (fun ls hl => ?_)
        refine lv_goto (tgt := 59) hx hb dX12_callNow_74 (by decide) ?_
        exact ih59 v_a_68 x1 (x3 + (1 : Int32)) _ _ _ hf hP hD hS (lv_sub hl [1, 2, 0] rfl)
  unfold f_X12_callNow at hf
  refine lv_aload_n hx hb dX12_callNow_0 rfl (lv_at hl 0 rfl) ?_
  refine lv_iload_n hx hb dX12_callNow_1 rfl (lv_at hl 1 rfl) ?_
  refine lv_iconst (v := (0 : Int32)) hx hb dX12_callNow_2 (by decide) ?_
  obtain ⟨r3, hg3, hf⟩ := ob1_some hf
  refine mcV1_i (As := [.int p1, .int (0 : Int32)]) (rest := []) hx hb hml hown hts hK hP hD hS hA (k_X12_get l N D cI cJ cZ cB cT h q v_a v_image v_texts v_tape v_taped v_fault v_faultPlace v_at v_place v_token v_number v_word v_text0 v_written v_sort0 v_pile v_piled v_opens v_isWhole v_once v_named v_values v_truth v_isWritten v_died v_aside v_likely v_safe v_headOf p1 (0 : Int32) r3 hg3) (kwX12_71 hts rfl rfl ⟨Nat.le_of_ble_eq_true rfl, Nat.le_of_ble_eq_true rfl⟩) 0 rfl rfl rfl rfl hl.1 rfl (Nat.le_of_ble_eq_true rfl) dX12_callNow_3 ⟨Nat.zero_le _, Nat.zero_le _⟩ (fun hB3 H locs hP hD hS => ?_)
  have hP : va_P D vwCl (WM h q cI cJ cZ v_a v_image v_texts v_tape v_taped v_fault v_faultPlace v_at v_place v_token v_number v_word v_text0 v_written v_sort0 v_pile v_piled v_opens v_isWhole v_once v_named v_values v_truth v_isWritten v_died v_aside v_likely v_safe v_headOf) H := hP
  have hD : va_D A (WM h q cI cJ cZ v_a v_image v_texts v_tape v_taped v_fault v_faultPlace v_at v_place v_token v_number v_word v_text0 v_written v_sort0 v_pile v_piled v_opens v_isWhole v_once v_named v_values v_truth v_isWritten v_died v_aside v_likely v_safe v_headOf) := hD
  refine lv_iload_n hx hb dX12_callNow_6 rfl (lv_at hl 2 rfl) ?_
  refine xicmp_ne hx hb 24 dX12_callNow_7 (by decide) hf (fun hf => ?_) (fun hf => ?_)
  · refine lv_aload_n hx hb dX12_callNow_10 rfl (lv_at hl 0 rfl) ?_
    refine lv_iload_n hx hb dX12_callNow_11 rfl (lv_at hl 1 rfl) ?_
    refine lv_iconst (v := (3 : Int32)) hx hb dX12_callNow_12 (by decide) ?_
    refine lv_iconst (v := (0 : Int32)) hx hb dX12_callNow_13 (by decide) ?_
    obtain ⟨v_a_14, hg14, hf⟩ := ob1_some hf
    refine mcV1_v (As := [.int p1, .int (3 : Int32), .int (0 : Int32)]) (rest := []) hx hb hml hown hts hK hP hD hS hA (k_X12_put l N D cI cJ cZ cB cT h q v_a v_image v_texts v_tape v_taped v_fault v_faultPlace v_at v_place v_token v_number v_word v_text0 v_written v_sort0 v_pile v_piled v_opens v_isWhole v_once v_named v_values v_truth v_isWritten v_died v_aside v_likely v_safe v_headOf p1 (3 : Int32) (0 : Int32) v_a_14 hg14) (kwX12_82 hts rfl rfl ⟨Nat.le_of_ble_eq_true rfl, Nat.le_of_ble_eq_true rfl⟩) 0 rfl rfl rfl rfl hl.1 rfl (Nat.le_of_ble_eq_true rfl) dX12_callNow_14 ⟨Nat.zero_le _, Nat.zero_le _⟩ (fun H locs hP hD hS => ?_)
    have hP : va_P D vwCl (WM h q cI cJ cZ v_a_14 v_image v_texts v_tape v_taped v_fault v_faultPlace v_at v_place v_token v_number v_word v_text0 v_written v_sort0 v_pile v_piled v_opens v_isWhole v_once v_named v_values v_truth v_isWritten v_died v_aside v_likely v_safe v_headOf) H := hP
    have hD : va_D A (WM h q cI cJ cZ v_a_14 v_image v_texts v_tape v_taped v_fault v_faultPlace v_at v_place v_token v_number v_word v_text0 v_written v_sort0 v_pile v_piled v_opens v_isWhole v_once v_named v_values v_truth v_isWritten v_died v_aside v_likely v_safe v_headOf) := hD
    refine lv_aload_n hx hb dX12_callNow_17 rfl (lv_at hl 0 rfl) ?_
    refine lv_iload_n hx hb dX12_callNow_18 rfl (lv_at hl 1 rfl) ?_
    refine lv_iconst (v := (0 : Int32)) hx hb dX12_callNow_19 (by decide) ?_
    obtain ⟨v_a_20, hg20, hf⟩ := ob1_some hf
    refine mcV1_v (As := [.int p1, .int (0 : Int32)]) (rest := []) hx hb hml hown hts hK hP hD hS hA (k_X12_write l N D cI cJ cZ cB cT h q v_a_14 v_image v_texts v_tape v_taped v_fault v_faultPlace v_at v_place v_token v_number v_word v_text0 v_written v_sort0 v_pile v_piled v_opens v_isWhole v_once v_named v_values v_truth v_isWritten v_died v_aside v_likely v_safe v_headOf p1 (0 : Int32) v_a_20 hg20) (kwX12_319 hts rfl rfl ⟨Nat.le_of_ble_eq_true rfl, Nat.le_of_ble_eq_true rfl⟩) 0 rfl rfl rfl rfl hl.1 rfl (Nat.le_of_ble_eq_true rfl) dX12_callNow_20 ⟨Nat.zero_le _, Nat.zero_le _⟩ (fun H locs hP hD hS => ?_)
    have hP : va_P D vwCl (WM h q cI cJ cZ v_a_20 v_image v_texts v_tape v_taped v_fault v_faultPlace v_at v_place v_token v_number v_word v_text0 v_written v_sort0 v_pile v_piled v_opens v_isWhole v_once v_named v_values v_truth v_isWritten v_died v_aside v_likely v_safe v_headOf) H := hP
    have hD : va_D A (WM h q cI cJ cZ v_a_20 v_image v_texts v_tape v_taped v_fault v_faultPlace v_at v_place v_token v_number v_word v_text0 v_written v_sort0 v_pile v_piled v_opens v_isWhole v_once v_named v_values v_truth v_isWritten v_died v_aside v_likely v_safe v_headOf) := hD
    cases hf
    exact mret_v hx hb hr hlocks hP hD hS dX12_callNow_23
  · refine lv_aload_n hx hb dX12_callNow_24 rfl (lv_at hl 0 rfl) ?_
    refine lv_iload_n hx hb dX12_callNow_25 rfl (lv_at hl 1 rfl) ?_
    refine lv_iconst (v := (3 : Int32)) hx hb dX12_callNow_26 (by decide) ?_
    refine lv_aload_n hx hb dX12_callNow_27 rfl (lv_at hl 0 rfl) ?_
    refine lv_iload_n hx hb dX12_callNow_28 rfl (lv_at hl 1 rfl) ?_
    refine lv_iconst (v := (3 : Int32)) hx hb dX12_callNow_29 (by decide) ?_
    obtain ⟨r30, hg30, hf⟩ := ob1_some hf
    refine mcV1_i (As := [.int p1, .int (3 : Int32)]) (rest := [.int (3 : Int32), .int p1, .ref h]) hx hb hml hown hts hK hP hD hS hA (k_X12_get l N D cI cJ cZ cB cT h q v_a v_image v_texts v_tape v_taped v_fault v_faultPlace v_at v_place v_token v_number v_word v_text0 v_written v_sort0 v_pile v_piled v_opens v_isWhole v_once v_named v_values v_truth v_isWritten v_died v_aside v_likely v_safe v_headOf p1 (3 : Int32) r30 hg30) (kwX12_71 hts rfl rfl ⟨Nat.le_of_ble_eq_true rfl, Nat.le_of_ble_eq_true rfl⟩) 0 rfl rfl rfl rfl hl.1 rfl (Nat.le_of_ble_eq_true rfl) dX12_callNow_30 ⟨Nat.zero_le _, Nat.zero_le _⟩ (fun hB30 H locs hP hD hS => ?_)
    have hP : va_P D vwCl (WM h q cI cJ cZ v_a v_image v_texts v_tape v_taped v_fault v_faultPlace v_at v_place v_token v_number v_word v_text0 v_written v_sort0 v_pile v_piled v_opens v_isWhole v_once v_named v_values v_truth v_isWritten v_died v_aside v_likely v_safe v_headOf) H := hP
    have hD : va_D A (WM h q cI cJ cZ v_a v_image v_texts v_tape v_taped v_fault v_faultPlace v_at v_place v_token v_number v_word v_text0 v_written v_sort0 v_pile v_piled v_opens v_isWhole v_once v_named v_values v_truth v_isWritten v_died v_aside v_likely v_safe v_headOf) := hD
    refine lv_iconst (v := (1 : Int32)) hx hb dX12_callNow_33 (by decide) ?_
    refine lv_iadd hx hb dX12_callNow_34 ?_
    obtain ⟨v_a_35, hg35, hf⟩ := ob1_some hf
    refine mcV1_v (As := [.int p1, .int (3 : Int32), .int (r30 + (1 : Int32))]) (rest := []) hx hb hml hown hts hK hP hD hS hA (k_X12_put l N D cI cJ cZ cB cT h q v_a v_image v_texts v_tape v_taped v_fault v_faultPlace v_at v_place v_token v_number v_word v_text0 v_written v_sort0 v_pile v_piled v_opens v_isWhole v_once v_named v_values v_truth v_isWritten v_died v_aside v_likely v_safe v_headOf p1 (3 : Int32) (r30 + (1 : Int32)) v_a_35 hg35) (kwX12_82 hts rfl rfl ⟨Nat.le_of_ble_eq_true rfl, Nat.le_of_ble_eq_true rfl⟩) 0 rfl rfl rfl rfl hl.1 rfl (Nat.le_of_ble_eq_true rfl) dX12_callNow_35 ⟨Nat.zero_le _, Nat.zero_le _⟩ (fun H locs hP hD hS => ?_)
    have hP : va_P D vwCl (WM h q cI cJ cZ v_a_35 v_image v_texts v_tape v_taped v_fault v_faultPlace v_at v_place v_token v_number v_word v_text0 v_written v_sort0 v_pile v_piled v_opens v_isWhole v_once v_named v_values v_truth v_isWritten v_died v_aside v_likely v_safe v_headOf) H := hP
    have hD : va_D A (WM h q cI cJ cZ v_a_35 v_image v_texts v_tape v_taped v_fault v_faultPlace v_at v_place v_token v_number v_word v_text0 v_written v_sort0 v_pile v_piled v_opens v_isWhole v_once v_named v_values v_truth v_isWritten v_died v_aside v_likely v_safe v_headOf) := hD
    refine lv_aload_n hx hb dX12_callNow_38 rfl (lv_at hl 0 rfl) ?_
    refine lv_iload_n hx hb dX12_callNow_39 rfl (lv_at hl 1 rfl) ?_
    refine lv_iconst (v := (3 : Int32)) hx hb dX12_callNow_40 (by decide) ?_
    obtain ⟨r41, hg41, hf⟩ := ob1_some hf
    refine mcV1_i (As := [.int p1, .int (3 : Int32)]) (rest := []) hx hb hml hown hts hK hP hD hS hA (k_X12_get l N D cI cJ cZ cB cT h q v_a_35 v_image v_texts v_tape v_taped v_fault v_faultPlace v_at v_place v_token v_number v_word v_text0 v_written v_sort0 v_pile v_piled v_opens v_isWhole v_once v_named v_values v_truth v_isWritten v_died v_aside v_likely v_safe v_headOf p1 (3 : Int32) r41 hg41) (kwX12_71 hts rfl rfl ⟨Nat.le_of_ble_eq_true rfl, Nat.le_of_ble_eq_true rfl⟩) 0 rfl rfl rfl rfl hl.1 rfl (Nat.le_of_ble_eq_true rfl) dX12_callNow_41 ⟨Nat.zero_le _, Nat.zero_le _⟩ (fun hB41 H locs hP hD hS => ?_)
    have hP : va_P D vwCl (WM h q cI cJ cZ v_a_35 v_image v_texts v_tape v_taped v_fault v_faultPlace v_at v_place v_token v_number v_word v_text0 v_written v_sort0 v_pile v_piled v_opens v_isWhole v_once v_named v_values v_truth v_isWritten v_died v_aside v_likely v_safe v_headOf) H := hP
    have hD : va_D A (WM h q cI cJ cZ v_a_35 v_image v_texts v_tape v_taped v_fault v_faultPlace v_at v_place v_token v_number v_word v_text0 v_written v_sort0 v_pile v_piled v_opens v_isWhole v_once v_named v_values v_truth v_isWritten v_died v_aside v_likely v_safe v_headOf) := hD
    refine lv_iconst (v := (5 : Int32)) hx hb dX12_callNow_44 (by decide) ?_
    refine xicmp_ge hx hb 49 dX12_callNow_45 (by decide) hf (fun hf => ?_) (fun hf => ?_)
    · refine lv_aload_n hx hb dX12_callNow_49 rfl (lv_at hl 0 rfl) ?_
      refine lv_iload_n hx hb dX12_callNow_50 rfl (lv_at hl 1 rfl) ?_
      refine lv_bipush (v := (6 : Int32)) hx hb dX12_callNow_51 (by decide) ?_
      refine lv_iconst (v := (1 : Int32)) hx hb dX12_callNow_53 (by decide) ?_
      obtain ⟨v_a_54, hg54, hf⟩ := ob1_some hf
      refine mcV1_v (As := [.int p1, .int (6 : Int32), .int (1 : Int32)]) (rest := []) hx hb hml hown hts hK hP hD hS hA (k_X12_put l N D cI cJ cZ cB cT h q v_a_35 v_image v_texts v_tape v_taped v_fault v_faultPlace v_at v_place v_token v_number v_word v_text0 v_written v_sort0 v_pile v_piled v_opens v_isWhole v_once v_named v_values v_truth v_isWritten v_died v_aside v_likely v_safe v_headOf p1 (6 : Int32) (1 : Int32) v_a_54 hg54) (kwX12_82 hts rfl rfl ⟨Nat.le_of_ble_eq_true rfl, Nat.le_of_ble_eq_true rfl⟩) 0 rfl rfl rfl rfl hl.1 rfl (Nat.le_of_ble_eq_true rfl) dX12_callNow_54 ⟨Nat.zero_le _, Nat.zero_le _⟩ (fun H locs hP hD hS => ?_)
      have hP : va_P D vwCl (WM h q cI cJ cZ v_a_54 v_image v_texts v_tape v_taped v_fault v_faultPlace v_at v_place v_token v_number v_word v_text0 v_written v_sort0 v_pile v_piled v_opens v_isWhole v_once v_named v_values v_truth v_isWritten v_died v_aside v_likely v_safe v_headOf) H := hP
      have hD : va_D A (WM h q cI cJ cZ v_a_54 v_image v_texts v_tape v_taped v_fault v_faultPlace v_at v_place v_token v_number v_word v_text0 v_written v_sort0 v_pile v_piled v_opens v_isWhole v_once v_named v_values v_truth v_isWritten v_died v_aside v_likely v_safe v_headOf) := hD
      refine lv_iconst (v := (1 : Int32)) hx hb dX12_callNow_57 (by decide) ?_
      refine lv_istore_n (lv' := [(3, .int (1 : Int32)), (0, .ref h), (1, .int p1), (2, .int p2)]) hx hb dX12_callNow_58 rfl hl (by decide) rfl (fun ls hl => ?_)
      exact b59 N v_a_54 p1 (1 : Int32) _ _ _ hf hP hD hS (lv_sub hl [1, 2, 0] rfl)
    · cases hf
      exact mret_v hx hb hr hlocks hP hD hS dX12_callNow_48
theorem dX12_call_0 : decode cX12_call 0 = .ok (.aload_n 0, 1) := by decide +kernel
theorem dX12_call_1 : decode cX12_call 1 = .ok (.iload_n 1, 1) := by decide +kernel
theorem dX12_call_2 : decode cX12_call 2 = .ok (.iload_n 2, 1) := by decide +kernel
theorem dX12_call_3 : decode cX12_call 3 = .ok (.invokevirtual 346, 3) := by decide +kernel
theorem dX12_call_6 : decode cX12_call 6 = .ok (.ifCond .ne 5, 3) := by decide +kernel
theorem dX12_call_9 : decode cX12_call 9 = .ok (.iconst (-1), 1) := by decide +kernel
theorem dX12_call_10 : decode cX12_call 10 = .ok (.ireturn, 1) := by decide +kernel
theorem dX12_call_11 : decode cX12_call 11 = .ok (.aload_n 0, 1) := by decide +kernel
theorem dX12_call_12 : decode cX12_call 12 = .ok (.invokevirtual 349, 3) := by decide +kernel
theorem dX12_call_15 : decode cX12_call 15 = .ok (.aload_n 0, 1) := by decide +kernel
theorem dX12_call_16 : decode cX12_call 16 = .ok (.iload_n 1, 1) := by decide +kernel
theorem dX12_call_17 : decode cX12_call 17 = .ok (.iload_n 2, 1) := by decide +kernel
theorem dX12_call_18 : decode cX12_call 18 = .ok (.invokevirtual 352, 3) := by decide +kernel
theorem dX12_call_21 : decode cX12_call 21 = .ok (.aload_n 0, 1) := by decide +kernel
theorem dX12_call_22 : decode cX12_call 22 = .ok (.iload_n 1, 1) := by decide +kernel
theorem dX12_call_23 : decode cX12_call 23 = .ok (.iconst 3, 1) := by decide +kernel
theorem dX12_call_24 : decode cX12_call 24 = .ok (.invokevirtual 71, 3) := by decide +kernel
theorem dX12_call_27 : decode cX12_call 27 = .ok (.ireturn, 1) := by decide +kernel
def f_X12_call (N : Nat) (v_a : Nat → Int32) (v_isWritten : Int32) (p1 : Int32) (p2 : Int32) : Option (Int32 × (Nat → Int32)) := ob1 (f_X12_canCall N v_a p1 p2) fun r3 => if r3 = 0 then (some ((-1 : Int32), v_a)) else (ob1 (f_X12_keep N v_a) fun v_a_12 => ob1 (f_X12_callNow N v_a_12 v_isWritten p1 p2) fun v_a_18 => ob1 (f_X12_get N v_a_18 p1 (3 : Int32)) fun r24 => some (r24, v_a_18))
set_option maxHeartbeats 4000000 in
set_option maxRecDepth 100000 in
theorem k_X12_call (l : Launch) (N : Nat) (D : va_G) (cI cJ cZ cB cT : ClassId) (h : Nat) (q : Nat → Nat) (v_a : Nat → Int32) (v_image : Nat → Int32) (v_texts : Nat → Int32) (v_tape : Nat → Int32) (v_taped : Int32) (v_fault : Int32) (v_faultPlace : Int32) (v_at : Int32) (v_place : Int32) (v_token : Int32) (v_number : Int32) (v_word : Int64) (v_text0 : Int32) (v_written : Int32) (v_sort0 : Int32) (v_pile : Nat → Int32) (v_piled : Int32) (v_opens : Int32) (v_isWhole : Int32) (v_once : Int32) (v_named : Nat → Int32) (v_values : Nat → Int64) (v_truth : Nat → Int32) (v_isWritten : Int32) (v_died : Int32) (v_aside : Nat → Int32) (v_likely : Nat → Int32) (v_safe : Nat → Int32) (v_headOf : Nat → Int32) (p1 : Int32) (p2 : Int32) (o_r : Int32) (o_v_a : Nat → Int32) (hf : f_X12_call N v_a v_isWritten p1 p2 = some (o_r, o_v_a)) : ∀ sz, Met l yX12_call (mw yX12_call cX12_call 3 (some .int)) ({ frames := 4, cells := 0, slots := 0, locals := 86 } : Room) (mPre D (mT cI cJ cZ cB cT) (WM h q cI cJ cZ v_a v_image v_texts v_tape v_taped v_fault v_faultPlace v_at v_place v_token v_number v_word v_text0 v_written v_sort0 v_pile v_piled v_opens v_isWhole v_once v_named v_values v_truth v_isWritten v_died v_aside v_likely v_safe v_headOf) sz [.ref h, .int p1, .int p2]) ((mQi D (WM h q cI cJ cZ o_v_a v_image v_texts v_tape v_taped v_fault v_faultPlace v_at v_place v_token v_number v_word v_text0 v_written v_sort0 v_pile v_piled v_opens v_isWhole v_once v_named v_values v_truth v_isWritten v_died v_aside v_likely v_safe v_headOf) o_r True) (va_A (WM h q cI cJ cZ v_a v_image v_texts v_tape v_taped v_fault v_faultPlace v_at v_place v_token v_number v_word v_text0 v_written v_sort0 v_pile v_piled v_opens v_isWhole v_once v_named v_values v_truth v_isWritten v_died v_aside v_likely v_safe v_headOf) sz)) 0 0 (va_A (WM h q cI cJ cZ v_a v_image v_texts v_tape v_taped v_fault v_faultPlace v_at v_place v_token v_number v_word v_text0 v_written v_sort0 v_pile v_piled v_opens v_isWhole v_once v_named v_values v_truth v_isWritten v_died v_aside v_likely v_safe v_headOf) sz) := by
  refine mMet (Qc := (mQi D (WM h q cI cJ cZ o_v_a v_image v_texts v_tape v_taped v_fault v_faultPlace v_at v_place v_token v_number v_word v_text0 v_written v_sort0 v_pile v_piled v_opens v_isWhole v_once v_named v_values v_truth v_isWritten v_died v_aside v_likely v_safe v_headOf) o_r True)) (by decide) (Nat.le_of_ble_eq_true rfl) (fun p e s m below meth c A ls hx hb hr hml hts hown hlocks hK hA hP hD hl => ?_)
  have hown : s.vm.findClass RX12 = some m.cls := hown
  have hl : lv_has ls 3 [(0, .ref h), (1, .int p1), (2, .int p2)] := hl
  have hS : va_S A s.heap s.heap [] := va_S.rf
  unfold f_X12_call at hf
  refine lv_aload_n hx hb dX12_call_0 rfl (lv_at hl 0 rfl) ?_
  refine lv_iload_n hx hb dX12_call_1 rfl (lv_at hl 1 rfl) ?_
  refine lv_iload_n hx hb dX12_call_2 rfl (lv_at hl 2 rfl) ?_
  obtain ⟨r3, hg3, hf⟩ := ob1_some hf
  refine mcV1_i (As := [.int p1, .int p2]) (rest := []) hx hb hml hown hts hK hP hD hS hA (k_X12_canCall l N D cI cJ cZ cB cT h q v_a v_image v_texts v_tape v_taped v_fault v_faultPlace v_at v_place v_token v_number v_word v_text0 v_written v_sort0 v_pile v_piled v_opens v_isWhole v_once v_named v_values v_truth v_isWritten v_died v_aside v_likely v_safe v_headOf p1 p2 r3 hg3) (kwX12_346 hts rfl rfl ⟨Nat.le_of_ble_eq_true rfl, Nat.le_of_ble_eq_true rfl⟩) 0 rfl rfl rfl rfl hl.1 rfl (Nat.le_of_ble_eq_true rfl) dX12_call_3 ⟨Nat.zero_le _, Nat.zero_le _⟩ (fun hB3 H locs hP hD hS => ?_)
  have hP : va_P D vwCl (WM h q cI cJ cZ v_a v_image v_texts v_tape v_taped v_fault v_faultPlace v_at v_place v_token v_number v_word v_text0 v_written v_sort0 v_pile v_piled v_opens v_isWhole v_once v_named v_values v_truth v_isWritten v_died v_aside v_likely v_safe v_headOf) H := hP
  have hD : va_D A (WM h q cI cJ cZ v_a v_image v_texts v_tape v_taped v_fault v_faultPlace v_at v_place v_token v_number v_word v_text0 v_written v_sort0 v_pile v_piled v_opens v_isWhole v_once v_named v_values v_truth v_isWritten v_died v_aside v_likely v_safe v_headOf) := hD
  refine xif_ne hx hb 11 dX12_call_6 (by decide) hf (fun hf => ?_) (fun hf => ?_)
  · refine lv_iconst (v := (-1 : Int32)) hx hb dX12_call_9 (by decide) ?_
    cases hf
    exact mret_i hx hb hr hlocks hP hD hS dX12_call_10 rfl trivial
  · refine lv_aload_n hx hb dX12_call_11 rfl (lv_at hl 0 rfl) ?_
    obtain ⟨v_a_12, hg12, hf⟩ := ob1_some hf
    refine mcV1_v (As := []) (rest := []) hx hb hml hown hts hK hP hD hS hA (k_X12_keep l N D cI cJ cZ cB cT h q v_a v_image v_texts v_tape v_taped v_fault v_faultPlace v_at v_place v_token v_number v_word v_text0 v_written v_sort0 v_pile v_piled v_opens v_isWhole v_once v_named v_values v_truth v_isWritten v_died v_aside v_likely v_safe v_headOf v_a_12 hg12) (kwX12_349 hts rfl rfl ⟨Nat.le_of_ble_eq_true rfl, Nat.le_of_ble_eq_true rfl⟩) 0 rfl rfl rfl rfl hl.1 rfl (Nat.le_of_ble_eq_true rfl) dX12_call_12 ⟨Nat.zero_le _, Nat.zero_le _⟩ (fun H locs hP hD hS => ?_)
    have hP : va_P D vwCl (WM h q cI cJ cZ v_a_12 v_image v_texts v_tape v_taped v_fault v_faultPlace v_at v_place v_token v_number v_word v_text0 v_written v_sort0 v_pile v_piled v_opens v_isWhole v_once v_named v_values v_truth v_isWritten v_died v_aside v_likely v_safe v_headOf) H := hP
    have hD : va_D A (WM h q cI cJ cZ v_a_12 v_image v_texts v_tape v_taped v_fault v_faultPlace v_at v_place v_token v_number v_word v_text0 v_written v_sort0 v_pile v_piled v_opens v_isWhole v_once v_named v_values v_truth v_isWritten v_died v_aside v_likely v_safe v_headOf) := hD
    refine lv_aload_n hx hb dX12_call_15 rfl (lv_at hl 0 rfl) ?_
    refine lv_iload_n hx hb dX12_call_16 rfl (lv_at hl 1 rfl) ?_
    refine lv_iload_n hx hb dX12_call_17 rfl (lv_at hl 2 rfl) ?_
    obtain ⟨v_a_18, hg18, hf⟩ := ob1_some hf
    refine mcV1_v (As := [.int p1, .int p2]) (rest := []) hx hb hml hown hts hK hP hD hS hA (k_X12_callNow l N D cI cJ cZ cB cT h q v_a_12 v_image v_texts v_tape v_taped v_fault v_faultPlace v_at v_place v_token v_number v_word v_text0 v_written v_sort0 v_pile v_piled v_opens v_isWhole v_once v_named v_values v_truth v_isWritten v_died v_aside v_likely v_safe v_headOf p1 p2 v_a_18 hg18) (kwX12_352 hts rfl rfl ⟨Nat.le_of_ble_eq_true rfl, Nat.le_of_ble_eq_true rfl⟩) 0 rfl rfl rfl rfl hl.1 rfl (Nat.le_of_ble_eq_true rfl) dX12_call_18 ⟨Nat.zero_le _, Nat.zero_le _⟩ (fun H locs hP hD hS => ?_)
    have hP : va_P D vwCl (WM h q cI cJ cZ v_a_18 v_image v_texts v_tape v_taped v_fault v_faultPlace v_at v_place v_token v_number v_word v_text0 v_written v_sort0 v_pile v_piled v_opens v_isWhole v_once v_named v_values v_truth v_isWritten v_died v_aside v_likely v_safe v_headOf) H := hP
    have hD : va_D A (WM h q cI cJ cZ v_a_18 v_image v_texts v_tape v_taped v_fault v_faultPlace v_at v_place v_token v_number v_word v_text0 v_written v_sort0 v_pile v_piled v_opens v_isWhole v_once v_named v_values v_truth v_isWritten v_died v_aside v_likely v_safe v_headOf) := hD
    refine lv_aload_n hx hb dX12_call_21 rfl (lv_at hl 0 rfl) ?_
    refine lv_iload_n hx hb dX12_call_22 rfl (lv_at hl 1 rfl) ?_
    refine lv_iconst (v := (3 : Int32)) hx hb dX12_call_23 (by decide) ?_
    obtain ⟨r24, hg24, hf⟩ := ob1_some hf
    refine mcV1_i (As := [.int p1, .int (3 : Int32)]) (rest := []) hx hb hml hown hts hK hP hD hS hA (k_X12_get l N D cI cJ cZ cB cT h q v_a_18 v_image v_texts v_tape v_taped v_fault v_faultPlace v_at v_place v_token v_number v_word v_text0 v_written v_sort0 v_pile v_piled v_opens v_isWhole v_once v_named v_values v_truth v_isWritten v_died v_aside v_likely v_safe v_headOf p1 (3 : Int32) r24 hg24) (kwX12_71 hts rfl rfl ⟨Nat.le_of_ble_eq_true rfl, Nat.le_of_ble_eq_true rfl⟩) 0 rfl rfl rfl rfl hl.1 rfl (Nat.le_of_ble_eq_true rfl) dX12_call_24 ⟨Nat.zero_le _, Nat.zero_le _⟩ (fun hB24 H locs hP hD hS => ?_)
    have hP : va_P D vwCl (WM h q cI cJ cZ v_a_18 v_image v_texts v_tape v_taped v_fault v_faultPlace v_at v_place v_token v_number v_word v_text0 v_written v_sort0 v_pile v_piled v_opens v_isWhole v_once v_named v_values v_truth v_isWritten v_died v_aside v_likely v_safe v_headOf) H := hP
    have hD : va_D A (WM h q cI cJ cZ v_a_18 v_image v_texts v_tape v_taped v_fault v_faultPlace v_at v_place v_token v_number v_word v_text0 v_written v_sort0 v_pile v_piled v_opens v_isWhole v_once v_named v_values v_truth v_isWritten v_died v_aside v_likely v_safe v_headOf) := hD
    cases hf
    exact mret_i hx hb hr hlocks hP hD hS dX12_call_27 rfl trivial
theorem dX12_canMove_0 : decode cX12_canMove 0 = .ok (.aload_n 0, 1) := by decide +kernel
theorem dX12_canMove_1 : decode cX12_canMove 1 = .ok (.iload_n 1, 1) := by decide +kernel
theorem dX12_canMove_2 : decode cX12_canMove 2 = .ok (.invokevirtual 343, 3) := by decide +kernel
theorem dX12_canMove_5 : decode cX12_canMove 5 = .ok (.ifCond .eq 36, 3) := by decide +kernel
theorem dX12_canMove_8 : decode cX12_canMove 8 = .ok (.aload_n 0, 1) := by decide +kernel
theorem dX12_canMove_9 : decode cX12_canMove 9 = .ok (.iload_n 2, 1) := by decide +kernel
theorem dX12_canMove_10 : decode cX12_canMove 10 = .ok (.invokevirtual 75, 3) := by decide +kernel
theorem dX12_canMove_13 : decode cX12_canMove 13 = .ok (.ifCond .eq 28, 3) := by decide +kernel
theorem dX12_canMove_16 : decode cX12_canMove 16 = .ok (.aload_n 0, 1) := by decide +kernel
theorem dX12_canMove_17 : decode cX12_canMove 17 = .ok (.getfield 7, 3) := by decide +kernel
theorem dX12_canMove_20 : decode cX12_canMove 20 = .ok (.bipush 88, 2) := by decide +kernel
theorem dX12_canMove_22 : decode cX12_canMove 22 = .ok (.aload_n 0, 1) := by decide +kernel
theorem dX12_canMove_23 : decode cX12_canMove 23 = .ok (.iload_n 1, 1) := by decide +kernel
theorem dX12_canMove_24 : decode cX12_canMove 24 = .ok (.iconst 0, 1) := by decide +kernel
theorem dX12_canMove_25 : decode cX12_canMove 25 = .ok (.invokevirtual 71, 3) := by decide +kernel
theorem dX12_canMove_28 : decode cX12_canMove 28 = .ok (.iadd, 1) := by decide +kernel
theorem dX12_canMove_29 : decode cX12_canMove 29 = .ok (.iaload, 1) := by decide +kernel
theorem dX12_canMove_30 : decode cX12_canMove 30 = .ok (.iload_n 2, 1) := by decide +kernel
theorem dX12_canMove_31 : decode cX12_canMove 31 = .ok (.invokestatic 78, 3) := by decide +kernel
theorem dX12_canMove_34 : decode cX12_canMove 34 = .ok (.ifCond .eq 7, 3) := by decide +kernel
theorem dX12_canMove_37 : decode cX12_canMove 37 = .ok (.iconst 1, 1) := by decide +kernel
theorem dX12_canMove_38 : decode cX12_canMove 38 = .ok (.goto 4, 3) := by decide +kernel
theorem dX12_canMove_41 : decode cX12_canMove 41 = .ok (.iconst 0, 1) := by decide +kernel
theorem dX12_canMove_42 : decode cX12_canMove 42 = .ok (.ireturn, 1) := by decide +kernel
def f_X12_canMove (N : Nat) (v_a : Nat → Int32) (p1 : Int32) (p2 : Int32) : Option (Int32) := ob1 (f_X12_isAlive N v_a p1) fun r2 => if r2 = 0 then (some (0 : Int32)) else (ob1 (f_X12_isLand N v_a p2) fun r10 => if r10 = 0 then (some (0 : Int32)) else (ob1 (f_X12_get N v_a p1 (0 : Int32)) fun r25 => gA v_a 8762 ((88 : Int32) + r25) fun v29 => ob1 (f_X12_isWith N v29 p2) fun r31 => if r31 = 0 then (some (0 : Int32)) else (some (1 : Int32))))
set_option maxHeartbeats 4000000 in
set_option maxRecDepth 100000 in
theorem k_X12_canMove (l : Launch) (N : Nat) (D : va_G) (cI cJ cZ cB cT : ClassId) (h : Nat) (q : Nat → Nat) (v_a : Nat → Int32) (v_image : Nat → Int32) (v_texts : Nat → Int32) (v_tape : Nat → Int32) (v_taped : Int32) (v_fault : Int32) (v_faultPlace : Int32) (v_at : Int32) (v_place : Int32) (v_token : Int32) (v_number : Int32) (v_word : Int64) (v_text0 : Int32) (v_written : Int32) (v_sort0 : Int32) (v_pile : Nat → Int32) (v_piled : Int32) (v_opens : Int32) (v_isWhole : Int32) (v_once : Int32) (v_named : Nat → Int32) (v_values : Nat → Int64) (v_truth : Nat → Int32) (v_isWritten : Int32) (v_died : Int32) (v_aside : Nat → Int32) (v_likely : Nat → Int32) (v_safe : Nat → Int32) (v_headOf : Nat → Int32) (p1 : Int32) (p2 : Int32) (o_r : Int32) (hf : f_X12_canMove N v_a p1 p2 = some o_r) : ∀ sz, Met l yX12_canMove (mw yX12_canMove cX12_canMove 3 (some .boolean)) ({ frames := 3, cells := 0, slots := 0, locals := 64 } : Room) (mPre D (mT cI cJ cZ cB cT) (WM h q cI cJ cZ v_a v_image v_texts v_tape v_taped v_fault v_faultPlace v_at v_place v_token v_number v_word v_text0 v_written v_sort0 v_pile v_piled v_opens v_isWhole v_once v_named v_values v_truth v_isWritten v_died v_aside v_likely v_safe v_headOf) sz [.ref h, .int p1, .int p2]) ((mQi D (WM h q cI cJ cZ v_a v_image v_texts v_tape v_taped v_fault v_faultPlace v_at v_place v_token v_number v_word v_text0 v_written v_sort0 v_pile v_piled v_opens v_isWhole v_once v_named v_values v_truth v_isWritten v_died v_aside v_likely v_safe v_headOf) o_r (mB o_r)) (va_A (WM h q cI cJ cZ v_a v_image v_texts v_tape v_taped v_fault v_faultPlace v_at v_place v_token v_number v_word v_text0 v_written v_sort0 v_pile v_piled v_opens v_isWhole v_once v_named v_values v_truth v_isWritten v_died v_aside v_likely v_safe v_headOf) sz)) 0 0 (va_A (WM h q cI cJ cZ v_a v_image v_texts v_tape v_taped v_fault v_faultPlace v_at v_place v_token v_number v_word v_text0 v_written v_sort0 v_pile v_piled v_opens v_isWhole v_once v_named v_values v_truth v_isWritten v_died v_aside v_likely v_safe v_headOf) sz) := by
  refine mMet (Qc := (mQi D (WM h q cI cJ cZ v_a v_image v_texts v_tape v_taped v_fault v_faultPlace v_at v_place v_token v_number v_word v_text0 v_written v_sort0 v_pile v_piled v_opens v_isWhole v_once v_named v_values v_truth v_isWritten v_died v_aside v_likely v_safe v_headOf) o_r (mB o_r))) (by decide) (Nat.le_of_ble_eq_true rfl) (fun p e s m below meth c A ls hx hb hr hml hts hown hlocks hK hA hP hD hl => ?_)
  have hown : s.vm.findClass RX12 = some m.cls := hown
  have hl : lv_has ls 3 [(0, .ref h), (1, .int p1), (2, .int p2)] := hl
  have hS : va_S A s.heap s.heap [] := va_S.rf
  unfold f_X12_canMove at hf
  refine lv_aload_n hx hb dX12_canMove_0 rfl (lv_at hl 0 rfl) ?_
  refine lv_iload_n hx hb dX12_canMove_1 rfl (lv_at hl 1 rfl) ?_
  obtain ⟨r2, hg2, hf⟩ := ob1_some hf
  refine mcV1_i (As := [.int p1]) (rest := []) hx hb hml hown hts hK hP hD hS hA (k_X12_isAlive l N D cI cJ cZ cB cT h q v_a v_image v_texts v_tape v_taped v_fault v_faultPlace v_at v_place v_token v_number v_word v_text0 v_written v_sort0 v_pile v_piled v_opens v_isWhole v_once v_named v_values v_truth v_isWritten v_died v_aside v_likely v_safe v_headOf p1 r2 hg2) (kwX12_343 hts rfl rfl ⟨Nat.le_of_ble_eq_true rfl, Nat.le_of_ble_eq_true rfl⟩) 0 rfl rfl rfl rfl hl.1 rfl (Nat.le_of_ble_eq_true rfl) dX12_canMove_2 ⟨Nat.zero_le _, Nat.zero_le _⟩ (fun hB2 H locs hP hD hS => ?_)
  have hP : va_P D vwCl (WM h q cI cJ cZ v_a v_image v_texts v_tape v_taped v_fault v_faultPlace v_at v_place v_token v_number v_word v_text0 v_written v_sort0 v_pile v_piled v_opens v_isWhole v_once v_named v_values v_truth v_isWritten v_died v_aside v_likely v_safe v_headOf) H := hP
  have hD : va_D A (WM h q cI cJ cZ v_a v_image v_texts v_tape v_taped v_fault v_faultPlace v_at v_place v_token v_number v_word v_text0 v_written v_sort0 v_pile v_piled v_opens v_isWhole v_once v_named v_values v_truth v_isWritten v_died v_aside v_likely v_safe v_headOf) := hD
  refine xif_eq hx hb 41 dX12_canMove_5 (by decide) hf (fun hf => ?_) (fun hf => ?_)
  · refine lv_iconst (v := (0 : Int32)) hx hb dX12_canMove_41 (by decide) ?_
    cases hf
    exact mret_z hx hb hr hlocks hP hD hS dX12_canMove_42 rfl rfl
  · refine lv_aload_n hx hb dX12_canMove_8 rfl (lv_at hl 0 rfl) ?_
    refine lv_iload_n hx hb dX12_canMove_9 rfl (lv_at hl 2 rfl) ?_
    obtain ⟨r10, hg10, hf⟩ := ob1_some hf
    refine mcV1_i (As := [.int p2]) (rest := []) hx hb hml hown hts hK hP hD hS hA (k_X12_isLand l N D cI cJ cZ cB cT h q v_a v_image v_texts v_tape v_taped v_fault v_faultPlace v_at v_place v_token v_number v_word v_text0 v_written v_sort0 v_pile v_piled v_opens v_isWhole v_once v_named v_values v_truth v_isWritten v_died v_aside v_likely v_safe v_headOf p2 r10 hg10) (kwX12_75 hts rfl rfl ⟨Nat.le_of_ble_eq_true rfl, Nat.le_of_ble_eq_true rfl⟩) 0 rfl rfl rfl rfl hl.1 rfl (Nat.le_of_ble_eq_true rfl) dX12_canMove_10 ⟨Nat.zero_le _, Nat.zero_le _⟩ (fun hB10 H locs hP hD hS => ?_)
    have hP : va_P D vwCl (WM h q cI cJ cZ v_a v_image v_texts v_tape v_taped v_fault v_faultPlace v_at v_place v_token v_number v_word v_text0 v_written v_sort0 v_pile v_piled v_opens v_isWhole v_once v_named v_values v_truth v_isWritten v_died v_aside v_likely v_safe v_headOf) H := hP
    have hD : va_D A (WM h q cI cJ cZ v_a v_image v_texts v_tape v_taped v_fault v_faultPlace v_at v_place v_token v_number v_word v_text0 v_written v_sort0 v_pile v_piled v_opens v_isWhole v_once v_named v_values v_truth v_isWritten v_died v_aside v_likely v_safe v_headOf) := hD
    refine xif_eq hx hb 41 dX12_canMove_13 (by decide) hf (fun hf => ?_) (fun hf => ?_)
    · refine lv_iconst (v := (0 : Int32)) hx hb dX12_canMove_41 (by decide) ?_
      cases hf
      exact mret_z hx hb hr hlocks hP hD hS dX12_canMove_42 rfl rfl
    · refine lv_aload_n hx hb dX12_canMove_16 rfl (lv_at hl 0 rfl) ?_
      refine gfX12_7 hx hb hts hown hK hP 0 rfl rfl dX12_canMove_17 ?_
      refine lv_bipush (v := (88 : Int32)) hx hb dX12_canMove_20 (by decide) ?_
      refine lv_aload_n hx hb dX12_canMove_22 rfl (lv_at hl 0 rfl) ?_
      refine lv_iload_n hx hb dX12_canMove_23 rfl (lv_at hl 1 rfl) ?_
      refine lv_iconst (v := (0 : Int32)) hx hb dX12_canMove_24 (by decide) ?_
      obtain ⟨r25, hg25, hf⟩ := ob1_some hf
      refine mcV1_i (As := [.int p1, .int (0 : Int32)]) (rest := [.int (88 : Int32), .ref (q 0)]) hx hb hml hown hts hK hP hD hS hA (k_X12_get l N D cI cJ cZ cB cT h q v_a v_image v_texts v_tape v_taped v_fault v_faultPlace v_at v_place v_token v_number v_word v_text0 v_written v_sort0 v_pile v_piled v_opens v_isWhole v_once v_named v_values v_truth v_isWritten v_died v_aside v_likely v_safe v_headOf p1 (0 : Int32) r25 hg25) (kwX12_71 hts rfl rfl ⟨Nat.le_of_ble_eq_true rfl, Nat.le_of_ble_eq_true rfl⟩) 0 rfl rfl rfl rfl hl.1 rfl (Nat.le_of_ble_eq_true rfl) dX12_canMove_25 ⟨Nat.zero_le _, Nat.zero_le _⟩ (fun hB25 H locs hP hD hS => ?_)
      have hP : va_P D vwCl (WM h q cI cJ cZ v_a v_image v_texts v_tape v_taped v_fault v_faultPlace v_at v_place v_token v_number v_word v_text0 v_written v_sort0 v_pile v_piled v_opens v_isWhole v_once v_named v_values v_truth v_isWritten v_died v_aside v_likely v_safe v_headOf) H := hP
      have hD : va_D A (WM h q cI cJ cZ v_a v_image v_texts v_tape v_taped v_fault v_faultPlace v_at v_place v_token v_number v_word v_text0 v_written v_sort0 v_pile v_piled v_opens v_isWhole v_once v_named v_values v_truth v_isWritten v_died v_aside v_likely v_safe v_headOf) := hD
      refine lv_iadd hx hb dX12_canMove_28 ?_
      refine xiald hx hb hK hP 1 0 rfl rfl dX12_canMove_29 hf (fun v29 hf => ?_)
      refine lv_iload_n hx hb dX12_canMove_30 rfl (lv_at hl 2 rfl) ?_
      obtain ⟨r31, hg31, hf⟩ := ob1_some hf
      refine mcS0_i (As := [.int v29, .int p2]) (rest := []) hx hb hml hown hts hK hP hD hS hA (k_X12_isWith l N D cI cJ cZ cB cT v29 p2 r31 hg31) (kwX12_78 hts rfl rfl ⟨Nat.le_of_ble_eq_true rfl, Nat.le_of_ble_eq_true rfl⟩) rfl hl.1 rfl (Nat.le_of_ble_eq_true rfl) dX12_canMove_31 ⟨Nat.zero_le _, Nat.zero_le _⟩ (fun hB31 H locs hP hD hS => ?_)
      refine xif_eq hx hb 41 dX12_canMove_34 (by decide) hf (fun hf => ?_) (fun hf => ?_)
      · refine lv_iconst (v := (0 : Int32)) hx hb dX12_canMove_41 (by decide) ?_
        cases hf
        exact mret_z hx hb hr hlocks hP hD hS dX12_canMove_42 rfl rfl
      · refine lv_iconst (v := (1 : Int32)) hx hb dX12_canMove_37 (by decide) ?_
        refine lv_goto (tgt := 42) hx hb dX12_canMove_38 (by decide) ?_
        cases hf
        exact mret_z hx hb hr hlocks hP hD hS dX12_canMove_42 rfl rfl
theorem dX12_move_0 : decode cX12_move 0 = .ok (.aload_n 0, 1) := by decide +kernel
theorem dX12_move_1 : decode cX12_move 1 = .ok (.iload_n 1, 1) := by decide +kernel
theorem dX12_move_2 : decode cX12_move 2 = .ok (.iload_n 2, 1) := by decide +kernel
theorem dX12_move_3 : decode cX12_move 3 = .ok (.invokevirtual 355, 3) := by decide +kernel
theorem dX12_move_6 : decode cX12_move 6 = .ok (.ifCond .ne 5, 3) := by decide +kernel
theorem dX12_move_9 : decode cX12_move 9 = .ok (.iconst 0, 1) := by decide +kernel
theorem dX12_move_10 : decode cX12_move 10 = .ok (.ireturn, 1) := by decide +kernel
theorem dX12_move_11 : decode cX12_move 11 = .ok (.aload_n 0, 1) := by decide +kernel
theorem dX12_move_12 : decode cX12_move 12 = .ok (.invokevirtual 349, 3) := by decide +kernel
theorem dX12_move_15 : decode cX12_move 15 = .ok (.aload_n 0, 1) := by decide +kernel
theorem dX12_move_16 : decode cX12_move 16 = .ok (.iload_n 1, 1) := by decide +kernel
theorem dX12_move_17 : decode cX12_move 17 = .ok (.iconst 0, 1) := by decide +kernel
theorem dX12_move_18 : decode cX12_move 18 = .ok (.iload_n 2, 1) := by decide +kernel
theorem dX12_move_19 : decode cX12_move 19 = .ok (.invokevirtual 82, 3) := by decide +kernel
theorem dX12_move_22 : decode cX12_move 22 = .ok (.iconst 1, 1) := by decide +kernel
theorem dX12_move_23 : decode cX12_move 23 = .ok (.ireturn, 1) := by decide +kernel
def f_X12_move (N : Nat) (v_a : Nat → Int32) (p1 : Int32) (p2 : Int32) : Option (Int32 × (Nat → Int32)) := ob1 (f_X12_canMove N v_a p1 p2) fun r3 => if r3 = 0 then (some ((0 : Int32), v_a)) else (ob1 (f_X12_keep N v_a) fun v_a_12 => ob1 (f_X12_put N v_a_12 p1 (0 : Int32) p2) fun v_a_19 => some ((1 : Int32), v_a_19))
set_option maxHeartbeats 4000000 in
set_option maxRecDepth 100000 in
theorem k_X12_move (l : Launch) (N : Nat) (D : va_G) (cI cJ cZ cB cT : ClassId) (h : Nat) (q : Nat → Nat) (v_a : Nat → Int32) (v_image : Nat → Int32) (v_texts : Nat → Int32) (v_tape : Nat → Int32) (v_taped : Int32) (v_fault : Int32) (v_faultPlace : Int32) (v_at : Int32) (v_place : Int32) (v_token : Int32) (v_number : Int32) (v_word : Int64) (v_text0 : Int32) (v_written : Int32) (v_sort0 : Int32) (v_pile : Nat → Int32) (v_piled : Int32) (v_opens : Int32) (v_isWhole : Int32) (v_once : Int32) (v_named : Nat → Int32) (v_values : Nat → Int64) (v_truth : Nat → Int32) (v_isWritten : Int32) (v_died : Int32) (v_aside : Nat → Int32) (v_likely : Nat → Int32) (v_safe : Nat → Int32) (v_headOf : Nat → Int32) (p1 : Int32) (p2 : Int32) (o_r : Int32) (o_v_a : Nat → Int32) (hf : f_X12_move N v_a p1 p2 = some (o_r, o_v_a)) : ∀ sz, Met l yX12_move (mw yX12_move cX12_move 3 (some .boolean)) ({ frames := 4, cells := 0, slots := 0, locals := 86 } : Room) (mPre D (mT cI cJ cZ cB cT) (WM h q cI cJ cZ v_a v_image v_texts v_tape v_taped v_fault v_faultPlace v_at v_place v_token v_number v_word v_text0 v_written v_sort0 v_pile v_piled v_opens v_isWhole v_once v_named v_values v_truth v_isWritten v_died v_aside v_likely v_safe v_headOf) sz [.ref h, .int p1, .int p2]) ((mQi D (WM h q cI cJ cZ o_v_a v_image v_texts v_tape v_taped v_fault v_faultPlace v_at v_place v_token v_number v_word v_text0 v_written v_sort0 v_pile v_piled v_opens v_isWhole v_once v_named v_values v_truth v_isWritten v_died v_aside v_likely v_safe v_headOf) o_r (mB o_r)) (va_A (WM h q cI cJ cZ v_a v_image v_texts v_tape v_taped v_fault v_faultPlace v_at v_place v_token v_number v_word v_text0 v_written v_sort0 v_pile v_piled v_opens v_isWhole v_once v_named v_values v_truth v_isWritten v_died v_aside v_likely v_safe v_headOf) sz)) 0 0 (va_A (WM h q cI cJ cZ v_a v_image v_texts v_tape v_taped v_fault v_faultPlace v_at v_place v_token v_number v_word v_text0 v_written v_sort0 v_pile v_piled v_opens v_isWhole v_once v_named v_values v_truth v_isWritten v_died v_aside v_likely v_safe v_headOf) sz) := by
  refine mMet (Qc := (mQi D (WM h q cI cJ cZ o_v_a v_image v_texts v_tape v_taped v_fault v_faultPlace v_at v_place v_token v_number v_word v_text0 v_written v_sort0 v_pile v_piled v_opens v_isWhole v_once v_named v_values v_truth v_isWritten v_died v_aside v_likely v_safe v_headOf) o_r (mB o_r))) (by decide) (Nat.le_of_ble_eq_true rfl) (fun p e s m below meth c A ls hx hb hr hml hts hown hlocks hK hA hP hD hl => ?_)
  have hown : s.vm.findClass RX12 = some m.cls := hown
  have hl : lv_has ls 3 [(0, .ref h), (1, .int p1), (2, .int p2)] := hl
  have hS : va_S A s.heap s.heap [] := va_S.rf
  unfold f_X12_move at hf
  refine lv_aload_n hx hb dX12_move_0 rfl (lv_at hl 0 rfl) ?_
  refine lv_iload_n hx hb dX12_move_1 rfl (lv_at hl 1 rfl) ?_
  refine lv_iload_n hx hb dX12_move_2 rfl (lv_at hl 2 rfl) ?_
  obtain ⟨r3, hg3, hf⟩ := ob1_some hf
  refine mcV1_i (As := [.int p1, .int p2]) (rest := []) hx hb hml hown hts hK hP hD hS hA (k_X12_canMove l N D cI cJ cZ cB cT h q v_a v_image v_texts v_tape v_taped v_fault v_faultPlace v_at v_place v_token v_number v_word v_text0 v_written v_sort0 v_pile v_piled v_opens v_isWhole v_once v_named v_values v_truth v_isWritten v_died v_aside v_likely v_safe v_headOf p1 p2 r3 hg3) (kwX12_355 hts rfl rfl ⟨Nat.le_of_ble_eq_true rfl, Nat.le_of_ble_eq_true rfl⟩) 0 rfl rfl rfl rfl hl.1 rfl (Nat.le_of_ble_eq_true rfl) dX12_move_3 ⟨Nat.zero_le _, Nat.zero_le _⟩ (fun hB3 H locs hP hD hS => ?_)
  have hP : va_P D vwCl (WM h q cI cJ cZ v_a v_image v_texts v_tape v_taped v_fault v_faultPlace v_at v_place v_token v_number v_word v_text0 v_written v_sort0 v_pile v_piled v_opens v_isWhole v_once v_named v_values v_truth v_isWritten v_died v_aside v_likely v_safe v_headOf) H := hP
  have hD : va_D A (WM h q cI cJ cZ v_a v_image v_texts v_tape v_taped v_fault v_faultPlace v_at v_place v_token v_number v_word v_text0 v_written v_sort0 v_pile v_piled v_opens v_isWhole v_once v_named v_values v_truth v_isWritten v_died v_aside v_likely v_safe v_headOf) := hD
  refine xif_ne hx hb 11 dX12_move_6 (by decide) hf (fun hf => ?_) (fun hf => ?_)
  · refine lv_iconst (v := (0 : Int32)) hx hb dX12_move_9 (by decide) ?_
    cases hf
    exact mret_z hx hb hr hlocks hP hD hS dX12_move_10 rfl rfl
  · refine lv_aload_n hx hb dX12_move_11 rfl (lv_at hl 0 rfl) ?_
    obtain ⟨v_a_12, hg12, hf⟩ := ob1_some hf
    refine mcV1_v (As := []) (rest := []) hx hb hml hown hts hK hP hD hS hA (k_X12_keep l N D cI cJ cZ cB cT h q v_a v_image v_texts v_tape v_taped v_fault v_faultPlace v_at v_place v_token v_number v_word v_text0 v_written v_sort0 v_pile v_piled v_opens v_isWhole v_once v_named v_values v_truth v_isWritten v_died v_aside v_likely v_safe v_headOf v_a_12 hg12) (kwX12_349 hts rfl rfl ⟨Nat.le_of_ble_eq_true rfl, Nat.le_of_ble_eq_true rfl⟩) 0 rfl rfl rfl rfl hl.1 rfl (Nat.le_of_ble_eq_true rfl) dX12_move_12 ⟨Nat.zero_le _, Nat.zero_le _⟩ (fun H locs hP hD hS => ?_)
    have hP : va_P D vwCl (WM h q cI cJ cZ v_a_12 v_image v_texts v_tape v_taped v_fault v_faultPlace v_at v_place v_token v_number v_word v_text0 v_written v_sort0 v_pile v_piled v_opens v_isWhole v_once v_named v_values v_truth v_isWritten v_died v_aside v_likely v_safe v_headOf) H := hP
    have hD : va_D A (WM h q cI cJ cZ v_a_12 v_image v_texts v_tape v_taped v_fault v_faultPlace v_at v_place v_token v_number v_word v_text0 v_written v_sort0 v_pile v_piled v_opens v_isWhole v_once v_named v_values v_truth v_isWritten v_died v_aside v_likely v_safe v_headOf) := hD
    refine lv_aload_n hx hb dX12_move_15 rfl (lv_at hl 0 rfl) ?_
    refine lv_iload_n hx hb dX12_move_16 rfl (lv_at hl 1 rfl) ?_
    refine lv_iconst (v := (0 : Int32)) hx hb dX12_move_17 (by decide) ?_
    refine lv_iload_n hx hb dX12_move_18 rfl (lv_at hl 2 rfl) ?_
    obtain ⟨v_a_19, hg19, hf⟩ := ob1_some hf
    refine mcV1_v (As := [.int p1, .int (0 : Int32), .int p2]) (rest := []) hx hb hml hown hts hK hP hD hS hA (k_X12_put l N D cI cJ cZ cB cT h q v_a_12 v_image v_texts v_tape v_taped v_fault v_faultPlace v_at v_place v_token v_number v_word v_text0 v_written v_sort0 v_pile v_piled v_opens v_isWhole v_once v_named v_values v_truth v_isWritten v_died v_aside v_likely v_safe v_headOf p1 (0 : Int32) p2 v_a_19 hg19) (kwX12_82 hts rfl rfl ⟨Nat.le_of_ble_eq_true rfl, Nat.le_of_ble_eq_true rfl⟩) 0 rfl rfl rfl rfl hl.1 rfl (Nat.le_of_ble_eq_true rfl) dX12_move_19 ⟨Nat.zero_le _, Nat.zero_le _⟩ (fun H locs hP hD hS => ?_)
    have hP : va_P D vwCl (WM h q cI cJ cZ v_a_19 v_image v_texts v_tape v_taped v_fault v_faultPlace v_at v_place v_token v_number v_word v_text0 v_written v_sort0 v_pile v_piled v_opens v_isWhole v_once v_named v_values v_truth v_isWritten v_died v_aside v_likely v_safe v_headOf) H := hP
    have hD : va_D A (WM h q cI cJ cZ v_a_19 v_image v_texts v_tape v_taped v_fault v_faultPlace v_at v_place v_token v_number v_word v_text0 v_written v_sort0 v_pile v_piled v_opens v_isWhole v_once v_named v_values v_truth v_isWritten v_died v_aside v_likely v_safe v_headOf) := hD
    refine lv_iconst (v := (1 : Int32)) hx hb dX12_move_22 (by decide) ?_
    cases hf
    exact mret_z hx hb hr hlocks hP hD hS dX12_move_23 rfl rfl
theorem dX12_areBeside_0 : decode cX12_areBeside 0 = .ok (.aload_n 0, 1) := by decide +kernel
theorem dX12_areBeside_1 : decode cX12_areBeside 1 = .ok (.iload_n 1, 1) := by decide +kernel
theorem dX12_areBeside_2 : decode cX12_areBeside 2 = .ok (.invokevirtual 358, 3) := by decide +kernel
theorem dX12_areBeside_5 : decode cX12_areBeside 5 = .ok (.ifCond .eq 35, 3) := by decide +kernel
theorem dX12_areBeside_8 : decode cX12_areBeside 8 = .ok (.aload_n 0, 1) := by decide +kernel
theorem dX12_areBeside_9 : decode cX12_areBeside 9 = .ok (.iload_n 2, 1) := by decide +kernel
theorem dX12_areBeside_10 : decode cX12_areBeside 10 = .ok (.invokevirtual 343, 3) := by decide +kernel
theorem dX12_areBeside_13 : decode cX12_areBeside 13 = .ok (.ifCond .eq 27, 3) := by decide +kernel
theorem dX12_areBeside_16 : decode cX12_areBeside 16 = .ok (.iload_n 1, 1) := by decide +kernel
theorem dX12_areBeside_17 : decode cX12_areBeside 17 = .ok (.iload_n 2, 1) := by decide +kernel
theorem dX12_areBeside_18 : decode cX12_areBeside 18 = .ok (.if_icmp .eq 22, 3) := by decide +kernel
theorem dX12_areBeside_21 : decode cX12_areBeside 21 = .ok (.aload_n 0, 1) := by decide +kernel
theorem dX12_areBeside_22 : decode cX12_areBeside 22 = .ok (.iload_n 1, 1) := by decide +kernel
theorem dX12_areBeside_23 : decode cX12_areBeside 23 = .ok (.iconst 0, 1) := by decide +kernel
theorem dX12_areBeside_24 : decode cX12_areBeside 24 = .ok (.invokevirtual 71, 3) := by decide +kernel
theorem dX12_areBeside_27 : decode cX12_areBeside 27 = .ok (.aload_n 0, 1) := by decide +kernel
theorem dX12_areBeside_28 : decode cX12_areBeside 28 = .ok (.iload_n 2, 1) := by decide +kernel
theorem dX12_areBeside_29 : decode cX12_areBeside 29 = .ok (.iconst 0, 1) := by decide +kernel
theorem dX12_areBeside_30 : decode cX12_areBeside 30 = .ok (.invokevirtual 71, 3) := by decide +kernel
theorem dX12_areBeside_33 : decode cX12_areBeside 33 = .ok (.if_icmp .ne 7, 3) := by decide +kernel
theorem dX12_areBeside_36 : decode cX12_areBeside 36 = .ok (.iconst 1, 1) := by decide +kernel
theorem dX12_areBeside_37 : decode cX12_areBeside 37 = .ok (.goto 4, 3) := by decide +kernel
theorem dX12_areBeside_40 : decode cX12_areBeside 40 = .ok (.iconst 0, 1) := by decide +kernel
theorem dX12_areBeside_41 : decode cX12_areBeside 41 = .ok (.ireturn, 1) := by decide +kernel
def f_X12_areBeside (N : Nat) (v_a : Nat → Int32) (p1 : Int32) (p2 : Int32) : Option (Int32) := ob1 (f_X12_isOutlaw N v_a p1) fun r2 => if r2 = 0 then (some (0 : Int32)) else (ob1 (f_X12_isAlive N v_a p2) fun r10 => if r10 = 0 then (some (0 : Int32)) else (if p1 = p2 then (some (0 : Int32)) else (ob1 (f_X12_get N v_a p1 (0 : Int32)) fun r24 => ob1 (f_X12_get N v_a p2 (0 : Int32)) fun r30 => if r24 = r30 then (some (1 : Int32)) else (some (0 : Int32)))))
set_option maxHeartbeats 4000000 in
set_option maxRecDepth 100000 in
theorem k_X12_areBeside (l : Launch) (N : Nat) (D : va_G) (cI cJ cZ cB cT : ClassId) (h : Nat) (q : Nat → Nat) (v_a : Nat → Int32) (v_image : Nat → Int32) (v_texts : Nat → Int32) (v_tape : Nat → Int32) (v_taped : Int32) (v_fault : Int32) (v_faultPlace : Int32) (v_at : Int32) (v_place : Int32) (v_token : Int32) (v_number : Int32) (v_word : Int64) (v_text0 : Int32) (v_written : Int32) (v_sort0 : Int32) (v_pile : Nat → Int32) (v_piled : Int32) (v_opens : Int32) (v_isWhole : Int32) (v_once : Int32) (v_named : Nat → Int32) (v_values : Nat → Int64) (v_truth : Nat → Int32) (v_isWritten : Int32) (v_died : Int32) (v_aside : Nat → Int32) (v_likely : Nat → Int32) (v_safe : Nat → Int32) (v_headOf : Nat → Int32) (p1 : Int32) (p2 : Int32) (o_r : Int32) (hf : f_X12_areBeside N v_a p1 p2 = some o_r) : ∀ sz, Met l yX12_areBeside (mw yX12_areBeside cX12_areBeside 3 (some .boolean)) ({ frames := 3, cells := 0, slots := 0, locals := 64 } : Room) (mPre D (mT cI cJ cZ cB cT) (WM h q cI cJ cZ v_a v_image v_texts v_tape v_taped v_fault v_faultPlace v_at v_place v_token v_number v_word v_text0 v_written v_sort0 v_pile v_piled v_opens v_isWhole v_once v_named v_values v_truth v_isWritten v_died v_aside v_likely v_safe v_headOf) sz [.ref h, .int p1, .int p2]) ((mQi D (WM h q cI cJ cZ v_a v_image v_texts v_tape v_taped v_fault v_faultPlace v_at v_place v_token v_number v_word v_text0 v_written v_sort0 v_pile v_piled v_opens v_isWhole v_once v_named v_values v_truth v_isWritten v_died v_aside v_likely v_safe v_headOf) o_r (mB o_r)) (va_A (WM h q cI cJ cZ v_a v_image v_texts v_tape v_taped v_fault v_faultPlace v_at v_place v_token v_number v_word v_text0 v_written v_sort0 v_pile v_piled v_opens v_isWhole v_once v_named v_values v_truth v_isWritten v_died v_aside v_likely v_safe v_headOf) sz)) 0 0 (va_A (WM h q cI cJ cZ v_a v_image v_texts v_tape v_taped v_fault v_faultPlace v_at v_place v_token v_number v_word v_text0 v_written v_sort0 v_pile v_piled v_opens v_isWhole v_once v_named v_values v_truth v_isWritten v_died v_aside v_likely v_safe v_headOf) sz) := by
  refine mMet (Qc := (mQi D (WM h q cI cJ cZ v_a v_image v_texts v_tape v_taped v_fault v_faultPlace v_at v_place v_token v_number v_word v_text0 v_written v_sort0 v_pile v_piled v_opens v_isWhole v_once v_named v_values v_truth v_isWritten v_died v_aside v_likely v_safe v_headOf) o_r (mB o_r))) (by decide) (Nat.le_of_ble_eq_true rfl) (fun p e s m below meth c A ls hx hb hr hml hts hown hlocks hK hA hP hD hl => ?_)
  have hown : s.vm.findClass RX12 = some m.cls := hown
  have hl : lv_has ls 3 [(0, .ref h), (1, .int p1), (2, .int p2)] := hl
  have hS : va_S A s.heap s.heap [] := va_S.rf
  unfold f_X12_areBeside at hf
  refine lv_aload_n hx hb dX12_areBeside_0 rfl (lv_at hl 0 rfl) ?_
  refine lv_iload_n hx hb dX12_areBeside_1 rfl (lv_at hl 1 rfl) ?_
  obtain ⟨r2, hg2, hf⟩ := ob1_some hf
  refine mcV1_i (As := [.int p1]) (rest := []) hx hb hml hown hts hK hP hD hS hA (k_X12_isOutlaw l N D cI cJ cZ cB cT h q v_a v_image v_texts v_tape v_taped v_fault v_faultPlace v_at v_place v_token v_number v_word v_text0 v_written v_sort0 v_pile v_piled v_opens v_isWhole v_once v_named v_values v_truth v_isWritten v_died v_aside v_likely v_safe v_headOf p1 r2 hg2) (kwX12_358 hts rfl rfl ⟨Nat.le_of_ble_eq_true rfl, Nat.le_of_ble_eq_true rfl⟩) 0 rfl rfl rfl rfl hl.1 rfl (Nat.le_of_ble_eq_true rfl) dX12_areBeside_2 ⟨Nat.zero_le _, Nat.zero_le _⟩ (fun hB2 H locs hP hD hS => ?_)
  have hP : va_P D vwCl (WM h q cI cJ cZ v_a v_image v_texts v_tape v_taped v_fault v_faultPlace v_at v_place v_token v_number v_word v_text0 v_written v_sort0 v_pile v_piled v_opens v_isWhole v_once v_named v_values v_truth v_isWritten v_died v_aside v_likely v_safe v_headOf) H := hP
  have hD : va_D A (WM h q cI cJ cZ v_a v_image v_texts v_tape v_taped v_fault v_faultPlace v_at v_place v_token v_number v_word v_text0 v_written v_sort0 v_pile v_piled v_opens v_isWhole v_once v_named v_values v_truth v_isWritten v_died v_aside v_likely v_safe v_headOf) := hD
  refine xif_eq hx hb 40 dX12_areBeside_5 (by decide) hf (fun hf => ?_) (fun hf => ?_)
  · refine lv_iconst (v := (0 : Int32)) hx hb dX12_areBeside_40 (by decide) ?_
    cases hf
    exact mret_z hx hb hr hlocks hP hD hS dX12_areBeside_41 rfl rfl
  · refine lv_aload_n hx hb dX12_areBeside_8 rfl (lv_at hl 0 rfl) ?_
    refine lv_iload_n hx hb dX12_areBeside_9 rfl (lv_at hl 2 rfl) ?_
    obtain ⟨r10, hg10, hf⟩ := ob1_some hf
    refine mcV1_i (As := [.int p2]) (rest := []) hx hb hml hown hts hK hP hD hS hA (k_X12_isAlive l N D cI cJ cZ cB cT h q v_a v_image v_texts v_tape v_taped v_fault v_faultPlace v_at v_place v_token v_number v_word v_text0 v_written v_sort0 v_pile v_piled v_opens v_isWhole v_once v_named v_values v_truth v_isWritten v_died v_aside v_likely v_safe v_headOf p2 r10 hg10) (kwX12_343 hts rfl rfl ⟨Nat.le_of_ble_eq_true rfl, Nat.le_of_ble_eq_true rfl⟩) 0 rfl rfl rfl rfl hl.1 rfl (Nat.le_of_ble_eq_true rfl) dX12_areBeside_10 ⟨Nat.zero_le _, Nat.zero_le _⟩ (fun hB10 H locs hP hD hS => ?_)
    have hP : va_P D vwCl (WM h q cI cJ cZ v_a v_image v_texts v_tape v_taped v_fault v_faultPlace v_at v_place v_token v_number v_word v_text0 v_written v_sort0 v_pile v_piled v_opens v_isWhole v_once v_named v_values v_truth v_isWritten v_died v_aside v_likely v_safe v_headOf) H := hP
    have hD : va_D A (WM h q cI cJ cZ v_a v_image v_texts v_tape v_taped v_fault v_faultPlace v_at v_place v_token v_number v_word v_text0 v_written v_sort0 v_pile v_piled v_opens v_isWhole v_once v_named v_values v_truth v_isWritten v_died v_aside v_likely v_safe v_headOf) := hD
    refine xif_eq hx hb 40 dX12_areBeside_13 (by decide) hf (fun hf => ?_) (fun hf => ?_)
    · refine lv_iconst (v := (0 : Int32)) hx hb dX12_areBeside_40 (by decide) ?_
      cases hf
      exact mret_z hx hb hr hlocks hP hD hS dX12_areBeside_41 rfl rfl
    · refine lv_iload_n hx hb dX12_areBeside_16 rfl (lv_at hl 1 rfl) ?_
      refine lv_iload_n hx hb dX12_areBeside_17 rfl (lv_at hl 2 rfl) ?_
      refine xicmp_eq hx hb 40 dX12_areBeside_18 (by decide) hf (fun hf => ?_) (fun hf => ?_)
      · refine lv_iconst (v := (0 : Int32)) hx hb dX12_areBeside_40 (by decide) ?_
        cases hf
        exact mret_z hx hb hr hlocks hP hD hS dX12_areBeside_41 rfl rfl
      · refine lv_aload_n hx hb dX12_areBeside_21 rfl (lv_at hl 0 rfl) ?_
        refine lv_iload_n hx hb dX12_areBeside_22 rfl (lv_at hl 1 rfl) ?_
        refine lv_iconst (v := (0 : Int32)) hx hb dX12_areBeside_23 (by decide) ?_
        obtain ⟨r24, hg24, hf⟩ := ob1_some hf
        refine mcV1_i (As := [.int p1, .int (0 : Int32)]) (rest := []) hx hb hml hown hts hK hP hD hS hA (k_X12_get l N D cI cJ cZ cB cT h q v_a v_image v_texts v_tape v_taped v_fault v_faultPlace v_at v_place v_token v_number v_word v_text0 v_written v_sort0 v_pile v_piled v_opens v_isWhole v_once v_named v_values v_truth v_isWritten v_died v_aside v_likely v_safe v_headOf p1 (0 : Int32) r24 hg24) (kwX12_71 hts rfl rfl ⟨Nat.le_of_ble_eq_true rfl, Nat.le_of_ble_eq_true rfl⟩) 0 rfl rfl rfl rfl hl.1 rfl (Nat.le_of_ble_eq_true rfl) dX12_areBeside_24 ⟨Nat.zero_le _, Nat.zero_le _⟩ (fun hB24 H locs hP hD hS => ?_)
        have hP : va_P D vwCl (WM h q cI cJ cZ v_a v_image v_texts v_tape v_taped v_fault v_faultPlace v_at v_place v_token v_number v_word v_text0 v_written v_sort0 v_pile v_piled v_opens v_isWhole v_once v_named v_values v_truth v_isWritten v_died v_aside v_likely v_safe v_headOf) H := hP
        have hD : va_D A (WM h q cI cJ cZ v_a v_image v_texts v_tape v_taped v_fault v_faultPlace v_at v_place v_token v_number v_word v_text0 v_written v_sort0 v_pile v_piled v_opens v_isWhole v_once v_named v_values v_truth v_isWritten v_died v_aside v_likely v_safe v_headOf) := hD
        refine lv_aload_n hx hb dX12_areBeside_27 rfl (lv_at hl 0 rfl) ?_
        refine lv_iload_n hx hb dX12_areBeside_28 rfl (lv_at hl 2 rfl) ?_
        refine lv_iconst (v := (0 : Int32)) hx hb dX12_areBeside_29 (by decide) ?_
        obtain ⟨r30, hg30, hf⟩ := ob1_some hf
        refine mcV1_i (As := [.int p2, .int (0 : Int32)]) (rest := [.int r24]) hx hb hml hown hts hK hP hD hS hA (k_X12_get l N D cI cJ cZ cB cT h q v_a v_image v_texts v_tape v_taped v_fault v_faultPlace v_at v_place v_token v_number v_word v_text0 v_written v_sort0 v_pile v_piled v_opens v_isWhole v_once v_named v_values v_truth v_isWritten v_died v_aside v_likely v_safe v_headOf p2 (0 : Int32) r30 hg30) (kwX12_71 hts rfl rfl ⟨Nat.le_of_ble_eq_true rfl, Nat.le_of_ble_eq_true rfl⟩) 0 rfl rfl rfl rfl hl.1 rfl (Nat.le_of_ble_eq_true rfl) dX12_areBeside_30 ⟨Nat.zero_le _, Nat.zero_le _⟩ (fun hB30 H locs hP hD hS => ?_)
        have hP : va_P D vwCl (WM h q cI cJ cZ v_a v_image v_texts v_tape v_taped v_fault v_faultPlace v_at v_place v_token v_number v_word v_text0 v_written v_sort0 v_pile v_piled v_opens v_isWhole v_once v_named v_values v_truth v_isWritten v_died v_aside v_likely v_safe v_headOf) H := hP
        have hD : va_D A (WM h q cI cJ cZ v_a v_image v_texts v_tape v_taped v_fault v_faultPlace v_at v_place v_token v_number v_word v_text0 v_written v_sort0 v_pile v_piled v_opens v_isWhole v_once v_named v_values v_truth v_isWritten v_died v_aside v_likely v_safe v_headOf) := hD
        refine xicmp_ne hx hb 40 dX12_areBeside_33 (by decide) hf (fun hf => ?_) (fun hf => ?_)
        · refine lv_iconst (v := (1 : Int32)) hx hb dX12_areBeside_36 (by decide) ?_
          refine lv_goto (tgt := 41) hx hb dX12_areBeside_37 (by decide) ?_
          cases hf
          exact mret_z hx hb hr hlocks hP hD hS dX12_areBeside_41 rfl rfl
        · refine lv_iconst (v := (0 : Int32)) hx hb dX12_areBeside_40 (by decide) ?_
          cases hf
          exact mret_z hx hb hr hlocks hP hD hS dX12_areBeside_41 rfl rfl
theorem dX12_feedNow_0 : decode cX12_feedNow 0 = .ok (.aload_n 0, 1) := by decide +kernel
theorem dX12_feedNow_1 : decode cX12_feedNow 1 = .ok (.iload_n 1, 1) := by decide +kernel
theorem dX12_feedNow_2 : decode cX12_feedNow 2 = .ok (.iconst 4, 1) := by decide +kernel
theorem dX12_feedNow_3 : decode cX12_feedNow 3 = .ok (.iconst 0, 1) := by decide +kernel
theorem dX12_feedNow_4 : decode cX12_feedNow 4 = .ok (.invokevirtual 82, 3) := by decide +kernel
theorem dX12_feedNow_7 : decode cX12_feedNow 7 = .ok (.aload_n 0, 1) := by decide +kernel
theorem dX12_feedNow_8 : decode cX12_feedNow 8 = .ok (.iload_n 1, 1) := by decide +kernel
theorem dX12_feedNow_9 : decode cX12_feedNow 9 = .ok (.iconst 2, 1) := by decide +kernel
theorem dX12_feedNow_10 : decode cX12_feedNow 10 = .ok (.invokevirtual 319, 3) := by decide +kernel
theorem dX12_feedNow_13 : decode cX12_feedNow 13 = .ok (.aload_n 0, 1) := by decide +kernel
theorem dX12_feedNow_14 : decode cX12_feedNow 14 = .ok (.iload_n 2, 1) := by decide +kernel
theorem dX12_feedNow_15 : decode cX12_feedNow 15 = .ok (.bipush 6, 2) := by decide +kernel
theorem dX12_feedNow_17 : decode cX12_feedNow 17 = .ok (.invokevirtual 71, 3) := by decide +kernel
theorem dX12_feedNow_20 : decode cX12_feedNow 20 = .ok (.iconst 1, 1) := by decide +kernel
theorem dX12_feedNow_21 : decode cX12_feedNow 21 = .ok (.if_icmp .ne 4, 3) := by decide +kernel
theorem dX12_feedNow_24 : decode cX12_feedNow 24 = .ok (.return_, 1) := by decide +kernel
theorem dX12_feedNow_25 : decode cX12_feedNow 25 = .ok (.aload_n 0, 1) := by decide +kernel
theorem dX12_feedNow_26 : decode cX12_feedNow 26 = .ok (.iload_n 1, 1) := by decide +kernel
theorem dX12_feedNow_27 : decode cX12_feedNow 27 = .ok (.invokevirtual 334, 3) := by decide +kernel
theorem dX12_feedNow_30 : decode cX12_feedNow 30 = .ok (.istore_n 3, 1) := by decide +kernel
theorem dX12_feedNow_31 : decode cX12_feedNow 31 = .ok (.aload_n 0, 1) := by decide +kernel
theorem dX12_feedNow_32 : decode cX12_feedNow 32 = .ok (.bipush 10, 2) := by decide +kernel
theorem dX12_feedNow_34 : decode cX12_feedNow 34 = .ok (.invokevirtual 337, 3) := by decide +kernel
theorem dX12_feedNow_37 : decode cX12_feedNow 37 = .ok (.iload_n 3, 1) := by decide +kernel
theorem dX12_feedNow_38 : decode cX12_feedNow 38 = .ok (.if_icmp .ge 23, 3) := by decide +kernel
theorem dX12_feedNow_41 : decode cX12_feedNow 41 = .ok (.aload_n 0, 1) := by decide +kernel
theorem dX12_feedNow_42 : decode cX12_feedNow 42 = .ok (.iload_n 2, 1) := by decide +kernel
theorem dX12_feedNow_43 : decode cX12_feedNow 43 = .ok (.iconst 3, 1) := by decide +kernel
theorem dX12_feedNow_44 : decode cX12_feedNow 44 = .ok (.aload_n 0, 1) := by decide +kernel
theorem dX12_feedNow_45 : decode cX12_feedNow 45 = .ok (.iload_n 2, 1) := by decide +kernel
theorem dX12_feedNow_46 : decode cX12_feedNow 46 = .ok (.iconst 3, 1) := by decide +kernel
theorem dX12_feedNow_47 : decode cX12_feedNow 47 = .ok (.invokevirtual 71, 3) := by decide +kernel
theorem dX12_feedNow_50 : decode cX12_feedNow 50 = .ok (.iconst 1, 1) := by decide +kernel
theorem dX12_feedNow_51 : decode cX12_feedNow 51 = .ok (.iadd, 1) := by decide +kernel
theorem dX12_feedNow_52 : decode cX12_feedNow 52 = .ok (.i2l, 1) := by decide +kernel
theorem dX12_feedNow_53 : decode cX12_feedNow 53 = .ok (.iconst 0, 1) := by decide +kernel
theorem dX12_feedNow_54 : decode cX12_feedNow 54 = .ok (.iconst 4, 1) := by decide +kernel
theorem dX12_feedNow_55 : decode cX12_feedNow 55 = .ok (.invokestatic 294, 3) := by decide +kernel
theorem dX12_feedNow_58 : decode cX12_feedNow 58 = .ok (.invokevirtual 82, 3) := by decide +kernel
theorem dX12_feedNow_61 : decode cX12_feedNow 61 = .ok (.return_, 1) := by decide +kernel
def f_X12_feedNow (N : Nat) (v_a : Nat → Int32) (v_texts : Nat → Int32) (v_named : Nat → Int32) (v_values : Nat → Int64) (v_truth : Nat → Int32) (v_isWritten : Int32) (p1 : Int32) (p2 : Int32) : Option ((Nat → Int32) × (Nat → Int32) × (Nat → Int64) × (Nat → Int32)) := ob1 (f_X12_put N v_a p1 (4 : Int32) (0 : Int32)) fun v_a_4 => ob1 (f_X12_write N v_a_4 v_isWritten p1 (2 : Int32)) fun v_a_10 => ob1 (f_X12_get N v_a_10 p2 (6 : Int32)) fun r17 => if r17 = (1 : Int32) then (some (v_a_10, v_named, v_values, v_truth)) else (ob4 (f_X12_findsOf N v_a_10 v_texts v_named v_values v_truth p1) fun r27 v_named_27 v_values_27 v_truth_27 => ob2 (f_X12_drawn N v_a_10 (10 : Int32)) fun r34 v_a_34 => if r27 ≤ r34 then (some (v_a_34, v_named_27, v_values_27, v_truth_27)) else (ob1 (f_X12_get N v_a_34 p2 (3 : Int32)) fun r47 => ob1 (f_X12_cut N ((r47 + (1 : Int32)).toInt64) (0 : Int32) (4 : Int32)) fun r55 => ob1 (f_X12_put N v_a_34 p2 (3 : Int32) r55) fun v_a_58 => some (v_a_58, v_named_27, v_values_27, v_truth_27)))
set_option maxHeartbeats 4000000 in
set_option maxRecDepth 100000 in
theorem k_X12_feedNow (l : Launch) (N : Nat) (D : va_G) (cI cJ cZ cB cT : ClassId) (h : Nat) (q : Nat → Nat) (v_a : Nat → Int32) (v_image : Nat → Int32) (v_texts : Nat → Int32) (v_tape : Nat → Int32) (v_taped : Int32) (v_fault : Int32) (v_faultPlace : Int32) (v_at : Int32) (v_place : Int32) (v_token : Int32) (v_number : Int32) (v_word : Int64) (v_text0 : Int32) (v_written : Int32) (v_sort0 : Int32) (v_pile : Nat → Int32) (v_piled : Int32) (v_opens : Int32) (v_isWhole : Int32) (v_once : Int32) (v_named : Nat → Int32) (v_values : Nat → Int64) (v_truth : Nat → Int32) (v_isWritten : Int32) (v_died : Int32) (v_aside : Nat → Int32) (v_likely : Nat → Int32) (v_safe : Nat → Int32) (v_headOf : Nat → Int32) (p1 : Int32) (p2 : Int32) (o_v_a : Nat → Int32) (o_v_named : Nat → Int32) (o_v_values : Nat → Int64) (o_v_truth : Nat → Int32) (hf : f_X12_feedNow N v_a v_texts v_named v_values v_truth v_isWritten p1 p2 = some (o_v_a, o_v_named, o_v_values, o_v_truth)) : ∀ sz, Met l yX12_feedNow (mw yX12_feedNow cX12_feedNow 4 none) ({ frames := 7, cells := 0, slots := 0, locals := 164 } : Room) (mPre D (mT cI cJ cZ cB cT) (WM h q cI cJ cZ v_a v_image v_texts v_tape v_taped v_fault v_faultPlace v_at v_place v_token v_number v_word v_text0 v_written v_sort0 v_pile v_piled v_opens v_isWhole v_once v_named v_values v_truth v_isWritten v_died v_aside v_likely v_safe v_headOf) sz [.ref h, .int p1, .int p2]) ((mQv D (WM h q cI cJ cZ o_v_a v_image v_texts v_tape v_taped v_fault v_faultPlace v_at v_place v_token v_number v_word v_text0 v_written v_sort0 v_pile v_piled v_opens v_isWhole v_once o_v_named o_v_values o_v_truth v_isWritten v_died v_aside v_likely v_safe v_headOf)) (va_A (WM h q cI cJ cZ v_a v_image v_texts v_tape v_taped v_fault v_faultPlace v_at v_place v_token v_number v_word v_text0 v_written v_sort0 v_pile v_piled v_opens v_isWhole v_once v_named v_values v_truth v_isWritten v_died v_aside v_likely v_safe v_headOf) sz)) 0 0 (va_A (WM h q cI cJ cZ v_a v_image v_texts v_tape v_taped v_fault v_faultPlace v_at v_place v_token v_number v_word v_text0 v_written v_sort0 v_pile v_piled v_opens v_isWhole v_once v_named v_values v_truth v_isWritten v_died v_aside v_likely v_safe v_headOf) sz) := by
  refine mMet (Qc := (mQv D (WM h q cI cJ cZ o_v_a v_image v_texts v_tape v_taped v_fault v_faultPlace v_at v_place v_token v_number v_word v_text0 v_written v_sort0 v_pile v_piled v_opens v_isWhole v_once o_v_named o_v_values o_v_truth v_isWritten v_died v_aside v_likely v_safe v_headOf))) (by decide) (Nat.le_of_ble_eq_true rfl) (fun p e s m below meth c A ls hx hb hr hml hts hown hlocks hK hA hP hD hl => ?_)
  have hown : s.vm.findClass RX12 = some m.cls := hown
  have hl : lv_has ls 4 [(0, .ref h), (1, .int p1), (2, .int p2)] := hl
  have hS : va_S A s.heap s.heap [] := va_S.rf
  unfold f_X12_feedNow at hf
  refine lv_aload_n hx hb dX12_feedNow_0 rfl (lv_at hl 0 rfl) ?_
  refine lv_iload_n hx hb dX12_feedNow_1 rfl (lv_at hl 1 rfl) ?_
  refine lv_iconst (v := (4 : Int32)) hx hb dX12_feedNow_2 (by decide) ?_
  refine lv_iconst (v := (0 : Int32)) hx hb dX12_feedNow_3 (by decide) ?_
  obtain ⟨v_a_4, hg4, hf⟩ := ob1_some hf
  refine mcV1_v (As := [.int p1, .int (4 : Int32), .int (0 : Int32)]) (rest := []) hx hb hml hown hts hK hP hD hS hA (k_X12_put l N D cI cJ cZ cB cT h q v_a v_image v_texts v_tape v_taped v_fault v_faultPlace v_at v_place v_token v_number v_word v_text0 v_written v_sort0 v_pile v_piled v_opens v_isWhole v_once v_named v_values v_truth v_isWritten v_died v_aside v_likely v_safe v_headOf p1 (4 : Int32) (0 : Int32) v_a_4 hg4) (kwX12_82 hts rfl rfl ⟨Nat.le_of_ble_eq_true rfl, Nat.le_of_ble_eq_true rfl⟩) 0 rfl rfl rfl rfl hl.1 rfl (Nat.le_of_ble_eq_true rfl) dX12_feedNow_4 ⟨Nat.zero_le _, Nat.zero_le _⟩ (fun H locs hP hD hS => ?_)
  have hP : va_P D vwCl (WM h q cI cJ cZ v_a_4 v_image v_texts v_tape v_taped v_fault v_faultPlace v_at v_place v_token v_number v_word v_text0 v_written v_sort0 v_pile v_piled v_opens v_isWhole v_once v_named v_values v_truth v_isWritten v_died v_aside v_likely v_safe v_headOf) H := hP
  have hD : va_D A (WM h q cI cJ cZ v_a_4 v_image v_texts v_tape v_taped v_fault v_faultPlace v_at v_place v_token v_number v_word v_text0 v_written v_sort0 v_pile v_piled v_opens v_isWhole v_once v_named v_values v_truth v_isWritten v_died v_aside v_likely v_safe v_headOf) := hD
  refine lv_aload_n hx hb dX12_feedNow_7 rfl (lv_at hl 0 rfl) ?_
  refine lv_iload_n hx hb dX12_feedNow_8 rfl (lv_at hl 1 rfl) ?_
  refine lv_iconst (v := (2 : Int32)) hx hb dX12_feedNow_9 (by decide) ?_
  obtain ⟨v_a_10, hg10, hf⟩ := ob1_some hf
  refine mcV1_v (As := [.int p1, .int (2 : Int32)]) (rest := []) hx hb hml hown hts hK hP hD hS hA (k_X12_write l N D cI cJ cZ cB cT h q v_a_4 v_image v_texts v_tape v_taped v_fault v_faultPlace v_at v_place v_token v_number v_word v_text0 v_written v_sort0 v_pile v_piled v_opens v_isWhole v_once v_named v_values v_truth v_isWritten v_died v_aside v_likely v_safe v_headOf p1 (2 : Int32) v_a_10 hg10) (kwX12_319 hts rfl rfl ⟨Nat.le_of_ble_eq_true rfl, Nat.le_of_ble_eq_true rfl⟩) 0 rfl rfl rfl rfl hl.1 rfl (Nat.le_of_ble_eq_true rfl) dX12_feedNow_10 ⟨Nat.zero_le _, Nat.zero_le _⟩ (fun H locs hP hD hS => ?_)
  have hP : va_P D vwCl (WM h q cI cJ cZ v_a_10 v_image v_texts v_tape v_taped v_fault v_faultPlace v_at v_place v_token v_number v_word v_text0 v_written v_sort0 v_pile v_piled v_opens v_isWhole v_once v_named v_values v_truth v_isWritten v_died v_aside v_likely v_safe v_headOf) H := hP
  have hD : va_D A (WM h q cI cJ cZ v_a_10 v_image v_texts v_tape v_taped v_fault v_faultPlace v_at v_place v_token v_number v_word v_text0 v_written v_sort0 v_pile v_piled v_opens v_isWhole v_once v_named v_values v_truth v_isWritten v_died v_aside v_likely v_safe v_headOf) := hD
  refine lv_aload_n hx hb dX12_feedNow_13 rfl (lv_at hl 0 rfl) ?_
  refine lv_iload_n hx hb dX12_feedNow_14 rfl (lv_at hl 2 rfl) ?_
  refine lv_bipush (v := (6 : Int32)) hx hb dX12_feedNow_15 (by decide) ?_
  obtain ⟨r17, hg17, hf⟩ := ob1_some hf
  refine mcV1_i (As := [.int p2, .int (6 : Int32)]) (rest := []) hx hb hml hown hts hK hP hD hS hA (k_X12_get l N D cI cJ cZ cB cT h q v_a_10 v_image v_texts v_tape v_taped v_fault v_faultPlace v_at v_place v_token v_number v_word v_text0 v_written v_sort0 v_pile v_piled v_opens v_isWhole v_once v_named v_values v_truth v_isWritten v_died v_aside v_likely v_safe v_headOf p2 (6 : Int32) r17 hg17) (kwX12_71 hts rfl rfl ⟨Nat.le_of_ble_eq_true rfl, Nat.le_of_ble_eq_true rfl⟩) 0 rfl rfl rfl rfl hl.1 rfl (Nat.le_of_ble_eq_true rfl) dX12_feedNow_17 ⟨Nat.zero_le _, Nat.zero_le _⟩ (fun hB17 H locs hP hD hS => ?_)
  have hP : va_P D vwCl (WM h q cI cJ cZ v_a_10 v_image v_texts v_tape v_taped v_fault v_faultPlace v_at v_place v_token v_number v_word v_text0 v_written v_sort0 v_pile v_piled v_opens v_isWhole v_once v_named v_values v_truth v_isWritten v_died v_aside v_likely v_safe v_headOf) H := hP
  have hD : va_D A (WM h q cI cJ cZ v_a_10 v_image v_texts v_tape v_taped v_fault v_faultPlace v_at v_place v_token v_number v_word v_text0 v_written v_sort0 v_pile v_piled v_opens v_isWhole v_once v_named v_values v_truth v_isWritten v_died v_aside v_likely v_safe v_headOf) := hD
  refine lv_iconst (v := (1 : Int32)) hx hb dX12_feedNow_20 (by decide) ?_
  refine xicmp_ne hx hb 25 dX12_feedNow_21 (by decide) hf (fun hf => ?_) (fun hf => ?_)
  · cases hf
    exact mret_v hx hb hr hlocks hP hD hS dX12_feedNow_24
  · refine lv_aload_n hx hb dX12_feedNow_25 rfl (lv_at hl 0 rfl) ?_
    refine lv_iload_n hx hb dX12_feedNow_26 rfl (lv_at hl 1 rfl) ?_
    obtain ⟨r27, v_named_27, v_values_27, v_truth_27, hg27, hf⟩ := ob4_some hf
    refine mcV1_i (As := [.int p1]) (rest := []) hx hb hml hown hts hK hP hD hS hA (k_X12_findsOf l N D cI cJ cZ cB cT h q v_a_10 v_image v_texts v_tape v_taped v_fault v_faultPlace v_at v_place v_token v_number v_word v_text0 v_written v_sort0 v_pile v_piled v_opens v_isWhole v_once v_named v_values v_truth v_isWritten v_died v_aside v_likely v_safe v_headOf p1 r27 v_named_27 v_values_27 v_truth_27 hg27) (kwX12_334 hts rfl rfl ⟨Nat.le_of_ble_eq_true rfl, Nat.le_of_ble_eq_true rfl⟩) 0 rfl rfl rfl rfl hl.1 rfl (Nat.le_of_ble_eq_true rfl) dX12_feedNow_27 ⟨Nat.zero_le _, Nat.zero_le _⟩ (fun hB27 H locs hP hD hS => ?_)
    have hP : va_P D vwCl (WM h q cI cJ cZ v_a_10 v_image v_texts v_tape v_taped v_fault v_faultPlace v_at v_place v_token v_number v_word v_text0 v_written v_sort0 v_pile v_piled v_opens v_isWhole v_once v_named_27 v_values_27 v_truth_27 v_isWritten v_died v_aside v_likely v_safe v_headOf) H := hP
    have hD : va_D A (WM h q cI cJ cZ v_a_10 v_image v_texts v_tape v_taped v_fault v_faultPlace v_at v_place v_token v_number v_word v_text0 v_written v_sort0 v_pile v_piled v_opens v_isWhole v_once v_named_27 v_values_27 v_truth_27 v_isWritten v_died v_aside v_likely v_safe v_headOf) := hD
    refine lv_istore_n (lv' := [(3, .int r27), (0, .ref h), (1, .int p1), (2, .int p2)]) hx hb dX12_feedNow_30 rfl hl (by decide) rfl (fun ls hl => ?_)
    refine lv_aload_n hx hb dX12_feedNow_31 rfl (lv_at hl 1 rfl) ?_
    refine lv_bipush (v := (10 : Int32)) hx hb dX12_feedNow_32 (by decide) ?_
    obtain ⟨r34, v_a_34, hg34, hf⟩ := ob2_some hf
    refine mcV1_i (As := [.int (10 : Int32)]) (rest := []) hx hb hml hown hts hK hP hD hS hA (k_X12_drawn l N D cI cJ cZ cB cT h q v_a_10 v_image v_texts v_tape v_taped v_fault v_faultPlace v_at v_place v_token v_number v_word v_text0 v_written v_sort0 v_pile v_piled v_opens v_isWhole v_once v_named_27 v_values_27 v_truth_27 v_isWritten v_died v_aside v_likely v_safe v_headOf (10 : Int32) r34 v_a_34 hg34) (kwX12_337 hts rfl rfl ⟨Nat.le_of_ble_eq_true rfl, Nat.le_of_ble_eq_true rfl⟩) 0 rfl rfl rfl rfl hl.1 rfl (Nat.le_of_ble_eq_true rfl) dX12_feedNow_34 ⟨Nat.zero_le _, Nat.zero_le _⟩ (fun hB34 H locs hP hD hS => ?_)
    have hP : va_P D vwCl (WM h q cI cJ cZ v_a_34 v_image v_texts v_tape v_taped v_fault v_faultPlace v_at v_place v_token v_number v_word v_text0 v_written v_sort0 v_pile v_piled v_opens v_isWhole v_once v_named_27 v_values_27 v_truth_27 v_isWritten v_died v_aside v_likely v_safe v_headOf) H := hP
    have hD : va_D A (WM h q cI cJ cZ v_a_34 v_image v_texts v_tape v_taped v_fault v_faultPlace v_at v_place v_token v_number v_word v_text0 v_written v_sort0 v_pile v_piled v_opens v_isWhole v_once v_named_27 v_values_27 v_truth_27 v_isWritten v_died v_aside v_likely v_safe v_headOf) := hD
    refine lv_iload_n hx hb dX12_feedNow_37 rfl (lv_at hl 0 rfl) ?_
    refine xicmp_ge hx hb 61 dX12_feedNow_38 (by decide) hf (fun hf => ?_) (fun hf => ?_)
    · cases hf
      exact mret_v hx hb hr hlocks hP hD hS dX12_feedNow_61
    · refine lv_aload_n hx hb dX12_feedNow_41 rfl (lv_at hl 1 rfl) ?_
      refine lv_iload_n hx hb dX12_feedNow_42 rfl (lv_at hl 3 rfl) ?_
      refine lv_iconst (v := (3 : Int32)) hx hb dX12_feedNow_43 (by decide) ?_
      refine lv_aload_n hx hb dX12_feedNow_44 rfl (lv_at hl 1 rfl) ?_
      refine lv_iload_n hx hb dX12_feedNow_45 rfl (lv_at hl 3 rfl) ?_
      refine lv_iconst (v := (3 : Int32)) hx hb dX12_feedNow_46 (by decide) ?_
      obtain ⟨r47, hg47, hf⟩ := ob1_some hf
      refine mcV1_i (As := [.int p2, .int (3 : Int32)]) (rest := [.int (3 : Int32), .int p2, .ref h]) hx hb hml hown hts hK hP hD hS hA (k_X12_get l N D cI cJ cZ cB cT h q v_a_34 v_image v_texts v_tape v_taped v_fault v_faultPlace v_at v_place v_token v_number v_word v_text0 v_written v_sort0 v_pile v_piled v_opens v_isWhole v_once v_named_27 v_values_27 v_truth_27 v_isWritten v_died v_aside v_likely v_safe v_headOf p2 (3 : Int32) r47 hg47) (kwX12_71 hts rfl rfl ⟨Nat.le_of_ble_eq_true rfl, Nat.le_of_ble_eq_true rfl⟩) 0 rfl rfl rfl rfl hl.1 rfl (Nat.le_of_ble_eq_true rfl) dX12_feedNow_47 ⟨Nat.zero_le _, Nat.zero_le _⟩ (fun hB47 H locs hP hD hS => ?_)
      have hP : va_P D vwCl (WM h q cI cJ cZ v_a_34 v_image v_texts v_tape v_taped v_fault v_faultPlace v_at v_place v_token v_number v_word v_text0 v_written v_sort0 v_pile v_piled v_opens v_isWhole v_once v_named_27 v_values_27 v_truth_27 v_isWritten v_died v_aside v_likely v_safe v_headOf) H := hP
      have hD : va_D A (WM h q cI cJ cZ v_a_34 v_image v_texts v_tape v_taped v_fault v_faultPlace v_at v_place v_token v_number v_word v_text0 v_written v_sort0 v_pile v_piled v_opens v_isWhole v_once v_named_27 v_values_27 v_truth_27 v_isWritten v_died v_aside v_likely v_safe v_headOf) := hD
      refine lv_iconst (v := (1 : Int32)) hx hb dX12_feedNow_50 (by decide) ?_
      refine lv_iadd hx hb dX12_feedNow_51 ?_
      refine lv_i2l hx hb dX12_feedNow_52 rfl ?_
      refine lv_iconst (v := (0 : Int32)) hx hb dX12_feedNow_53 (by decide) ?_
      refine lv_iconst (v := (4 : Int32)) hx hb dX12_feedNow_54 (by decide) ?_
      obtain ⟨r55, hg55, hf⟩ := ob1_some hf
      refine mcS0_i (As := [.long ((r47 + (1 : Int32)).toInt64), .int (0 : Int32), .int (4 : Int32)]) (rest := [.int (3 : Int32), .int p2, .ref h]) hx hb hml hown hts hK hP hD hS hA (k_X12_cut l N D cI cJ cZ cB cT ((r47 + (1 : Int32)).toInt64) (0 : Int32) (4 : Int32) r55 hg55) (kwX12_294 hts rfl rfl ⟨Nat.le_of_ble_eq_true rfl, Nat.le_of_ble_eq_true rfl⟩) rfl hl.1 rfl (Nat.le_of_ble_eq_true rfl) dX12_feedNow_55 ⟨Nat.zero_le _, Nat.zero_le _⟩ (fun hB55 H locs hP hD hS => ?_)
      obtain ⟨v_a_58, hg58, hf⟩ := ob1_some hf
      refine mcV1_v (As := [.int p2, .int (3 : Int32), .int r55]) (rest := []) hx hb hml hown hts hK hP hD hS hA (k_X12_put l N D cI cJ cZ cB cT h q v_a_34 v_image v_texts v_tape v_taped v_fault v_faultPlace v_at v_place v_token v_number v_word v_text0 v_written v_sort0 v_pile v_piled v_opens v_isWhole v_once v_named_27 v_values_27 v_truth_27 v_isWritten v_died v_aside v_likely v_safe v_headOf p2 (3 : Int32) r55 v_a_58 hg58) (kwX12_82 hts rfl rfl ⟨Nat.le_of_ble_eq_true rfl, Nat.le_of_ble_eq_true rfl⟩) 0 rfl rfl rfl rfl hl.1 rfl (Nat.le_of_ble_eq_true rfl) dX12_feedNow_58 ⟨Nat.zero_le _, Nat.zero_le _⟩ (fun H locs hP hD hS => ?_)
      have hP : va_P D vwCl (WM h q cI cJ cZ v_a_58 v_image v_texts v_tape v_taped v_fault v_faultPlace v_at v_place v_token v_number v_word v_text0 v_written v_sort0 v_pile v_piled v_opens v_isWhole v_once v_named_27 v_values_27 v_truth_27 v_isWritten v_died v_aside v_likely v_safe v_headOf) H := hP
      have hD : va_D A (WM h q cI cJ cZ v_a_58 v_image v_texts v_tape v_taped v_fault v_faultPlace v_at v_place v_token v_number v_word v_text0 v_written v_sort0 v_pile v_piled v_opens v_isWhole v_once v_named_27 v_values_27 v_truth_27 v_isWritten v_died v_aside v_likely v_safe v_headOf) := hD
      cases hf
      exact mret_v hx hb hr hlocks hP hD hS dX12_feedNow_61
theorem dX12_feeds_0 : decode cX12_feeds 0 = .ok (.aload_n 0, 1) := by decide +kernel
theorem dX12_feeds_1 : decode cX12_feeds 1 = .ok (.iload_n 1, 1) := by decide +kernel
theorem dX12_feeds_2 : decode cX12_feeds 2 = .ok (.iload_n 2, 1) := by decide +kernel
theorem dX12_feeds_3 : decode cX12_feeds 3 = .ok (.invokevirtual 361, 3) := by decide +kernel
theorem dX12_feeds_6 : decode cX12_feeds 6 = .ok (.ifCond .ne 5, 3) := by decide +kernel
theorem dX12_feeds_9 : decode cX12_feeds 9 = .ok (.iconst (-1), 1) := by decide +kernel
theorem dX12_feeds_10 : decode cX12_feeds 10 = .ok (.ireturn, 1) := by decide +kernel
theorem dX12_feeds_11 : decode cX12_feeds 11 = .ok (.aload_n 0, 1) := by decide +kernel
theorem dX12_feeds_12 : decode cX12_feeds 12 = .ok (.invokevirtual 349, 3) := by decide +kernel
theorem dX12_feeds_15 : decode cX12_feeds 15 = .ok (.aload_n 0, 1) := by decide +kernel
theorem dX12_feeds_16 : decode cX12_feeds 16 = .ok (.iload_n 1, 1) := by decide +kernel
theorem dX12_feeds_17 : decode cX12_feeds 17 = .ok (.iload_n 2, 1) := by decide +kernel
theorem dX12_feeds_18 : decode cX12_feeds 18 = .ok (.invokevirtual 364, 3) := by decide +kernel
theorem dX12_feeds_21 : decode cX12_feeds 21 = .ok (.aload_n 0, 1) := by decide +kernel
theorem dX12_feeds_22 : decode cX12_feeds 22 = .ok (.iload_n 2, 1) := by decide +kernel
theorem dX12_feeds_23 : decode cX12_feeds 23 = .ok (.iconst 3, 1) := by decide +kernel
theorem dX12_feeds_24 : decode cX12_feeds 24 = .ok (.invokevirtual 71, 3) := by decide +kernel
theorem dX12_feeds_27 : decode cX12_feeds 27 = .ok (.ireturn, 1) := by decide +kernel
def f_X12_feeds (N : Nat) (v_a : Nat → Int32) (v_texts : Nat → Int32) (v_named : Nat → Int32) (v_values : Nat → Int64) (v_truth : Nat → Int32) (v_isWritten : Int32) (p1 : Int32) (p2 : Int32) : Option (Int32 × (Nat → Int32) × (Nat → Int32) × (Nat → Int64) × (Nat → Int32)) := ob1 (f_X12_areBeside N v_a p1 p2) fun r3 => if r3 = 0 then (some ((-1 : Int32), v_a, v_named, v_values, v_truth)) else (ob1 (f_X12_keep N v_a) fun v_a_12 => ob4 (f_X12_feedNow N v_a_12 v_texts v_named v_values v_truth v_isWritten p1 p2) fun v_a_18 v_named_18 v_values_18 v_truth_18 => ob1 (f_X12_get N v_a_18 p2 (3 : Int32)) fun r24 => some (r24, v_a_18, v_named_18, v_values_18, v_truth_18))
set_option maxHeartbeats 4000000 in
set_option maxRecDepth 100000 in
theorem k_X12_feeds (l : Launch) (N : Nat) (D : va_G) (cI cJ cZ cB cT : ClassId) (h : Nat) (q : Nat → Nat) (v_a : Nat → Int32) (v_image : Nat → Int32) (v_texts : Nat → Int32) (v_tape : Nat → Int32) (v_taped : Int32) (v_fault : Int32) (v_faultPlace : Int32) (v_at : Int32) (v_place : Int32) (v_token : Int32) (v_number : Int32) (v_word : Int64) (v_text0 : Int32) (v_written : Int32) (v_sort0 : Int32) (v_pile : Nat → Int32) (v_piled : Int32) (v_opens : Int32) (v_isWhole : Int32) (v_once : Int32) (v_named : Nat → Int32) (v_values : Nat → Int64) (v_truth : Nat → Int32) (v_isWritten : Int32) (v_died : Int32) (v_aside : Nat → Int32) (v_likely : Nat → Int32) (v_safe : Nat → Int32) (v_headOf : Nat → Int32) (p1 : Int32) (p2 : Int32) (o_r : Int32) (o_v_a : Nat → Int32) (o_v_named : Nat → Int32) (o_v_values : Nat → Int64) (o_v_truth : Nat → Int32) (hf : f_X12_feeds N v_a v_texts v_named v_values v_truth v_isWritten p1 p2 = some (o_r, o_v_a, o_v_named, o_v_values, o_v_truth)) : ∀ sz, Met l yX12_feeds (mw yX12_feeds cX12_feeds 3 (some .int)) ({ frames := 8, cells := 0, slots := 0, locals := 187 } : Room) (mPre D (mT cI cJ cZ cB cT) (WM h q cI cJ cZ v_a v_image v_texts v_tape v_taped v_fault v_faultPlace v_at v_place v_token v_number v_word v_text0 v_written v_sort0 v_pile v_piled v_opens v_isWhole v_once v_named v_values v_truth v_isWritten v_died v_aside v_likely v_safe v_headOf) sz [.ref h, .int p1, .int p2]) ((mQi D (WM h q cI cJ cZ o_v_a v_image v_texts v_tape v_taped v_fault v_faultPlace v_at v_place v_token v_number v_word v_text0 v_written v_sort0 v_pile v_piled v_opens v_isWhole v_once o_v_named o_v_values o_v_truth v_isWritten v_died v_aside v_likely v_safe v_headOf) o_r True) (va_A (WM h q cI cJ cZ v_a v_image v_texts v_tape v_taped v_fault v_faultPlace v_at v_place v_token v_number v_word v_text0 v_written v_sort0 v_pile v_piled v_opens v_isWhole v_once v_named v_values v_truth v_isWritten v_died v_aside v_likely v_safe v_headOf) sz)) 0 0 (va_A (WM h q cI cJ cZ v_a v_image v_texts v_tape v_taped v_fault v_faultPlace v_at v_place v_token v_number v_word v_text0 v_written v_sort0 v_pile v_piled v_opens v_isWhole v_once v_named v_values v_truth v_isWritten v_died v_aside v_likely v_safe v_headOf) sz) := by
  refine mMet (Qc := (mQi D (WM h q cI cJ cZ o_v_a v_image v_texts v_tape v_taped v_fault v_faultPlace v_at v_place v_token v_number v_word v_text0 v_written v_sort0 v_pile v_piled v_opens v_isWhole v_once o_v_named o_v_values o_v_truth v_isWritten v_died v_aside v_likely v_safe v_headOf) o_r True)) (by decide) (Nat.le_of_ble_eq_true rfl) (fun p e s m below meth c A ls hx hb hr hml hts hown hlocks hK hA hP hD hl => ?_)
  have hown : s.vm.findClass RX12 = some m.cls := hown
  have hl : lv_has ls 3 [(0, .ref h), (1, .int p1), (2, .int p2)] := hl
  have hS : va_S A s.heap s.heap [] := va_S.rf
  unfold f_X12_feeds at hf
  refine lv_aload_n hx hb dX12_feeds_0 rfl (lv_at hl 0 rfl) ?_
  refine lv_iload_n hx hb dX12_feeds_1 rfl (lv_at hl 1 rfl) ?_
  refine lv_iload_n hx hb dX12_feeds_2 rfl (lv_at hl 2 rfl) ?_
  obtain ⟨r3, hg3, hf⟩ := ob1_some hf
  refine mcV1_i (As := [.int p1, .int p2]) (rest := []) hx hb hml hown hts hK hP hD hS hA (k_X12_areBeside l N D cI cJ cZ cB cT h q v_a v_image v_texts v_tape v_taped v_fault v_faultPlace v_at v_place v_token v_number v_word v_text0 v_written v_sort0 v_pile v_piled v_opens v_isWhole v_once v_named v_values v_truth v_isWritten v_died v_aside v_likely v_safe v_headOf p1 p2 r3 hg3) (kwX12_361 hts rfl rfl ⟨Nat.le_of_ble_eq_true rfl, Nat.le_of_ble_eq_true rfl⟩) 0 rfl rfl rfl rfl hl.1 rfl (Nat.le_of_ble_eq_true rfl) dX12_feeds_3 ⟨Nat.zero_le _, Nat.zero_le _⟩ (fun hB3 H locs hP hD hS => ?_)
  have hP : va_P D vwCl (WM h q cI cJ cZ v_a v_image v_texts v_tape v_taped v_fault v_faultPlace v_at v_place v_token v_number v_word v_text0 v_written v_sort0 v_pile v_piled v_opens v_isWhole v_once v_named v_values v_truth v_isWritten v_died v_aside v_likely v_safe v_headOf) H := hP
  have hD : va_D A (WM h q cI cJ cZ v_a v_image v_texts v_tape v_taped v_fault v_faultPlace v_at v_place v_token v_number v_word v_text0 v_written v_sort0 v_pile v_piled v_opens v_isWhole v_once v_named v_values v_truth v_isWritten v_died v_aside v_likely v_safe v_headOf) := hD
  refine xif_ne hx hb 11 dX12_feeds_6 (by decide) hf (fun hf => ?_) (fun hf => ?_)
  · refine lv_iconst (v := (-1 : Int32)) hx hb dX12_feeds_9 (by decide) ?_
    cases hf
    exact mret_i hx hb hr hlocks hP hD hS dX12_feeds_10 rfl trivial
  · refine lv_aload_n hx hb dX12_feeds_11 rfl (lv_at hl 0 rfl) ?_
    obtain ⟨v_a_12, hg12, hf⟩ := ob1_some hf
    refine mcV1_v (As := []) (rest := []) hx hb hml hown hts hK hP hD hS hA (k_X12_keep l N D cI cJ cZ cB cT h q v_a v_image v_texts v_tape v_taped v_fault v_faultPlace v_at v_place v_token v_number v_word v_text0 v_written v_sort0 v_pile v_piled v_opens v_isWhole v_once v_named v_values v_truth v_isWritten v_died v_aside v_likely v_safe v_headOf v_a_12 hg12) (kwX12_349 hts rfl rfl ⟨Nat.le_of_ble_eq_true rfl, Nat.le_of_ble_eq_true rfl⟩) 0 rfl rfl rfl rfl hl.1 rfl (Nat.le_of_ble_eq_true rfl) dX12_feeds_12 ⟨Nat.zero_le _, Nat.zero_le _⟩ (fun H locs hP hD hS => ?_)
    have hP : va_P D vwCl (WM h q cI cJ cZ v_a_12 v_image v_texts v_tape v_taped v_fault v_faultPlace v_at v_place v_token v_number v_word v_text0 v_written v_sort0 v_pile v_piled v_opens v_isWhole v_once v_named v_values v_truth v_isWritten v_died v_aside v_likely v_safe v_headOf) H := hP
    have hD : va_D A (WM h q cI cJ cZ v_a_12 v_image v_texts v_tape v_taped v_fault v_faultPlace v_at v_place v_token v_number v_word v_text0 v_written v_sort0 v_pile v_piled v_opens v_isWhole v_once v_named v_values v_truth v_isWritten v_died v_aside v_likely v_safe v_headOf) := hD
    refine lv_aload_n hx hb dX12_feeds_15 rfl (lv_at hl 0 rfl) ?_
    refine lv_iload_n hx hb dX12_feeds_16 rfl (lv_at hl 1 rfl) ?_
    refine lv_iload_n hx hb dX12_feeds_17 rfl (lv_at hl 2 rfl) ?_
    obtain ⟨v_a_18, v_named_18, v_values_18, v_truth_18, hg18, hf⟩ := ob4_some hf
    refine mcV1_v (As := [.int p1, .int p2]) (rest := []) hx hb hml hown hts hK hP hD hS hA (k_X12_feedNow l N D cI cJ cZ cB cT h q v_a_12 v_image v_texts v_tape v_taped v_fault v_faultPlace v_at v_place v_token v_number v_word v_text0 v_written v_sort0 v_pile v_piled v_opens v_isWhole v_once v_named v_values v_truth v_isWritten v_died v_aside v_likely v_safe v_headOf p1 p2 v_a_18 v_named_18 v_values_18 v_truth_18 hg18) (kwX12_364 hts rfl rfl ⟨Nat.le_of_ble_eq_true rfl, Nat.le_of_ble_eq_true rfl⟩) 0 rfl rfl rfl rfl hl.1 rfl (Nat.le_of_ble_eq_true rfl) dX12_feeds_18 ⟨Nat.zero_le _, Nat.zero_le _⟩ (fun H locs hP hD hS => ?_)
    have hP : va_P D vwCl (WM h q cI cJ cZ v_a_18 v_image v_texts v_tape v_taped v_fault v_faultPlace v_at v_place v_token v_number v_word v_text0 v_written v_sort0 v_pile v_piled v_opens v_isWhole v_once v_named_18 v_values_18 v_truth_18 v_isWritten v_died v_aside v_likely v_safe v_headOf) H := hP
    have hD : va_D A (WM h q cI cJ cZ v_a_18 v_image v_texts v_tape v_taped v_fault v_faultPlace v_at v_place v_token v_number v_word v_text0 v_written v_sort0 v_pile v_piled v_opens v_isWhole v_once v_named_18 v_values_18 v_truth_18 v_isWritten v_died v_aside v_likely v_safe v_headOf) := hD
    refine lv_aload_n hx hb dX12_feeds_21 rfl (lv_at hl 0 rfl) ?_
    refine lv_iload_n hx hb dX12_feeds_22 rfl (lv_at hl 2 rfl) ?_
    refine lv_iconst (v := (3 : Int32)) hx hb dX12_feeds_23 (by decide) ?_
    obtain ⟨r24, hg24, hf⟩ := ob1_some hf
    refine mcV1_i (As := [.int p2, .int (3 : Int32)]) (rest := []) hx hb hml hown hts hK hP hD hS hA (k_X12_get l N D cI cJ cZ cB cT h q v_a_18 v_image v_texts v_tape v_taped v_fault v_faultPlace v_at v_place v_token v_number v_word v_text0 v_written v_sort0 v_pile v_piled v_opens v_isWhole v_once v_named_18 v_values_18 v_truth_18 v_isWritten v_died v_aside v_likely v_safe v_headOf p2 (3 : Int32) r24 hg24) (kwX12_71 hts rfl rfl ⟨Nat.le_of_ble_eq_true rfl, Nat.le_of_ble_eq_true rfl⟩) 0 rfl rfl rfl rfl hl.1 rfl (Nat.le_of_ble_eq_true rfl) dX12_feeds_24 ⟨Nat.zero_le _, Nat.zero_le _⟩ (fun hB24 H locs hP hD hS => ?_)
    have hP : va_P D vwCl (WM h q cI cJ cZ v_a_18 v_image v_texts v_tape v_taped v_fault v_faultPlace v_at v_place v_token v_number v_word v_text0 v_written v_sort0 v_pile v_piled v_opens v_isWhole v_once v_named_18 v_values_18 v_truth_18 v_isWritten v_died v_aside v_likely v_safe v_headOf) H := hP
    have hD : va_D A (WM h q cI cJ cZ v_a_18 v_image v_texts v_tape v_taped v_fault v_faultPlace v_at v_place v_token v_number v_word v_text0 v_written v_sort0 v_pile v_piled v_opens v_isWhole v_once v_named_18 v_values_18 v_truth_18 v_isWritten v_died v_aside v_likely v_safe v_headOf) := hD
    cases hf
    exact mret_i hx hb hr hlocks hP hD hS dX12_feeds_27 rfl trivial
theorem dX12_pardonNow_0 : decode cX12_pardonNow 0 = .ok (.aload_n 0, 1) := by decide +kernel
theorem dX12_pardonNow_1 : decode cX12_pardonNow 1 = .ok (.iload_n 1, 1) := by decide +kernel
theorem dX12_pardonNow_2 : decode cX12_pardonNow 2 = .ok (.bipush 6, 2) := by decide +kernel
theorem dX12_pardonNow_4 : decode cX12_pardonNow 4 = .ok (.iconst 2, 1) := by decide +kernel
theorem dX12_pardonNow_5 : decode cX12_pardonNow 5 = .ok (.invokevirtual 82, 3) := by decide +kernel
theorem dX12_pardonNow_8 : decode cX12_pardonNow 8 = .ok (.aload_n 0, 1) := by decide +kernel
theorem dX12_pardonNow_9 : decode cX12_pardonNow 9 = .ok (.iload_n 1, 1) := by decide +kernel
theorem dX12_pardonNow_10 : decode cX12_pardonNow 10 = .ok (.iconst 5, 1) := by decide +kernel
theorem dX12_pardonNow_11 : decode cX12_pardonNow 11 = .ok (.iconst 0, 1) := by decide +kernel
theorem dX12_pardonNow_12 : decode cX12_pardonNow 12 = .ok (.invokevirtual 82, 3) := by decide +kernel
theorem dX12_pardonNow_15 : decode cX12_pardonNow 15 = .ok (.aload_n 0, 1) := by decide +kernel
theorem dX12_pardonNow_16 : decode cX12_pardonNow 16 = .ok (.iload_n 1, 1) := by decide +kernel
theorem dX12_pardonNow_17 : decode cX12_pardonNow 17 = .ok (.iconst 4, 1) := by decide +kernel
theorem dX12_pardonNow_18 : decode cX12_pardonNow 18 = .ok (.iconst 0, 1) := by decide +kernel
theorem dX12_pardonNow_19 : decode cX12_pardonNow 19 = .ok (.invokevirtual 82, 3) := by decide +kernel
theorem dX12_pardonNow_22 : decode cX12_pardonNow 22 = .ok (.return_, 1) := by decide +kernel
def f_X12_pardonNow (N : Nat) (v_a : Nat → Int32) (p1 : Int32) : Option ((Nat → Int32)) := ob1 (f_X12_put N v_a p1 (6 : Int32) (2 : Int32)) fun v_a_5 => ob1 (f_X12_put N v_a_5 p1 (5 : Int32) (0 : Int32)) fun v_a_12 => ob1 (f_X12_put N v_a_12 p1 (4 : Int32) (0 : Int32)) fun v_a_19 => some v_a_19
set_option maxHeartbeats 4000000 in
set_option maxRecDepth 100000 in
theorem k_X12_pardonNow (l : Launch) (N : Nat) (D : va_G) (cI cJ cZ cB cT : ClassId) (h : Nat) (q : Nat → Nat) (v_a : Nat → Int32) (v_image : Nat → Int32) (v_texts : Nat → Int32) (v_tape : Nat → Int32) (v_taped : Int32) (v_fault : Int32) (v_faultPlace : Int32) (v_at : Int32) (v_place : Int32) (v_token : Int32) (v_number : Int32) (v_word : Int64) (v_text0 : Int32) (v_written : Int32) (v_sort0 : Int32) (v_pile : Nat → Int32) (v_piled : Int32) (v_opens : Int32) (v_isWhole : Int32) (v_once : Int32) (v_named : Nat → Int32) (v_values : Nat → Int64) (v_truth : Nat → Int32) (v_isWritten : Int32) (v_died : Int32) (v_aside : Nat → Int32) (v_likely : Nat → Int32) (v_safe : Nat → Int32) (v_headOf : Nat → Int32) (p1 : Int32) (o_v_a : Nat → Int32) (hf : f_X12_pardonNow N v_a p1 = some o_v_a) : ∀ sz, Met l yX12_pardonNow (mw yX12_pardonNow cX12_pardonNow 2 none) ({ frames := 1, cells := 0, slots := 0, locals := 23 } : Room) (mPre D (mT cI cJ cZ cB cT) (WM h q cI cJ cZ v_a v_image v_texts v_tape v_taped v_fault v_faultPlace v_at v_place v_token v_number v_word v_text0 v_written v_sort0 v_pile v_piled v_opens v_isWhole v_once v_named v_values v_truth v_isWritten v_died v_aside v_likely v_safe v_headOf) sz [.ref h, .int p1]) ((mQv D (WM h q cI cJ cZ o_v_a v_image v_texts v_tape v_taped v_fault v_faultPlace v_at v_place v_token v_number v_word v_text0 v_written v_sort0 v_pile v_piled v_opens v_isWhole v_once v_named v_values v_truth v_isWritten v_died v_aside v_likely v_safe v_headOf)) (va_A (WM h q cI cJ cZ v_a v_image v_texts v_tape v_taped v_fault v_faultPlace v_at v_place v_token v_number v_word v_text0 v_written v_sort0 v_pile v_piled v_opens v_isWhole v_once v_named v_values v_truth v_isWritten v_died v_aside v_likely v_safe v_headOf) sz)) 0 0 (va_A (WM h q cI cJ cZ v_a v_image v_texts v_tape v_taped v_fault v_faultPlace v_at v_place v_token v_number v_word v_text0 v_written v_sort0 v_pile v_piled v_opens v_isWhole v_once v_named v_values v_truth v_isWritten v_died v_aside v_likely v_safe v_headOf) sz) := by
  refine mMet (Qc := (mQv D (WM h q cI cJ cZ o_v_a v_image v_texts v_tape v_taped v_fault v_faultPlace v_at v_place v_token v_number v_word v_text0 v_written v_sort0 v_pile v_piled v_opens v_isWhole v_once v_named v_values v_truth v_isWritten v_died v_aside v_likely v_safe v_headOf))) (by decide) (Nat.le_of_ble_eq_true rfl) (fun p e s m below meth c A ls hx hb hr hml hts hown hlocks hK hA hP hD hl => ?_)
  have hown : s.vm.findClass RX12 = some m.cls := hown
  have hl : lv_has ls 2 [(0, .ref h), (1, .int p1)] := hl
  have hS : va_S A s.heap s.heap [] := va_S.rf
  unfold f_X12_pardonNow at hf
  refine lv_aload_n hx hb dX12_pardonNow_0 rfl (lv_at hl 0 rfl) ?_
  refine lv_iload_n hx hb dX12_pardonNow_1 rfl (lv_at hl 1 rfl) ?_
  refine lv_bipush (v := (6 : Int32)) hx hb dX12_pardonNow_2 (by decide) ?_
  refine lv_iconst (v := (2 : Int32)) hx hb dX12_pardonNow_4 (by decide) ?_
  obtain ⟨v_a_5, hg5, hf⟩ := ob1_some hf
  refine mcV1_v (As := [.int p1, .int (6 : Int32), .int (2 : Int32)]) (rest := []) hx hb hml hown hts hK hP hD hS hA (k_X12_put l N D cI cJ cZ cB cT h q v_a v_image v_texts v_tape v_taped v_fault v_faultPlace v_at v_place v_token v_number v_word v_text0 v_written v_sort0 v_pile v_piled v_opens v_isWhole v_once v_named v_values v_truth v_isWritten v_died v_aside v_likely v_safe v_headOf p1 (6 : Int32) (2 : Int32) v_a_5 hg5) (kwX12_82 hts rfl rfl ⟨Nat.le_of_ble_eq_true rfl, Nat.le_of_ble_eq_true rfl⟩) 0 rfl rfl rfl rfl hl.1 rfl (Nat.le_of_ble_eq_true rfl) dX12_pardonNow_5 ⟨Nat.zero_le _, Nat.zero_le _⟩ (fun H locs hP hD hS => ?_)
  have hP : va_P D vwCl (WM h q cI cJ cZ v_a_5 v_image v_texts v_tape v_taped v_fault v_faultPlace v_at v_place v_token v_number v_word v_text0 v_written v_sort0 v_pile v_piled v_opens v_isWhole v_once v_named v_values v_truth v_isWritten v_died v_aside v_likely v_safe v_headOf) H := hP
  have hD : va_D A (WM h q cI cJ cZ v_a_5 v_image v_texts v_tape v_taped v_fault v_faultPlace v_at v_place v_token v_number v_word v_text0 v_written v_sort0 v_pile v_piled v_opens v_isWhole v_once v_named v_values v_truth v_isWritten v_died v_aside v_likely v_safe v_headOf) := hD
  refine lv_aload_n hx hb dX12_pardonNow_8 rfl (lv_at hl 0 rfl) ?_
  refine lv_iload_n hx hb dX12_pardonNow_9 rfl (lv_at hl 1 rfl) ?_
  refine lv_iconst (v := (5 : Int32)) hx hb dX12_pardonNow_10 (by decide) ?_
  refine lv_iconst (v := (0 : Int32)) hx hb dX12_pardonNow_11 (by decide) ?_
  obtain ⟨v_a_12, hg12, hf⟩ := ob1_some hf
  refine mcV1_v (As := [.int p1, .int (5 : Int32), .int (0 : Int32)]) (rest := []) hx hb hml hown hts hK hP hD hS hA (k_X12_put l N D cI cJ cZ cB cT h q v_a_5 v_image v_texts v_tape v_taped v_fault v_faultPlace v_at v_place v_token v_number v_word v_text0 v_written v_sort0 v_pile v_piled v_opens v_isWhole v_once v_named v_values v_truth v_isWritten v_died v_aside v_likely v_safe v_headOf p1 (5 : Int32) (0 : Int32) v_a_12 hg12) (kwX12_82 hts rfl rfl ⟨Nat.le_of_ble_eq_true rfl, Nat.le_of_ble_eq_true rfl⟩) 0 rfl rfl rfl rfl hl.1 rfl (Nat.le_of_ble_eq_true rfl) dX12_pardonNow_12 ⟨Nat.zero_le _, Nat.zero_le _⟩ (fun H locs hP hD hS => ?_)
  have hP : va_P D vwCl (WM h q cI cJ cZ v_a_12 v_image v_texts v_tape v_taped v_fault v_faultPlace v_at v_place v_token v_number v_word v_text0 v_written v_sort0 v_pile v_piled v_opens v_isWhole v_once v_named v_values v_truth v_isWritten v_died v_aside v_likely v_safe v_headOf) H := hP
  have hD : va_D A (WM h q cI cJ cZ v_a_12 v_image v_texts v_tape v_taped v_fault v_faultPlace v_at v_place v_token v_number v_word v_text0 v_written v_sort0 v_pile v_piled v_opens v_isWhole v_once v_named v_values v_truth v_isWritten v_died v_aside v_likely v_safe v_headOf) := hD
  refine lv_aload_n hx hb dX12_pardonNow_15 rfl (lv_at hl 0 rfl) ?_
  refine lv_iload_n hx hb dX12_pardonNow_16 rfl (lv_at hl 1 rfl) ?_
  refine lv_iconst (v := (4 : Int32)) hx hb dX12_pardonNow_17 (by decide) ?_
  refine lv_iconst (v := (0 : Int32)) hx hb dX12_pardonNow_18 (by decide) ?_
  obtain ⟨v_a_19, hg19, hf⟩ := ob1_some hf
  refine mcV1_v (As := [.int p1, .int (4 : Int32), .int (0 : Int32)]) (rest := []) hx hb hml hown hts hK hP hD hS hA (k_X12_put l N D cI cJ cZ cB cT h q v_a_12 v_image v_texts v_tape v_taped v_fault v_faultPlace v_at v_place v_token v_number v_word v_text0 v_written v_sort0 v_pile v_piled v_opens v_isWhole v_once v_named v_values v_truth v_isWritten v_died v_aside v_likely v_safe v_headOf p1 (4 : Int32) (0 : Int32) v_a_19 hg19) (kwX12_82 hts rfl rfl ⟨Nat.le_of_ble_eq_true rfl, Nat.le_of_ble_eq_true rfl⟩) 0 rfl rfl rfl rfl hl.1 rfl (Nat.le_of_ble_eq_true rfl) dX12_pardonNow_19 ⟨Nat.zero_le _, Nat.zero_le _⟩ (fun H locs hP hD hS => ?_)
  have hP : va_P D vwCl (WM h q cI cJ cZ v_a_19 v_image v_texts v_tape v_taped v_fault v_faultPlace v_at v_place v_token v_number v_word v_text0 v_written v_sort0 v_pile v_piled v_opens v_isWhole v_once v_named v_values v_truth v_isWritten v_died v_aside v_likely v_safe v_headOf) H := hP
  have hD : va_D A (WM h q cI cJ cZ v_a_19 v_image v_texts v_tape v_taped v_fault v_faultPlace v_at v_place v_token v_number v_word v_text0 v_written v_sort0 v_pile v_piled v_opens v_isWhole v_once v_named v_values v_truth v_isWritten v_died v_aside v_likely v_safe v_headOf) := hD
  cases hf
  exact mret_v hx hb hr hlocks hP hD hS dX12_pardonNow_22
theorem dX12_killNow_0 : decode cX12_killNow 0 = .ok (.aload_n 0, 1) := by decide +kernel
theorem dX12_killNow_1 : decode cX12_killNow 1 = .ok (.iload_n 1, 1) := by decide +kernel
theorem dX12_killNow_2 : decode cX12_killNow 2 = .ok (.iconst 5, 1) := by decide +kernel
theorem dX12_killNow_3 : decode cX12_killNow 3 = .ok (.invokevirtual 331, 3) := by decide +kernel
theorem dX12_killNow_6 : decode cX12_killNow 6 = .ok (.aload_n 0, 1) := by decide +kernel
theorem dX12_killNow_7 : decode cX12_killNow 7 = .ok (.iload_n 2, 1) := by decide +kernel
theorem dX12_killNow_8 : decode cX12_killNow 8 = .ok (.bipush 6, 2) := by decide +kernel
theorem dX12_killNow_10 : decode cX12_killNow 10 = .ok (.invokevirtual 71, 3) := by decide +kernel
theorem dX12_killNow_13 : decode cX12_killNow 13 = .ok (.iconst 1, 1) := by decide +kernel
theorem dX12_killNow_14 : decode cX12_killNow 14 = .ok (.if_icmp .ne 8, 3) := by decide +kernel
theorem dX12_killNow_17 : decode cX12_killNow 17 = .ok (.aload_n 0, 1) := by decide +kernel
theorem dX12_killNow_18 : decode cX12_killNow 18 = .ok (.iload_n 2, 1) := by decide +kernel
theorem dX12_killNow_19 : decode cX12_killNow 19 = .ok (.invokevirtual 367, 3) := by decide +kernel
theorem dX12_killNow_22 : decode cX12_killNow 22 = .ok (.return_, 1) := by decide +kernel
def f_X12_killNow (N : Nat) (v_a : Nat → Int32) (v_isWritten : Int32) (v_died : Int32) (p1 : Int32) (p2 : Int32) : Option ((Nat → Int32) × Int32) := ob2 (f_X12_die N v_a v_isWritten v_died p1 (5 : Int32)) fun v_a_3 v_died_3 => ob1 (f_X12_get N v_a_3 p2 (6 : Int32)) fun r10 => if r10 = (1 : Int32) then (ob1 (f_X12_pardonNow N v_a_3 p2) fun v_a_19 => some (v_a_19, v_died_3)) else (some (v_a_3, v_died_3))
set_option maxHeartbeats 4000000 in
set_option maxRecDepth 100000 in
theorem k_X12_killNow (l : Launch) (N : Nat) (D : va_G) (cI cJ cZ cB cT : ClassId) (h : Nat) (q : Nat → Nat) (v_a : Nat → Int32) (v_image : Nat → Int32) (v_texts : Nat → Int32) (v_tape : Nat → Int32) (v_taped : Int32) (v_fault : Int32) (v_faultPlace : Int32) (v_at : Int32) (v_place : Int32) (v_token : Int32) (v_number : Int32) (v_word : Int64) (v_text0 : Int32) (v_written : Int32) (v_sort0 : Int32) (v_pile : Nat → Int32) (v_piled : Int32) (v_opens : Int32) (v_isWhole : Int32) (v_once : Int32) (v_named : Nat → Int32) (v_values : Nat → Int64) (v_truth : Nat → Int32) (v_isWritten : Int32) (v_died : Int32) (v_aside : Nat → Int32) (v_likely : Nat → Int32) (v_safe : Nat → Int32) (v_headOf : Nat → Int32) (p1 : Int32) (p2 : Int32) (o_v_a : Nat → Int32) (o_v_died : Int32) (hf : f_X12_killNow N v_a v_isWritten v_died p1 p2 = some (o_v_a, o_v_died)) : ∀ sz, Met l yX12_killNow (mw yX12_killNow cX12_killNow 3 none) ({ frames := 2, cells := 0, slots := 0, locals := 45 } : Room) (mPre D (mT cI cJ cZ cB cT) (WM h q cI cJ cZ v_a v_image v_texts v_tape v_taped v_fault v_faultPlace v_at v_place v_token v_number v_word v_text0 v_written v_sort0 v_pile v_piled v_opens v_isWhole v_once v_named v_values v_truth v_isWritten v_died v_aside v_likely v_safe v_headOf) sz [.ref h, .int p1, .int p2]) ((mQv D (WM h q cI cJ cZ o_v_a v_image v_texts v_tape v_taped v_fault v_faultPlace v_at v_place v_token v_number v_word v_text0 v_written v_sort0 v_pile v_piled v_opens v_isWhole v_once v_named v_values v_truth v_isWritten o_v_died v_aside v_likely v_safe v_headOf)) (va_A (WM h q cI cJ cZ v_a v_image v_texts v_tape v_taped v_fault v_faultPlace v_at v_place v_token v_number v_word v_text0 v_written v_sort0 v_pile v_piled v_opens v_isWhole v_once v_named v_values v_truth v_isWritten v_died v_aside v_likely v_safe v_headOf) sz)) 0 0 (va_A (WM h q cI cJ cZ v_a v_image v_texts v_tape v_taped v_fault v_faultPlace v_at v_place v_token v_number v_word v_text0 v_written v_sort0 v_pile v_piled v_opens v_isWhole v_once v_named v_values v_truth v_isWritten v_died v_aside v_likely v_safe v_headOf) sz) := by
  refine mMet (Qc := (mQv D (WM h q cI cJ cZ o_v_a v_image v_texts v_tape v_taped v_fault v_faultPlace v_at v_place v_token v_number v_word v_text0 v_written v_sort0 v_pile v_piled v_opens v_isWhole v_once v_named v_values v_truth v_isWritten o_v_died v_aside v_likely v_safe v_headOf))) (by decide) (Nat.le_of_ble_eq_true rfl) (fun p e s m below meth c A ls hx hb hr hml hts hown hlocks hK hA hP hD hl => ?_)
  have hown : s.vm.findClass RX12 = some m.cls := hown
  have hl : lv_has ls 3 [(0, .ref h), (1, .int p1), (2, .int p2)] := hl
  have hS : va_S A s.heap s.heap [] := va_S.rf
  unfold f_X12_killNow at hf
  refine lv_aload_n hx hb dX12_killNow_0 rfl (lv_at hl 0 rfl) ?_
  refine lv_iload_n hx hb dX12_killNow_1 rfl (lv_at hl 1 rfl) ?_
  refine lv_iconst (v := (5 : Int32)) hx hb dX12_killNow_2 (by decide) ?_
  obtain ⟨v_a_3, v_died_3, hg3, hf⟩ := ob2_some hf
  refine mcV1_v (As := [.int p1, .int (5 : Int32)]) (rest := []) hx hb hml hown hts hK hP hD hS hA (k_X12_die l N D cI cJ cZ cB cT h q v_a v_image v_texts v_tape v_taped v_fault v_faultPlace v_at v_place v_token v_number v_word v_text0 v_written v_sort0 v_pile v_piled v_opens v_isWhole v_once v_named v_values v_truth v_isWritten v_died v_aside v_likely v_safe v_headOf p1 (5 : Int32) v_a_3 v_died_3 hg3) (kwX12_331 hts rfl rfl ⟨Nat.le_of_ble_eq_true rfl, Nat.le_of_ble_eq_true rfl⟩) 0 rfl rfl rfl rfl hl.1 rfl (Nat.le_of_ble_eq_true rfl) dX12_killNow_3 ⟨Nat.zero_le _, Nat.zero_le _⟩ (fun H locs hP hD hS => ?_)
  have hP : va_P D vwCl (WM h q cI cJ cZ v_a_3 v_image v_texts v_tape v_taped v_fault v_faultPlace v_at v_place v_token v_number v_word v_text0 v_written v_sort0 v_pile v_piled v_opens v_isWhole v_once v_named v_values v_truth v_isWritten v_died_3 v_aside v_likely v_safe v_headOf) H := hP
  have hD : va_D A (WM h q cI cJ cZ v_a_3 v_image v_texts v_tape v_taped v_fault v_faultPlace v_at v_place v_token v_number v_word v_text0 v_written v_sort0 v_pile v_piled v_opens v_isWhole v_once v_named v_values v_truth v_isWritten v_died_3 v_aside v_likely v_safe v_headOf) := hD
  refine lv_aload_n hx hb dX12_killNow_6 rfl (lv_at hl 0 rfl) ?_
  refine lv_iload_n hx hb dX12_killNow_7 rfl (lv_at hl 2 rfl) ?_
  refine lv_bipush (v := (6 : Int32)) hx hb dX12_killNow_8 (by decide) ?_
  obtain ⟨r10, hg10, hf⟩ := ob1_some hf
  refine mcV1_i (As := [.int p2, .int (6 : Int32)]) (rest := []) hx hb hml hown hts hK hP hD hS hA (k_X12_get l N D cI cJ cZ cB cT h q v_a_3 v_image v_texts v_tape v_taped v_fault v_faultPlace v_at v_place v_token v_number v_word v_text0 v_written v_sort0 v_pile v_piled v_opens v_isWhole v_once v_named v_values v_truth v_isWritten v_died_3 v_aside v_likely v_safe v_headOf p2 (6 : Int32) r10 hg10) (kwX12_71 hts rfl rfl ⟨Nat.le_of_ble_eq_true rfl, Nat.le_of_ble_eq_true rfl⟩) 0 rfl rfl rfl rfl hl.1 rfl (Nat.le_of_ble_eq_true rfl) dX12_killNow_10 ⟨Nat.zero_le _, Nat.zero_le _⟩ (fun hB10 H locs hP hD hS => ?_)
  have hP : va_P D vwCl (WM h q cI cJ cZ v_a_3 v_image v_texts v_tape v_taped v_fault v_faultPlace v_at v_place v_token v_number v_word v_text0 v_written v_sort0 v_pile v_piled v_opens v_isWhole v_once v_named v_values v_truth v_isWritten v_died_3 v_aside v_likely v_safe v_headOf) H := hP
  have hD : va_D A (WM h q cI cJ cZ v_a_3 v_image v_texts v_tape v_taped v_fault v_faultPlace v_at v_place v_token v_number v_word v_text0 v_written v_sort0 v_pile v_piled v_opens v_isWhole v_once v_named v_values v_truth v_isWritten v_died_3 v_aside v_likely v_safe v_headOf) := hD
  refine lv_iconst (v := (1 : Int32)) hx hb dX12_killNow_13 (by decide) ?_
  refine xicmp_ne hx hb 22 dX12_killNow_14 (by decide) hf (fun hf => ?_) (fun hf => ?_)
  · refine lv_aload_n hx hb dX12_killNow_17 rfl (lv_at hl 0 rfl) ?_
    refine lv_iload_n hx hb dX12_killNow_18 rfl (lv_at hl 2 rfl) ?_
    obtain ⟨v_a_19, hg19, hf⟩ := ob1_some hf
    refine mcV1_v (As := [.int p2]) (rest := []) hx hb hml hown hts hK hP hD hS hA (k_X12_pardonNow l N D cI cJ cZ cB cT h q v_a_3 v_image v_texts v_tape v_taped v_fault v_faultPlace v_at v_place v_token v_number v_word v_text0 v_written v_sort0 v_pile v_piled v_opens v_isWhole v_once v_named v_values v_truth v_isWritten v_died_3 v_aside v_likely v_safe v_headOf p2 v_a_19 hg19) (kwX12_367 hts rfl rfl ⟨Nat.le_of_ble_eq_true rfl, Nat.le_of_ble_eq_true rfl⟩) 0 rfl rfl rfl rfl hl.1 rfl (Nat.le_of_ble_eq_true rfl) dX12_killNow_19 ⟨Nat.zero_le _, Nat.zero_le _⟩ (fun H locs hP hD hS => ?_)
    have hP : va_P D vwCl (WM h q cI cJ cZ v_a_19 v_image v_texts v_tape v_taped v_fault v_faultPlace v_at v_place v_token v_number v_word v_text0 v_written v_sort0 v_pile v_piled v_opens v_isWhole v_once v_named v_values v_truth v_isWritten v_died_3 v_aside v_likely v_safe v_headOf) H := hP
    have hD : va_D A (WM h q cI cJ cZ v_a_19 v_image v_texts v_tape v_taped v_fault v_faultPlace v_at v_place v_token v_number v_word v_text0 v_written v_sort0 v_pile v_piled v_opens v_isWhole v_once v_named v_values v_truth v_isWritten v_died_3 v_aside v_likely v_safe v_headOf) := hD
    cases hf
    exact mret_v hx hb hr hlocks hP hD hS dX12_killNow_22
  · cases hf
    exact mret_v hx hb hr hlocks hP hD hS dX12_killNow_22
theorem dX12_kill_0 : decode cX12_kill 0 = .ok (.aload_n 0, 1) := by decide +kernel
theorem dX12_kill_1 : decode cX12_kill 1 = .ok (.iload_n 1, 1) := by decide +kernel
theorem dX12_kill_2 : decode cX12_kill 2 = .ok (.iload_n 2, 1) := by decide +kernel
theorem dX12_kill_3 : decode cX12_kill 3 = .ok (.invokevirtual 361, 3) := by decide +kernel
theorem dX12_kill_6 : decode cX12_kill 6 = .ok (.ifCond .ne 5, 3) := by decide +kernel
theorem dX12_kill_9 : decode cX12_kill 9 = .ok (.iconst 0, 1) := by decide +kernel
theorem dX12_kill_10 : decode cX12_kill 10 = .ok (.ireturn, 1) := by decide +kernel
theorem dX12_kill_11 : decode cX12_kill 11 = .ok (.aload_n 0, 1) := by decide +kernel
theorem dX12_kill_12 : decode cX12_kill 12 = .ok (.invokevirtual 349, 3) := by decide +kernel
theorem dX12_kill_15 : decode cX12_kill 15 = .ok (.aload_n 0, 1) := by decide +kernel
theorem dX12_kill_16 : decode cX12_kill 16 = .ok (.iload_n 1, 1) := by decide +kernel
theorem dX12_kill_17 : decode cX12_kill 17 = .ok (.iload_n 2, 1) := by decide +kernel
theorem dX12_kill_18 : decode cX12_kill 18 = .ok (.invokevirtual 370, 3) := by decide +kernel
theorem dX12_kill_21 : decode cX12_kill 21 = .ok (.iconst 1, 1) := by decide +kernel
theorem dX12_kill_22 : decode cX12_kill 22 = .ok (.ireturn, 1) := by decide +kernel
def f_X12_kill (N : Nat) (v_a : Nat → Int32) (v_isWritten : Int32) (v_died : Int32) (p1 : Int32) (p2 : Int32) : Option (Int32 × (Nat → Int32) × Int32) := ob1 (f_X12_areBeside N v_a p1 p2) fun r3 => if r3 = 0 then (some ((0 : Int32), v_a, v_died)) else (ob1 (f_X12_keep N v_a) fun v_a_12 => ob2 (f_X12_killNow N v_a_12 v_isWritten v_died p1 p2) fun v_a_18 v_died_18 => some ((1 : Int32), v_a_18, v_died_18))
set_option maxHeartbeats 4000000 in
set_option maxRecDepth 100000 in
theorem k_X12_kill (l : Launch) (N : Nat) (D : va_G) (cI cJ cZ cB cT : ClassId) (h : Nat) (q : Nat → Nat) (v_a : Nat → Int32) (v_image : Nat → Int32) (v_texts : Nat → Int32) (v_tape : Nat → Int32) (v_taped : Int32) (v_fault : Int32) (v_faultPlace : Int32) (v_at : Int32) (v_place : Int32) (v_token : Int32) (v_number : Int32) (v_word : Int64) (v_text0 : Int32) (v_written : Int32) (v_sort0 : Int32) (v_pile : Nat → Int32) (v_piled : Int32) (v_opens : Int32) (v_isWhole : Int32) (v_once : Int32) (v_named : Nat → Int32) (v_values : Nat → Int64) (v_truth : Nat → Int32) (v_isWritten : Int32) (v_died : Int32) (v_aside : Nat → Int32) (v_likely : Nat → Int32) (v_safe : Nat → Int32) (v_headOf : Nat → Int32) (p1 : Int32) (p2 : Int32) (o_r : Int32) (o_v_a : Nat → Int32) (o_v_died : Int32) (hf : f_X12_kill N v_a v_isWritten v_died p1 p2 = some (o_r, o_v_a, o_v_died)) : ∀ sz, Met l yX12_kill (mw yX12_kill cX12_kill 3 (some .boolean)) ({ frames := 4, cells := 0, slots := 0, locals := 86 } : Room) (mPre D (mT cI cJ cZ cB cT) (WM h q cI cJ cZ v_a v_image v_texts v_tape v_taped v_fault v_faultPlace v_at v_place v_token v_number v_word v_text0 v_written v_sort0 v_pile v_piled v_opens v_isWhole v_once v_named v_values v_truth v_isWritten v_died v_aside v_likely v_safe v_headOf) sz [.ref h, .int p1, .int p2]) ((mQi D (WM h q cI cJ cZ o_v_a v_image v_texts v_tape v_taped v_fault v_faultPlace v_at v_place v_token v_number v_word v_text0 v_written v_sort0 v_pile v_piled v_opens v_isWhole v_once v_named v_values v_truth v_isWritten o_v_died v_aside v_likely v_safe v_headOf) o_r (mB o_r)) (va_A (WM h q cI cJ cZ v_a v_image v_texts v_tape v_taped v_fault v_faultPlace v_at v_place v_token v_number v_word v_text0 v_written v_sort0 v_pile v_piled v_opens v_isWhole v_once v_named v_values v_truth v_isWritten v_died v_aside v_likely v_safe v_headOf) sz)) 0 0 (va_A (WM h q cI cJ cZ v_a v_image v_texts v_tape v_taped v_fault v_faultPlace v_at v_place v_token v_number v_word v_text0 v_written v_sort0 v_pile v_piled v_opens v_isWhole v_once v_named v_values v_truth v_isWritten v_died v_aside v_likely v_safe v_headOf) sz) := by
  refine mMet (Qc := (mQi D (WM h q cI cJ cZ o_v_a v_image v_texts v_tape v_taped v_fault v_faultPlace v_at v_place v_token v_number v_word v_text0 v_written v_sort0 v_pile v_piled v_opens v_isWhole v_once v_named v_values v_truth v_isWritten o_v_died v_aside v_likely v_safe v_headOf) o_r (mB o_r))) (by decide) (Nat.le_of_ble_eq_true rfl) (fun p e s m below meth c A ls hx hb hr hml hts hown hlocks hK hA hP hD hl => ?_)
  have hown : s.vm.findClass RX12 = some m.cls := hown
  have hl : lv_has ls 3 [(0, .ref h), (1, .int p1), (2, .int p2)] := hl
  have hS : va_S A s.heap s.heap [] := va_S.rf
  unfold f_X12_kill at hf
  refine lv_aload_n hx hb dX12_kill_0 rfl (lv_at hl 0 rfl) ?_
  refine lv_iload_n hx hb dX12_kill_1 rfl (lv_at hl 1 rfl) ?_
  refine lv_iload_n hx hb dX12_kill_2 rfl (lv_at hl 2 rfl) ?_
  obtain ⟨r3, hg3, hf⟩ := ob1_some hf
  refine mcV1_i (As := [.int p1, .int p2]) (rest := []) hx hb hml hown hts hK hP hD hS hA (k_X12_areBeside l N D cI cJ cZ cB cT h q v_a v_image v_texts v_tape v_taped v_fault v_faultPlace v_at v_place v_token v_number v_word v_text0 v_written v_sort0 v_pile v_piled v_opens v_isWhole v_once v_named v_values v_truth v_isWritten v_died v_aside v_likely v_safe v_headOf p1 p2 r3 hg3) (kwX12_361 hts rfl rfl ⟨Nat.le_of_ble_eq_true rfl, Nat.le_of_ble_eq_true rfl⟩) 0 rfl rfl rfl rfl hl.1 rfl (Nat.le_of_ble_eq_true rfl) dX12_kill_3 ⟨Nat.zero_le _, Nat.zero_le _⟩ (fun hB3 H locs hP hD hS => ?_)
  have hP : va_P D vwCl (WM h q cI cJ cZ v_a v_image v_texts v_tape v_taped v_fault v_faultPlace v_at v_place v_token v_number v_word v_text0 v_written v_sort0 v_pile v_piled v_opens v_isWhole v_once v_named v_values v_truth v_isWritten v_died v_aside v_likely v_safe v_headOf) H := hP
  have hD : va_D A (WM h q cI cJ cZ v_a v_image v_texts v_tape v_taped v_fault v_faultPlace v_at v_place v_token v_number v_word v_text0 v_written v_sort0 v_pile v_piled v_opens v_isWhole v_once v_named v_values v_truth v_isWritten v_died v_aside v_likely v_safe v_headOf) := hD
  refine xif_ne hx hb 11 dX12_kill_6 (by decide) hf (fun hf => ?_) (fun hf => ?_)
  · refine lv_iconst (v := (0 : Int32)) hx hb dX12_kill_9 (by decide) ?_
    cases hf
    exact mret_z hx hb hr hlocks hP hD hS dX12_kill_10 rfl rfl
  · refine lv_aload_n hx hb dX12_kill_11 rfl (lv_at hl 0 rfl) ?_
    obtain ⟨v_a_12, hg12, hf⟩ := ob1_some hf
    refine mcV1_v (As := []) (rest := []) hx hb hml hown hts hK hP hD hS hA (k_X12_keep l N D cI cJ cZ cB cT h q v_a v_image v_texts v_tape v_taped v_fault v_faultPlace v_at v_place v_token v_number v_word v_text0 v_written v_sort0 v_pile v_piled v_opens v_isWhole v_once v_named v_values v_truth v_isWritten v_died v_aside v_likely v_safe v_headOf v_a_12 hg12) (kwX12_349 hts rfl rfl ⟨Nat.le_of_ble_eq_true rfl, Nat.le_of_ble_eq_true rfl⟩) 0 rfl rfl rfl rfl hl.1 rfl (Nat.le_of_ble_eq_true rfl) dX12_kill_12 ⟨Nat.zero_le _, Nat.zero_le _⟩ (fun H locs hP hD hS => ?_)
    have hP : va_P D vwCl (WM h q cI cJ cZ v_a_12 v_image v_texts v_tape v_taped v_fault v_faultPlace v_at v_place v_token v_number v_word v_text0 v_written v_sort0 v_pile v_piled v_opens v_isWhole v_once v_named v_values v_truth v_isWritten v_died v_aside v_likely v_safe v_headOf) H := hP
    have hD : va_D A (WM h q cI cJ cZ v_a_12 v_image v_texts v_tape v_taped v_fault v_faultPlace v_at v_place v_token v_number v_word v_text0 v_written v_sort0 v_pile v_piled v_opens v_isWhole v_once v_named v_values v_truth v_isWritten v_died v_aside v_likely v_safe v_headOf) := hD
    refine lv_aload_n hx hb dX12_kill_15 rfl (lv_at hl 0 rfl) ?_
    refine lv_iload_n hx hb dX12_kill_16 rfl (lv_at hl 1 rfl) ?_
    refine lv_iload_n hx hb dX12_kill_17 rfl (lv_at hl 2 rfl) ?_
    obtain ⟨v_a_18, v_died_18, hg18, hf⟩ := ob2_some hf
    refine mcV1_v (As := [.int p1, .int p2]) (rest := []) hx hb hml hown hts hK hP hD hS hA (k_X12_killNow l N D cI cJ cZ cB cT h q v_a_12 v_image v_texts v_tape v_taped v_fault v_faultPlace v_at v_place v_token v_number v_word v_text0 v_written v_sort0 v_pile v_piled v_opens v_isWhole v_once v_named v_values v_truth v_isWritten v_died v_aside v_likely v_safe v_headOf p1 p2 v_a_18 v_died_18 hg18) (kwX12_370 hts rfl rfl ⟨Nat.le_of_ble_eq_true rfl, Nat.le_of_ble_eq_true rfl⟩) 0 rfl rfl rfl rfl hl.1 rfl (Nat.le_of_ble_eq_true rfl) dX12_kill_18 ⟨Nat.zero_le _, Nat.zero_le _⟩ (fun H locs hP hD hS => ?_)
    have hP : va_P D vwCl (WM h q cI cJ cZ v_a_18 v_image v_texts v_tape v_taped v_fault v_faultPlace v_at v_place v_token v_number v_word v_text0 v_written v_sort0 v_pile v_piled v_opens v_isWhole v_once v_named v_values v_truth v_isWritten v_died_18 v_aside v_likely v_safe v_headOf) H := hP
    have hD : va_D A (WM h q cI cJ cZ v_a_18 v_image v_texts v_tape v_taped v_fault v_faultPlace v_at v_place v_token v_number v_word v_text0 v_written v_sort0 v_pile v_piled v_opens v_isWhole v_once v_named v_values v_truth v_isWritten v_died_18 v_aside v_likely v_safe v_headOf) := hD
    refine lv_iconst (v := (1 : Int32)) hx hb dX12_kill_21 (by decide) ?_
    cases hf
    exact mret_z hx hb hr hlocks hP hD hS dX12_kill_22 rfl rfl
theorem dX12_canPardon_0 : decode cX12_canPardon 0 = .ok (.aload_n 0, 1) := by decide +kernel
theorem dX12_canPardon_1 : decode cX12_canPardon 1 = .ok (.iload_n 1, 1) := by decide +kernel
theorem dX12_canPardon_2 : decode cX12_canPardon 2 = .ok (.invokevirtual 358, 3) := by decide +kernel
theorem dX12_canPardon_5 : decode cX12_canPardon 5 = .ok (.ifCond .eq 35, 3) := by decide +kernel
theorem dX12_canPardon_8 : decode cX12_canPardon 8 = .ok (.aload_n 0, 1) := by decide +kernel
theorem dX12_canPardon_9 : decode cX12_canPardon 9 = .ok (.iload_n 2, 1) := by decide +kernel
theorem dX12_canPardon_10 : decode cX12_canPardon 10 = .ok (.invokevirtual 343, 3) := by decide +kernel
theorem dX12_canPardon_13 : decode cX12_canPardon 13 = .ok (.ifCond .eq 27, 3) := by decide +kernel
theorem dX12_canPardon_16 : decode cX12_canPardon 16 = .ok (.aload_n 0, 1) := by decide +kernel
theorem dX12_canPardon_17 : decode cX12_canPardon 17 = .ok (.iload_n 2, 1) := by decide +kernel
theorem dX12_canPardon_18 : decode cX12_canPardon 18 = .ok (.iconst 1, 1) := by decide +kernel
theorem dX12_canPardon_19 : decode cX12_canPardon 19 = .ok (.invokevirtual 71, 3) := by decide +kernel
theorem dX12_canPardon_22 : decode cX12_canPardon 22 = .ok (.aload_n 0, 1) := by decide +kernel
theorem dX12_canPardon_23 : decode cX12_canPardon 23 = .ok (.aload_n 0, 1) := by decide +kernel
theorem dX12_canPardon_24 : decode cX12_canPardon 24 = .ok (.getfield 7, 3) := by decide +kernel
theorem dX12_canPardon_27 : decode cX12_canPardon 27 = .ok (.iconst 3, 1) := by decide +kernel
theorem dX12_canPardon_28 : decode cX12_canPardon 28 = .ok (.iaload, 1) := by decide +kernel
theorem dX12_canPardon_29 : decode cX12_canPardon 29 = .ok (.iload_n 1, 1) := by decide +kernel
theorem dX12_canPardon_30 : decode cX12_canPardon 30 = .ok (.invokevirtual 373, 3) := by decide +kernel
theorem dX12_canPardon_33 : decode cX12_canPardon 33 = .ok (.if_icmp .lt 7, 3) := by decide +kernel
theorem dX12_canPardon_36 : decode cX12_canPardon 36 = .ok (.iconst 1, 1) := by decide +kernel
theorem dX12_canPardon_37 : decode cX12_canPardon 37 = .ok (.goto 4, 3) := by decide +kernel
theorem dX12_canPardon_40 : decode cX12_canPardon 40 = .ok (.iconst 0, 1) := by decide +kernel
theorem dX12_canPardon_41 : decode cX12_canPardon 41 = .ok (.ireturn, 1) := by decide +kernel
def f_X12_canPardon (N : Nat) (v_a : Nat → Int32) (v_texts : Nat → Int32) (v_named : Nat → Int32) (v_values : Nat → Int64) (v_truth : Nat → Int32) (p1 : Int32) (p2 : Int32) : Option (Int32 × (Nat → Int32) × (Nat → Int64) × (Nat → Int32)) := ob1 (f_X12_isOutlaw N v_a p1) fun r2 => if r2 = 0 then (some ((0 : Int32), v_named, v_values, v_truth)) else (ob1 (f_X12_isAlive N v_a p2) fun r10 => if r10 = 0 then (some ((0 : Int32), v_named, v_values, v_truth)) else (ob1 (f_X12_get N v_a p2 (1 : Int32)) fun r19 => gA v_a 8762 (3 : Int32) fun v28 => ob4 (f_X12_priceOf N v_a v_texts v_named v_values v_truth v28 p1) fun r30 v_named_30 v_values_30 v_truth_30 => if r19 < r30 then (some ((0 : Int32), v_named_30, v_values_30, v_truth_30)) else (some ((1 : Int32), v_named_30, v_values_30, v_truth_30))))
set_option maxHeartbeats 4000000 in
set_option maxRecDepth 100000 in
theorem k_X12_canPardon (l : Launch) (N : Nat) (D : va_G) (cI cJ cZ cB cT : ClassId) (h : Nat) (q : Nat → Nat) (v_a : Nat → Int32) (v_image : Nat → Int32) (v_texts : Nat → Int32) (v_tape : Nat → Int32) (v_taped : Int32) (v_fault : Int32) (v_faultPlace : Int32) (v_at : Int32) (v_place : Int32) (v_token : Int32) (v_number : Int32) (v_word : Int64) (v_text0 : Int32) (v_written : Int32) (v_sort0 : Int32) (v_pile : Nat → Int32) (v_piled : Int32) (v_opens : Int32) (v_isWhole : Int32) (v_once : Int32) (v_named : Nat → Int32) (v_values : Nat → Int64) (v_truth : Nat → Int32) (v_isWritten : Int32) (v_died : Int32) (v_aside : Nat → Int32) (v_likely : Nat → Int32) (v_safe : Nat → Int32) (v_headOf : Nat → Int32) (p1 : Int32) (p2 : Int32) (o_r : Int32) (o_v_named : Nat → Int32) (o_v_values : Nat → Int64) (o_v_truth : Nat → Int32) (hf : f_X12_canPardon N v_a v_texts v_named v_values v_truth p1 p2 = some (o_r, o_v_named, o_v_values, o_v_truth)) : ∀ sz, Met l yX12_canPardon (mw yX12_canPardon cX12_canPardon 3 (some .boolean)) ({ frames := 6, cells := 0, slots := 0, locals := 143 } : Room) (mPre D (mT cI cJ cZ cB cT) (WM h q cI cJ cZ v_a v_image v_texts v_tape v_taped v_fault v_faultPlace v_at v_place v_token v_number v_word v_text0 v_written v_sort0 v_pile v_piled v_opens v_isWhole v_once v_named v_values v_truth v_isWritten v_died v_aside v_likely v_safe v_headOf) sz [.ref h, .int p1, .int p2]) ((mQi D (WM h q cI cJ cZ v_a v_image v_texts v_tape v_taped v_fault v_faultPlace v_at v_place v_token v_number v_word v_text0 v_written v_sort0 v_pile v_piled v_opens v_isWhole v_once o_v_named o_v_values o_v_truth v_isWritten v_died v_aside v_likely v_safe v_headOf) o_r (mB o_r)) (va_A (WM h q cI cJ cZ v_a v_image v_texts v_tape v_taped v_fault v_faultPlace v_at v_place v_token v_number v_word v_text0 v_written v_sort0 v_pile v_piled v_opens v_isWhole v_once v_named v_values v_truth v_isWritten v_died v_aside v_likely v_safe v_headOf) sz)) 0 0 (va_A (WM h q cI cJ cZ v_a v_image v_texts v_tape v_taped v_fault v_faultPlace v_at v_place v_token v_number v_word v_text0 v_written v_sort0 v_pile v_piled v_opens v_isWhole v_once v_named v_values v_truth v_isWritten v_died v_aside v_likely v_safe v_headOf) sz) := by
  refine mMet (Qc := (mQi D (WM h q cI cJ cZ v_a v_image v_texts v_tape v_taped v_fault v_faultPlace v_at v_place v_token v_number v_word v_text0 v_written v_sort0 v_pile v_piled v_opens v_isWhole v_once o_v_named o_v_values o_v_truth v_isWritten v_died v_aside v_likely v_safe v_headOf) o_r (mB o_r))) (by decide) (Nat.le_of_ble_eq_true rfl) (fun p e s m below meth c A ls hx hb hr hml hts hown hlocks hK hA hP hD hl => ?_)
  have hown : s.vm.findClass RX12 = some m.cls := hown
  have hl : lv_has ls 3 [(0, .ref h), (1, .int p1), (2, .int p2)] := hl
  have hS : va_S A s.heap s.heap [] := va_S.rf
  unfold f_X12_canPardon at hf
  refine lv_aload_n hx hb dX12_canPardon_0 rfl (lv_at hl 0 rfl) ?_
  refine lv_iload_n hx hb dX12_canPardon_1 rfl (lv_at hl 1 rfl) ?_
  obtain ⟨r2, hg2, hf⟩ := ob1_some hf
  refine mcV1_i (As := [.int p1]) (rest := []) hx hb hml hown hts hK hP hD hS hA (k_X12_isOutlaw l N D cI cJ cZ cB cT h q v_a v_image v_texts v_tape v_taped v_fault v_faultPlace v_at v_place v_token v_number v_word v_text0 v_written v_sort0 v_pile v_piled v_opens v_isWhole v_once v_named v_values v_truth v_isWritten v_died v_aside v_likely v_safe v_headOf p1 r2 hg2) (kwX12_358 hts rfl rfl ⟨Nat.le_of_ble_eq_true rfl, Nat.le_of_ble_eq_true rfl⟩) 0 rfl rfl rfl rfl hl.1 rfl (Nat.le_of_ble_eq_true rfl) dX12_canPardon_2 ⟨Nat.zero_le _, Nat.zero_le _⟩ (fun hB2 H locs hP hD hS => ?_)
  have hP : va_P D vwCl (WM h q cI cJ cZ v_a v_image v_texts v_tape v_taped v_fault v_faultPlace v_at v_place v_token v_number v_word v_text0 v_written v_sort0 v_pile v_piled v_opens v_isWhole v_once v_named v_values v_truth v_isWritten v_died v_aside v_likely v_safe v_headOf) H := hP
  have hD : va_D A (WM h q cI cJ cZ v_a v_image v_texts v_tape v_taped v_fault v_faultPlace v_at v_place v_token v_number v_word v_text0 v_written v_sort0 v_pile v_piled v_opens v_isWhole v_once v_named v_values v_truth v_isWritten v_died v_aside v_likely v_safe v_headOf) := hD
  refine xif_eq hx hb 40 dX12_canPardon_5 (by decide) hf (fun hf => ?_) (fun hf => ?_)
  · refine lv_iconst (v := (0 : Int32)) hx hb dX12_canPardon_40 (by decide) ?_
    cases hf
    exact mret_z hx hb hr hlocks hP hD hS dX12_canPardon_41 rfl rfl
  · refine lv_aload_n hx hb dX12_canPardon_8 rfl (lv_at hl 0 rfl) ?_
    refine lv_iload_n hx hb dX12_canPardon_9 rfl (lv_at hl 2 rfl) ?_
    obtain ⟨r10, hg10, hf⟩ := ob1_some hf
    refine mcV1_i (As := [.int p2]) (rest := []) hx hb hml hown hts hK hP hD hS hA (k_X12_isAlive l N D cI cJ cZ cB cT h q v_a v_image v_texts v_tape v_taped v_fault v_faultPlace v_at v_place v_token v_number v_word v_text0 v_written v_sort0 v_pile v_piled v_opens v_isWhole v_once v_named v_values v_truth v_isWritten v_died v_aside v_likely v_safe v_headOf p2 r10 hg10) (kwX12_343 hts rfl rfl ⟨Nat.le_of_ble_eq_true rfl, Nat.le_of_ble_eq_true rfl⟩) 0 rfl rfl rfl rfl hl.1 rfl (Nat.le_of_ble_eq_true rfl) dX12_canPardon_10 ⟨Nat.zero_le _, Nat.zero_le _⟩ (fun hB10 H locs hP hD hS => ?_)
    have hP : va_P D vwCl (WM h q cI cJ cZ v_a v_image v_texts v_tape v_taped v_fault v_faultPlace v_at v_place v_token v_number v_word v_text0 v_written v_sort0 v_pile v_piled v_opens v_isWhole v_once v_named v_values v_truth v_isWritten v_died v_aside v_likely v_safe v_headOf) H := hP
    have hD : va_D A (WM h q cI cJ cZ v_a v_image v_texts v_tape v_taped v_fault v_faultPlace v_at v_place v_token v_number v_word v_text0 v_written v_sort0 v_pile v_piled v_opens v_isWhole v_once v_named v_values v_truth v_isWritten v_died v_aside v_likely v_safe v_headOf) := hD
    refine xif_eq hx hb 40 dX12_canPardon_13 (by decide) hf (fun hf => ?_) (fun hf => ?_)
    · refine lv_iconst (v := (0 : Int32)) hx hb dX12_canPardon_40 (by decide) ?_
      cases hf
      exact mret_z hx hb hr hlocks hP hD hS dX12_canPardon_41 rfl rfl
    · refine lv_aload_n hx hb dX12_canPardon_16 rfl (lv_at hl 0 rfl) ?_
      refine lv_iload_n hx hb dX12_canPardon_17 rfl (lv_at hl 2 rfl) ?_
      refine lv_iconst (v := (1 : Int32)) hx hb dX12_canPardon_18 (by decide) ?_
      obtain ⟨r19, hg19, hf⟩ := ob1_some hf
      refine mcV1_i (As := [.int p2, .int (1 : Int32)]) (rest := []) hx hb hml hown hts hK hP hD hS hA (k_X12_get l N D cI cJ cZ cB cT h q v_a v_image v_texts v_tape v_taped v_fault v_faultPlace v_at v_place v_token v_number v_word v_text0 v_written v_sort0 v_pile v_piled v_opens v_isWhole v_once v_named v_values v_truth v_isWritten v_died v_aside v_likely v_safe v_headOf p2 (1 : Int32) r19 hg19) (kwX12_71 hts rfl rfl ⟨Nat.le_of_ble_eq_true rfl, Nat.le_of_ble_eq_true rfl⟩) 0 rfl rfl rfl rfl hl.1 rfl (Nat.le_of_ble_eq_true rfl) dX12_canPardon_19 ⟨Nat.zero_le _, Nat.zero_le _⟩ (fun hB19 H locs hP hD hS => ?_)
      have hP : va_P D vwCl (WM h q cI cJ cZ v_a v_image v_texts v_tape v_taped v_fault v_faultPlace v_at v_place v_token v_number v_word v_text0 v_written v_sort0 v_pile v_piled v_opens v_isWhole v_once v_named v_values v_truth v_isWritten v_died v_aside v_likely v_safe v_headOf) H := hP
      have hD : va_D A (WM h q cI cJ cZ v_a v_image v_texts v_tape v_taped v_fault v_faultPlace v_at v_place v_token v_number v_word v_text0 v_written v_sort0 v_pile v_piled v_opens v_isWhole v_once v_named v_values v_truth v_isWritten v_died v_aside v_likely v_safe v_headOf) := hD
      refine lv_aload_n hx hb dX12_canPardon_22 rfl (lv_at hl 0 rfl) ?_
      refine lv_aload_n hx hb dX12_canPardon_23 rfl (lv_at hl 0 rfl) ?_
      refine gfX12_7 hx hb hts hown hK hP 0 rfl rfl dX12_canPardon_24 ?_
      refine lv_iconst (v := (3 : Int32)) hx hb dX12_canPardon_27 (by decide) ?_
      refine xiald hx hb hK hP 1 0 rfl rfl dX12_canPardon_28 hf (fun v28 hf => ?_)
      refine lv_iload_n hx hb dX12_canPardon_29 rfl (lv_at hl 1 rfl) ?_
      obtain ⟨r30, v_named_30, v_values_30, v_truth_30, hg30, hf⟩ := ob4_some hf
      refine mcV1_i (As := [.int v28, .int p1]) (rest := [.int r19]) hx hb hml hown hts hK hP hD hS hA (k_X12_priceOf l N D cI cJ cZ cB cT h q v_a v_image v_texts v_tape v_taped v_fault v_faultPlace v_at v_place v_token v_number v_word v_text0 v_written v_sort0 v_pile v_piled v_opens v_isWhole v_once v_named v_values v_truth v_isWritten v_died v_aside v_likely v_safe v_headOf v28 p1 r30 v_named_30 v_values_30 v_truth_30 hg30) (kwX12_373 hts rfl rfl ⟨Nat.le_of_ble_eq_true rfl, Nat.le_of_ble_eq_true rfl⟩) 0 rfl rfl rfl rfl hl.1 rfl (Nat.le_of_ble_eq_true rfl) dX12_canPardon_30 ⟨Nat.zero_le _, Nat.zero_le _⟩ (fun hB30 H locs hP hD hS => ?_)
      have hP : va_P D vwCl (WM h q cI cJ cZ v_a v_image v_texts v_tape v_taped v_fault v_faultPlace v_at v_place v_token v_number v_word v_text0 v_written v_sort0 v_pile v_piled v_opens v_isWhole v_once v_named_30 v_values_30 v_truth_30 v_isWritten v_died v_aside v_likely v_safe v_headOf) H := hP
      have hD : va_D A (WM h q cI cJ cZ v_a v_image v_texts v_tape v_taped v_fault v_faultPlace v_at v_place v_token v_number v_word v_text0 v_written v_sort0 v_pile v_piled v_opens v_isWhole v_once v_named_30 v_values_30 v_truth_30 v_isWritten v_died v_aside v_likely v_safe v_headOf) := hD
      refine xicmp_lt hx hb 40 dX12_canPardon_33 (by decide) hf (fun hf => ?_) (fun hf => ?_)
      · refine lv_iconst (v := (0 : Int32)) hx hb dX12_canPardon_40 (by decide) ?_
        cases hf
        exact mret_z hx hb hr hlocks hP hD hS dX12_canPardon_41 rfl rfl
      · refine lv_iconst (v := (1 : Int32)) hx hb dX12_canPardon_36 (by decide) ?_
        refine lv_goto (tgt := 41) hx hb dX12_canPardon_37 (by decide) ?_
        cases hf
        exact mret_z hx hb hr hlocks hP hD hS dX12_canPardon_41 rfl rfl
theorem dX12_payNow_0 : decode cX12_payNow 0 = .ok (.aload_n 0, 1) := by decide +kernel
theorem dX12_payNow_1 : decode cX12_payNow 1 = .ok (.aload_n 0, 1) := by decide +kernel
theorem dX12_payNow_2 : decode cX12_payNow 2 = .ok (.getfield 7, 3) := by decide +kernel
theorem dX12_payNow_5 : decode cX12_payNow 5 = .ok (.iconst 3, 1) := by decide +kernel
theorem dX12_payNow_6 : decode cX12_payNow 6 = .ok (.iaload, 1) := by decide +kernel
theorem dX12_payNow_7 : decode cX12_payNow 7 = .ok (.iload_n 1, 1) := by decide +kernel
theorem dX12_payNow_8 : decode cX12_payNow 8 = .ok (.invokevirtual 373, 3) := by decide +kernel
theorem dX12_payNow_11 : decode cX12_payNow 11 = .ok (.istore_n 3, 1) := by decide +kernel
theorem dX12_payNow_12 : decode cX12_payNow 12 = .ok (.aload_n 0, 1) := by decide +kernel
theorem dX12_payNow_13 : decode cX12_payNow 13 = .ok (.iload_n 2, 1) := by decide +kernel
theorem dX12_payNow_14 : decode cX12_payNow 14 = .ok (.iconst 1, 1) := by decide +kernel
theorem dX12_payNow_15 : decode cX12_payNow 15 = .ok (.aload_n 0, 1) := by decide +kernel
theorem dX12_payNow_16 : decode cX12_payNow 16 = .ok (.iload_n 2, 1) := by decide +kernel
theorem dX12_payNow_17 : decode cX12_payNow 17 = .ok (.iconst 1, 1) := by decide +kernel
theorem dX12_payNow_18 : decode cX12_payNow 18 = .ok (.invokevirtual 71, 3) := by decide +kernel
theorem dX12_payNow_21 : decode cX12_payNow 21 = .ok (.iload_n 3, 1) := by decide +kernel
theorem dX12_payNow_22 : decode cX12_payNow 22 = .ok (.isub, 1) := by decide +kernel
theorem dX12_payNow_23 : decode cX12_payNow 23 = .ok (.invokevirtual 82, 3) := by decide +kernel
theorem dX12_payNow_26 : decode cX12_payNow 26 = .ok (.aload_n 0, 1) := by decide +kernel
theorem dX12_payNow_27 : decode cX12_payNow 27 = .ok (.iload_n 1, 1) := by decide +kernel
theorem dX12_payNow_28 : decode cX12_payNow 28 = .ok (.invokevirtual 367, 3) := by decide +kernel
theorem dX12_payNow_31 : decode cX12_payNow 31 = .ok (.aload_n 0, 1) := by decide +kernel
theorem dX12_payNow_32 : decode cX12_payNow 32 = .ok (.iload_n 1, 1) := by decide +kernel
theorem dX12_payNow_33 : decode cX12_payNow 33 = .ok (.bipush 6, 2) := by decide +kernel
theorem dX12_payNow_35 : decode cX12_payNow 35 = .ok (.invokevirtual 319, 3) := by decide +kernel
theorem dX12_payNow_38 : decode cX12_payNow 38 = .ok (.iload_n 3, 1) := by decide +kernel
theorem dX12_payNow_39 : decode cX12_payNow 39 = .ok (.ireturn, 1) := by decide +kernel
def f_X12_payNow (N : Nat) (v_a : Nat → Int32) (v_texts : Nat → Int32) (v_named : Nat → Int32) (v_values : Nat → Int64) (v_truth : Nat → Int32) (v_isWritten : Int32) (p1 : Int32) (p2 : Int32) : Option (Int32 × (Nat → Int32) × (Nat → Int32) × (Nat → Int64) × (Nat → Int32)) := gA v_a 8762 (3 : Int32) fun v6 => ob4 (f_X12_priceOf N v_a v_texts v_named v_values v_truth v6 p1) fun r8 v_named_8 v_values_8 v_truth_8 => ob1 (f_X12_get N v_a p2 (1 : Int32)) fun r18 => ob1 (f_X12_put N v_a p2 (1 : Int32) (r18 - r8)) fun v_a_23 => ob1 (f_X12_pardonNow N v_a_23 p1) fun v_a_28 => ob1 (f_X12_write N v_a_28 v_isWritten p1 (6 : Int32)) fun v_a_35 => some (r8, v_a_35, v_named_8, v_values_8, v_truth_8)
set_option maxHeartbeats 4000000 in
set_option maxRecDepth 100000 in
theorem k_X12_payNow (l : Launch) (N : Nat) (D : va_G) (cI cJ cZ cB cT : ClassId) (h : Nat) (q : Nat → Nat) (v_a : Nat → Int32) (v_image : Nat → Int32) (v_texts : Nat → Int32) (v_tape : Nat → Int32) (v_taped : Int32) (v_fault : Int32) (v_faultPlace : Int32) (v_at : Int32) (v_place : Int32) (v_token : Int32) (v_number : Int32) (v_word : Int64) (v_text0 : Int32) (v_written : Int32) (v_sort0 : Int32) (v_pile : Nat → Int32) (v_piled : Int32) (v_opens : Int32) (v_isWhole : Int32) (v_once : Int32) (v_named : Nat → Int32) (v_values : Nat → Int64) (v_truth : Nat → Int32) (v_isWritten : Int32) (v_died : Int32) (v_aside : Nat → Int32) (v_likely : Nat → Int32) (v_safe : Nat → Int32) (v_headOf : Nat → Int32) (p1 : Int32) (p2 : Int32) (o_r : Int32) (o_v_a : Nat → Int32) (o_v_named : Nat → Int32) (o_v_values : Nat → Int64) (o_v_truth : Nat → Int32) (hf : f_X12_payNow N v_a v_texts v_named v_values v_truth v_isWritten p1 p2 = some (o_r, o_v_a, o_v_named, o_v_values, o_v_truth)) : ∀ sz, Met l yX12_payNow (mw yX12_payNow cX12_payNow 4 (some .int)) ({ frames := 6, cells := 0, slots := 0, locals := 143 } : Room) (mPre D (mT cI cJ cZ cB cT) (WM h q cI cJ cZ v_a v_image v_texts v_tape v_taped v_fault v_faultPlace v_at v_place v_token v_number v_word v_text0 v_written v_sort0 v_pile v_piled v_opens v_isWhole v_once v_named v_values v_truth v_isWritten v_died v_aside v_likely v_safe v_headOf) sz [.ref h, .int p1, .int p2]) ((mQi D (WM h q cI cJ cZ o_v_a v_image v_texts v_tape v_taped v_fault v_faultPlace v_at v_place v_token v_number v_word v_text0 v_written v_sort0 v_pile v_piled v_opens v_isWhole v_once o_v_named o_v_values o_v_truth v_isWritten v_died v_aside v_likely v_safe v_headOf) o_r True) (va_A (WM h q cI cJ cZ v_a v_image v_texts v_tape v_taped v_fault v_faultPlace v_at v_place v_token v_number v_word v_text0 v_written v_sort0 v_pile v_piled v_opens v_isWhole v_once v_named v_values v_truth v_isWritten v_died v_aside v_likely v_safe v_headOf) sz)) 0 0 (va_A (WM h q cI cJ cZ v_a v_image v_texts v_tape v_taped v_fault v_faultPlace v_at v_place v_token v_number v_word v_text0 v_written v_sort0 v_pile v_piled v_opens v_isWhole v_once v_named v_values v_truth v_isWritten v_died v_aside v_likely v_safe v_headOf) sz) := by
  refine mMet (Qc := (mQi D (WM h q cI cJ cZ o_v_a v_image v_texts v_tape v_taped v_fault v_faultPlace v_at v_place v_token v_number v_word v_text0 v_written v_sort0 v_pile v_piled v_opens v_isWhole v_once o_v_named o_v_values o_v_truth v_isWritten v_died v_aside v_likely v_safe v_headOf) o_r True)) (by decide) (Nat.le_of_ble_eq_true rfl) (fun p e s m below meth c A ls hx hb hr hml hts hown hlocks hK hA hP hD hl => ?_)
  have hown : s.vm.findClass RX12 = some m.cls := hown
  have hl : lv_has ls 4 [(0, .ref h), (1, .int p1), (2, .int p2)] := hl
  have hS : va_S A s.heap s.heap [] := va_S.rf
  unfold f_X12_payNow at hf
  refine lv_aload_n hx hb dX12_payNow_0 rfl (lv_at hl 0 rfl) ?_
  refine lv_aload_n hx hb dX12_payNow_1 rfl (lv_at hl 0 rfl) ?_
  refine gfX12_7 hx hb hts hown hK hP 0 rfl rfl dX12_payNow_2 ?_
  refine lv_iconst (v := (3 : Int32)) hx hb dX12_payNow_5 (by decide) ?_
  refine xiald hx hb hK hP 1 0 rfl rfl dX12_payNow_6 hf (fun v6 hf => ?_)
  refine lv_iload_n hx hb dX12_payNow_7 rfl (lv_at hl 1 rfl) ?_
  obtain ⟨r8, v_named_8, v_values_8, v_truth_8, hg8, hf⟩ := ob4_some hf
  refine mcV1_i (As := [.int v6, .int p1]) (rest := []) hx hb hml hown hts hK hP hD hS hA (k_X12_priceOf l N D cI cJ cZ cB cT h q v_a v_image v_texts v_tape v_taped v_fault v_faultPlace v_at v_place v_token v_number v_word v_text0 v_written v_sort0 v_pile v_piled v_opens v_isWhole v_once v_named v_values v_truth v_isWritten v_died v_aside v_likely v_safe v_headOf v6 p1 r8 v_named_8 v_values_8 v_truth_8 hg8) (kwX12_373 hts rfl rfl ⟨Nat.le_of_ble_eq_true rfl, Nat.le_of_ble_eq_true rfl⟩) 0 rfl rfl rfl rfl hl.1 rfl (Nat.le_of_ble_eq_true rfl) dX12_payNow_8 ⟨Nat.zero_le _, Nat.zero_le _⟩ (fun hB8 H locs hP hD hS => ?_)
  have hP : va_P D vwCl (WM h q cI cJ cZ v_a v_image v_texts v_tape v_taped v_fault v_faultPlace v_at v_place v_token v_number v_word v_text0 v_written v_sort0 v_pile v_piled v_opens v_isWhole v_once v_named_8 v_values_8 v_truth_8 v_isWritten v_died v_aside v_likely v_safe v_headOf) H := hP
  have hD : va_D A (WM h q cI cJ cZ v_a v_image v_texts v_tape v_taped v_fault v_faultPlace v_at v_place v_token v_number v_word v_text0 v_written v_sort0 v_pile v_piled v_opens v_isWhole v_once v_named_8 v_values_8 v_truth_8 v_isWritten v_died v_aside v_likely v_safe v_headOf) := hD
  refine lv_istore_n (lv' := [(3, .int r8), (0, .ref h), (1, .int p1), (2, .int p2)]) hx hb dX12_payNow_11 rfl hl (by decide) rfl (fun ls hl => ?_)
  refine lv_aload_n hx hb dX12_payNow_12 rfl (lv_at hl 1 rfl) ?_
  refine lv_iload_n hx hb dX12_payNow_13 rfl (lv_at hl 3 rfl) ?_
  refine lv_iconst (v := (1 : Int32)) hx hb dX12_payNow_14 (by decide) ?_
  refine lv_aload_n hx hb dX12_payNow_15 rfl (lv_at hl 1 rfl) ?_
  refine lv_iload_n hx hb dX12_payNow_16 rfl (lv_at hl 3 rfl) ?_
  refine lv_iconst (v := (1 : Int32)) hx hb dX12_payNow_17 (by decide) ?_
  obtain ⟨r18, hg18, hf⟩ := ob1_some hf
  refine mcV1_i (As := [.int p2, .int (1 : Int32)]) (rest := [.int (1 : Int32), .int p2, .ref h]) hx hb hml hown hts hK hP hD hS hA (k_X12_get l N D cI cJ cZ cB cT h q v_a v_image v_texts v_tape v_taped v_fault v_faultPlace v_at v_place v_token v_number v_word v_text0 v_written v_sort0 v_pile v_piled v_opens v_isWhole v_once v_named_8 v_values_8 v_truth_8 v_isWritten v_died v_aside v_likely v_safe v_headOf p2 (1 : Int32) r18 hg18) (kwX12_71 hts rfl rfl ⟨Nat.le_of_ble_eq_true rfl, Nat.le_of_ble_eq_true rfl⟩) 0 rfl rfl rfl rfl hl.1 rfl (Nat.le_of_ble_eq_true rfl) dX12_payNow_18 ⟨Nat.zero_le _, Nat.zero_le _⟩ (fun hB18 H locs hP hD hS => ?_)
  have hP : va_P D vwCl (WM h q cI cJ cZ v_a v_image v_texts v_tape v_taped v_fault v_faultPlace v_at v_place v_token v_number v_word v_text0 v_written v_sort0 v_pile v_piled v_opens v_isWhole v_once v_named_8 v_values_8 v_truth_8 v_isWritten v_died v_aside v_likely v_safe v_headOf) H := hP
  have hD : va_D A (WM h q cI cJ cZ v_a v_image v_texts v_tape v_taped v_fault v_faultPlace v_at v_place v_token v_number v_word v_text0 v_written v_sort0 v_pile v_piled v_opens v_isWhole v_once v_named_8 v_values_8 v_truth_8 v_isWritten v_died v_aside v_likely v_safe v_headOf) := hD
  refine lv_iload_n hx hb dX12_payNow_21 rfl (lv_at hl 0 rfl) ?_
  refine lv_isub hx hb dX12_payNow_22 ?_
  obtain ⟨v_a_23, hg23, hf⟩ := ob1_some hf
  refine mcV1_v (As := [.int p2, .int (1 : Int32), .int (r18 - r8)]) (rest := []) hx hb hml hown hts hK hP hD hS hA (k_X12_put l N D cI cJ cZ cB cT h q v_a v_image v_texts v_tape v_taped v_fault v_faultPlace v_at v_place v_token v_number v_word v_text0 v_written v_sort0 v_pile v_piled v_opens v_isWhole v_once v_named_8 v_values_8 v_truth_8 v_isWritten v_died v_aside v_likely v_safe v_headOf p2 (1 : Int32) (r18 - r8) v_a_23 hg23) (kwX12_82 hts rfl rfl ⟨Nat.le_of_ble_eq_true rfl, Nat.le_of_ble_eq_true rfl⟩) 0 rfl rfl rfl rfl hl.1 rfl (Nat.le_of_ble_eq_true rfl) dX12_payNow_23 ⟨Nat.zero_le _, Nat.zero_le _⟩ (fun H locs hP hD hS => ?_)
  have hP : va_P D vwCl (WM h q cI cJ cZ v_a_23 v_image v_texts v_tape v_taped v_fault v_faultPlace v_at v_place v_token v_number v_word v_text0 v_written v_sort0 v_pile v_piled v_opens v_isWhole v_once v_named_8 v_values_8 v_truth_8 v_isWritten v_died v_aside v_likely v_safe v_headOf) H := hP
  have hD : va_D A (WM h q cI cJ cZ v_a_23 v_image v_texts v_tape v_taped v_fault v_faultPlace v_at v_place v_token v_number v_word v_text0 v_written v_sort0 v_pile v_piled v_opens v_isWhole v_once v_named_8 v_values_8 v_truth_8 v_isWritten v_died v_aside v_likely v_safe v_headOf) := hD
  refine lv_aload_n hx hb dX12_payNow_26 rfl (lv_at hl 1 rfl) ?_
  refine lv_iload_n hx hb dX12_payNow_27 rfl (lv_at hl 2 rfl) ?_
  obtain ⟨v_a_28, hg28, hf⟩ := ob1_some hf
  refine mcV1_v (As := [.int p1]) (rest := []) hx hb hml hown hts hK hP hD hS hA (k_X12_pardonNow l N D cI cJ cZ cB cT h q v_a_23 v_image v_texts v_tape v_taped v_fault v_faultPlace v_at v_place v_token v_number v_word v_text0 v_written v_sort0 v_pile v_piled v_opens v_isWhole v_once v_named_8 v_values_8 v_truth_8 v_isWritten v_died v_aside v_likely v_safe v_headOf p1 v_a_28 hg28) (kwX12_367 hts rfl rfl ⟨Nat.le_of_ble_eq_true rfl, Nat.le_of_ble_eq_true rfl⟩) 0 rfl rfl rfl rfl hl.1 rfl (Nat.le_of_ble_eq_true rfl) dX12_payNow_28 ⟨Nat.zero_le _, Nat.zero_le _⟩ (fun H locs hP hD hS => ?_)
  have hP : va_P D vwCl (WM h q cI cJ cZ v_a_28 v_image v_texts v_tape v_taped v_fault v_faultPlace v_at v_place v_token v_number v_word v_text0 v_written v_sort0 v_pile v_piled v_opens v_isWhole v_once v_named_8 v_values_8 v_truth_8 v_isWritten v_died v_aside v_likely v_safe v_headOf) H := hP
  have hD : va_D A (WM h q cI cJ cZ v_a_28 v_image v_texts v_tape v_taped v_fault v_faultPlace v_at v_place v_token v_number v_word v_text0 v_written v_sort0 v_pile v_piled v_opens v_isWhole v_once v_named_8 v_values_8 v_truth_8 v_isWritten v_died v_aside v_likely v_safe v_headOf) := hD
  refine lv_aload_n hx hb dX12_payNow_31 rfl (lv_at hl 1 rfl) ?_
  refine lv_iload_n hx hb dX12_payNow_32 rfl (lv_at hl 2 rfl) ?_
  refine lv_bipush (v := (6 : Int32)) hx hb dX12_payNow_33 (by decide) ?_
  obtain ⟨v_a_35, hg35, hf⟩ := ob1_some hf
  refine mcV1_v (As := [.int p1, .int (6 : Int32)]) (rest := []) hx hb hml hown hts hK hP hD hS hA (k_X12_write l N D cI cJ cZ cB cT h q v_a_28 v_image v_texts v_tape v_taped v_fault v_faultPlace v_at v_place v_token v_number v_word v_text0 v_written v_sort0 v_pile v_piled v_opens v_isWhole v_once v_named_8 v_values_8 v_truth_8 v_isWritten v_died v_aside v_likely v_safe v_headOf p1 (6 : Int32) v_a_35 hg35) (kwX12_319 hts rfl rfl ⟨Nat.le_of_ble_eq_true rfl, Nat.le_of_ble_eq_true rfl⟩) 0 rfl rfl rfl rfl hl.1 rfl (Nat.le_of_ble_eq_true rfl) dX12_payNow_35 ⟨Nat.zero_le _, Nat.zero_le _⟩ (fun H locs hP hD hS => ?_)
  have hP : va_P D vwCl (WM h q cI cJ cZ v_a_35 v_image v_texts v_tape v_taped v_fault v_faultPlace v_at v_place v_token v_number v_word v_text0 v_written v_sort0 v_pile v_piled v_opens v_isWhole v_once v_named_8 v_values_8 v_truth_8 v_isWritten v_died v_aside v_likely v_safe v_headOf) H := hP
  have hD : va_D A (WM h q cI cJ cZ v_a_35 v_image v_texts v_tape v_taped v_fault v_faultPlace v_at v_place v_token v_number v_word v_text0 v_written v_sort0 v_pile v_piled v_opens v_isWhole v_once v_named_8 v_values_8 v_truth_8 v_isWritten v_died v_aside v_likely v_safe v_headOf) := hD
  refine lv_iload_n hx hb dX12_payNow_38 rfl (lv_at hl 0 rfl) ?_
  cases hf
  exact mret_i hx hb hr hlocks hP hD hS dX12_payNow_39 rfl trivial
theorem dX12_pardon_0 : decode cX12_pardon 0 = .ok (.aload_n 0, 1) := by decide +kernel
theorem dX12_pardon_1 : decode cX12_pardon 1 = .ok (.iload_n 1, 1) := by decide +kernel
theorem dX12_pardon_2 : decode cX12_pardon 2 = .ok (.iload_n 2, 1) := by decide +kernel
theorem dX12_pardon_3 : decode cX12_pardon 3 = .ok (.invokevirtual 376, 3) := by decide +kernel
theorem dX12_pardon_6 : decode cX12_pardon 6 = .ok (.ifCond .ne 5, 3) := by decide +kernel
theorem dX12_pardon_9 : decode cX12_pardon 9 = .ok (.iconst (-1), 1) := by decide +kernel
theorem dX12_pardon_10 : decode cX12_pardon 10 = .ok (.ireturn, 1) := by decide +kernel
theorem dX12_pardon_11 : decode cX12_pardon 11 = .ok (.aload_n 0, 1) := by decide +kernel
theorem dX12_pardon_12 : decode cX12_pardon 12 = .ok (.invokevirtual 349, 3) := by decide +kernel
theorem dX12_pardon_15 : decode cX12_pardon 15 = .ok (.aload_n 0, 1) := by decide +kernel
theorem dX12_pardon_16 : decode cX12_pardon 16 = .ok (.iload_n 1, 1) := by decide +kernel
theorem dX12_pardon_17 : decode cX12_pardon 17 = .ok (.iload_n 2, 1) := by decide +kernel
theorem dX12_pardon_18 : decode cX12_pardon 18 = .ok (.invokevirtual 379, 3) := by decide +kernel
theorem dX12_pardon_21 : decode cX12_pardon 21 = .ok (.ireturn, 1) := by decide +kernel
def f_X12_pardon (N : Nat) (v_a : Nat → Int32) (v_texts : Nat → Int32) (v_named : Nat → Int32) (v_values : Nat → Int64) (v_truth : Nat → Int32) (v_isWritten : Int32) (p1 : Int32) (p2 : Int32) : Option (Int32 × (Nat → Int32) × (Nat → Int32) × (Nat → Int64) × (Nat → Int32)) := ob4 (f_X12_canPardon N v_a v_texts v_named v_values v_truth p1 p2) fun r3 v_named_3 v_values_3 v_truth_3 => if r3 = 0 then (some ((-1 : Int32), v_a, v_named_3, v_values_3, v_truth_3)) else (ob1 (f_X12_keep N v_a) fun v_a_12 => ob5 (f_X12_payNow N v_a_12 v_texts v_named_3 v_values_3 v_truth_3 v_isWritten p1 p2) fun r18 v_a_18 v_named_18 v_values_18 v_truth_18 => some (r18, v_a_18, v_named_18, v_values_18, v_truth_18))
set_option maxHeartbeats 4000000 in
set_option maxRecDepth 100000 in
theorem k_X12_pardon (l : Launch) (N : Nat) (D : va_G) (cI cJ cZ cB cT : ClassId) (h : Nat) (q : Nat → Nat) (v_a : Nat → Int32) (v_image : Nat → Int32) (v_texts : Nat → Int32) (v_tape : Nat → Int32) (v_taped : Int32) (v_fault : Int32) (v_faultPlace : Int32) (v_at : Int32) (v_place : Int32) (v_token : Int32) (v_number : Int32) (v_word : Int64) (v_text0 : Int32) (v_written : Int32) (v_sort0 : Int32) (v_pile : Nat → Int32) (v_piled : Int32) (v_opens : Int32) (v_isWhole : Int32) (v_once : Int32) (v_named : Nat → Int32) (v_values : Nat → Int64) (v_truth : Nat → Int32) (v_isWritten : Int32) (v_died : Int32) (v_aside : Nat → Int32) (v_likely : Nat → Int32) (v_safe : Nat → Int32) (v_headOf : Nat → Int32) (p1 : Int32) (p2 : Int32) (o_r : Int32) (o_v_a : Nat → Int32) (o_v_named : Nat → Int32) (o_v_values : Nat → Int64) (o_v_truth : Nat → Int32) (hf : f_X12_pardon N v_a v_texts v_named v_values v_truth v_isWritten p1 p2 = some (o_r, o_v_a, o_v_named, o_v_values, o_v_truth)) : ∀ sz, Met l yX12_pardon (mw yX12_pardon cX12_pardon 3 (some .int)) ({ frames := 7, cells := 0, slots := 0, locals := 166 } : Room) (mPre D (mT cI cJ cZ cB cT) (WM h q cI cJ cZ v_a v_image v_texts v_tape v_taped v_fault v_faultPlace v_at v_place v_token v_number v_word v_text0 v_written v_sort0 v_pile v_piled v_opens v_isWhole v_once v_named v_values v_truth v_isWritten v_died v_aside v_likely v_safe v_headOf) sz [.ref h, .int p1, .int p2]) ((mQi D (WM h q cI cJ cZ o_v_a v_image v_texts v_tape v_taped v_fault v_faultPlace v_at v_place v_token v_number v_word v_text0 v_written v_sort0 v_pile v_piled v_opens v_isWhole v_once o_v_named o_v_values o_v_truth v_isWritten v_died v_aside v_likely v_safe v_headOf) o_r True) (va_A (WM h q cI cJ cZ v_a v_image v_texts v_tape v_taped v_fault v_faultPlace v_at v_place v_token v_number v_word v_text0 v_written v_sort0 v_pile v_piled v_opens v_isWhole v_once v_named v_values v_truth v_isWritten v_died v_aside v_likely v_safe v_headOf) sz)) 0 0 (va_A (WM h q cI cJ cZ v_a v_image v_texts v_tape v_taped v_fault v_faultPlace v_at v_place v_token v_number v_word v_text0 v_written v_sort0 v_pile v_piled v_opens v_isWhole v_once v_named v_values v_truth v_isWritten v_died v_aside v_likely v_safe v_headOf) sz) := by
  refine mMet (Qc := (mQi D (WM h q cI cJ cZ o_v_a v_image v_texts v_tape v_taped v_fault v_faultPlace v_at v_place v_token v_number v_word v_text0 v_written v_sort0 v_pile v_piled v_opens v_isWhole v_once o_v_named o_v_values o_v_truth v_isWritten v_died v_aside v_likely v_safe v_headOf) o_r True)) (by decide) (Nat.le_of_ble_eq_true rfl) (fun p e s m below meth c A ls hx hb hr hml hts hown hlocks hK hA hP hD hl => ?_)
  have hown : s.vm.findClass RX12 = some m.cls := hown
  have hl : lv_has ls 3 [(0, .ref h), (1, .int p1), (2, .int p2)] := hl
  have hS : va_S A s.heap s.heap [] := va_S.rf
  unfold f_X12_pardon at hf
  refine lv_aload_n hx hb dX12_pardon_0 rfl (lv_at hl 0 rfl) ?_
  refine lv_iload_n hx hb dX12_pardon_1 rfl (lv_at hl 1 rfl) ?_
  refine lv_iload_n hx hb dX12_pardon_2 rfl (lv_at hl 2 rfl) ?_
  obtain ⟨r3, v_named_3, v_values_3, v_truth_3, hg3, hf⟩ := ob4_some hf
  refine mcV1_i (As := [.int p1, .int p2]) (rest := []) hx hb hml hown hts hK hP hD hS hA (k_X12_canPardon l N D cI cJ cZ cB cT h q v_a v_image v_texts v_tape v_taped v_fault v_faultPlace v_at v_place v_token v_number v_word v_text0 v_written v_sort0 v_pile v_piled v_opens v_isWhole v_once v_named v_values v_truth v_isWritten v_died v_aside v_likely v_safe v_headOf p1 p2 r3 v_named_3 v_values_3 v_truth_3 hg3) (kwX12_376 hts rfl rfl ⟨Nat.le_of_ble_eq_true rfl, Nat.le_of_ble_eq_true rfl⟩) 0 rfl rfl rfl rfl hl.1 rfl (Nat.le_of_ble_eq_true rfl) dX12_pardon_3 ⟨Nat.zero_le _, Nat.zero_le _⟩ (fun hB3 H locs hP hD hS => ?_)
  have hP : va_P D vwCl (WM h q cI cJ cZ v_a v_image v_texts v_tape v_taped v_fault v_faultPlace v_at v_place v_token v_number v_word v_text0 v_written v_sort0 v_pile v_piled v_opens v_isWhole v_once v_named_3 v_values_3 v_truth_3 v_isWritten v_died v_aside v_likely v_safe v_headOf) H := hP
  have hD : va_D A (WM h q cI cJ cZ v_a v_image v_texts v_tape v_taped v_fault v_faultPlace v_at v_place v_token v_number v_word v_text0 v_written v_sort0 v_pile v_piled v_opens v_isWhole v_once v_named_3 v_values_3 v_truth_3 v_isWritten v_died v_aside v_likely v_safe v_headOf) := hD
  refine xif_ne hx hb 11 dX12_pardon_6 (by decide) hf (fun hf => ?_) (fun hf => ?_)
  · refine lv_iconst (v := (-1 : Int32)) hx hb dX12_pardon_9 (by decide) ?_
    cases hf
    exact mret_i hx hb hr hlocks hP hD hS dX12_pardon_10 rfl trivial
  · refine lv_aload_n hx hb dX12_pardon_11 rfl (lv_at hl 0 rfl) ?_
    obtain ⟨v_a_12, hg12, hf⟩ := ob1_some hf
    refine mcV1_v (As := []) (rest := []) hx hb hml hown hts hK hP hD hS hA (k_X12_keep l N D cI cJ cZ cB cT h q v_a v_image v_texts v_tape v_taped v_fault v_faultPlace v_at v_place v_token v_number v_word v_text0 v_written v_sort0 v_pile v_piled v_opens v_isWhole v_once v_named_3 v_values_3 v_truth_3 v_isWritten v_died v_aside v_likely v_safe v_headOf v_a_12 hg12) (kwX12_349 hts rfl rfl ⟨Nat.le_of_ble_eq_true rfl, Nat.le_of_ble_eq_true rfl⟩) 0 rfl rfl rfl rfl hl.1 rfl (Nat.le_of_ble_eq_true rfl) dX12_pardon_12 ⟨Nat.zero_le _, Nat.zero_le _⟩ (fun H locs hP hD hS => ?_)
    have hP : va_P D vwCl (WM h q cI cJ cZ v_a_12 v_image v_texts v_tape v_taped v_fault v_faultPlace v_at v_place v_token v_number v_word v_text0 v_written v_sort0 v_pile v_piled v_opens v_isWhole v_once v_named_3 v_values_3 v_truth_3 v_isWritten v_died v_aside v_likely v_safe v_headOf) H := hP
    have hD : va_D A (WM h q cI cJ cZ v_a_12 v_image v_texts v_tape v_taped v_fault v_faultPlace v_at v_place v_token v_number v_word v_text0 v_written v_sort0 v_pile v_piled v_opens v_isWhole v_once v_named_3 v_values_3 v_truth_3 v_isWritten v_died v_aside v_likely v_safe v_headOf) := hD
    refine lv_aload_n hx hb dX12_pardon_15 rfl (lv_at hl 0 rfl) ?_
    refine lv_iload_n hx hb dX12_pardon_16 rfl (lv_at hl 1 rfl) ?_
    refine lv_iload_n hx hb dX12_pardon_17 rfl (lv_at hl 2 rfl) ?_
    obtain ⟨r18, v_a_18, v_named_18, v_values_18, v_truth_18, hg18, hf⟩ := ob5_some hf
    refine mcV1_i (As := [.int p1, .int p2]) (rest := []) hx hb hml hown hts hK hP hD hS hA (k_X12_payNow l N D cI cJ cZ cB cT h q v_a_12 v_image v_texts v_tape v_taped v_fault v_faultPlace v_at v_place v_token v_number v_word v_text0 v_written v_sort0 v_pile v_piled v_opens v_isWhole v_once v_named_3 v_values_3 v_truth_3 v_isWritten v_died v_aside v_likely v_safe v_headOf p1 p2 r18 v_a_18 v_named_18 v_values_18 v_truth_18 hg18) (kwX12_379 hts rfl rfl ⟨Nat.le_of_ble_eq_true rfl, Nat.le_of_ble_eq_true rfl⟩) 0 rfl rfl rfl rfl hl.1 rfl (Nat.le_of_ble_eq_true rfl) dX12_pardon_18 ⟨Nat.zero_le _, Nat.zero_le _⟩ (fun hB18 H locs hP hD hS => ?_)
    have hP : va_P D vwCl (WM h q cI cJ cZ v_a_18 v_image v_texts v_tape v_taped v_fault v_faultPlace v_at v_place v_token v_number v_word v_text0 v_written v_sort0 v_pile v_piled v_opens v_isWhole v_once v_named_18 v_values_18 v_truth_18 v_isWritten v_died v_aside v_likely v_safe v_headOf) H := hP
    have hD : va_D A (WM h q cI cJ cZ v_a_18 v_image v_texts v_tape v_taped v_fault v_faultPlace v_at v_place v_token v_number v_word v_text0 v_written v_sort0 v_pile v_piled v_opens v_isWhole v_once v_named_18 v_values_18 v_truth_18 v_isWritten v_died v_aside v_likely v_safe v_headOf) := hD
    cases hf
    exact mret_i hx hb hr hlocks hP hD hS dX12_pardon_21 rfl trivial
theorem dX12_arePassed_0 : decode cX12_arePassed 0 = .ok (.aload_n 0, 1) := by decide +kernel
theorem dX12_arePassed_1 : decode cX12_arePassed 1 = .ok (.iconst 0, 1) := by decide +kernel
theorem dX12_arePassed_2 : decode cX12_arePassed 2 = .ok (.putfield 322, 3) := by decide +kernel
theorem dX12_arePassed_5 : decode cX12_arePassed 5 = .ok (.iconst 0, 1) := by decide +kernel
theorem dX12_arePassed_6 : decode cX12_arePassed 6 = .ok (.istore_n 2, 1) := by decide +kernel
theorem dX12_arePassed_7 : decode cX12_arePassed 7 = .ok (.iload_n 2, 1) := by decide +kernel
theorem dX12_arePassed_8 : decode cX12_arePassed 8 = .ok (.iload_n 1, 1) := by decide +kernel
theorem dX12_arePassed_9 : decode cX12_arePassed 9 = .ok (.if_icmp .ge 32, 3) := by decide +kernel
theorem dX12_arePassed_12 : decode cX12_arePassed 12 = .ok (.aload_n 0, 1) := by decide +kernel
theorem dX12_arePassed_13 : decode cX12_arePassed 13 = .ok (.getfield 7, 3) := by decide +kernel
theorem dX12_arePassed_16 : decode cX12_arePassed 16 = .ok (.bipush 10, 2) := by decide +kernel
theorem dX12_arePassed_18 : decode cX12_arePassed 18 = .ok (.iaload, 1) := by decide +kernel
theorem dX12_arePassed_19 : decode cX12_arePassed 19 = .ok (.sipush 9999, 3) := by decide +kernel
theorem dX12_arePassed_22 : decode cX12_arePassed 22 = .ok (.if_icmp .ne 5, 3) := by decide +kernel
theorem dX12_arePassed_25 : decode cX12_arePassed 25 = .ok (.iconst 0, 1) := by decide +kernel
theorem dX12_arePassed_26 : decode cX12_arePassed 26 = .ok (.ireturn, 1) := by decide +kernel
theorem dX12_arePassed_27 : decode cX12_arePassed 27 = .ok (.aload_n 0, 1) := by decide +kernel
theorem dX12_arePassed_28 : decode cX12_arePassed 28 = .ok (.invokevirtual 349, 3) := by decide +kernel
theorem dX12_arePassed_31 : decode cX12_arePassed 31 = .ok (.aload_n 0, 1) := by decide +kernel
theorem dX12_arePassed_32 : decode cX12_arePassed 32 = .ok (.invokevirtual 382, 3) := by decide +kernel
theorem dX12_arePassed_35 : decode cX12_arePassed 35 = .ok (.iinc 2 1, 3) := by decide +kernel
theorem dX12_arePassed_38 : decode cX12_arePassed 38 = .ok (.goto (-31), 3) := by decide +kernel
theorem dX12_arePassed_41 : decode cX12_arePassed 41 = .ok (.iconst 1, 1) := by decide +kernel
theorem dX12_arePassed_42 : decode cX12_arePassed 42 = .ok (.ireturn, 1) := by decide +kernel
def f_X12_arePassed_7 (N : Nat) : Nat → (Nat → Int32) → (Nat → Int32) → (Nat → Int32) → (Nat → Int64) → (Nat → Int32) → Int32 → Int32 → Int32 → Int32 → Option (Int32 × (Nat → Int32) × (Nat → Int32) × (Nat → Int64) × (Nat → Int32) × Int32)
  | 0, _, _, _, _, _, _, _, _, _ => none
  | n + 1, v_a, v_texts, v_named, v_values, v_truth, v_isWritten, v_died, x1, x2 => if x1 ≤ x2 then (some ((1 : Int32), v_a, v_named, v_values, v_truth, v_died)) else (gA v_a 8762 (10 : Int32) fun v18 => if v18 = (9999 : Int32) then (some ((0 : Int32), v_a, v_named, v_values, v_truth, v_died)) else (ob1 (f_X12_keep N v_a) fun v_a_28 => ob5 (f_X12_goOn N v_a_28 v_texts v_named v_values v_truth v_isWritten v_died) fun v_a_32 v_named_32 v_values_32 v_truth_32 v_died_32 => (f_X12_arePassed_7 N n) v_a_32 v_texts v_named_32 v_values_32 v_truth_32 v_isWritten v_died_32 x1 (x2 + (1 : Int32))))
def f_X12_arePassed (N : Nat) (v_a : Nat → Int32) (v_texts : Nat → Int32) (v_named : Nat → Int32) (v_values : Nat → Int64) (v_truth : Nat → Int32) (v_isWritten : Int32) (v_died : Int32) (p1 : Int32) : Option (Int32 × (Nat → Int32) × (Nat → Int32) × (Nat → Int64) × (Nat → Int32) × Int32) := f_X12_arePassed_7 N N v_a v_texts v_named v_values v_truth v_isWritten (0 : Int32) p1 (0 : Int32)
set_option maxHeartbeats 4000000 in
set_option maxRecDepth 100000 in
theorem k_X12_arePassed (l : Launch) (N : Nat) (D : va_G) (cI cJ cZ cB cT : ClassId) (h : Nat) (q : Nat → Nat) (v_a : Nat → Int32) (v_image : Nat → Int32) (v_texts : Nat → Int32) (v_tape : Nat → Int32) (v_taped : Int32) (v_fault : Int32) (v_faultPlace : Int32) (v_at : Int32) (v_place : Int32) (v_token : Int32) (v_number : Int32) (v_word : Int64) (v_text0 : Int32) (v_written : Int32) (v_sort0 : Int32) (v_pile : Nat → Int32) (v_piled : Int32) (v_opens : Int32) (v_isWhole : Int32) (v_once : Int32) (v_named : Nat → Int32) (v_values : Nat → Int64) (v_truth : Nat → Int32) (v_isWritten : Int32) (v_died : Int32) (v_aside : Nat → Int32) (v_likely : Nat → Int32) (v_safe : Nat → Int32) (v_headOf : Nat → Int32) (p1 : Int32) (o_r : Int32) (o_v_a : Nat → Int32) (o_v_named : Nat → Int32) (o_v_values : Nat → Int64) (o_v_truth : Nat → Int32) (o_v_died : Int32) (hf : f_X12_arePassed N v_a v_texts v_named v_values v_truth v_isWritten v_died p1 = some (o_r, o_v_a, o_v_named, o_v_values, o_v_truth, o_v_died)) : ∀ sz, Met l yX12_arePassed (mw yX12_arePassed cX12_arePassed 3 (some .boolean)) ({ frames := 9, cells := 0, slots := 0, locals := 207 } : Room) (mPre D (mT cI cJ cZ cB cT) (WM h q cI cJ cZ v_a v_image v_texts v_tape v_taped v_fault v_faultPlace v_at v_place v_token v_number v_word v_text0 v_written v_sort0 v_pile v_piled v_opens v_isWhole v_once v_named v_values v_truth v_isWritten v_died v_aside v_likely v_safe v_headOf) sz [.ref h, .int p1]) ((mQi D (WM h q cI cJ cZ o_v_a v_image v_texts v_tape v_taped v_fault v_faultPlace v_at v_place v_token v_number v_word v_text0 v_written v_sort0 v_pile v_piled v_opens v_isWhole v_once o_v_named o_v_values o_v_truth v_isWritten o_v_died v_aside v_likely v_safe v_headOf) o_r (mB o_r)) (va_A (WM h q cI cJ cZ v_a v_image v_texts v_tape v_taped v_fault v_faultPlace v_at v_place v_token v_number v_word v_text0 v_written v_sort0 v_pile v_piled v_opens v_isWhole v_once v_named v_values v_truth v_isWritten v_died v_aside v_likely v_safe v_headOf) sz)) 0 0 (va_A (WM h q cI cJ cZ v_a v_image v_texts v_tape v_taped v_fault v_faultPlace v_at v_place v_token v_number v_word v_text0 v_written v_sort0 v_pile v_piled v_opens v_isWhole v_once v_named v_values v_truth v_isWritten v_died v_aside v_likely v_safe v_headOf) sz) := by
  refine mMet (Qc := (mQi D (WM h q cI cJ cZ o_v_a v_image v_texts v_tape v_taped v_fault v_faultPlace v_at v_place v_token v_number v_word v_text0 v_written v_sort0 v_pile v_piled v_opens v_isWhole v_once o_v_named o_v_values o_v_truth v_isWritten o_v_died v_aside v_likely v_safe v_headOf) o_r (mB o_r))) (by decide) (Nat.le_of_ble_eq_true rfl) (fun p e s m below meth c A ls hx hb hr hml hts hown hlocks hK hA hP hD hl => ?_)
  have hown : s.vm.findClass RX12 = some m.cls := hown
  have hl : lv_has ls 3 [(0, .ref h), (1, .int p1)] := hl
  have hS : va_S A s.heap s.heap [] := va_S.rf
  have b7 : ∀ n7 : Nat, ∀ (v_a : Nat → Int32) (v_named : Nat → Int32) (v_values : Nat → Int64) (v_truth : Nat → Int32) (v_died : Int32) (x1 : Int32) (x2 : Int32) (H : Heap) (locs : List Loc) (ls : Array Slot), f_X12_arePassed_7 N n7 v_a v_texts v_named v_values v_truth v_isWritten v_died x1 x2 = some (o_r, o_v_a, o_v_named, o_v_values, o_v_truth, o_v_died) → va_P D vwCl (WM h q cI cJ cZ v_a v_image v_texts v_tape v_taped v_fault v_faultPlace v_at v_place v_token v_number v_word v_text0 v_written v_sort0 v_pile v_piled v_opens v_isWhole v_once v_named v_values v_truth v_isWritten v_died v_aside v_likely v_safe v_headOf) H → va_D A (WM h q cI cJ cZ v_a v_image v_texts v_tape v_taped v_fault v_faultPlace v_at v_place v_token v_number v_word v_text0 v_written v_sort0 v_pile v_piled v_opens v_isWhole v_once v_named v_values v_truth v_isWritten v_died v_aside v_likely v_safe v_headOf) → va_S A s.heap H locs → lv_has ls 3 [(0, .ref h), (1, .int x1), (2, .int x2)] → W p l e ({ frames := 9, cells := 0, slots := 0, locals := 207 } : Room) s m ([.ref h, .int p1] : List Value).toArray below meth c H locs 0 0 (MQ below ((mQi D (WM h q cI cJ cZ o_v_a v_image v_texts v_tape v_taped v_fault v_faultPlace v_at v_place v_token v_number v_word v_text0 v_written v_sort0 v_pile v_piled v_opens v_isWhole v_once o_v_named o_v_values o_v_truth v_isWritten o_v_died v_aside v_likely v_safe v_headOf) o_r (mB o_r)) A) ([.ref h, .int p1] : List Value).toArray s 0 0 A) (F0 m 7 ls []) := by
    intro n7
    induction n7 with
    | zero =>
      intro v_a v_named v_values v_truth v_died x1 x2 H locs ls hf hP hD hS hl
      simp [f_X12_arePassed_7] at hf
    | succ n7 ih7 =>
      intro v_a v_named v_values v_truth v_died x1 x2 H locs ls hf hP hD hS hl
      rw [f_X12_arePassed_7.eq_2] at hf
      refine lv_iload_n hx hb dX12_arePassed_7 rfl (lv_at hl 2 rfl) ?_
      refine lv_iload_n hx hb dX12_arePassed_8 rfl (lv_at hl 1 rfl) ?_
      refine xicmp_ge hx hb 41 dX12_arePassed_9 (by decide) hf (fun hf => ?_) (fun hf => ?_)
      · refine lv_iconst (v := (1 : Int32)) hx hb dX12_arePassed_41 (by decide) ?_
        cases hf
        exact mret_z hx hb hr hlocks hP hD hS dX12_arePassed_42 rfl rfl
      · refine lv_aload_n hx hb dX12_arePassed_12 rfl (lv_at hl 0 rfl) ?_
        refine gfX12_7 hx hb hts hown hK hP 0 rfl rfl dX12_arePassed_13 ?_
        refine lv_bipush (v := (10 : Int32)) hx hb dX12_arePassed_16 (by decide) ?_
        refine xiald hx hb hK hP 1 0 rfl rfl dX12_arePassed_18 hf (fun v18 hf => ?_)
        refine lv_sipush (v := (9999 : Int32)) hx hb dX12_arePassed_19 (by decide) ?_
        refine xicmp_ne hx hb 27 dX12_arePassed_22 (by decide) hf (fun hf => ?_) (fun hf => ?_)
        · refine lv_iconst (v := (0 : Int32)) hx hb dX12_arePassed_25 (by decide) ?_
          cases hf
          exact mret_z hx hb hr hlocks hP hD hS dX12_arePassed_26 rfl rfl
        · refine lv_aload_n hx hb dX12_arePassed_27 rfl (lv_at hl 0 rfl) ?_
          obtain ⟨v_a_28, hg28, hf⟩ := ob1_some hf
          refine mcV1_v (As := []) (rest := []) hx hb hml hown hts hK hP hD hS hA (k_X12_keep l N D cI cJ cZ cB cT h q v_a v_image v_texts v_tape v_taped v_fault v_faultPlace v_at v_place v_token v_number v_word v_text0 v_written v_sort0 v_pile v_piled v_opens v_isWhole v_once v_named v_values v_truth v_isWritten v_died v_aside v_likely v_safe v_headOf v_a_28 hg28) (kwX12_349 hts rfl rfl ⟨Nat.le_of_ble_eq_true rfl, Nat.le_of_ble_eq_true rfl⟩) 0 rfl rfl rfl rfl hl.1 rfl (Nat.le_of_ble_eq_true rfl) dX12_arePassed_28 ⟨Nat.zero_le _, Nat.zero_le _⟩ (fun H locs hP hD hS => ?_)
          have hP : va_P D vwCl (WM h q cI cJ cZ v_a_28 v_image v_texts v_tape v_taped v_fault v_faultPlace v_at v_place v_token v_number v_word v_text0 v_written v_sort0 v_pile v_piled v_opens v_isWhole v_once v_named v_values v_truth v_isWritten v_died v_aside v_likely v_safe v_headOf) H := hP
          have hD : va_D A (WM h q cI cJ cZ v_a_28 v_image v_texts v_tape v_taped v_fault v_faultPlace v_at v_place v_token v_number v_word v_text0 v_written v_sort0 v_pile v_piled v_opens v_isWhole v_once v_named v_values v_truth v_isWritten v_died v_aside v_likely v_safe v_headOf) := hD
          refine lv_aload_n hx hb dX12_arePassed_31 rfl (lv_at hl 0 rfl) ?_
          obtain ⟨v_a_32, v_named_32, v_values_32, v_truth_32, v_died_32, hg32, hf⟩ := ob5_some hf
          refine mcV1_v (As := []) (rest := []) hx hb hml hown hts hK hP hD hS hA (k_X12_goOn l N D cI cJ cZ cB cT h q v_a_28 v_image v_texts v_tape v_taped v_fault v_faultPlace v_at v_place v_token v_number v_word v_text0 v_written v_sort0 v_pile v_piled v_opens v_isWhole v_once v_named v_values v_truth v_isWritten v_died v_aside v_likely v_safe v_headOf v_a_32 v_named_32 v_values_32 v_truth_32 v_died_32 hg32) (kwX12_382 hts rfl rfl ⟨Nat.le_of_ble_eq_true rfl, Nat.le_of_ble_eq_true rfl⟩) 0 rfl rfl rfl rfl hl.1 rfl (Nat.le_of_ble_eq_true rfl) dX12_arePassed_32 ⟨Nat.zero_le _, Nat.zero_le _⟩ (fun H locs hP hD hS => ?_)
          have hP : va_P D vwCl (WM h q cI cJ cZ v_a_32 v_image v_texts v_tape v_taped v_fault v_faultPlace v_at v_place v_token v_number v_word v_text0 v_written v_sort0 v_pile v_piled v_opens v_isWhole v_once v_named_32 v_values_32 v_truth_32 v_isWritten v_died_32 v_aside v_likely v_safe v_headOf) H := hP
          have hD : va_D A (WM h q cI cJ cZ v_a_32 v_image v_texts v_tape v_taped v_fault v_faultPlace v_at v_place v_token v_number v_word v_text0 v_written v_sort0 v_pile v_piled v_opens v_isWhole v_once v_named_32 v_values_32 v_truth_32 v_isWritten v_died_32 v_aside v_likely v_safe v_headOf) := hD
          refine lv_iinc (v := (x2 + (1 : Int32))) (lv' := [(2, .int (x2 + (1 : Int32))), (0, .ref h), (1, .int x1)]) hx hb dX12_arePassed_35 hl (k := 2) rfl rfl (by decide) rfl (fun ls hl => ?_)
          refine lv_goto (tgt := 7) hx hb dX12_arePassed_38 (by decide) ?_
          exact ih7 v_a_32 v_named_32 v_values_32 v_truth_32 v_died_32 x1 (x2 + (1 : Int32)) _ _ _ hf hP hD hS (lv_sub hl [1, 2, 0] rfl)
  unfold f_X12_arePassed at hf
  refine lv_aload_n hx hb dX12_arePassed_0 rfl (lv_at hl 0 rfl) ?_
  refine lv_iconst (v := (0 : Int32)) hx hb dX12_arePassed_1 (by decide) ?_
  refine pfX12_322 hx hb hts hown hK hP hD hS 0 rfl (Nat.le_of_ble_eq_true rfl) dX12_arePassed_2 (fun H locs hP hD hS => ?_)
  have hP : va_P D vwCl (WM h q cI cJ cZ v_a v_image v_texts v_tape v_taped v_fault v_faultPlace v_at v_place v_token v_number v_word v_text0 v_written v_sort0 v_pile v_piled v_opens v_isWhole v_once v_named v_values v_truth v_isWritten (0 : Int32) v_aside v_likely v_safe v_headOf) H := hP
  have hD : va_D A (WM h q cI cJ cZ v_a v_image v_texts v_tape v_taped v_fault v_faultPlace v_at v_place v_token v_number v_word v_text0 v_written v_sort0 v_pile v_piled v_opens v_isWhole v_once v_named v_values v_truth v_isWritten (0 : Int32) v_aside v_likely v_safe v_headOf) := hD
  refine lv_iconst (v := (0 : Int32)) hx hb dX12_arePassed_5 (by decide) ?_
  refine lv_istore_n (lv' := [(2, .int (0 : Int32)), (0, .ref h), (1, .int p1)]) hx hb dX12_arePassed_6 rfl hl (by decide) rfl (fun ls hl => ?_)
  exact b7 N v_a v_named v_values v_truth (0 : Int32) p1 (0 : Int32) _ _ _ hf hP hD hS (lv_sub hl [1, 2, 0] rfl)
theorem dX12_month_0 : decode cX12_month 0 = .ok (.iload_n 1, 1) := by decide +kernel
theorem dX12_month_1 : decode cX12_month 1 = .ok (.iconst 1, 1) := by decide +kernel
theorem dX12_month_2 : decode cX12_month 2 = .ok (.bipush 60, 2) := by decide +kernel
theorem dX12_month_4 : decode cX12_month 4 = .ok (.invokestatic 63, 3) := by decide +kernel
theorem dX12_month_7 : decode cX12_month 7 = .ok (.ifCond .eq 33, 3) := by decide +kernel
theorem dX12_month_10 : decode cX12_month 10 = .ok (.aload_n 0, 1) := by decide +kernel
theorem dX12_month_11 : decode cX12_month 11 = .ok (.getfield 7, 3) := by decide +kernel
theorem dX12_month_14 : decode cX12_month 14 = .ok (.bipush 10, 2) := by decide +kernel
theorem dX12_month_16 : decode cX12_month 16 = .ok (.iaload, 1) := by decide +kernel
theorem dX12_month_17 : decode cX12_month 17 = .ok (.iload_n 1, 1) := by decide +kernel
theorem dX12_month_18 : decode cX12_month 18 = .ok (.iadd, 1) := by decide +kernel
theorem dX12_month_19 : decode cX12_month 19 = .ok (.sipush 9999, 3) := by decide +kernel
theorem dX12_month_22 : decode cX12_month 22 = .ok (.if_icmp .gt 18, 3) := by decide +kernel
theorem dX12_month_25 : decode cX12_month 25 = .ok (.aload_n 0, 1) := by decide +kernel
theorem dX12_month_26 : decode cX12_month 26 = .ok (.iload_n 1, 1) := by decide +kernel
theorem dX12_month_27 : decode cX12_month 27 = .ok (.invokevirtual 385, 3) := by decide +kernel
theorem dX12_month_30 : decode cX12_month 30 = .ok (.ifCond .eq 10, 3) := by decide +kernel
theorem dX12_month_33 : decode cX12_month 33 = .ok (.aload_n 0, 1) := by decide +kernel
theorem dX12_month_34 : decode cX12_month 34 = .ok (.getfield 322, 3) := by decide +kernel
theorem dX12_month_37 : decode cX12_month 37 = .ok (.goto 4, 3) := by decide +kernel
theorem dX12_month_40 : decode cX12_month 40 = .ok (.iconst (-1), 1) := by decide +kernel
theorem dX12_month_41 : decode cX12_month 41 = .ok (.ireturn, 1) := by decide +kernel
def f_X12_month (N : Nat) (v_a : Nat → Int32) (v_texts : Nat → Int32) (v_named : Nat → Int32) (v_values : Nat → Int64) (v_truth : Nat → Int32) (v_isWritten : Int32) (v_died : Int32) (p1 : Int32) : Option (Int32 × (Nat → Int32) × (Nat → Int32) × (Nat → Int64) × (Nat → Int32) × Int32) := ob1 (f_X12_isIn N p1 (1 : Int32) (60 : Int32)) fun r4 => if r4 = 0 then (some ((-1 : Int32), v_a, v_named, v_values, v_truth, v_died)) else (gA v_a 8762 (10 : Int32) fun v16 => if (9999 : Int32) < (v16 + p1) then (some ((-1 : Int32), v_a, v_named, v_values, v_truth, v_died)) else (ob6 (f_X12_arePassed N v_a v_texts v_named v_values v_truth v_isWritten v_died p1) fun r27 v_a_27 v_named_27 v_values_27 v_truth_27 v_died_27 => if r27 = 0 then (some ((-1 : Int32), v_a_27, v_named_27, v_values_27, v_truth_27, v_died_27)) else (some (v_died_27, v_a_27, v_named_27, v_values_27, v_truth_27, v_died_27))))
set_option maxHeartbeats 4000000 in
set_option maxRecDepth 100000 in
theorem k_X12_month (l : Launch) (N : Nat) (D : va_G) (cI cJ cZ cB cT : ClassId) (h : Nat) (q : Nat → Nat) (v_a : Nat → Int32) (v_image : Nat → Int32) (v_texts : Nat → Int32) (v_tape : Nat → Int32) (v_taped : Int32) (v_fault : Int32) (v_faultPlace : Int32) (v_at : Int32) (v_place : Int32) (v_token : Int32) (v_number : Int32) (v_word : Int64) (v_text0 : Int32) (v_written : Int32) (v_sort0 : Int32) (v_pile : Nat → Int32) (v_piled : Int32) (v_opens : Int32) (v_isWhole : Int32) (v_once : Int32) (v_named : Nat → Int32) (v_values : Nat → Int64) (v_truth : Nat → Int32) (v_isWritten : Int32) (v_died : Int32) (v_aside : Nat → Int32) (v_likely : Nat → Int32) (v_safe : Nat → Int32) (v_headOf : Nat → Int32) (p1 : Int32) (o_r : Int32) (o_v_a : Nat → Int32) (o_v_named : Nat → Int32) (o_v_values : Nat → Int64) (o_v_truth : Nat → Int32) (o_v_died : Int32) (hf : f_X12_month N v_a v_texts v_named v_values v_truth v_isWritten v_died p1 = some (o_r, o_v_a, o_v_named, o_v_values, o_v_truth, o_v_died)) : ∀ sz, Met l yX12_month (mw yX12_month cX12_month 2 (some .int)) ({ frames := 10, cells := 0, slots := 0, locals := 229 } : Room) (mPre D (mT cI cJ cZ cB cT) (WM h q cI cJ cZ v_a v_image v_texts v_tape v_taped v_fault v_faultPlace v_at v_place v_token v_number v_word v_text0 v_written v_sort0 v_pile v_piled v_opens v_isWhole v_once v_named v_values v_truth v_isWritten v_died v_aside v_likely v_safe v_headOf) sz [.ref h, .int p1]) ((mQi D (WM h q cI cJ cZ o_v_a v_image v_texts v_tape v_taped v_fault v_faultPlace v_at v_place v_token v_number v_word v_text0 v_written v_sort0 v_pile v_piled v_opens v_isWhole v_once o_v_named o_v_values o_v_truth v_isWritten o_v_died v_aside v_likely v_safe v_headOf) o_r True) (va_A (WM h q cI cJ cZ v_a v_image v_texts v_tape v_taped v_fault v_faultPlace v_at v_place v_token v_number v_word v_text0 v_written v_sort0 v_pile v_piled v_opens v_isWhole v_once v_named v_values v_truth v_isWritten v_died v_aside v_likely v_safe v_headOf) sz)) 0 0 (va_A (WM h q cI cJ cZ v_a v_image v_texts v_tape v_taped v_fault v_faultPlace v_at v_place v_token v_number v_word v_text0 v_written v_sort0 v_pile v_piled v_opens v_isWhole v_once v_named v_values v_truth v_isWritten v_died v_aside v_likely v_safe v_headOf) sz) := by
  refine mMet (Qc := (mQi D (WM h q cI cJ cZ o_v_a v_image v_texts v_tape v_taped v_fault v_faultPlace v_at v_place v_token v_number v_word v_text0 v_written v_sort0 v_pile v_piled v_opens v_isWhole v_once o_v_named o_v_values o_v_truth v_isWritten o_v_died v_aside v_likely v_safe v_headOf) o_r True)) (by decide) (Nat.le_of_ble_eq_true rfl) (fun p e s m below meth c A ls hx hb hr hml hts hown hlocks hK hA hP hD hl => ?_)
  have hown : s.vm.findClass RX12 = some m.cls := hown
  have hl : lv_has ls 2 [(0, .ref h), (1, .int p1)] := hl
  have hS : va_S A s.heap s.heap [] := va_S.rf
  unfold f_X12_month at hf
  refine lv_iload_n hx hb dX12_month_0 rfl (lv_at hl 1 rfl) ?_
  refine lv_iconst (v := (1 : Int32)) hx hb dX12_month_1 (by decide) ?_
  refine lv_bipush (v := (60 : Int32)) hx hb dX12_month_2 (by decide) ?_
  obtain ⟨r4, hg4, hf⟩ := ob1_some hf
  refine mcS0_i (As := [.int p1, .int (1 : Int32), .int (60 : Int32)]) (rest := []) hx hb hml hown hts hK hP hD hS hA (k_X12_isIn l N D cI cJ cZ cB cT p1 (1 : Int32) (60 : Int32) r4 hg4) (kwX12_63 hts rfl rfl ⟨Nat.le_of_ble_eq_true rfl, Nat.le_of_ble_eq_true rfl⟩) rfl hl.1 rfl (Nat.le_of_ble_eq_true rfl) dX12_month_4 ⟨Nat.zero_le _, Nat.zero_le _⟩ (fun hB4 H locs hP hD hS => ?_)
  refine xif_eq hx hb 40 dX12_month_7 (by decide) hf (fun hf => ?_) (fun hf => ?_)
  · refine lv_iconst (v := (-1 : Int32)) hx hb dX12_month_40 (by decide) ?_
    cases hf
    exact mret_i hx hb hr hlocks hP hD hS dX12_month_41 rfl trivial
  · refine lv_aload_n hx hb dX12_month_10 rfl (lv_at hl 0 rfl) ?_
    refine gfX12_7 hx hb hts hown hK hP 0 rfl rfl dX12_month_11 ?_
    refine lv_bipush (v := (10 : Int32)) hx hb dX12_month_14 (by decide) ?_
    refine xiald hx hb hK hP 1 0 rfl rfl dX12_month_16 hf (fun v16 hf => ?_)
    refine lv_iload_n hx hb dX12_month_17 rfl (lv_at hl 1 rfl) ?_
    refine lv_iadd hx hb dX12_month_18 ?_
    refine lv_sipush (v := (9999 : Int32)) hx hb dX12_month_19 (by decide) ?_
    refine xicmp_gt hx hb 40 dX12_month_22 (by decide) hf (fun hf => ?_) (fun hf => ?_)
    · refine lv_iconst (v := (-1 : Int32)) hx hb dX12_month_40 (by decide) ?_
      cases hf
      exact mret_i hx hb hr hlocks hP hD hS dX12_month_41 rfl trivial
    · refine lv_aload_n hx hb dX12_month_25 rfl (lv_at hl 0 rfl) ?_
      refine lv_iload_n hx hb dX12_month_26 rfl (lv_at hl 1 rfl) ?_
      obtain ⟨r27, v_a_27, v_named_27, v_values_27, v_truth_27, v_died_27, hg27, hf⟩ := ob6_some hf
      refine mcV1_i (As := [.int p1]) (rest := []) hx hb hml hown hts hK hP hD hS hA (k_X12_arePassed l N D cI cJ cZ cB cT h q v_a v_image v_texts v_tape v_taped v_fault v_faultPlace v_at v_place v_token v_number v_word v_text0 v_written v_sort0 v_pile v_piled v_opens v_isWhole v_once v_named v_values v_truth v_isWritten v_died v_aside v_likely v_safe v_headOf p1 r27 v_a_27 v_named_27 v_values_27 v_truth_27 v_died_27 hg27) (kwX12_385 hts rfl rfl ⟨Nat.le_of_ble_eq_true rfl, Nat.le_of_ble_eq_true rfl⟩) 0 rfl rfl rfl rfl hl.1 rfl (Nat.le_of_ble_eq_true rfl) dX12_month_27 ⟨Nat.zero_le _, Nat.zero_le _⟩ (fun hB27 H locs hP hD hS => ?_)
      have hP : va_P D vwCl (WM h q cI cJ cZ v_a_27 v_image v_texts v_tape v_taped v_fault v_faultPlace v_at v_place v_token v_number v_word v_text0 v_written v_sort0 v_pile v_piled v_opens v_isWhole v_once v_named_27 v_values_27 v_truth_27 v_isWritten v_died_27 v_aside v_likely v_safe v_headOf) H := hP
      have hD : va_D A (WM h q cI cJ cZ v_a_27 v_image v_texts v_tape v_taped v_fault v_faultPlace v_at v_place v_token v_number v_word v_text0 v_written v_sort0 v_pile v_piled v_opens v_isWhole v_once v_named_27 v_values_27 v_truth_27 v_isWritten v_died_27 v_aside v_likely v_safe v_headOf) := hD
      refine xif_eq hx hb 40 dX12_month_30 (by decide) hf (fun hf => ?_) (fun hf => ?_)
      · refine lv_iconst (v := (-1 : Int32)) hx hb dX12_month_40 (by decide) ?_
        cases hf
        exact mret_i hx hb hr hlocks hP hD hS dX12_month_41 rfl trivial
      · refine lv_aload_n hx hb dX12_month_33 rfl (lv_at hl 0 rfl) ?_
        refine gfX12_322 hx hb hts hown hK hP 0 rfl rfl dX12_month_34 ?_
        refine lv_goto (tgt := 41) hx hb dX12_month_37 (by decide) ?_
        cases hf
        exact mret_i hx hb hr hlocks hP hD hS dX12_month_41 rfl trivial
theorem dX12_isPlayed_0 : decode cX12_isPlayed 0 = .ok (.aload_n 0, 1) := by decide +kernel
theorem dX12_isPlayed_1 : decode cX12_isPlayed 1 = .ok (.getfield 16, 3) := by decide +kernel
theorem dX12_isPlayed_4 : decode cX12_isPlayed 4 = .ok (.iload_n 1, 1) := by decide +kernel
theorem dX12_isPlayed_5 : decode cX12_isPlayed 5 = .ok (.iconst 1, 1) := by decide +kernel
theorem dX12_isPlayed_6 : decode cX12_isPlayed 6 = .ok (.iadd, 1) := by decide +kernel
theorem dX12_isPlayed_7 : decode cX12_isPlayed 7 = .ok (.iaload, 1) := by decide +kernel
theorem dX12_isPlayed_8 : decode cX12_isPlayed 8 = .ok (.istore_n 2, 1) := by decide +kernel
theorem dX12_isPlayed_9 : decode cX12_isPlayed 9 = .ok (.aload_n 0, 1) := by decide +kernel
theorem dX12_isPlayed_10 : decode cX12_isPlayed 10 = .ok (.getfield 16, 3) := by decide +kernel
theorem dX12_isPlayed_13 : decode cX12_isPlayed 13 = .ok (.iload_n 1, 1) := by decide +kernel
theorem dX12_isPlayed_14 : decode cX12_isPlayed 14 = .ok (.iconst 2, 1) := by decide +kernel
theorem dX12_isPlayed_15 : decode cX12_isPlayed 15 = .ok (.iadd, 1) := by decide +kernel
theorem dX12_isPlayed_16 : decode cX12_isPlayed 16 = .ok (.iaload, 1) := by decide +kernel
theorem dX12_isPlayed_17 : decode cX12_isPlayed 17 = .ok (.istore_n 3, 1) := by decide +kernel
theorem dX12_isPlayed_18 : decode cX12_isPlayed 18 = .ok (.aload_n 0, 1) := by decide +kernel
theorem dX12_isPlayed_19 : decode cX12_isPlayed 19 = .ok (.getfield 16, 3) := by decide +kernel
theorem dX12_isPlayed_22 : decode cX12_isPlayed 22 = .ok (.iload_n 1, 1) := by decide +kernel
theorem dX12_isPlayed_23 : decode cX12_isPlayed 23 = .ok (.iaload, 1) := by decide +kernel
theorem dX12_isPlayed_24 : decode cX12_isPlayed 24 = .ok (.tableswitch 169 4 12 #[52, 66, 73, 104, 119, 126, 141, 148, 163], 52) := by decide +kernel
theorem dX12_isPlayed_76 : decode cX12_isPlayed 76 = .ok (.aload_n 0, 1) := by decide +kernel
theorem dX12_isPlayed_77 : decode cX12_isPlayed 77 = .ok (.iload_n 2, 1) := by decide +kernel
theorem dX12_isPlayed_78 : decode cX12_isPlayed 78 = .ok (.invokevirtual 388, 3) := by decide +kernel
theorem dX12_isPlayed_81 : decode cX12_isPlayed 81 = .ok (.ifCond .lt 7, 3) := by decide +kernel
theorem dX12_isPlayed_84 : decode cX12_isPlayed 84 = .ok (.iconst 1, 1) := by decide +kernel
theorem dX12_isPlayed_85 : decode cX12_isPlayed 85 = .ok (.goto 4, 3) := by decide +kernel
theorem dX12_isPlayed_88 : decode cX12_isPlayed 88 = .ok (.iconst 0, 1) := by decide +kernel
theorem dX12_isPlayed_89 : decode cX12_isPlayed 89 = .ok (.ireturn, 1) := by decide +kernel
theorem dX12_isPlayed_90 : decode cX12_isPlayed 90 = .ok (.aload_n 0, 1) := by decide +kernel
theorem dX12_isPlayed_91 : decode cX12_isPlayed 91 = .ok (.iload_n 2, 1) := by decide +kernel
theorem dX12_isPlayed_92 : decode cX12_isPlayed 92 = .ok (.iload_n 3, 1) := by decide +kernel
theorem dX12_isPlayed_93 : decode cX12_isPlayed 93 = .ok (.invokevirtual 391, 3) := by decide +kernel
theorem dX12_isPlayed_96 : decode cX12_isPlayed 96 = .ok (.ireturn, 1) := by decide +kernel
theorem dX12_isPlayed_97 : decode cX12_isPlayed 97 = .ok (.aload_n 0, 1) := by decide +kernel
theorem dX12_isPlayed_98 : decode cX12_isPlayed 98 = .ok (.iload_n 2, 1) := by decide +kernel
theorem dX12_isPlayed_99 : decode cX12_isPlayed 99 = .ok (.iload_n 3, 1) := by decide +kernel
theorem dX12_isPlayed_100 : decode cX12_isPlayed 100 = .ok (.aload_n 0, 1) := by decide +kernel
theorem dX12_isPlayed_101 : decode cX12_isPlayed 101 = .ok (.getfield 16, 3) := by decide +kernel
theorem dX12_isPlayed_104 : decode cX12_isPlayed 104 = .ok (.iload_n 1, 1) := by decide +kernel
theorem dX12_isPlayed_105 : decode cX12_isPlayed 105 = .ok (.iconst 3, 1) := by decide +kernel
theorem dX12_isPlayed_106 : decode cX12_isPlayed 106 = .ok (.iadd, 1) := by decide +kernel
theorem dX12_isPlayed_107 : decode cX12_isPlayed 107 = .ok (.iaload, 1) := by decide +kernel
theorem dX12_isPlayed_108 : decode cX12_isPlayed 108 = .ok (.aload_n 0, 1) := by decide +kernel
theorem dX12_isPlayed_109 : decode cX12_isPlayed 109 = .ok (.getfield 16, 3) := by decide +kernel
theorem dX12_isPlayed_112 : decode cX12_isPlayed 112 = .ok (.iload_n 1, 1) := by decide +kernel
theorem dX12_isPlayed_113 : decode cX12_isPlayed 113 = .ok (.iconst 4, 1) := by decide +kernel
theorem dX12_isPlayed_114 : decode cX12_isPlayed 114 = .ok (.iadd, 1) := by decide +kernel
theorem dX12_isPlayed_115 : decode cX12_isPlayed 115 = .ok (.iaload, 1) := by decide +kernel
theorem dX12_isPlayed_116 : decode cX12_isPlayed 116 = .ok (.invokevirtual 394, 3) := by decide +kernel
theorem dX12_isPlayed_119 : decode cX12_isPlayed 119 = .ok (.ifCond .lt 7, 3) := by decide +kernel
theorem dX12_isPlayed_122 : decode cX12_isPlayed 122 = .ok (.iconst 1, 1) := by decide +kernel
theorem dX12_isPlayed_123 : decode cX12_isPlayed 123 = .ok (.goto 4, 3) := by decide +kernel
theorem dX12_isPlayed_126 : decode cX12_isPlayed 126 = .ok (.iconst 0, 1) := by decide +kernel
theorem dX12_isPlayed_127 : decode cX12_isPlayed 127 = .ok (.ireturn, 1) := by decide +kernel
theorem dX12_isPlayed_128 : decode cX12_isPlayed 128 = .ok (.aload_n 0, 1) := by decide +kernel
theorem dX12_isPlayed_129 : decode cX12_isPlayed 129 = .ok (.iload_n 2, 1) := by decide +kernel
theorem dX12_isPlayed_130 : decode cX12_isPlayed 130 = .ok (.iload_n 3, 1) := by decide +kernel
theorem dX12_isPlayed_131 : decode cX12_isPlayed 131 = .ok (.invokevirtual 397, 3) := by decide +kernel
theorem dX12_isPlayed_134 : decode cX12_isPlayed 134 = .ok (.ifCond .lt 7, 3) := by decide +kernel
theorem dX12_isPlayed_137 : decode cX12_isPlayed 137 = .ok (.iconst 1, 1) := by decide +kernel
theorem dX12_isPlayed_138 : decode cX12_isPlayed 138 = .ok (.goto 4, 3) := by decide +kernel
theorem dX12_isPlayed_141 : decode cX12_isPlayed 141 = .ok (.iconst 0, 1) := by decide +kernel
theorem dX12_isPlayed_142 : decode cX12_isPlayed 142 = .ok (.ireturn, 1) := by decide +kernel
theorem dX12_isPlayed_143 : decode cX12_isPlayed 143 = .ok (.aload_n 0, 1) := by decide +kernel
theorem dX12_isPlayed_144 : decode cX12_isPlayed 144 = .ok (.iload_n 2, 1) := by decide +kernel
theorem dX12_isPlayed_145 : decode cX12_isPlayed 145 = .ok (.iload_n 3, 1) := by decide +kernel
theorem dX12_isPlayed_146 : decode cX12_isPlayed 146 = .ok (.invokevirtual 400, 3) := by decide +kernel
theorem dX12_isPlayed_149 : decode cX12_isPlayed 149 = .ok (.ireturn, 1) := by decide +kernel
theorem dX12_isPlayed_150 : decode cX12_isPlayed 150 = .ok (.aload_n 0, 1) := by decide +kernel
theorem dX12_isPlayed_151 : decode cX12_isPlayed 151 = .ok (.iload_n 2, 1) := by decide +kernel
theorem dX12_isPlayed_152 : decode cX12_isPlayed 152 = .ok (.iload_n 3, 1) := by decide +kernel
theorem dX12_isPlayed_153 : decode cX12_isPlayed 153 = .ok (.invokevirtual 403, 3) := by decide +kernel
theorem dX12_isPlayed_156 : decode cX12_isPlayed 156 = .ok (.ifCond .lt 7, 3) := by decide +kernel
theorem dX12_isPlayed_159 : decode cX12_isPlayed 159 = .ok (.iconst 1, 1) := by decide +kernel
theorem dX12_isPlayed_160 : decode cX12_isPlayed 160 = .ok (.goto 4, 3) := by decide +kernel
theorem dX12_isPlayed_163 : decode cX12_isPlayed 163 = .ok (.iconst 0, 1) := by decide +kernel
theorem dX12_isPlayed_164 : decode cX12_isPlayed 164 = .ok (.ireturn, 1) := by decide +kernel
theorem dX12_isPlayed_165 : decode cX12_isPlayed 165 = .ok (.aload_n 0, 1) := by decide +kernel
theorem dX12_isPlayed_166 : decode cX12_isPlayed 166 = .ok (.iload_n 2, 1) := by decide +kernel
theorem dX12_isPlayed_167 : decode cX12_isPlayed 167 = .ok (.iload_n 3, 1) := by decide +kernel
theorem dX12_isPlayed_168 : decode cX12_isPlayed 168 = .ok (.invokevirtual 406, 3) := by decide +kernel
theorem dX12_isPlayed_171 : decode cX12_isPlayed 171 = .ok (.ireturn, 1) := by decide +kernel
theorem dX12_isPlayed_172 : decode cX12_isPlayed 172 = .ok (.aload_n 0, 1) := by decide +kernel
theorem dX12_isPlayed_173 : decode cX12_isPlayed 173 = .ok (.iload_n 2, 1) := by decide +kernel
theorem dX12_isPlayed_174 : decode cX12_isPlayed 174 = .ok (.iload_n 3, 1) := by decide +kernel
theorem dX12_isPlayed_175 : decode cX12_isPlayed 175 = .ok (.invokevirtual 409, 3) := by decide +kernel
theorem dX12_isPlayed_178 : decode cX12_isPlayed 178 = .ok (.ifCond .lt 7, 3) := by decide +kernel
theorem dX12_isPlayed_181 : decode cX12_isPlayed 181 = .ok (.iconst 1, 1) := by decide +kernel
theorem dX12_isPlayed_182 : decode cX12_isPlayed 182 = .ok (.goto 4, 3) := by decide +kernel
theorem dX12_isPlayed_185 : decode cX12_isPlayed 185 = .ok (.iconst 0, 1) := by decide +kernel
theorem dX12_isPlayed_186 : decode cX12_isPlayed 186 = .ok (.ireturn, 1) := by decide +kernel
theorem dX12_isPlayed_187 : decode cX12_isPlayed 187 = .ok (.aload_n 0, 1) := by decide +kernel
theorem dX12_isPlayed_188 : decode cX12_isPlayed 188 = .ok (.iload_n 2, 1) := by decide +kernel
theorem dX12_isPlayed_189 : decode cX12_isPlayed 189 = .ok (.invokevirtual 385, 3) := by decide +kernel
theorem dX12_isPlayed_192 : decode cX12_isPlayed 192 = .ok (.ireturn, 1) := by decide +kernel
theorem dX12_isPlayed_193 : decode cX12_isPlayed 193 = .ok (.iconst 1, 1) := by decide +kernel
theorem dX12_isPlayed_194 : decode cX12_isPlayed 194 = .ok (.ireturn, 1) := by decide +kernel
def f_X12_isPlayed (N : Nat) (v_a : Nat → Int32) (v_texts : Nat → Int32) (v_named : Nat → Int32) (v_values : Nat → Int64) (v_truth : Nat → Int32) (v_isWritten : Int32) (v_died : Int32) (p1 : Int32) : Option (Int32 × (Nat → Int32) × (Nat → Int32) × (Nat → Int64) × (Nat → Int32) × Int32) := gA v_texts 2916 (p1 + (1 : Int32)) fun v7 => gA v_texts 2916 (p1 + (2 : Int32)) fun v16 => gA v_texts 2916 p1 fun v23 => if v23 = (4 : Int32) then (ob2 (f_X12_land N v_a v7) fun r78 v_a_78 => if r78 < 0 then (some ((0 : Int32), v_a_78, v_named, v_values, v_truth, v_died)) else (some ((1 : Int32), v_a_78, v_named, v_values, v_truth, v_died))) else if v23 = (5 : Int32) then (ob2 (f_X12_road N v_a v7 v16) fun r93 v_a_93 => some (r93, v_a_93, v_named, v_values, v_truth, v_died)) else if v23 = (6 : Int32) then (gA v_texts 2916 (p1 + (3 : Int32)) fun v107 => gA v_texts 2916 (p1 + (4 : Int32)) fun v115 => ob2 (f_X12_person N v_a v7 v16 v107 v115) fun r116 v_a_116 => if r116 < 0 then (some ((0 : Int32), v_a_116, v_named, v_values, v_truth, v_died)) else (some ((1 : Int32), v_a_116, v_named, v_values, v_truth, v_died))) else if v23 = (7 : Int32) then (ob2 (f_X12_call N v_a v_isWritten v7 v16) fun r131 v_a_131 => if r131 < 0 then (some ((0 : Int32), v_a_131, v_named, v_values, v_truth, v_died)) else (some ((1 : Int32), v_a_131, v_named, v_values, v_truth, v_died))) else if v23 = (8 : Int32) then (ob2 (f_X12_move N v_a v7 v16) fun r146 v_a_146 => some (r146, v_a_146, v_named, v_values, v_truth, v_died)) else if v23 = (9 : Int32) then (ob5 (f_X12_feeds N v_a v_texts v_named v_values v_truth v_isWritten v7 v16) fun r153 v_a_153 v_named_153 v_values_153 v_truth_153 => if r153 < 0 then (some ((0 : Int32), v_a_153, v_named_153, v_values_153, v_truth_153, v_died)) else (some ((1 : Int32), v_a_153, v_named_153, v_values_153, v_truth_153, v_died))) else if v23 = (10 : Int32) then (ob3 (f_X12_kill N v_a v_isWritten v_died v7 v16) fun r168 v_a_168 v_died_168 => some (r168, v_a_168, v_named, v_values, v_truth, v_died_168)) else if v23 = (11 : Int32) then (ob5 (f_X12_pardon N v_a v_texts v_named v_values v_truth v_isWritten v7 v16) fun r175 v_a_175 v_named_175 v_values_175 v_truth_175 => if r175 < 0 then (some ((0 : Int32), v_a_175, v_named_175, v_values_175, v_truth_175, v_died)) else (some ((1 : Int32), v_a_175, v_named_175, v_values_175, v_truth_175, v_died))) else if v23 = (12 : Int32) then (ob6 (f_X12_arePassed N v_a v_texts v_named v_values v_truth v_isWritten v_died v7) fun r189 v_a_189 v_named_189 v_values_189 v_truth_189 v_died_189 => some (r189, v_a_189, v_named_189, v_values_189, v_truth_189, v_died_189)) else (some ((1 : Int32), v_a, v_named, v_values, v_truth, v_died))
set_option maxHeartbeats 4000000 in
set_option maxRecDepth 100000 in
theorem k_X12_isPlayed (l : Launch) (N : Nat) (D : va_G) (cI cJ cZ cB cT : ClassId) (h : Nat) (q : Nat → Nat) (v_a : Nat → Int32) (v_image : Nat → Int32) (v_texts : Nat → Int32) (v_tape : Nat → Int32) (v_taped : Int32) (v_fault : Int32) (v_faultPlace : Int32) (v_at : Int32) (v_place : Int32) (v_token : Int32) (v_number : Int32) (v_word : Int64) (v_text0 : Int32) (v_written : Int32) (v_sort0 : Int32) (v_pile : Nat → Int32) (v_piled : Int32) (v_opens : Int32) (v_isWhole : Int32) (v_once : Int32) (v_named : Nat → Int32) (v_values : Nat → Int64) (v_truth : Nat → Int32) (v_isWritten : Int32) (v_died : Int32) (v_aside : Nat → Int32) (v_likely : Nat → Int32) (v_safe : Nat → Int32) (v_headOf : Nat → Int32) (p1 : Int32) (o_r : Int32) (o_v_a : Nat → Int32) (o_v_named : Nat → Int32) (o_v_values : Nat → Int64) (o_v_truth : Nat → Int32) (o_v_died : Int32) (hf : f_X12_isPlayed N v_a v_texts v_named v_values v_truth v_isWritten v_died p1 = some (o_r, o_v_a, o_v_named, o_v_values, o_v_truth, o_v_died)) : ∀ sz, Met l yX12_isPlayed (mw yX12_isPlayed cX12_isPlayed 4 (some .boolean)) ({ frames := 10, cells := 0, slots := 0, locals := 229 } : Room) (mPre D (mT cI cJ cZ cB cT) (WM h q cI cJ cZ v_a v_image v_texts v_tape v_taped v_fault v_faultPlace v_at v_place v_token v_number v_word v_text0 v_written v_sort0 v_pile v_piled v_opens v_isWhole v_once v_named v_values v_truth v_isWritten v_died v_aside v_likely v_safe v_headOf) sz [.ref h, .int p1]) ((mQi D (WM h q cI cJ cZ o_v_a v_image v_texts v_tape v_taped v_fault v_faultPlace v_at v_place v_token v_number v_word v_text0 v_written v_sort0 v_pile v_piled v_opens v_isWhole v_once o_v_named o_v_values o_v_truth v_isWritten o_v_died v_aside v_likely v_safe v_headOf) o_r (mB o_r)) (va_A (WM h q cI cJ cZ v_a v_image v_texts v_tape v_taped v_fault v_faultPlace v_at v_place v_token v_number v_word v_text0 v_written v_sort0 v_pile v_piled v_opens v_isWhole v_once v_named v_values v_truth v_isWritten v_died v_aside v_likely v_safe v_headOf) sz)) 0 0 (va_A (WM h q cI cJ cZ v_a v_image v_texts v_tape v_taped v_fault v_faultPlace v_at v_place v_token v_number v_word v_text0 v_written v_sort0 v_pile v_piled v_opens v_isWhole v_once v_named v_values v_truth v_isWritten v_died v_aside v_likely v_safe v_headOf) sz) := by
  refine mMet (Qc := (mQi D (WM h q cI cJ cZ o_v_a v_image v_texts v_tape v_taped v_fault v_faultPlace v_at v_place v_token v_number v_word v_text0 v_written v_sort0 v_pile v_piled v_opens v_isWhole v_once o_v_named o_v_values o_v_truth v_isWritten o_v_died v_aside v_likely v_safe v_headOf) o_r (mB o_r))) (by decide) (Nat.le_of_ble_eq_true rfl) (fun p e s m below meth c A ls hx hb hr hml hts hown hlocks hK hA hP hD hl => ?_)
  have hown : s.vm.findClass RX12 = some m.cls := hown
  have hl : lv_has ls 4 [(0, .ref h), (1, .int p1)] := hl
  have hS : va_S A s.heap s.heap [] := va_S.rf
  unfold f_X12_isPlayed at hf
  refine lv_aload_n hx hb dX12_isPlayed_0 rfl (lv_at hl 0 rfl) ?_
  refine gfX12_16 hx hb hts hown hK hP 0 rfl rfl dX12_isPlayed_1 ?_
  refine lv_iload_n hx hb dX12_isPlayed_4 rfl (lv_at hl 1 rfl) ?_
  refine lv_iconst (v := (1 : Int32)) hx hb dX12_isPlayed_5 (by decide) ?_
  refine lv_iadd hx hb dX12_isPlayed_6 ?_
  refine xiald hx hb hK hP 3 0 rfl rfl dX12_isPlayed_7 hf (fun v7 hf => ?_)
  refine lv_istore_n (lv' := [(2, .int v7), (0, .ref h), (1, .int p1)]) hx hb dX12_isPlayed_8 rfl hl (by decide) rfl (fun ls hl => ?_)
  refine lv_aload_n hx hb dX12_isPlayed_9 rfl (lv_at hl 1 rfl) ?_
  refine gfX12_16 hx hb hts hown hK hP 0 rfl rfl dX12_isPlayed_10 ?_
  refine lv_iload_n hx hb dX12_isPlayed_13 rfl (lv_at hl 2 rfl) ?_
  refine lv_iconst (v := (2 : Int32)) hx hb dX12_isPlayed_14 (by decide) ?_
  refine lv_iadd hx hb dX12_isPlayed_15 ?_
  refine xiald hx hb hK hP 3 0 rfl rfl dX12_isPlayed_16 hf (fun v16 hf => ?_)
  refine lv_istore_n (lv' := [(3, .int v16), (2, .int v7), (0, .ref h), (1, .int p1)]) hx hb dX12_isPlayed_17 rfl hl (by decide) rfl (fun ls hl => ?_)
  refine lv_aload_n hx hb dX12_isPlayed_18 rfl (lv_at hl 2 rfl) ?_
  refine gfX12_16 hx hb hts hown hK hP 0 rfl rfl dX12_isPlayed_19 ?_
  refine lv_iload_n hx hb dX12_isPlayed_22 rfl (lv_at hl 3 rfl) ?_
  refine xiald hx hb hK hP 3 0 rfl rfl dX12_isPlayed_23 hf (fun v23 hf => ?_)
  by_cases e24_4 : v23 = (4 : Int32)
  · replace hf := (if_pos e24_4).symm.trans hf
    refine lv_tableIn (off := 52) (tgt := 76) hx hb dX12_isPlayed_24 (by rw [e24_4]; decide) (by rw [e24_4]; decide) (by rw [e24_4]; rfl) (by decide) ?_
    refine lv_aload_n hx hb dX12_isPlayed_76 rfl (lv_at hl 2 rfl) ?_
    refine lv_iload_n hx hb dX12_isPlayed_77 rfl (lv_at hl 1 rfl) ?_
    obtain ⟨r78, v_a_78, hg78, hf⟩ := ob2_some hf
    refine mcV1_i (As := [.int v7]) (rest := []) hx hb hml hown hts hK hP hD hS hA (k_X12_land l N D cI cJ cZ cB cT h q v_a v_image v_texts v_tape v_taped v_fault v_faultPlace v_at v_place v_token v_number v_word v_text0 v_written v_sort0 v_pile v_piled v_opens v_isWhole v_once v_named v_values v_truth v_isWritten v_died v_aside v_likely v_safe v_headOf v7 r78 v_a_78 hg78) (kwX12_388 hts rfl rfl ⟨Nat.le_of_ble_eq_true rfl, Nat.le_of_ble_eq_true rfl⟩) 0 rfl rfl rfl rfl hl.1 rfl (Nat.le_of_ble_eq_true rfl) dX12_isPlayed_78 ⟨Nat.zero_le _, Nat.zero_le _⟩ (fun hB78 H locs hP hD hS => ?_)
    have hP : va_P D vwCl (WM h q cI cJ cZ v_a_78 v_image v_texts v_tape v_taped v_fault v_faultPlace v_at v_place v_token v_number v_word v_text0 v_written v_sort0 v_pile v_piled v_opens v_isWhole v_once v_named v_values v_truth v_isWritten v_died v_aside v_likely v_safe v_headOf) H := hP
    have hD : va_D A (WM h q cI cJ cZ v_a_78 v_image v_texts v_tape v_taped v_fault v_faultPlace v_at v_place v_token v_number v_word v_text0 v_written v_sort0 v_pile v_piled v_opens v_isWhole v_once v_named v_values v_truth v_isWritten v_died v_aside v_likely v_safe v_headOf) := hD
    refine xif_lt hx hb 88 dX12_isPlayed_81 (by decide) hf (fun hf => ?_) (fun hf => ?_)
    · refine lv_iconst (v := (0 : Int32)) hx hb dX12_isPlayed_88 (by decide) ?_
      cases hf
      exact mret_z hx hb hr hlocks hP hD hS dX12_isPlayed_89 rfl rfl
    · refine lv_iconst (v := (1 : Int32)) hx hb dX12_isPlayed_84 (by decide) ?_
      refine lv_goto (tgt := 89) hx hb dX12_isPlayed_85 (by decide) ?_
      cases hf
      exact mret_z hx hb hr hlocks hP hD hS dX12_isPlayed_89 rfl rfl
  replace hf := (if_neg e24_4).symm.trans hf
  by_cases e24_5 : v23 = (5 : Int32)
  · replace hf := (if_pos e24_5).symm.trans hf
    refine lv_tableIn (off := 66) (tgt := 90) hx hb dX12_isPlayed_24 (by rw [e24_5]; decide) (by rw [e24_5]; decide) (by rw [e24_5]; rfl) (by decide) ?_
    refine lv_aload_n hx hb dX12_isPlayed_90 rfl (lv_at hl 2 rfl) ?_
    refine lv_iload_n hx hb dX12_isPlayed_91 rfl (lv_at hl 1 rfl) ?_
    refine lv_iload_n hx hb dX12_isPlayed_92 rfl (lv_at hl 0 rfl) ?_
    obtain ⟨r93, v_a_93, hg93, hf⟩ := ob2_some hf
    refine mcV1_i (As := [.int v7, .int v16]) (rest := []) hx hb hml hown hts hK hP hD hS hA (k_X12_road l N D cI cJ cZ cB cT h q v_a v_image v_texts v_tape v_taped v_fault v_faultPlace v_at v_place v_token v_number v_word v_text0 v_written v_sort0 v_pile v_piled v_opens v_isWhole v_once v_named v_values v_truth v_isWritten v_died v_aside v_likely v_safe v_headOf v7 v16 r93 v_a_93 hg93) (kwX12_391 hts rfl rfl ⟨Nat.le_of_ble_eq_true rfl, Nat.le_of_ble_eq_true rfl⟩) 0 rfl rfl rfl rfl hl.1 rfl (Nat.le_of_ble_eq_true rfl) dX12_isPlayed_93 ⟨Nat.zero_le _, Nat.zero_le _⟩ (fun hB93 H locs hP hD hS => ?_)
    have hP : va_P D vwCl (WM h q cI cJ cZ v_a_93 v_image v_texts v_tape v_taped v_fault v_faultPlace v_at v_place v_token v_number v_word v_text0 v_written v_sort0 v_pile v_piled v_opens v_isWhole v_once v_named v_values v_truth v_isWritten v_died v_aside v_likely v_safe v_headOf) H := hP
    have hD : va_D A (WM h q cI cJ cZ v_a_93 v_image v_texts v_tape v_taped v_fault v_faultPlace v_at v_place v_token v_number v_word v_text0 v_written v_sort0 v_pile v_piled v_opens v_isWhole v_once v_named v_values v_truth v_isWritten v_died v_aside v_likely v_safe v_headOf) := hD
    cases hf
    exact mret_z hx hb hr hlocks hP hD hS dX12_isPlayed_96 rfl hB93
  replace hf := (if_neg e24_5).symm.trans hf
  by_cases e24_6 : v23 = (6 : Int32)
  · replace hf := (if_pos e24_6).symm.trans hf
    refine lv_tableIn (off := 73) (tgt := 97) hx hb dX12_isPlayed_24 (by rw [e24_6]; decide) (by rw [e24_6]; decide) (by rw [e24_6]; rfl) (by decide) ?_
    refine lv_aload_n hx hb dX12_isPlayed_97 rfl (lv_at hl 2 rfl) ?_
    refine lv_iload_n hx hb dX12_isPlayed_98 rfl (lv_at hl 1 rfl) ?_
    refine lv_iload_n hx hb dX12_isPlayed_99 rfl (lv_at hl 0 rfl) ?_
    refine lv_aload_n hx hb dX12_isPlayed_100 rfl (lv_at hl 2 rfl) ?_
    refine gfX12_16 hx hb hts hown hK hP 0 rfl rfl dX12_isPlayed_101 ?_
    refine lv_iload_n hx hb dX12_isPlayed_104 rfl (lv_at hl 3 rfl) ?_
    refine lv_iconst (v := (3 : Int32)) hx hb dX12_isPlayed_105 (by decide) ?_
    refine lv_iadd hx hb dX12_isPlayed_106 ?_
    refine xiald hx hb hK hP 3 0 rfl rfl dX12_isPlayed_107 hf (fun v107 hf => ?_)
    refine lv_aload_n hx hb dX12_isPlayed_108 rfl (lv_at hl 2 rfl) ?_
    refine gfX12_16 hx hb hts hown hK hP 0 rfl rfl dX12_isPlayed_109 ?_
    refine lv_iload_n hx hb dX12_isPlayed_112 rfl (lv_at hl 3 rfl) ?_
    refine lv_iconst (v := (4 : Int32)) hx hb dX12_isPlayed_113 (by decide) ?_
    refine lv_iadd hx hb dX12_isPlayed_114 ?_
    refine xiald hx hb hK hP 3 0 rfl rfl dX12_isPlayed_115 hf (fun v115 hf => ?_)
    obtain ⟨r116, v_a_116, hg116, hf⟩ := ob2_some hf
    refine mcV1_i (As := [.int v7, .int v16, .int v107, .int v115]) (rest := []) hx hb hml hown hts hK hP hD hS hA (k_X12_person l N D cI cJ cZ cB cT h q v_a v_image v_texts v_tape v_taped v_fault v_faultPlace v_at v_place v_token v_number v_word v_text0 v_written v_sort0 v_pile v_piled v_opens v_isWhole v_once v_named v_values v_truth v_isWritten v_died v_aside v_likely v_safe v_headOf v7 v16 v107 v115 r116 v_a_116 hg116) (kwX12_394 hts rfl rfl ⟨Nat.le_of_ble_eq_true rfl, Nat.le_of_ble_eq_true rfl⟩) 0 rfl rfl rfl rfl hl.1 rfl (Nat.le_of_ble_eq_true rfl) dX12_isPlayed_116 ⟨Nat.zero_le _, Nat.zero_le _⟩ (fun hB116 H locs hP hD hS => ?_)
    have hP : va_P D vwCl (WM h q cI cJ cZ v_a_116 v_image v_texts v_tape v_taped v_fault v_faultPlace v_at v_place v_token v_number v_word v_text0 v_written v_sort0 v_pile v_piled v_opens v_isWhole v_once v_named v_values v_truth v_isWritten v_died v_aside v_likely v_safe v_headOf) H := hP
    have hD : va_D A (WM h q cI cJ cZ v_a_116 v_image v_texts v_tape v_taped v_fault v_faultPlace v_at v_place v_token v_number v_word v_text0 v_written v_sort0 v_pile v_piled v_opens v_isWhole v_once v_named v_values v_truth v_isWritten v_died v_aside v_likely v_safe v_headOf) := hD
    refine xif_lt hx hb 126 dX12_isPlayed_119 (by decide) hf (fun hf => ?_) (fun hf => ?_)
    · refine lv_iconst (v := (0 : Int32)) hx hb dX12_isPlayed_126 (by decide) ?_
      cases hf
      exact mret_z hx hb hr hlocks hP hD hS dX12_isPlayed_127 rfl rfl
    · refine lv_iconst (v := (1 : Int32)) hx hb dX12_isPlayed_122 (by decide) ?_
      refine lv_goto (tgt := 127) hx hb dX12_isPlayed_123 (by decide) ?_
      cases hf
      exact mret_z hx hb hr hlocks hP hD hS dX12_isPlayed_127 rfl rfl
  replace hf := (if_neg e24_6).symm.trans hf
  by_cases e24_7 : v23 = (7 : Int32)
  · replace hf := (if_pos e24_7).symm.trans hf
    refine lv_tableIn (off := 104) (tgt := 128) hx hb dX12_isPlayed_24 (by rw [e24_7]; decide) (by rw [e24_7]; decide) (by rw [e24_7]; rfl) (by decide) ?_
    refine lv_aload_n hx hb dX12_isPlayed_128 rfl (lv_at hl 2 rfl) ?_
    refine lv_iload_n hx hb dX12_isPlayed_129 rfl (lv_at hl 1 rfl) ?_
    refine lv_iload_n hx hb dX12_isPlayed_130 rfl (lv_at hl 0 rfl) ?_
    obtain ⟨r131, v_a_131, hg131, hf⟩ := ob2_some hf
    refine mcV1_i (As := [.int v7, .int v16]) (rest := []) hx hb hml hown hts hK hP hD hS hA (k_X12_call l N D cI cJ cZ cB cT h q v_a v_image v_texts v_tape v_taped v_fault v_faultPlace v_at v_place v_token v_number v_word v_text0 v_written v_sort0 v_pile v_piled v_opens v_isWhole v_once v_named v_values v_truth v_isWritten v_died v_aside v_likely v_safe v_headOf v7 v16 r131 v_a_131 hg131) (kwX12_397 hts rfl rfl ⟨Nat.le_of_ble_eq_true rfl, Nat.le_of_ble_eq_true rfl⟩) 0 rfl rfl rfl rfl hl.1 rfl (Nat.le_of_ble_eq_true rfl) dX12_isPlayed_131 ⟨Nat.zero_le _, Nat.zero_le _⟩ (fun hB131 H locs hP hD hS => ?_)
    have hP : va_P D vwCl (WM h q cI cJ cZ v_a_131 v_image v_texts v_tape v_taped v_fault v_faultPlace v_at v_place v_token v_number v_word v_text0 v_written v_sort0 v_pile v_piled v_opens v_isWhole v_once v_named v_values v_truth v_isWritten v_died v_aside v_likely v_safe v_headOf) H := hP
    have hD : va_D A (WM h q cI cJ cZ v_a_131 v_image v_texts v_tape v_taped v_fault v_faultPlace v_at v_place v_token v_number v_word v_text0 v_written v_sort0 v_pile v_piled v_opens v_isWhole v_once v_named v_values v_truth v_isWritten v_died v_aside v_likely v_safe v_headOf) := hD
    refine xif_lt hx hb 141 dX12_isPlayed_134 (by decide) hf (fun hf => ?_) (fun hf => ?_)
    · refine lv_iconst (v := (0 : Int32)) hx hb dX12_isPlayed_141 (by decide) ?_
      cases hf
      exact mret_z hx hb hr hlocks hP hD hS dX12_isPlayed_142 rfl rfl
    · refine lv_iconst (v := (1 : Int32)) hx hb dX12_isPlayed_137 (by decide) ?_
      refine lv_goto (tgt := 142) hx hb dX12_isPlayed_138 (by decide) ?_
      cases hf
      exact mret_z hx hb hr hlocks hP hD hS dX12_isPlayed_142 rfl rfl
  replace hf := (if_neg e24_7).symm.trans hf
  by_cases e24_8 : v23 = (8 : Int32)
  · replace hf := (if_pos e24_8).symm.trans hf
    refine lv_tableIn (off := 119) (tgt := 143) hx hb dX12_isPlayed_24 (by rw [e24_8]; decide) (by rw [e24_8]; decide) (by rw [e24_8]; rfl) (by decide) ?_
    refine lv_aload_n hx hb dX12_isPlayed_143 rfl (lv_at hl 2 rfl) ?_
    refine lv_iload_n hx hb dX12_isPlayed_144 rfl (lv_at hl 1 rfl) ?_
    refine lv_iload_n hx hb dX12_isPlayed_145 rfl (lv_at hl 0 rfl) ?_
    obtain ⟨r146, v_a_146, hg146, hf⟩ := ob2_some hf
    refine mcV1_i (As := [.int v7, .int v16]) (rest := []) hx hb hml hown hts hK hP hD hS hA (k_X12_move l N D cI cJ cZ cB cT h q v_a v_image v_texts v_tape v_taped v_fault v_faultPlace v_at v_place v_token v_number v_word v_text0 v_written v_sort0 v_pile v_piled v_opens v_isWhole v_once v_named v_values v_truth v_isWritten v_died v_aside v_likely v_safe v_headOf v7 v16 r146 v_a_146 hg146) (kwX12_400 hts rfl rfl ⟨Nat.le_of_ble_eq_true rfl, Nat.le_of_ble_eq_true rfl⟩) 0 rfl rfl rfl rfl hl.1 rfl (Nat.le_of_ble_eq_true rfl) dX12_isPlayed_146 ⟨Nat.zero_le _, Nat.zero_le _⟩ (fun hB146 H locs hP hD hS => ?_)
    have hP : va_P D vwCl (WM h q cI cJ cZ v_a_146 v_image v_texts v_tape v_taped v_fault v_faultPlace v_at v_place v_token v_number v_word v_text0 v_written v_sort0 v_pile v_piled v_opens v_isWhole v_once v_named v_values v_truth v_isWritten v_died v_aside v_likely v_safe v_headOf) H := hP
    have hD : va_D A (WM h q cI cJ cZ v_a_146 v_image v_texts v_tape v_taped v_fault v_faultPlace v_at v_place v_token v_number v_word v_text0 v_written v_sort0 v_pile v_piled v_opens v_isWhole v_once v_named v_values v_truth v_isWritten v_died v_aside v_likely v_safe v_headOf) := hD
    cases hf
    exact mret_z hx hb hr hlocks hP hD hS dX12_isPlayed_149 rfl hB146
  replace hf := (if_neg e24_8).symm.trans hf
  by_cases e24_9 : v23 = (9 : Int32)
  · replace hf := (if_pos e24_9).symm.trans hf
    refine lv_tableIn (off := 126) (tgt := 150) hx hb dX12_isPlayed_24 (by rw [e24_9]; decide) (by rw [e24_9]; decide) (by rw [e24_9]; rfl) (by decide) ?_
    refine lv_aload_n hx hb dX12_isPlayed_150 rfl (lv_at hl 2 rfl) ?_
    refine lv_iload_n hx hb dX12_isPlayed_151 rfl (lv_at hl 1 rfl) ?_
    refine lv_iload_n hx hb dX12_isPlayed_152 rfl (lv_at hl 0 rfl) ?_
    obtain ⟨r153, v_a_153, v_named_153, v_values_153, v_truth_153, hg153, hf⟩ := ob5_some hf
    refine mcV1_i (As := [.int v7, .int v16]) (rest := []) hx hb hml hown hts hK hP hD hS hA (k_X12_feeds l N D cI cJ cZ cB cT h q v_a v_image v_texts v_tape v_taped v_fault v_faultPlace v_at v_place v_token v_number v_word v_text0 v_written v_sort0 v_pile v_piled v_opens v_isWhole v_once v_named v_values v_truth v_isWritten v_died v_aside v_likely v_safe v_headOf v7 v16 r153 v_a_153 v_named_153 v_values_153 v_truth_153 hg153) (kwX12_403 hts rfl rfl ⟨Nat.le_of_ble_eq_true rfl, Nat.le_of_ble_eq_true rfl⟩) 0 rfl rfl rfl rfl hl.1 rfl (Nat.le_of_ble_eq_true rfl) dX12_isPlayed_153 ⟨Nat.zero_le _, Nat.zero_le _⟩ (fun hB153 H locs hP hD hS => ?_)
    have hP : va_P D vwCl (WM h q cI cJ cZ v_a_153 v_image v_texts v_tape v_taped v_fault v_faultPlace v_at v_place v_token v_number v_word v_text0 v_written v_sort0 v_pile v_piled v_opens v_isWhole v_once v_named_153 v_values_153 v_truth_153 v_isWritten v_died v_aside v_likely v_safe v_headOf) H := hP
    have hD : va_D A (WM h q cI cJ cZ v_a_153 v_image v_texts v_tape v_taped v_fault v_faultPlace v_at v_place v_token v_number v_word v_text0 v_written v_sort0 v_pile v_piled v_opens v_isWhole v_once v_named_153 v_values_153 v_truth_153 v_isWritten v_died v_aside v_likely v_safe v_headOf) := hD
    refine xif_lt hx hb 163 dX12_isPlayed_156 (by decide) hf (fun hf => ?_) (fun hf => ?_)
    · refine lv_iconst (v := (0 : Int32)) hx hb dX12_isPlayed_163 (by decide) ?_
      cases hf
      exact mret_z hx hb hr hlocks hP hD hS dX12_isPlayed_164 rfl rfl
    · refine lv_iconst (v := (1 : Int32)) hx hb dX12_isPlayed_159 (by decide) ?_
      refine lv_goto (tgt := 164) hx hb dX12_isPlayed_160 (by decide) ?_
      cases hf
      exact mret_z hx hb hr hlocks hP hD hS dX12_isPlayed_164 rfl rfl
  replace hf := (if_neg e24_9).symm.trans hf
  by_cases e24_10 : v23 = (10 : Int32)
  · replace hf := (if_pos e24_10).symm.trans hf
    refine lv_tableIn (off := 141) (tgt := 165) hx hb dX12_isPlayed_24 (by rw [e24_10]; decide) (by rw [e24_10]; decide) (by rw [e24_10]; rfl) (by decide) ?_
    refine lv_aload_n hx hb dX12_isPlayed_165 rfl (lv_at hl 2 rfl) ?_
    refine lv_iload_n hx hb dX12_isPlayed_166 rfl (lv_at hl 1 rfl) ?_
    refine lv_iload_n hx hb dX12_isPlayed_167 rfl (lv_at hl 0 rfl) ?_
    obtain ⟨r168, v_a_168, v_died_168, hg168, hf⟩ := ob3_some hf
    refine mcV1_i (As := [.int v7, .int v16]) (rest := []) hx hb hml hown hts hK hP hD hS hA (k_X12_kill l N D cI cJ cZ cB cT h q v_a v_image v_texts v_tape v_taped v_fault v_faultPlace v_at v_place v_token v_number v_word v_text0 v_written v_sort0 v_pile v_piled v_opens v_isWhole v_once v_named v_values v_truth v_isWritten v_died v_aside v_likely v_safe v_headOf v7 v16 r168 v_a_168 v_died_168 hg168) (kwX12_406 hts rfl rfl ⟨Nat.le_of_ble_eq_true rfl, Nat.le_of_ble_eq_true rfl⟩) 0 rfl rfl rfl rfl hl.1 rfl (Nat.le_of_ble_eq_true rfl) dX12_isPlayed_168 ⟨Nat.zero_le _, Nat.zero_le _⟩ (fun hB168 H locs hP hD hS => ?_)
    have hP : va_P D vwCl (WM h q cI cJ cZ v_a_168 v_image v_texts v_tape v_taped v_fault v_faultPlace v_at v_place v_token v_number v_word v_text0 v_written v_sort0 v_pile v_piled v_opens v_isWhole v_once v_named v_values v_truth v_isWritten v_died_168 v_aside v_likely v_safe v_headOf) H := hP
    have hD : va_D A (WM h q cI cJ cZ v_a_168 v_image v_texts v_tape v_taped v_fault v_faultPlace v_at v_place v_token v_number v_word v_text0 v_written v_sort0 v_pile v_piled v_opens v_isWhole v_once v_named v_values v_truth v_isWritten v_died_168 v_aside v_likely v_safe v_headOf) := hD
    cases hf
    exact mret_z hx hb hr hlocks hP hD hS dX12_isPlayed_171 rfl hB168
  replace hf := (if_neg e24_10).symm.trans hf
  by_cases e24_11 : v23 = (11 : Int32)
  · replace hf := (if_pos e24_11).symm.trans hf
    refine lv_tableIn (off := 148) (tgt := 172) hx hb dX12_isPlayed_24 (by rw [e24_11]; decide) (by rw [e24_11]; decide) (by rw [e24_11]; rfl) (by decide) ?_
    refine lv_aload_n hx hb dX12_isPlayed_172 rfl (lv_at hl 2 rfl) ?_
    refine lv_iload_n hx hb dX12_isPlayed_173 rfl (lv_at hl 1 rfl) ?_
    refine lv_iload_n hx hb dX12_isPlayed_174 rfl (lv_at hl 0 rfl) ?_
    obtain ⟨r175, v_a_175, v_named_175, v_values_175, v_truth_175, hg175, hf⟩ := ob5_some hf
    refine mcV1_i (As := [.int v7, .int v16]) (rest := []) hx hb hml hown hts hK hP hD hS hA (k_X12_pardon l N D cI cJ cZ cB cT h q v_a v_image v_texts v_tape v_taped v_fault v_faultPlace v_at v_place v_token v_number v_word v_text0 v_written v_sort0 v_pile v_piled v_opens v_isWhole v_once v_named v_values v_truth v_isWritten v_died v_aside v_likely v_safe v_headOf v7 v16 r175 v_a_175 v_named_175 v_values_175 v_truth_175 hg175) (kwX12_409 hts rfl rfl ⟨Nat.le_of_ble_eq_true rfl, Nat.le_of_ble_eq_true rfl⟩) 0 rfl rfl rfl rfl hl.1 rfl (Nat.le_of_ble_eq_true rfl) dX12_isPlayed_175 ⟨Nat.zero_le _, Nat.zero_le _⟩ (fun hB175 H locs hP hD hS => ?_)
    have hP : va_P D vwCl (WM h q cI cJ cZ v_a_175 v_image v_texts v_tape v_taped v_fault v_faultPlace v_at v_place v_token v_number v_word v_text0 v_written v_sort0 v_pile v_piled v_opens v_isWhole v_once v_named_175 v_values_175 v_truth_175 v_isWritten v_died v_aside v_likely v_safe v_headOf) H := hP
    have hD : va_D A (WM h q cI cJ cZ v_a_175 v_image v_texts v_tape v_taped v_fault v_faultPlace v_at v_place v_token v_number v_word v_text0 v_written v_sort0 v_pile v_piled v_opens v_isWhole v_once v_named_175 v_values_175 v_truth_175 v_isWritten v_died v_aside v_likely v_safe v_headOf) := hD
    refine xif_lt hx hb 185 dX12_isPlayed_178 (by decide) hf (fun hf => ?_) (fun hf => ?_)
    · refine lv_iconst (v := (0 : Int32)) hx hb dX12_isPlayed_185 (by decide) ?_
      cases hf
      exact mret_z hx hb hr hlocks hP hD hS dX12_isPlayed_186 rfl rfl
    · refine lv_iconst (v := (1 : Int32)) hx hb dX12_isPlayed_181 (by decide) ?_
      refine lv_goto (tgt := 186) hx hb dX12_isPlayed_182 (by decide) ?_
      cases hf
      exact mret_z hx hb hr hlocks hP hD hS dX12_isPlayed_186 rfl rfl
  replace hf := (if_neg e24_11).symm.trans hf
  by_cases e24_12 : v23 = (12 : Int32)
  · replace hf := (if_pos e24_12).symm.trans hf
    refine lv_tableIn (off := 163) (tgt := 187) hx hb dX12_isPlayed_24 (by rw [e24_12]; decide) (by rw [e24_12]; decide) (by rw [e24_12]; rfl) (by decide) ?_
    refine lv_aload_n hx hb dX12_isPlayed_187 rfl (lv_at hl 2 rfl) ?_
    refine lv_iload_n hx hb dX12_isPlayed_188 rfl (lv_at hl 1 rfl) ?_
    obtain ⟨r189, v_a_189, v_named_189, v_values_189, v_truth_189, v_died_189, hg189, hf⟩ := ob6_some hf
    refine mcV1_i (As := [.int v7]) (rest := []) hx hb hml hown hts hK hP hD hS hA (k_X12_arePassed l N D cI cJ cZ cB cT h q v_a v_image v_texts v_tape v_taped v_fault v_faultPlace v_at v_place v_token v_number v_word v_text0 v_written v_sort0 v_pile v_piled v_opens v_isWhole v_once v_named v_values v_truth v_isWritten v_died v_aside v_likely v_safe v_headOf v7 r189 v_a_189 v_named_189 v_values_189 v_truth_189 v_died_189 hg189) (kwX12_385 hts rfl rfl ⟨Nat.le_of_ble_eq_true rfl, Nat.le_of_ble_eq_true rfl⟩) 0 rfl rfl rfl rfl hl.1 rfl (Nat.le_of_ble_eq_true rfl) dX12_isPlayed_189 ⟨Nat.zero_le _, Nat.zero_le _⟩ (fun hB189 H locs hP hD hS => ?_)
    have hP : va_P D vwCl (WM h q cI cJ cZ v_a_189 v_image v_texts v_tape v_taped v_fault v_faultPlace v_at v_place v_token v_number v_word v_text0 v_written v_sort0 v_pile v_piled v_opens v_isWhole v_once v_named_189 v_values_189 v_truth_189 v_isWritten v_died_189 v_aside v_likely v_safe v_headOf) H := hP
    have hD : va_D A (WM h q cI cJ cZ v_a_189 v_image v_texts v_tape v_taped v_fault v_faultPlace v_at v_place v_token v_number v_word v_text0 v_written v_sort0 v_pile v_piled v_opens v_isWhole v_once v_named_189 v_values_189 v_truth_189 v_isWritten v_died_189 v_aside v_likely v_safe v_headOf) := hD
    cases hf
    exact mret_z hx hb hr hlocks hP hD hS dX12_isPlayed_192 rfl hB189
  replace hf := (if_neg e24_12).symm.trans hf
  have ne24_4 : v23.toInt ≠ (4 : Int) := sw_ne e24_4
  have ne24_5 : v23.toInt ≠ (5 : Int) := sw_ne e24_5
  have ne24_6 : v23.toInt ≠ (6 : Int) := sw_ne e24_6
  have ne24_7 : v23.toInt ≠ (7 : Int) := sw_ne e24_7
  have ne24_8 : v23.toInt ≠ (8 : Int) := sw_ne e24_8
  have ne24_9 : v23.toInt ≠ (9 : Int) := sw_ne e24_9
  have ne24_10 : v23.toInt ≠ (10 : Int) := sw_ne e24_10
  have ne24_11 : v23.toInt ≠ (11 : Int) := sw_ne e24_11
  have ne24_12 : v23.toInt ≠ (12 : Int) := sw_ne e24_12
  refine lv_tableOut (tgt := 193) hx hb dX12_isPlayed_24 (by omega) (by decide) ?_
  refine lv_iconst (v := (1 : Int32)) hx hb dX12_isPlayed_193 (by decide) ?_
  cases hf
  exact mret_z hx hb hr hlocks hP hD hS dX12_isPlayed_194 rfl rfl
theorem dX12_played_0 : decode cX12_played 0 = .ok (.iload_n 1, 1) := by decide +kernel
theorem dX12_played_1 : decode cX12_played 1 = .ok (.iconst 0, 1) := by decide +kernel
theorem dX12_played_2 : decode cX12_played 2 = .ok (.aload_n 0, 1) := by decide +kernel
theorem dX12_played_3 : decode cX12_played 3 = .ok (.getfield 7, 3) := by decide +kernel
theorem dX12_played_6 : decode cX12_played 6 = .ok (.iconst 2, 1) := by decide +kernel
theorem dX12_played_7 : decode cX12_played 7 = .ok (.iaload, 1) := by decide +kernel
theorem dX12_played_8 : decode cX12_played 8 = .ok (.iconst 1, 1) := by decide +kernel
theorem dX12_played_9 : decode cX12_played 9 = .ok (.isub, 1) := by decide +kernel
theorem dX12_played_10 : decode cX12_played 10 = .ok (.invokestatic 63, 3) := by decide +kernel
theorem dX12_played_13 : decode cX12_played 13 = .ok (.ifCond .ne 6, 3) := by decide +kernel
theorem dX12_played_16 : decode cX12_played 16 = .ok (.bipush (-2), 2) := by decide +kernel
theorem dX12_played_18 : decode cX12_played 18 = .ok (.ireturn, 1) := by decide +kernel
theorem dX12_played_19 : decode cX12_played 19 = .ok (.iconst 0, 1) := by decide +kernel
theorem dX12_played_20 : decode cX12_played 20 = .ok (.istore_n 2, 1) := by decide +kernel
theorem dX12_played_21 : decode cX12_played 21 = .ok (.iload_n 2, 1) := by decide +kernel
theorem dX12_played_22 : decode cX12_played 22 = .ok (.aload_n 0, 1) := by decide +kernel
theorem dX12_played_23 : decode cX12_played 23 = .ok (.getfield 16, 3) := by decide +kernel
theorem dX12_played_26 : decode cX12_played 26 = .ok (.sipush 729, 3) := by decide +kernel
theorem dX12_played_29 : decode cX12_played 29 = .ok (.iload_n 1, 1) := by decide +kernel
theorem dX12_played_30 : decode cX12_played 30 = .ok (.imul, 1) := by decide +kernel
theorem dX12_played_31 : decode cX12_played 31 = .ok (.iaload, 1) := by decide +kernel
theorem dX12_played_32 : decode cX12_played 32 = .ok (.if_icmp .ge 29, 3) := by decide +kernel
theorem dX12_played_35 : decode cX12_played 35 = .ok (.aload_n 0, 1) := by decide +kernel
theorem dX12_played_36 : decode cX12_played 36 = .ok (.sipush 729, 3) := by decide +kernel
theorem dX12_played_39 : decode cX12_played 39 = .ok (.iload_n 1, 1) := by decide +kernel
theorem dX12_played_40 : decode cX12_played 40 = .ok (.imul, 1) := by decide +kernel
theorem dX12_played_41 : decode cX12_played 41 = .ok (.iconst 1, 1) := by decide +kernel
theorem dX12_played_42 : decode cX12_played 42 = .ok (.iadd, 1) := by decide +kernel
theorem dX12_played_43 : decode cX12_played 43 = .ok (.iconst 5, 1) := by decide +kernel
theorem dX12_played_44 : decode cX12_played 44 = .ok (.iload_n 2, 1) := by decide +kernel
theorem dX12_played_45 : decode cX12_played 45 = .ok (.imul, 1) := by decide +kernel
theorem dX12_played_46 : decode cX12_played 46 = .ok (.iadd, 1) := by decide +kernel
theorem dX12_played_47 : decode cX12_played 47 = .ok (.invokevirtual 412, 3) := by decide +kernel
theorem dX12_played_50 : decode cX12_played 50 = .ok (.ifCond .ne 5, 3) := by decide +kernel
theorem dX12_played_53 : decode cX12_played 53 = .ok (.iload_n 2, 1) := by decide +kernel
theorem dX12_played_54 : decode cX12_played 54 = .ok (.ireturn, 1) := by decide +kernel
theorem dX12_played_55 : decode cX12_played 55 = .ok (.iinc 2 1, 3) := by decide +kernel
theorem dX12_played_58 : decode cX12_played 58 = .ok (.goto (-37), 3) := by decide +kernel
theorem dX12_played_61 : decode cX12_played 61 = .ok (.iconst (-1), 1) := by decide +kernel
theorem dX12_played_62 : decode cX12_played 62 = .ok (.ireturn, 1) := by decide +kernel
def f_X12_played_21 (N : Nat) : Nat → (Nat → Int32) → (Nat → Int32) → (Nat → Int32) → (Nat → Int64) → (Nat → Int32) → Int32 → Int32 → Int32 → Int32 → Option (Int32 × (Nat → Int32) × (Nat → Int32) × (Nat → Int64) × (Nat → Int32) × Int32)
  | 0, _, _, _, _, _, _, _, _, _ => none
  | n + 1, v_a, v_texts, v_named, v_values, v_truth, v_isWritten, v_died, x1, x2 => gA v_texts 2916 ((729 : Int32) * x1) fun v31 => if v31 ≤ x2 then (some ((-1 : Int32), v_a, v_named, v_values, v_truth, v_died)) else (ob6 (f_X12_isPlayed N v_a v_texts v_named v_values v_truth v_isWritten v_died ((((729 : Int32) * x1) + (1 : Int32)) + ((5 : Int32) * x2))) fun r47 v_a_47 v_named_47 v_values_47 v_truth_47 v_died_47 => if r47 = 0 then (some (x2, v_a_47, v_named_47, v_values_47, v_truth_47, v_died_47)) else ((f_X12_played_21 N n) v_a_47 v_texts v_named_47 v_values_47 v_truth_47 v_isWritten v_died_47 x1 (x2 + (1 : Int32))))
def f_X12_played (N : Nat) (v_a : Nat → Int32) (v_texts : Nat → Int32) (v_named : Nat → Int32) (v_values : Nat → Int64) (v_truth : Nat → Int32) (v_isWritten : Int32) (v_died : Int32) (p1 : Int32) : Option (Int32 × (Nat → Int32) × (Nat → Int32) × (Nat → Int64) × (Nat → Int32) × Int32) := gA v_a 8762 (2 : Int32) fun v7 => ob1 (f_X12_isIn N p1 (0 : Int32) (v7 - (1 : Int32))) fun r10 => if r10 = 0 then (some ((-2 : Int32), v_a, v_named, v_values, v_truth, v_died)) else (f_X12_played_21 N N v_a v_texts v_named v_values v_truth v_isWritten v_died p1 (0 : Int32))
set_option maxHeartbeats 4000000 in
set_option maxRecDepth 100000 in
theorem k_X12_played (l : Launch) (N : Nat) (D : va_G) (cI cJ cZ cB cT : ClassId) (h : Nat) (q : Nat → Nat) (v_a : Nat → Int32) (v_image : Nat → Int32) (v_texts : Nat → Int32) (v_tape : Nat → Int32) (v_taped : Int32) (v_fault : Int32) (v_faultPlace : Int32) (v_at : Int32) (v_place : Int32) (v_token : Int32) (v_number : Int32) (v_word : Int64) (v_text0 : Int32) (v_written : Int32) (v_sort0 : Int32) (v_pile : Nat → Int32) (v_piled : Int32) (v_opens : Int32) (v_isWhole : Int32) (v_once : Int32) (v_named : Nat → Int32) (v_values : Nat → Int64) (v_truth : Nat → Int32) (v_isWritten : Int32) (v_died : Int32) (v_aside : Nat → Int32) (v_likely : Nat → Int32) (v_safe : Nat → Int32) (v_headOf : Nat → Int32) (p1 : Int32) (o_r : Int32) (o_v_a : Nat → Int32) (o_v_named : Nat → Int32) (o_v_values : Nat → Int64) (o_v_truth : Nat → Int32) (o_v_died : Int32) (hf : f_X12_played N v_a v_texts v_named v_values v_truth v_isWritten v_died p1 = some (o_r, o_v_a, o_v_named, o_v_values, o_v_truth, o_v_died)) : ∀ sz, Met l yX12_played (mw yX12_played cX12_played 3 (some .int)) ({ frames := 11, cells := 0, slots := 0, locals := 252 } : Room) (mPre D (mT cI cJ cZ cB cT) (WM h q cI cJ cZ v_a v_image v_texts v_tape v_taped v_fault v_faultPlace v_at v_place v_token v_number v_word v_text0 v_written v_sort0 v_pile v_piled v_opens v_isWhole v_once v_named v_values v_truth v_isWritten v_died v_aside v_likely v_safe v_headOf) sz [.ref h, .int p1]) ((mQi D (WM h q cI cJ cZ o_v_a v_image v_texts v_tape v_taped v_fault v_faultPlace v_at v_place v_token v_number v_word v_text0 v_written v_sort0 v_pile v_piled v_opens v_isWhole v_once o_v_named o_v_values o_v_truth v_isWritten o_v_died v_aside v_likely v_safe v_headOf) o_r True) (va_A (WM h q cI cJ cZ v_a v_image v_texts v_tape v_taped v_fault v_faultPlace v_at v_place v_token v_number v_word v_text0 v_written v_sort0 v_pile v_piled v_opens v_isWhole v_once v_named v_values v_truth v_isWritten v_died v_aside v_likely v_safe v_headOf) sz)) 0 0 (va_A (WM h q cI cJ cZ v_a v_image v_texts v_tape v_taped v_fault v_faultPlace v_at v_place v_token v_number v_word v_text0 v_written v_sort0 v_pile v_piled v_opens v_isWhole v_once v_named v_values v_truth v_isWritten v_died v_aside v_likely v_safe v_headOf) sz) := by
  refine mMet (Qc := (mQi D (WM h q cI cJ cZ o_v_a v_image v_texts v_tape v_taped v_fault v_faultPlace v_at v_place v_token v_number v_word v_text0 v_written v_sort0 v_pile v_piled v_opens v_isWhole v_once o_v_named o_v_values o_v_truth v_isWritten o_v_died v_aside v_likely v_safe v_headOf) o_r True)) (by decide) (Nat.le_of_ble_eq_true rfl) (fun p e s m below meth c A ls hx hb hr hml hts hown hlocks hK hA hP hD hl => ?_)
  have hown : s.vm.findClass RX12 = some m.cls := hown
  have hl : lv_has ls 3 [(0, .ref h), (1, .int p1)] := hl
  have hS : va_S A s.heap s.heap [] := va_S.rf
  have b21 : ∀ n21 : Nat, ∀ (v_a : Nat → Int32) (v_named : Nat → Int32) (v_values : Nat → Int64) (v_truth : Nat → Int32) (v_died : Int32) (x1 : Int32) (x2 : Int32) (H : Heap) (locs : List Loc) (ls : Array Slot), f_X12_played_21 N n21 v_a v_texts v_named v_values v_truth v_isWritten v_died x1 x2 = some (o_r, o_v_a, o_v_named, o_v_values, o_v_truth, o_v_died) → va_P D vwCl (WM h q cI cJ cZ v_a v_image v_texts v_tape v_taped v_fault v_faultPlace v_at v_place v_token v_number v_word v_text0 v_written v_sort0 v_pile v_piled v_opens v_isWhole v_once v_named v_values v_truth v_isWritten v_died v_aside v_likely v_safe v_headOf) H → va_D A (WM h q cI cJ cZ v_a v_image v_texts v_tape v_taped v_fault v_faultPlace v_at v_place v_token v_number v_word v_text0 v_written v_sort0 v_pile v_piled v_opens v_isWhole v_once v_named v_values v_truth v_isWritten v_died v_aside v_likely v_safe v_headOf) → va_S A s.heap H locs → lv_has ls 3 [(0, .ref h), (1, .int x1), (2, .int x2)] → W p l e ({ frames := 11, cells := 0, slots := 0, locals := 252 } : Room) s m ([.ref h, .int p1] : List Value).toArray below meth c H locs 0 0 (MQ below ((mQi D (WM h q cI cJ cZ o_v_a v_image v_texts v_tape v_taped v_fault v_faultPlace v_at v_place v_token v_number v_word v_text0 v_written v_sort0 v_pile v_piled v_opens v_isWhole v_once o_v_named o_v_values o_v_truth v_isWritten o_v_died v_aside v_likely v_safe v_headOf) o_r True) A) ([.ref h, .int p1] : List Value).toArray s 0 0 A) (F0 m 21 ls []) := by
    intro n21
    induction n21 with
    | zero =>
      intro v_a v_named v_values v_truth v_died x1 x2 H locs ls hf hP hD hS hl
      simp [f_X12_played_21] at hf
    | succ n21 ih21 =>
      intro v_a v_named v_values v_truth v_died x1 x2 H locs ls hf hP hD hS hl
      rw [f_X12_played_21.eq_2] at hf
      refine lv_iload_n hx hb dX12_played_21 rfl (lv_at hl 2 rfl) ?_
      refine lv_aload_n hx hb dX12_played_22 rfl (lv_at hl 0 rfl) ?_
      refine gfX12_16 hx hb hts hown hK hP 0 rfl rfl dX12_played_23 ?_
      refine lv_sipush (v := (729 : Int32)) hx hb dX12_played_26 (by decide) ?_
      refine lv_iload_n hx hb dX12_played_29 rfl (lv_at hl 1 rfl) ?_
      refine lv_imul hx hb dX12_played_30 ?_
      refine xiald hx hb hK hP 3 0 rfl rfl dX12_played_31 hf (fun v31 hf => ?_)
      refine xicmp_ge hx hb 61 dX12_played_32 (by decide) hf (fun hf => ?_) (fun hf => ?_)
      · refine lv_iconst (v := (-1 : Int32)) hx hb dX12_played_61 (by decide) ?_
        cases hf
        exact mret_i hx hb hr hlocks hP hD hS dX12_played_62 rfl trivial
      · refine lv_aload_n hx hb dX12_played_35 rfl (lv_at hl 0 rfl) ?_
        refine lv_sipush (v := (729 : Int32)) hx hb dX12_played_36 (by decide) ?_
        refine lv_iload_n hx hb dX12_played_39 rfl (lv_at hl 1 rfl) ?_
        refine lv_imul hx hb dX12_played_40 ?_
        refine lv_iconst (v := (1 : Int32)) hx hb dX12_played_41 (by decide) ?_
        refine lv_iadd hx hb dX12_played_42 ?_
        refine lv_iconst (v := (5 : Int32)) hx hb dX12_played_43 (by decide) ?_
        refine lv_iload_n hx hb dX12_played_44 rfl (lv_at hl 2 rfl) ?_
        refine lv_imul hx hb dX12_played_45 ?_
        refine lv_iadd hx hb dX12_played_46 ?_
        obtain ⟨r47, v_a_47, v_named_47, v_values_47, v_truth_47, v_died_47, hg47, hf⟩ := ob6_some hf
        refine mcV1_i (As := [.int ((((729 : Int32) * x1) + (1 : Int32)) + ((5 : Int32) * x2))]) (rest := []) hx hb hml hown hts hK hP hD hS hA (k_X12_isPlayed l N D cI cJ cZ cB cT h q v_a v_image v_texts v_tape v_taped v_fault v_faultPlace v_at v_place v_token v_number v_word v_text0 v_written v_sort0 v_pile v_piled v_opens v_isWhole v_once v_named v_values v_truth v_isWritten v_died v_aside v_likely v_safe v_headOf ((((729 : Int32) * x1) + (1 : Int32)) + ((5 : Int32) * x2)) r47 v_a_47 v_named_47 v_values_47 v_truth_47 v_died_47 hg47) (kwX12_412 hts rfl rfl ⟨Nat.le_of_ble_eq_true rfl, Nat.le_of_ble_eq_true rfl⟩) 0 rfl rfl rfl rfl hl.1 rfl (Nat.le_of_ble_eq_true rfl) dX12_played_47 ⟨Nat.zero_le _, Nat.zero_le _⟩ (fun hB47 H locs hP hD hS => ?_)
        have hP : va_P D vwCl (WM h q cI cJ cZ v_a_47 v_image v_texts v_tape v_taped v_fault v_faultPlace v_at v_place v_token v_number v_word v_text0 v_written v_sort0 v_pile v_piled v_opens v_isWhole v_once v_named_47 v_values_47 v_truth_47 v_isWritten v_died_47 v_aside v_likely v_safe v_headOf) H := hP
        have hD : va_D A (WM h q cI cJ cZ v_a_47 v_image v_texts v_tape v_taped v_fault v_faultPlace v_at v_place v_token v_number v_word v_text0 v_written v_sort0 v_pile v_piled v_opens v_isWhole v_once v_named_47 v_values_47 v_truth_47 v_isWritten v_died_47 v_aside v_likely v_safe v_headOf) := hD
        refine xif_ne hx hb 55 dX12_played_50 (by decide) hf (fun hf => ?_) (fun hf => ?_)
        · refine lv_iload_n hx hb dX12_played_53 rfl (lv_at hl 2 rfl) ?_
          cases hf
          exact mret_i hx hb hr hlocks hP hD hS dX12_played_54 rfl trivial
        · refine lv_iinc (v := (x2 + (1 : Int32))) (lv' := [(2, .int (x2 + (1 : Int32))), (0, .ref h), (1, .int x1)]) hx hb dX12_played_55 hl (k := 2) rfl rfl (by decide) rfl (fun ls hl => ?_)
          refine lv_goto (tgt := 21) hx hb dX12_played_58 (by decide) ?_
          exact ih21 v_a_47 v_named_47 v_values_47 v_truth_47 v_died_47 x1 (x2 + (1 : Int32)) _ _ _ hf hP hD hS (lv_sub hl [1, 2, 0] rfl)
  unfold f_X12_played at hf
  refine lv_iload_n hx hb dX12_played_0 rfl (lv_at hl 1 rfl) ?_
  refine lv_iconst (v := (0 : Int32)) hx hb dX12_played_1 (by decide) ?_
  refine lv_aload_n hx hb dX12_played_2 rfl (lv_at hl 0 rfl) ?_
  refine gfX12_7 hx hb hts hown hK hP 0 rfl rfl dX12_played_3 ?_
  refine lv_iconst (v := (2 : Int32)) hx hb dX12_played_6 (by decide) ?_
  refine xiald hx hb hK hP 1 0 rfl rfl dX12_played_7 hf (fun v7 hf => ?_)
  refine lv_iconst (v := (1 : Int32)) hx hb dX12_played_8 (by decide) ?_
  refine lv_isub hx hb dX12_played_9 ?_
  obtain ⟨r10, hg10, hf⟩ := ob1_some hf
  refine mcS0_i (As := [.int p1, .int (0 : Int32), .int (v7 - (1 : Int32))]) (rest := []) hx hb hml hown hts hK hP hD hS hA (k_X12_isIn l N D cI cJ cZ cB cT p1 (0 : Int32) (v7 - (1 : Int32)) r10 hg10) (kwX12_63 hts rfl rfl ⟨Nat.le_of_ble_eq_true rfl, Nat.le_of_ble_eq_true rfl⟩) rfl hl.1 rfl (Nat.le_of_ble_eq_true rfl) dX12_played_10 ⟨Nat.zero_le _, Nat.zero_le _⟩ (fun hB10 H locs hP hD hS => ?_)
  refine xif_ne hx hb 19 dX12_played_13 (by decide) hf (fun hf => ?_) (fun hf => ?_)
  · refine lv_bipush (v := (-2 : Int32)) hx hb dX12_played_16 (by decide) ?_
    cases hf
    exact mret_i hx hb hr hlocks hP hD hS dX12_played_18 rfl trivial
  · refine lv_iconst (v := (0 : Int32)) hx hb dX12_played_19 (by decide) ?_
    refine lv_istore_n (lv' := [(2, .int (0 : Int32)), (0, .ref h), (1, .int p1)]) hx hb dX12_played_20 rfl hl (by decide) rfl (fun ls hl => ?_)
    exact b21 N v_a v_named v_values v_truth v_died p1 (0 : Int32) _ _ _ hf hP hD hS (lv_sub hl [1, 2, 0] rfl)
theorem dX12_happens_0 : decode cX12_happens 0 = .ok (.iload_n 1, 1) := by decide +kernel
theorem dX12_happens_1 : decode cX12_happens 1 = .ok (.aload_n 0, 1) := by decide +kernel
theorem dX12_happens_2 : decode cX12_happens 2 = .ok (.getfield 7, 3) := by decide +kernel
theorem dX12_happens_5 : decode cX12_happens 5 = .ok (.iconst 1, 1) := by decide +kernel
theorem dX12_happens_6 : decode cX12_happens 6 = .ok (.iaload, 1) := by decide +kernel
theorem dX12_happens_7 : decode cX12_happens 7 = .ok (.irem, 1) := by decide +kernel
theorem dX12_happens_8 : decode cX12_happens 8 = .ok (.istore_n 2, 1) := by decide +kernel
theorem dX12_happens_9 : decode cX12_happens 9 = .ok (.iload_n 1, 1) := by decide +kernel
theorem dX12_happens_10 : decode cX12_happens 10 = .ok (.bipush 7, 2) := by decide +kernel
theorem dX12_happens_12 : decode cX12_happens 12 = .ok (.idiv, 1) := by decide +kernel
theorem dX12_happens_13 : decode cX12_happens 13 = .ok (.aload_n 0, 1) := by decide +kernel
theorem dX12_happens_14 : decode cX12_happens 14 = .ok (.getfield 7, 3) := by decide +kernel
theorem dX12_happens_17 : decode cX12_happens 17 = .ok (.iconst 0, 1) := by decide +kernel
theorem dX12_happens_18 : decode cX12_happens 18 = .ok (.iaload, 1) := by decide +kernel
theorem dX12_happens_19 : decode cX12_happens 19 = .ok (.irem, 1) := by decide +kernel
theorem dX12_happens_20 : decode cX12_happens 20 = .ok (.istore_n 3, 1) := by decide +kernel
theorem dX12_happens_21 : decode cX12_happens 21 = .ok (.iload_n 1, 1) := by decide +kernel
theorem dX12_happens_22 : decode cX12_happens 22 = .ok (.iconst 5, 1) := by decide +kernel
theorem dX12_happens_23 : decode cX12_happens 23 = .ok (.idiv, 1) := by decide +kernel
theorem dX12_happens_24 : decode cX12_happens 24 = .ok (.aload_n 0, 1) := by decide +kernel
theorem dX12_happens_25 : decode cX12_happens 25 = .ok (.getfield 7, 3) := by decide +kernel
theorem dX12_happens_28 : decode cX12_happens 28 = .ok (.iconst 1, 1) := by decide +kernel
theorem dX12_happens_29 : decode cX12_happens 29 = .ok (.iaload, 1) := by decide +kernel
theorem dX12_happens_30 : decode cX12_happens 30 = .ok (.irem, 1) := by decide +kernel
theorem dX12_happens_31 : decode cX12_happens 31 = .ok (.istore 4, 2) := by decide +kernel
theorem dX12_happens_33 : decode cX12_happens 33 = .ok (.iload_n 1, 1) := by decide +kernel
theorem dX12_happens_34 : decode cX12_happens 34 = .ok (.bipush 7, 2) := by decide +kernel
theorem dX12_happens_36 : decode cX12_happens 36 = .ok (.irem, 1) := by decide +kernel
theorem dX12_happens_37 : decode cX12_happens 37 = .ok (.tableswitch 141 2 6 #[35, 54, 74, 100, 121], 35) := by decide +kernel
theorem dX12_happens_72 : decode cX12_happens 72 = .ok (.aload_n 0, 1) := by decide +kernel
theorem dX12_happens_73 : decode cX12_happens 73 = .ok (.iload_n 2, 1) := by decide +kernel
theorem dX12_happens_74 : decode cX12_happens 74 = .ok (.iload_n 3, 1) := by decide +kernel
theorem dX12_happens_75 : decode cX12_happens 75 = .ok (.invokevirtual 355, 3) := by decide +kernel
theorem dX12_happens_78 : decode cX12_happens 78 = .ok (.ifCond .eq 115, 3) := by decide +kernel
theorem dX12_happens_81 : decode cX12_happens 81 = .ok (.aload_n 0, 1) := by decide +kernel
theorem dX12_happens_82 : decode cX12_happens 82 = .ok (.iload_n 2, 1) := by decide +kernel
theorem dX12_happens_83 : decode cX12_happens 83 = .ok (.iconst 0, 1) := by decide +kernel
theorem dX12_happens_84 : decode cX12_happens 84 = .ok (.iload_n 3, 1) := by decide +kernel
theorem dX12_happens_85 : decode cX12_happens 85 = .ok (.invokevirtual 82, 3) := by decide +kernel
theorem dX12_happens_88 : decode cX12_happens 88 = .ok (.goto 105, 3) := by decide +kernel
theorem dX12_happens_91 : decode cX12_happens 91 = .ok (.aload_n 0, 1) := by decide +kernel
theorem dX12_happens_92 : decode cX12_happens 92 = .ok (.iload_n 2, 1) := by decide +kernel
theorem dX12_happens_93 : decode cX12_happens 93 = .ok (.iload 4, 2) := by decide +kernel
theorem dX12_happens_95 : decode cX12_happens 95 = .ok (.invokevirtual 361, 3) := by decide +kernel
theorem dX12_happens_98 : decode cX12_happens 98 = .ok (.ifCond .eq 95, 3) := by decide +kernel
theorem dX12_happens_101 : decode cX12_happens 101 = .ok (.aload_n 0, 1) := by decide +kernel
theorem dX12_happens_102 : decode cX12_happens 102 = .ok (.iload_n 2, 1) := by decide +kernel
theorem dX12_happens_103 : decode cX12_happens 103 = .ok (.iload 4, 2) := by decide +kernel
theorem dX12_happens_105 : decode cX12_happens 105 = .ok (.invokevirtual 364, 3) := by decide +kernel
theorem dX12_happens_108 : decode cX12_happens 108 = .ok (.goto 85, 3) := by decide +kernel
theorem dX12_happens_111 : decode cX12_happens 111 = .ok (.iload_n 1, 1) := by decide +kernel
theorem dX12_happens_112 : decode cX12_happens 112 = .ok (.iconst 4, 1) := by decide +kernel
theorem dX12_happens_113 : decode cX12_happens 113 = .ok (.irem, 1) := by decide +kernel
theorem dX12_happens_114 : decode cX12_happens 114 = .ok (.ifCond .ne 79, 3) := by decide +kernel
theorem dX12_happens_117 : decode cX12_happens 117 = .ok (.aload_n 0, 1) := by decide +kernel
theorem dX12_happens_118 : decode cX12_happens 118 = .ok (.iload_n 2, 1) := by decide +kernel
theorem dX12_happens_119 : decode cX12_happens 119 = .ok (.iload 4, 2) := by decide +kernel
theorem dX12_happens_121 : decode cX12_happens 121 = .ok (.invokevirtual 361, 3) := by decide +kernel
theorem dX12_happens_124 : decode cX12_happens 124 = .ok (.ifCond .eq 69, 3) := by decide +kernel
theorem dX12_happens_127 : decode cX12_happens 127 = .ok (.aload_n 0, 1) := by decide +kernel
theorem dX12_happens_128 : decode cX12_happens 128 = .ok (.iload_n 2, 1) := by decide +kernel
theorem dX12_happens_129 : decode cX12_happens 129 = .ok (.iload 4, 2) := by decide +kernel
theorem dX12_happens_131 : decode cX12_happens 131 = .ok (.invokevirtual 370, 3) := by decide +kernel
theorem dX12_happens_134 : decode cX12_happens 134 = .ok (.goto 59, 3) := by decide +kernel
theorem dX12_happens_137 : decode cX12_happens 137 = .ok (.aload_n 0, 1) := by decide +kernel
theorem dX12_happens_138 : decode cX12_happens 138 = .ok (.iload_n 2, 1) := by decide +kernel
theorem dX12_happens_139 : decode cX12_happens 139 = .ok (.iload 4, 2) := by decide +kernel
theorem dX12_happens_141 : decode cX12_happens 141 = .ok (.invokevirtual 376, 3) := by decide +kernel
theorem dX12_happens_144 : decode cX12_happens 144 = .ok (.ifCond .eq 49, 3) := by decide +kernel
theorem dX12_happens_147 : decode cX12_happens 147 = .ok (.aload_n 0, 1) := by decide +kernel
theorem dX12_happens_148 : decode cX12_happens 148 = .ok (.iload_n 2, 1) := by decide +kernel
theorem dX12_happens_149 : decode cX12_happens 149 = .ok (.iload 4, 2) := by decide +kernel
theorem dX12_happens_151 : decode cX12_happens 151 = .ok (.invokevirtual 379, 3) := by decide +kernel
theorem dX12_happens_154 : decode cX12_happens 154 = .ok (.pop, 1) := by decide +kernel
theorem dX12_happens_155 : decode cX12_happens 155 = .ok (.goto 38, 3) := by decide +kernel
theorem dX12_happens_158 : decode cX12_happens 158 = .ok (.aload_n 0, 1) := by decide +kernel
theorem dX12_happens_159 : decode cX12_happens 159 = .ok (.getfield 7, 3) := by decide +kernel
theorem dX12_happens_162 : decode cX12_happens 162 = .ok (.bipush 10, 2) := by decide +kernel
theorem dX12_happens_164 : decode cX12_happens 164 = .ok (.iaload, 1) := by decide +kernel
theorem dX12_happens_165 : decode cX12_happens 165 = .ok (.sipush 9999, 3) := by decide +kernel
theorem dX12_happens_168 : decode cX12_happens 168 = .ok (.if_icmp .ge 25, 3) := by decide +kernel
theorem dX12_happens_171 : decode cX12_happens 171 = .ok (.aload_n 0, 1) := by decide +kernel
theorem dX12_happens_172 : decode cX12_happens 172 = .ok (.invokevirtual 382, 3) := by decide +kernel
theorem dX12_happens_175 : decode cX12_happens 175 = .ok (.goto 18, 3) := by decide +kernel
theorem dX12_happens_178 : decode cX12_happens 178 = .ok (.aload_n 0, 1) := by decide +kernel
theorem dX12_happens_179 : decode cX12_happens 179 = .ok (.iload_n 2, 1) := by decide +kernel
theorem dX12_happens_180 : decode cX12_happens 180 = .ok (.iload_n 3, 1) := by decide +kernel
theorem dX12_happens_181 : decode cX12_happens 181 = .ok (.invokevirtual 346, 3) := by decide +kernel
theorem dX12_happens_184 : decode cX12_happens 184 = .ok (.ifCond .eq 9, 3) := by decide +kernel
theorem dX12_happens_187 : decode cX12_happens 187 = .ok (.aload_n 0, 1) := by decide +kernel
theorem dX12_happens_188 : decode cX12_happens 188 = .ok (.iload_n 2, 1) := by decide +kernel
theorem dX12_happens_189 : decode cX12_happens 189 = .ok (.iload_n 3, 1) := by decide +kernel
theorem dX12_happens_190 : decode cX12_happens 190 = .ok (.invokevirtual 352, 3) := by decide +kernel
theorem dX12_happens_193 : decode cX12_happens 193 = .ok (.return_, 1) := by decide +kernel
def f_X12_happens (N : Nat) (v_a : Nat → Int32) (v_texts : Nat → Int32) (v_named : Nat → Int32) (v_values : Nat → Int64) (v_truth : Nat → Int32) (v_isWritten : Int32) (v_died : Int32) (p1 : Int32) : Option ((Nat → Int32) × (Nat → Int32) × (Nat → Int64) × (Nat → Int32) × Int32) := gA v_a 8762 (1 : Int32) fun v6 => rmI p1 v6 fun v7 => dvI p1 (7 : Int32) fun v12 => gA v_a 8762 (0 : Int32) fun v18 => rmI v12 v18 fun v19 => dvI p1 (5 : Int32) fun v23 => gA v_a 8762 (1 : Int32) fun v29 => rmI v23 v29 fun v30 => rmI p1 (7 : Int32) fun v36 => if v36 = (2 : Int32) then (ob1 (f_X12_canMove N v_a v7 v19) fun r75 => if r75 = 0 then (some (v_a, v_named, v_values, v_truth, v_died)) else (ob1 (f_X12_put N v_a v7 (0 : Int32) v19) fun v_a_85 => some (v_a_85, v_named, v_values, v_truth, v_died))) else if v36 = (3 : Int32) then (ob1 (f_X12_areBeside N v_a v7 v30) fun r95 => if r95 = 0 then (some (v_a, v_named, v_values, v_truth, v_died)) else (ob4 (f_X12_feedNow N v_a v_texts v_named v_values v_truth v_isWritten v7 v30) fun v_a_105 v_named_105 v_values_105 v_truth_105 => some (v_a_105, v_named_105, v_values_105, v_truth_105, v_died))) else if v36 = (4 : Int32) then (rmI p1 (4 : Int32) fun v113 => if v113 = 0 then (ob1 (f_X12_areBeside N v_a v7 v30) fun r121 => if r121 = 0 then (some (v_a, v_named, v_values, v_truth, v_died)) else (ob2 (f_X12_killNow N v_a v_isWritten v_died v7 v30) fun v_a_131 v_died_131 => some (v_a_131, v_named, v_values, v_truth, v_died_131))) else (some (v_a, v_named, v_values, v_truth, v_died))) else if v36 = (5 : Int32) then (ob4 (f_X12_canPardon N v_a v_texts v_named v_values v_truth v7 v30) fun r141 v_named_141 v_values_141 v_truth_141 => if r141 = 0 then (some (v_a, v_named_141, v_values_141, v_truth_141, v_died)) else (ob5 (f_X12_payNow N v_a v_texts v_named_141 v_values_141 v_truth_141 v_isWritten v7 v30) fun r151 v_a_151 v_named_151 v_values_151 v_truth_151 => some (v_a_151, v_named_151, v_values_151, v_truth_151, v_died))) else if v36 = (6 : Int32) then (gA v_a 8762 (10 : Int32) fun v164 => if (9999 : Int32) ≤ v164 then (some (v_a, v_named, v_values, v_truth, v_died)) else (ob5 (f_X12_goOn N v_a v_texts v_named v_values v_truth v_isWritten v_died) fun v_a_172 v_named_172 v_values_172 v_truth_172 v_died_172 => some (v_a_172, v_named_172, v_values_172, v_truth_172, v_died_172))) else (ob1 (f_X12_canCall N v_a v7 v19) fun r181 => if r181 = 0 then (some (v_a, v_named, v_values, v_truth, v_died)) else (ob1 (f_X12_callNow N v_a v_isWritten v7 v19) fun v_a_190 => some (v_a_190, v_named, v_values, v_truth, v_died)))
set_option maxHeartbeats 4000000 in
set_option maxRecDepth 100000 in
theorem k_X12_happens (l : Launch) (N : Nat) (D : va_G) (cI cJ cZ cB cT : ClassId) (h : Nat) (q : Nat → Nat) (v_a : Nat → Int32) (v_image : Nat → Int32) (v_texts : Nat → Int32) (v_tape : Nat → Int32) (v_taped : Int32) (v_fault : Int32) (v_faultPlace : Int32) (v_at : Int32) (v_place : Int32) (v_token : Int32) (v_number : Int32) (v_word : Int64) (v_text0 : Int32) (v_written : Int32) (v_sort0 : Int32) (v_pile : Nat → Int32) (v_piled : Int32) (v_opens : Int32) (v_isWhole : Int32) (v_once : Int32) (v_named : Nat → Int32) (v_values : Nat → Int64) (v_truth : Nat → Int32) (v_isWritten : Int32) (v_died : Int32) (v_aside : Nat → Int32) (v_likely : Nat → Int32) (v_safe : Nat → Int32) (v_headOf : Nat → Int32) (p1 : Int32) (o_v_a : Nat → Int32) (o_v_named : Nat → Int32) (o_v_values : Nat → Int64) (o_v_truth : Nat → Int32) (o_v_died : Int32) (hf : f_X12_happens N v_a v_texts v_named v_values v_truth v_isWritten v_died p1 = some (o_v_a, o_v_named, o_v_values, o_v_truth, o_v_died)) : ∀ sz, Met l yX12_happens (mw yX12_happens cX12_happens 5 none) ({ frames := 9, cells := 0, slots := 0, locals := 207 } : Room) (mPre D (mT cI cJ cZ cB cT) (WM h q cI cJ cZ v_a v_image v_texts v_tape v_taped v_fault v_faultPlace v_at v_place v_token v_number v_word v_text0 v_written v_sort0 v_pile v_piled v_opens v_isWhole v_once v_named v_values v_truth v_isWritten v_died v_aside v_likely v_safe v_headOf) sz [.ref h, .int p1]) ((mQv D (WM h q cI cJ cZ o_v_a v_image v_texts v_tape v_taped v_fault v_faultPlace v_at v_place v_token v_number v_word v_text0 v_written v_sort0 v_pile v_piled v_opens v_isWhole v_once o_v_named o_v_values o_v_truth v_isWritten o_v_died v_aside v_likely v_safe v_headOf)) (va_A (WM h q cI cJ cZ v_a v_image v_texts v_tape v_taped v_fault v_faultPlace v_at v_place v_token v_number v_word v_text0 v_written v_sort0 v_pile v_piled v_opens v_isWhole v_once v_named v_values v_truth v_isWritten v_died v_aside v_likely v_safe v_headOf) sz)) 0 0 (va_A (WM h q cI cJ cZ v_a v_image v_texts v_tape v_taped v_fault v_faultPlace v_at v_place v_token v_number v_word v_text0 v_written v_sort0 v_pile v_piled v_opens v_isWhole v_once v_named v_values v_truth v_isWritten v_died v_aside v_likely v_safe v_headOf) sz) := by
  refine mMet (Qc := (mQv D (WM h q cI cJ cZ o_v_a v_image v_texts v_tape v_taped v_fault v_faultPlace v_at v_place v_token v_number v_word v_text0 v_written v_sort0 v_pile v_piled v_opens v_isWhole v_once o_v_named o_v_values o_v_truth v_isWritten o_v_died v_aside v_likely v_safe v_headOf))) (by decide) (Nat.le_of_ble_eq_true rfl) (fun p e s m below meth c A ls hx hb hr hml hts hown hlocks hK hA hP hD hl => ?_)
  have hown : s.vm.findClass RX12 = some m.cls := hown
  have hl : lv_has ls 5 [(0, .ref h), (1, .int p1)] := hl
  have hS : va_S A s.heap s.heap [] := va_S.rf
  unfold f_X12_happens at hf
  refine lv_iload_n hx hb dX12_happens_0 rfl (lv_at hl 1 rfl) ?_
  refine lv_aload_n hx hb dX12_happens_1 rfl (lv_at hl 0 rfl) ?_
  refine gfX12_7 hx hb hts hown hK hP 0 rfl rfl dX12_happens_2 ?_
  refine lv_iconst (v := (1 : Int32)) hx hb dX12_happens_5 (by decide) ?_
  refine xiald hx hb hK hP 1 0 rfl rfl dX12_happens_6 hf (fun v6 hf => ?_)
  refine xirem hx hb dX12_happens_7 hf (fun v7 hf => ?_)
  refine lv_istore_n (lv' := [(2, .int v7), (0, .ref h), (1, .int p1)]) hx hb dX12_happens_8 rfl hl (by decide) rfl (fun ls hl => ?_)
  refine lv_iload_n hx hb dX12_happens_9 rfl (lv_at hl 2 rfl) ?_
  refine lv_bipush (v := (7 : Int32)) hx hb dX12_happens_10 (by decide) ?_
  refine xidiv hx hb dX12_happens_12 hf (fun v12 hf => ?_)
  refine lv_aload_n hx hb dX12_happens_13 rfl (lv_at hl 1 rfl) ?_
  refine gfX12_7 hx hb hts hown hK hP 0 rfl rfl dX12_happens_14 ?_
  refine lv_iconst (v := (0 : Int32)) hx hb dX12_happens_17 (by decide) ?_
  refine xiald hx hb hK hP 1 0 rfl rfl dX12_happens_18 hf (fun v18 hf => ?_)
  refine xirem hx hb dX12_happens_19 hf (fun v19 hf => ?_)
  refine lv_istore_n (lv' := [(3, .int v19), (2, .int v7), (0, .ref h), (1, .int p1)]) hx hb dX12_happens_20 rfl hl (by decide) rfl (fun ls hl => ?_)
  refine lv_iload_n hx hb dX12_happens_21 rfl (lv_at hl 3 rfl) ?_
  refine lv_iconst (v := (5 : Int32)) hx hb dX12_happens_22 (by decide) ?_
  refine xidiv hx hb dX12_happens_23 hf (fun v23 hf => ?_)
  refine lv_aload_n hx hb dX12_happens_24 rfl (lv_at hl 2 rfl) ?_
  refine gfX12_7 hx hb hts hown hK hP 0 rfl rfl dX12_happens_25 ?_
  refine lv_iconst (v := (1 : Int32)) hx hb dX12_happens_28 (by decide) ?_
  refine xiald hx hb hK hP 1 0 rfl rfl dX12_happens_29 hf (fun v29 hf => ?_)
  refine xirem hx hb dX12_happens_30 hf (fun v30 hf => ?_)
  refine lv_istore (lv' := [(4, .int v30), (3, .int v19), (2, .int v7), (0, .ref h), (1, .int p1)]) hx hb dX12_happens_31 hl (by decide) rfl (fun ls hl => ?_)
  refine lv_iload_n hx hb dX12_happens_33 rfl (lv_at hl 4 rfl) ?_
  refine lv_bipush (v := (7 : Int32)) hx hb dX12_happens_34 (by decide) ?_
  refine xirem hx hb dX12_happens_36 hf (fun v36 hf => ?_)
  by_cases e37_2 : v36 = (2 : Int32)
  · replace hf := (if_pos e37_2).symm.trans hf
    refine lv_tableIn (off := 35) (tgt := 72) hx hb dX12_happens_37 (by rw [e37_2]; decide) (by rw [e37_2]; decide) (by rw [e37_2]; rfl) (by decide) ?_
    refine lv_aload_n hx hb dX12_happens_72 rfl (lv_at hl 3 rfl) ?_
    refine lv_iload_n hx hb dX12_happens_73 rfl (lv_at hl 2 rfl) ?_
    refine lv_iload_n hx hb dX12_happens_74 rfl (lv_at hl 1 rfl) ?_
    obtain ⟨r75, hg75, hf⟩ := ob1_some hf
    refine mcV1_i (As := [.int v7, .int v19]) (rest := []) hx hb hml hown hts hK hP hD hS hA (k_X12_canMove l N D cI cJ cZ cB cT h q v_a v_image v_texts v_tape v_taped v_fault v_faultPlace v_at v_place v_token v_number v_word v_text0 v_written v_sort0 v_pile v_piled v_opens v_isWhole v_once v_named v_values v_truth v_isWritten v_died v_aside v_likely v_safe v_headOf v7 v19 r75 hg75) (kwX12_355 hts rfl rfl ⟨Nat.le_of_ble_eq_true rfl, Nat.le_of_ble_eq_true rfl⟩) 0 rfl rfl rfl rfl hl.1 rfl (Nat.le_of_ble_eq_true rfl) dX12_happens_75 ⟨Nat.zero_le _, Nat.zero_le _⟩ (fun hB75 H locs hP hD hS => ?_)
    have hP : va_P D vwCl (WM h q cI cJ cZ v_a v_image v_texts v_tape v_taped v_fault v_faultPlace v_at v_place v_token v_number v_word v_text0 v_written v_sort0 v_pile v_piled v_opens v_isWhole v_once v_named v_values v_truth v_isWritten v_died v_aside v_likely v_safe v_headOf) H := hP
    have hD : va_D A (WM h q cI cJ cZ v_a v_image v_texts v_tape v_taped v_fault v_faultPlace v_at v_place v_token v_number v_word v_text0 v_written v_sort0 v_pile v_piled v_opens v_isWhole v_once v_named v_values v_truth v_isWritten v_died v_aside v_likely v_safe v_headOf) := hD
    refine xif_eq hx hb 193 dX12_happens_78 (by decide) hf (fun hf => ?_) (fun hf => ?_)
    · cases hf
      exact mret_v hx hb hr hlocks hP hD hS dX12_happens_193
    · refine lv_aload_n hx hb dX12_happens_81 rfl (lv_at hl 3 rfl) ?_
      refine lv_iload_n hx hb dX12_happens_82 rfl (lv_at hl 2 rfl) ?_
      refine lv_iconst (v := (0 : Int32)) hx hb dX12_happens_83 (by decide) ?_
      refine lv_iload_n hx hb dX12_happens_84 rfl (lv_at hl 1 rfl) ?_
      obtain ⟨v_a_85, hg85, hf⟩ := ob1_some hf
      refine mcV1_v (As := [.int v7, .int (0 : Int32), .int v19]) (rest := []) hx hb hml hown hts hK hP hD hS hA (k_X12_put l N D cI cJ cZ cB cT h q v_a v_image v_texts v_tape v_taped v_fault v_faultPlace v_at v_place v_token v_number v_word v_text0 v_written v_sort0 v_pile v_piled v_opens v_isWhole v_once v_named v_values v_truth v_isWritten v_died v_aside v_likely v_safe v_headOf v7 (0 : Int32) v19 v_a_85 hg85) (kwX12_82 hts rfl rfl ⟨Nat.le_of_ble_eq_true rfl, Nat.le_of_ble_eq_true rfl⟩) 0 rfl rfl rfl rfl hl.1 rfl (Nat.le_of_ble_eq_true rfl) dX12_happens_85 ⟨Nat.zero_le _, Nat.zero_le _⟩ (fun H locs hP hD hS => ?_)
      have hP : va_P D vwCl (WM h q cI cJ cZ v_a_85 v_image v_texts v_tape v_taped v_fault v_faultPlace v_at v_place v_token v_number v_word v_text0 v_written v_sort0 v_pile v_piled v_opens v_isWhole v_once v_named v_values v_truth v_isWritten v_died v_aside v_likely v_safe v_headOf) H := hP
      have hD : va_D A (WM h q cI cJ cZ v_a_85 v_image v_texts v_tape v_taped v_fault v_faultPlace v_at v_place v_token v_number v_word v_text0 v_written v_sort0 v_pile v_piled v_opens v_isWhole v_once v_named v_values v_truth v_isWritten v_died v_aside v_likely v_safe v_headOf) := hD
      refine lv_goto (tgt := 193) hx hb dX12_happens_88 (by decide) ?_
      cases hf
      exact mret_v hx hb hr hlocks hP hD hS dX12_happens_193
  replace hf := (if_neg e37_2).symm.trans hf
  by_cases e37_3 : v36 = (3 : Int32)
  · replace hf := (if_pos e37_3).symm.trans hf
    refine lv_tableIn (off := 54) (tgt := 91) hx hb dX12_happens_37 (by rw [e37_3]; decide) (by rw [e37_3]; decide) (by rw [e37_3]; rfl) (by decide) ?_
    refine lv_aload_n hx hb dX12_happens_91 rfl (lv_at hl 3 rfl) ?_
    refine lv_iload_n hx hb dX12_happens_92 rfl (lv_at hl 2 rfl) ?_
    refine lv_iload hx hb dX12_happens_93 (lv_at hl 0 rfl) ?_
    obtain ⟨r95, hg95, hf⟩ := ob1_some hf
    refine mcV1_i (As := [.int v7, .int v30]) (rest := []) hx hb hml hown hts hK hP hD hS hA (k_X12_areBeside l N D cI cJ cZ cB cT h q v_a v_image v_texts v_tape v_taped v_fault v_faultPlace v_at v_place v_token v_number v_word v_text0 v_written v_sort0 v_pile v_piled v_opens v_isWhole v_once v_named v_values v_truth v_isWritten v_died v_aside v_likely v_safe v_headOf v7 v30 r95 hg95) (kwX12_361 hts rfl rfl ⟨Nat.le_of_ble_eq_true rfl, Nat.le_of_ble_eq_true rfl⟩) 0 rfl rfl rfl rfl hl.1 rfl (Nat.le_of_ble_eq_true rfl) dX12_happens_95 ⟨Nat.zero_le _, Nat.zero_le _⟩ (fun hB95 H locs hP hD hS => ?_)
    have hP : va_P D vwCl (WM h q cI cJ cZ v_a v_image v_texts v_tape v_taped v_fault v_faultPlace v_at v_place v_token v_number v_word v_text0 v_written v_sort0 v_pile v_piled v_opens v_isWhole v_once v_named v_values v_truth v_isWritten v_died v_aside v_likely v_safe v_headOf) H := hP
    have hD : va_D A (WM h q cI cJ cZ v_a v_image v_texts v_tape v_taped v_fault v_faultPlace v_at v_place v_token v_number v_word v_text0 v_written v_sort0 v_pile v_piled v_opens v_isWhole v_once v_named v_values v_truth v_isWritten v_died v_aside v_likely v_safe v_headOf) := hD
    refine xif_eq hx hb 193 dX12_happens_98 (by decide) hf (fun hf => ?_) (fun hf => ?_)
    · cases hf
      exact mret_v hx hb hr hlocks hP hD hS dX12_happens_193
    · refine lv_aload_n hx hb dX12_happens_101 rfl (lv_at hl 3 rfl) ?_
      refine lv_iload_n hx hb dX12_happens_102 rfl (lv_at hl 2 rfl) ?_
      refine lv_iload hx hb dX12_happens_103 (lv_at hl 0 rfl) ?_
      obtain ⟨v_a_105, v_named_105, v_values_105, v_truth_105, hg105, hf⟩ := ob4_some hf
      refine mcV1_v (As := [.int v7, .int v30]) (rest := []) hx hb hml hown hts hK hP hD hS hA (k_X12_feedNow l N D cI cJ cZ cB cT h q v_a v_image v_texts v_tape v_taped v_fault v_faultPlace v_at v_place v_token v_number v_word v_text0 v_written v_sort0 v_pile v_piled v_opens v_isWhole v_once v_named v_values v_truth v_isWritten v_died v_aside v_likely v_safe v_headOf v7 v30 v_a_105 v_named_105 v_values_105 v_truth_105 hg105) (kwX12_364 hts rfl rfl ⟨Nat.le_of_ble_eq_true rfl, Nat.le_of_ble_eq_true rfl⟩) 0 rfl rfl rfl rfl hl.1 rfl (Nat.le_of_ble_eq_true rfl) dX12_happens_105 ⟨Nat.zero_le _, Nat.zero_le _⟩ (fun H locs hP hD hS => ?_)
      have hP : va_P D vwCl (WM h q cI cJ cZ v_a_105 v_image v_texts v_tape v_taped v_fault v_faultPlace v_at v_place v_token v_number v_word v_text0 v_written v_sort0 v_pile v_piled v_opens v_isWhole v_once v_named_105 v_values_105 v_truth_105 v_isWritten v_died v_aside v_likely v_safe v_headOf) H := hP
      have hD : va_D A (WM h q cI cJ cZ v_a_105 v_image v_texts v_tape v_taped v_fault v_faultPlace v_at v_place v_token v_number v_word v_text0 v_written v_sort0 v_pile v_piled v_opens v_isWhole v_once v_named_105 v_values_105 v_truth_105 v_isWritten v_died v_aside v_likely v_safe v_headOf) := hD
      refine lv_goto (tgt := 193) hx hb dX12_happens_108 (by decide) ?_
      cases hf
      exact mret_v hx hb hr hlocks hP hD hS dX12_happens_193
  replace hf := (if_neg e37_3).symm.trans hf
  by_cases e37_4 : v36 = (4 : Int32)
  · replace hf := (if_pos e37_4).symm.trans hf
    refine lv_tableIn (off := 74) (tgt := 111) hx hb dX12_happens_37 (by rw [e37_4]; decide) (by rw [e37_4]; decide) (by rw [e37_4]; rfl) (by decide) ?_
    refine lv_iload_n hx hb dX12_happens_111 rfl (lv_at hl 4 rfl) ?_
    refine lv_iconst (v := (4 : Int32)) hx hb dX12_happens_112 (by decide) ?_
    refine xirem hx hb dX12_happens_113 hf (fun v113 hf => ?_)
    refine xif_ne hx hb 193 dX12_happens_114 (by decide) hf (fun hf => ?_) (fun hf => ?_)
    · refine lv_aload_n hx hb dX12_happens_117 rfl (lv_at hl 3 rfl) ?_
      refine lv_iload_n hx hb dX12_happens_118 rfl (lv_at hl 2 rfl) ?_
      refine lv_iload hx hb dX12_happens_119 (lv_at hl 0 rfl) ?_
      obtain ⟨r121, hg121, hf⟩ := ob1_some hf
      refine mcV1_i (As := [.int v7, .int v30]) (rest := []) hx hb hml hown hts hK hP hD hS hA (k_X12_areBeside l N D cI cJ cZ cB cT h q v_a v_image v_texts v_tape v_taped v_fault v_faultPlace v_at v_place v_token v_number v_word v_text0 v_written v_sort0 v_pile v_piled v_opens v_isWhole v_once v_named v_values v_truth v_isWritten v_died v_aside v_likely v_safe v_headOf v7 v30 r121 hg121) (kwX12_361 hts rfl rfl ⟨Nat.le_of_ble_eq_true rfl, Nat.le_of_ble_eq_true rfl⟩) 0 rfl rfl rfl rfl hl.1 rfl (Nat.le_of_ble_eq_true rfl) dX12_happens_121 ⟨Nat.zero_le _, Nat.zero_le _⟩ (fun hB121 H locs hP hD hS => ?_)
      have hP : va_P D vwCl (WM h q cI cJ cZ v_a v_image v_texts v_tape v_taped v_fault v_faultPlace v_at v_place v_token v_number v_word v_text0 v_written v_sort0 v_pile v_piled v_opens v_isWhole v_once v_named v_values v_truth v_isWritten v_died v_aside v_likely v_safe v_headOf) H := hP
      have hD : va_D A (WM h q cI cJ cZ v_a v_image v_texts v_tape v_taped v_fault v_faultPlace v_at v_place v_token v_number v_word v_text0 v_written v_sort0 v_pile v_piled v_opens v_isWhole v_once v_named v_values v_truth v_isWritten v_died v_aside v_likely v_safe v_headOf) := hD
      refine xif_eq hx hb 193 dX12_happens_124 (by decide) hf (fun hf => ?_) (fun hf => ?_)
      · cases hf
        exact mret_v hx hb hr hlocks hP hD hS dX12_happens_193
      · refine lv_aload_n hx hb dX12_happens_127 rfl (lv_at hl 3 rfl) ?_
        refine lv_iload_n hx hb dX12_happens_128 rfl (lv_at hl 2 rfl) ?_
        refine lv_iload hx hb dX12_happens_129 (lv_at hl 0 rfl) ?_
        obtain ⟨v_a_131, v_died_131, hg131, hf⟩ := ob2_some hf
        refine mcV1_v (As := [.int v7, .int v30]) (rest := []) hx hb hml hown hts hK hP hD hS hA (k_X12_killNow l N D cI cJ cZ cB cT h q v_a v_image v_texts v_tape v_taped v_fault v_faultPlace v_at v_place v_token v_number v_word v_text0 v_written v_sort0 v_pile v_piled v_opens v_isWhole v_once v_named v_values v_truth v_isWritten v_died v_aside v_likely v_safe v_headOf v7 v30 v_a_131 v_died_131 hg131) (kwX12_370 hts rfl rfl ⟨Nat.le_of_ble_eq_true rfl, Nat.le_of_ble_eq_true rfl⟩) 0 rfl rfl rfl rfl hl.1 rfl (Nat.le_of_ble_eq_true rfl) dX12_happens_131 ⟨Nat.zero_le _, Nat.zero_le _⟩ (fun H locs hP hD hS => ?_)
        have hP : va_P D vwCl (WM h q cI cJ cZ v_a_131 v_image v_texts v_tape v_taped v_fault v_faultPlace v_at v_place v_token v_number v_word v_text0 v_written v_sort0 v_pile v_piled v_opens v_isWhole v_once v_named v_values v_truth v_isWritten v_died_131 v_aside v_likely v_safe v_headOf) H := hP
        have hD : va_D A (WM h q cI cJ cZ v_a_131 v_image v_texts v_tape v_taped v_fault v_faultPlace v_at v_place v_token v_number v_word v_text0 v_written v_sort0 v_pile v_piled v_opens v_isWhole v_once v_named v_values v_truth v_isWritten v_died_131 v_aside v_likely v_safe v_headOf) := hD
        refine lv_goto (tgt := 193) hx hb dX12_happens_134 (by decide) ?_
        cases hf
        exact mret_v hx hb hr hlocks hP hD hS dX12_happens_193
    · cases hf
      exact mret_v hx hb hr hlocks hP hD hS dX12_happens_193
  replace hf := (if_neg e37_4).symm.trans hf
  by_cases e37_5 : v36 = (5 : Int32)
  · replace hf := (if_pos e37_5).symm.trans hf
    refine lv_tableIn (off := 100) (tgt := 137) hx hb dX12_happens_37 (by rw [e37_5]; decide) (by rw [e37_5]; decide) (by rw [e37_5]; rfl) (by decide) ?_
    refine lv_aload_n hx hb dX12_happens_137 rfl (lv_at hl 3 rfl) ?_
    refine lv_iload_n hx hb dX12_happens_138 rfl (lv_at hl 2 rfl) ?_
    refine lv_iload hx hb dX12_happens_139 (lv_at hl 0 rfl) ?_
    obtain ⟨r141, v_named_141, v_values_141, v_truth_141, hg141, hf⟩ := ob4_some hf
    refine mcV1_i (As := [.int v7, .int v30]) (rest := []) hx hb hml hown hts hK hP hD hS hA (k_X12_canPardon l N D cI cJ cZ cB cT h q v_a v_image v_texts v_tape v_taped v_fault v_faultPlace v_at v_place v_token v_number v_word v_text0 v_written v_sort0 v_pile v_piled v_opens v_isWhole v_once v_named v_values v_truth v_isWritten v_died v_aside v_likely v_safe v_headOf v7 v30 r141 v_named_141 v_values_141 v_truth_141 hg141) (kwX12_376 hts rfl rfl ⟨Nat.le_of_ble_eq_true rfl, Nat.le_of_ble_eq_true rfl⟩) 0 rfl rfl rfl rfl hl.1 rfl (Nat.le_of_ble_eq_true rfl) dX12_happens_141 ⟨Nat.zero_le _, Nat.zero_le _⟩ (fun hB141 H locs hP hD hS => ?_)
    have hP : va_P D vwCl (WM h q cI cJ cZ v_a v_image v_texts v_tape v_taped v_fault v_faultPlace v_at v_place v_token v_number v_word v_text0 v_written v_sort0 v_pile v_piled v_opens v_isWhole v_once v_named_141 v_values_141 v_truth_141 v_isWritten v_died v_aside v_likely v_safe v_headOf) H := hP
    have hD : va_D A (WM h q cI cJ cZ v_a v_image v_texts v_tape v_taped v_fault v_faultPlace v_at v_place v_token v_number v_word v_text0 v_written v_sort0 v_pile v_piled v_opens v_isWhole v_once v_named_141 v_values_141 v_truth_141 v_isWritten v_died v_aside v_likely v_safe v_headOf) := hD
    refine xif_eq hx hb 193 dX12_happens_144 (by decide) hf (fun hf => ?_) (fun hf => ?_)
    · cases hf
      exact mret_v hx hb hr hlocks hP hD hS dX12_happens_193
    · refine lv_aload_n hx hb dX12_happens_147 rfl (lv_at hl 3 rfl) ?_
      refine lv_iload_n hx hb dX12_happens_148 rfl (lv_at hl 2 rfl) ?_
      refine lv_iload hx hb dX12_happens_149 (lv_at hl 0 rfl) ?_
      obtain ⟨r151, v_a_151, v_named_151, v_values_151, v_truth_151, hg151, hf⟩ := ob5_some hf
      refine mcV1_i (As := [.int v7, .int v30]) (rest := []) hx hb hml hown hts hK hP hD hS hA (k_X12_payNow l N D cI cJ cZ cB cT h q v_a v_image v_texts v_tape v_taped v_fault v_faultPlace v_at v_place v_token v_number v_word v_text0 v_written v_sort0 v_pile v_piled v_opens v_isWhole v_once v_named_141 v_values_141 v_truth_141 v_isWritten v_died v_aside v_likely v_safe v_headOf v7 v30 r151 v_a_151 v_named_151 v_values_151 v_truth_151 hg151) (kwX12_379 hts rfl rfl ⟨Nat.le_of_ble_eq_true rfl, Nat.le_of_ble_eq_true rfl⟩) 0 rfl rfl rfl rfl hl.1 rfl (Nat.le_of_ble_eq_true rfl) dX12_happens_151 ⟨Nat.zero_le _, Nat.zero_le _⟩ (fun hB151 H locs hP hD hS => ?_)
      have hP : va_P D vwCl (WM h q cI cJ cZ v_a_151 v_image v_texts v_tape v_taped v_fault v_faultPlace v_at v_place v_token v_number v_word v_text0 v_written v_sort0 v_pile v_piled v_opens v_isWhole v_once v_named_151 v_values_151 v_truth_151 v_isWritten v_died v_aside v_likely v_safe v_headOf) H := hP
      have hD : va_D A (WM h q cI cJ cZ v_a_151 v_image v_texts v_tape v_taped v_fault v_faultPlace v_at v_place v_token v_number v_word v_text0 v_written v_sort0 v_pile v_piled v_opens v_isWhole v_once v_named_151 v_values_151 v_truth_151 v_isWritten v_died v_aside v_likely v_safe v_headOf) := hD
      refine lv_pop hx hb dX12_happens_154 rfl ?_
      refine lv_goto (tgt := 193) hx hb dX12_happens_155 (by decide) ?_
      cases hf
      exact mret_v hx hb hr hlocks hP hD hS dX12_happens_193
  replace hf := (if_neg e37_5).symm.trans hf
  by_cases e37_6 : v36 = (6 : Int32)
  · replace hf := (if_pos e37_6).symm.trans hf
    refine lv_tableIn (off := 121) (tgt := 158) hx hb dX12_happens_37 (by rw [e37_6]; decide) (by rw [e37_6]; decide) (by rw [e37_6]; rfl) (by decide) ?_
    refine lv_aload_n hx hb dX12_happens_158 rfl (lv_at hl 3 rfl) ?_
    refine gfX12_7 hx hb hts hown hK hP 0 rfl rfl dX12_happens_159 ?_
    refine lv_bipush (v := (10 : Int32)) hx hb dX12_happens_162 (by decide) ?_
    refine xiald hx hb hK hP 1 0 rfl rfl dX12_happens_164 hf (fun v164 hf => ?_)
    refine lv_sipush (v := (9999 : Int32)) hx hb dX12_happens_165 (by decide) ?_
    refine xicmp_ge hx hb 193 dX12_happens_168 (by decide) hf (fun hf => ?_) (fun hf => ?_)
    · cases hf
      exact mret_v hx hb hr hlocks hP hD hS dX12_happens_193
    · refine lv_aload_n hx hb dX12_happens_171 rfl (lv_at hl 3 rfl) ?_
      obtain ⟨v_a_172, v_named_172, v_values_172, v_truth_172, v_died_172, hg172, hf⟩ := ob5_some hf
      refine mcV1_v (As := []) (rest := []) hx hb hml hown hts hK hP hD hS hA (k_X12_goOn l N D cI cJ cZ cB cT h q v_a v_image v_texts v_tape v_taped v_fault v_faultPlace v_at v_place v_token v_number v_word v_text0 v_written v_sort0 v_pile v_piled v_opens v_isWhole v_once v_named v_values v_truth v_isWritten v_died v_aside v_likely v_safe v_headOf v_a_172 v_named_172 v_values_172 v_truth_172 v_died_172 hg172) (kwX12_382 hts rfl rfl ⟨Nat.le_of_ble_eq_true rfl, Nat.le_of_ble_eq_true rfl⟩) 0 rfl rfl rfl rfl hl.1 rfl (Nat.le_of_ble_eq_true rfl) dX12_happens_172 ⟨Nat.zero_le _, Nat.zero_le _⟩ (fun H locs hP hD hS => ?_)
      have hP : va_P D vwCl (WM h q cI cJ cZ v_a_172 v_image v_texts v_tape v_taped v_fault v_faultPlace v_at v_place v_token v_number v_word v_text0 v_written v_sort0 v_pile v_piled v_opens v_isWhole v_once v_named_172 v_values_172 v_truth_172 v_isWritten v_died_172 v_aside v_likely v_safe v_headOf) H := hP
      have hD : va_D A (WM h q cI cJ cZ v_a_172 v_image v_texts v_tape v_taped v_fault v_faultPlace v_at v_place v_token v_number v_word v_text0 v_written v_sort0 v_pile v_piled v_opens v_isWhole v_once v_named_172 v_values_172 v_truth_172 v_isWritten v_died_172 v_aside v_likely v_safe v_headOf) := hD
      refine lv_goto (tgt := 193) hx hb dX12_happens_175 (by decide) ?_
      cases hf
      exact mret_v hx hb hr hlocks hP hD hS dX12_happens_193
  replace hf := (if_neg e37_6).symm.trans hf
  have ne37_2 : v36.toInt ≠ (2 : Int) := sw_ne e37_2
  have ne37_3 : v36.toInt ≠ (3 : Int) := sw_ne e37_3
  have ne37_4 : v36.toInt ≠ (4 : Int) := sw_ne e37_4
  have ne37_5 : v36.toInt ≠ (5 : Int) := sw_ne e37_5
  have ne37_6 : v36.toInt ≠ (6 : Int) := sw_ne e37_6
  refine lv_tableOut (tgt := 178) hx hb dX12_happens_37 (by omega) (by decide) ?_
  refine lv_aload_n hx hb dX12_happens_178 rfl (lv_at hl 3 rfl) ?_
  refine lv_iload_n hx hb dX12_happens_179 rfl (lv_at hl 2 rfl) ?_
  refine lv_iload_n hx hb dX12_happens_180 rfl (lv_at hl 1 rfl) ?_
  obtain ⟨r181, hg181, hf⟩ := ob1_some hf
  refine mcV1_i (As := [.int v7, .int v19]) (rest := []) hx hb hml hown hts hK hP hD hS hA (k_X12_canCall l N D cI cJ cZ cB cT h q v_a v_image v_texts v_tape v_taped v_fault v_faultPlace v_at v_place v_token v_number v_word v_text0 v_written v_sort0 v_pile v_piled v_opens v_isWhole v_once v_named v_values v_truth v_isWritten v_died v_aside v_likely v_safe v_headOf v7 v19 r181 hg181) (kwX12_346 hts rfl rfl ⟨Nat.le_of_ble_eq_true rfl, Nat.le_of_ble_eq_true rfl⟩) 0 rfl rfl rfl rfl hl.1 rfl (Nat.le_of_ble_eq_true rfl) dX12_happens_181 ⟨Nat.zero_le _, Nat.zero_le _⟩ (fun hB181 H locs hP hD hS => ?_)
  have hP : va_P D vwCl (WM h q cI cJ cZ v_a v_image v_texts v_tape v_taped v_fault v_faultPlace v_at v_place v_token v_number v_word v_text0 v_written v_sort0 v_pile v_piled v_opens v_isWhole v_once v_named v_values v_truth v_isWritten v_died v_aside v_likely v_safe v_headOf) H := hP
  have hD : va_D A (WM h q cI cJ cZ v_a v_image v_texts v_tape v_taped v_fault v_faultPlace v_at v_place v_token v_number v_word v_text0 v_written v_sort0 v_pile v_piled v_opens v_isWhole v_once v_named v_values v_truth v_isWritten v_died v_aside v_likely v_safe v_headOf) := hD
  refine xif_eq hx hb 193 dX12_happens_184 (by decide) hf (fun hf => ?_) (fun hf => ?_)
  · cases hf
    exact mret_v hx hb hr hlocks hP hD hS dX12_happens_193
  · refine lv_aload_n hx hb dX12_happens_187 rfl (lv_at hl 3 rfl) ?_
    refine lv_iload_n hx hb dX12_happens_188 rfl (lv_at hl 2 rfl) ?_
    refine lv_iload_n hx hb dX12_happens_189 rfl (lv_at hl 1 rfl) ?_
    obtain ⟨v_a_190, hg190, hf⟩ := ob1_some hf
    refine mcV1_v (As := [.int v7, .int v19]) (rest := []) hx hb hml hown hts hK hP hD hS hA (k_X12_callNow l N D cI cJ cZ cB cT h q v_a v_image v_texts v_tape v_taped v_fault v_faultPlace v_at v_place v_token v_number v_word v_text0 v_written v_sort0 v_pile v_piled v_opens v_isWhole v_once v_named v_values v_truth v_isWritten v_died v_aside v_likely v_safe v_headOf v7 v19 v_a_190 hg190) (kwX12_352 hts rfl rfl ⟨Nat.le_of_ble_eq_true rfl, Nat.le_of_ble_eq_true rfl⟩) 0 rfl rfl rfl rfl hl.1 rfl (Nat.le_of_ble_eq_true rfl) dX12_happens_190 ⟨Nat.zero_le _, Nat.zero_le _⟩ (fun H locs hP hD hS => ?_)
    have hP : va_P D vwCl (WM h q cI cJ cZ v_a_190 v_image v_texts v_tape v_taped v_fault v_faultPlace v_at v_place v_token v_number v_word v_text0 v_written v_sort0 v_pile v_piled v_opens v_isWhole v_once v_named v_values v_truth v_isWritten v_died v_aside v_likely v_safe v_headOf) H := hP
    have hD : va_D A (WM h q cI cJ cZ v_a_190 v_image v_texts v_tape v_taped v_fault v_faultPlace v_at v_place v_token v_number v_word v_text0 v_written v_sort0 v_pile v_piled v_opens v_isWhole v_once v_named v_values v_truth v_isWritten v_died v_aside v_likely v_safe v_headOf) := hD
    cases hf
    exact mret_v hx hb hr hlocks hP hD hS dX12_happens_193
theorem dX12_reigns_0 : decode cX12_reigns 0 = .ok (.iload_n 1, 1) := by decide +kernel
theorem dX12_reigns_1 : decode cX12_reigns 1 = .ok (.iconst 0, 1) := by decide +kernel
theorem dX12_reigns_2 : decode cX12_reigns 2 = .ok (.sipush 9999, 3) := by decide +kernel
theorem dX12_reigns_5 : decode cX12_reigns 5 = .ok (.invokestatic 63, 3) := by decide +kernel
theorem dX12_reigns_8 : decode cX12_reigns 8 = .ok (.ifCond .eq 22, 3) := by decide +kernel
theorem dX12_reigns_11 : decode cX12_reigns 11 = .ok (.iload_n 2, 1) := by decide +kernel
theorem dX12_reigns_12 : decode cX12_reigns 12 = .ok (.iconst 1, 1) := by decide +kernel
theorem dX12_reigns_13 : decode cX12_reigns 13 = .ok (.bipush 40, 2) := by decide +kernel
theorem dX12_reigns_15 : decode cX12_reigns 15 = .ok (.invokestatic 63, 3) := by decide +kernel
theorem dX12_reigns_18 : decode cX12_reigns 18 = .ok (.ifCond .eq 12, 3) := by decide +kernel
theorem dX12_reigns_21 : decode cX12_reigns 21 = .ok (.aload_n 0, 1) := by decide +kernel
theorem dX12_reigns_22 : decode cX12_reigns 22 = .ok (.getfield 7, 3) := by decide +kernel
theorem dX12_reigns_25 : decode cX12_reigns 25 = .ok (.iconst 1, 1) := by decide +kernel
theorem dX12_reigns_26 : decode cX12_reigns 26 = .ok (.iaload, 1) := by decide +kernel
theorem dX12_reigns_27 : decode cX12_reigns 27 = .ok (.ifCond .ne 5, 3) := by decide +kernel
theorem dX12_reigns_30 : decode cX12_reigns 30 = .ok (.iconst (-1), 1) := by decide +kernel
theorem dX12_reigns_31 : decode cX12_reigns 31 = .ok (.ireturn, 1) := by decide +kernel
theorem dX12_reigns_32 : decode cX12_reigns 32 = .ok (.aload_n 0, 1) := by decide +kernel
theorem dX12_reigns_33 : decode cX12_reigns 33 = .ok (.invokevirtual 349, 3) := by decide +kernel
theorem dX12_reigns_36 : decode cX12_reigns 36 = .ok (.aload_n 0, 1) := by decide +kernel
theorem dX12_reigns_37 : decode cX12_reigns 37 = .ok (.getfield 7, 3) := by decide +kernel
theorem dX12_reigns_40 : decode cX12_reigns 40 = .ok (.bipush 11, 2) := by decide +kernel
theorem dX12_reigns_42 : decode cX12_reigns 42 = .ok (.iload_n 1, 1) := by decide +kernel
theorem dX12_reigns_43 : decode cX12_reigns 43 = .ok (.iconst 2, 1) := by decide +kernel
theorem dX12_reigns_44 : decode cX12_reigns 44 = .ok (.imul, 1) := by decide +kernel
theorem dX12_reigns_45 : decode cX12_reigns 45 = .ok (.sipush 149, 3) := by decide +kernel
theorem dX12_reigns_48 : decode cX12_reigns 48 = .ok (.iadd, 1) := by decide +kernel
theorem dX12_reigns_49 : decode cX12_reigns 49 = .ok (.iastore, 1) := by decide +kernel
theorem dX12_reigns_50 : decode cX12_reigns 50 = .ok (.iconst 0, 1) := by decide +kernel
theorem dX12_reigns_51 : decode cX12_reigns 51 = .ok (.istore_n 3, 1) := by decide +kernel
theorem dX12_reigns_52 : decode cX12_reigns 52 = .ok (.iload_n 3, 1) := by decide +kernel
theorem dX12_reigns_53 : decode cX12_reigns 53 = .ok (.iload_n 2, 1) := by decide +kernel
theorem dX12_reigns_54 : decode cX12_reigns 54 = .ok (.if_icmp .ge 28, 3) := by decide +kernel
theorem dX12_reigns_57 : decode cX12_reigns 57 = .ok (.aload_n 0, 1) := by decide +kernel
theorem dX12_reigns_58 : decode cX12_reigns 58 = .ok (.getfield 7, 3) := by decide +kernel
theorem dX12_reigns_61 : decode cX12_reigns 61 = .ok (.bipush 11, 2) := by decide +kernel
theorem dX12_reigns_63 : decode cX12_reigns 63 = .ok (.iaload, 1) := by decide +kernel
theorem dX12_reigns_64 : decode cX12_reigns 64 = .ok (.istore 4, 2) := by decide +kernel
theorem dX12_reigns_66 : decode cX12_reigns 66 = .ok (.aload_n 0, 1) := by decide +kernel
theorem dX12_reigns_67 : decode cX12_reigns 67 = .ok (.invokevirtual 310, 3) := by decide +kernel
theorem dX12_reigns_70 : decode cX12_reigns 70 = .ok (.aload_n 0, 1) := by decide +kernel
theorem dX12_reigns_71 : decode cX12_reigns 71 = .ok (.iload 4, 2) := by decide +kernel
theorem dX12_reigns_73 : decode cX12_reigns 73 = .ok (.invokevirtual 415, 3) := by decide +kernel
theorem dX12_reigns_76 : decode cX12_reigns 76 = .ok (.iinc 3 1, 3) := by decide +kernel
theorem dX12_reigns_79 : decode cX12_reigns 79 = .ok (.goto (-27), 3) := by decide +kernel
theorem dX12_reigns_82 : decode cX12_reigns 82 = .ok (.aload_n 0, 1) := by decide +kernel
theorem dX12_reigns_83 : decode cX12_reigns 83 = .ok (.getfield 7, 3) := by decide +kernel
theorem dX12_reigns_86 : decode cX12_reigns 86 = .ok (.bipush 10, 2) := by decide +kernel
theorem dX12_reigns_88 : decode cX12_reigns 88 = .ok (.iaload, 1) := by decide +kernel
theorem dX12_reigns_89 : decode cX12_reigns 89 = .ok (.ireturn, 1) := by decide +kernel
def f_X12_reigns_52 (N : Nat) : Nat → (Nat → Int32) → (Nat → Int32) → (Nat → Int32) → (Nat → Int64) → (Nat → Int32) → Int32 → Int32 → Int32 → Int32 → Option (Int32 × (Nat → Int32) × (Nat → Int32) × (Nat → Int64) × (Nat → Int32) × Int32)
  | 0, _, _, _, _, _, _, _, _, _ => none
  | n + 1, v_a, v_texts, v_named, v_values, v_truth, v_isWritten, v_died, x2, x3 => if x2 ≤ x3 then (gA v_a 8762 (10 : Int32) fun v88 => some (v88, v_a, v_named, v_values, v_truth, v_died)) else (gA v_a 8762 (11 : Int32) fun v63 => ob1 (f_X12_anew N v_a) fun v_a_67 => ob5 (f_X12_happens N v_a_67 v_texts v_named v_values v_truth v_isWritten v_died v63) fun v_a_73 v_named_73 v_values_73 v_truth_73 v_died_73 => (f_X12_reigns_52 N n) v_a_73 v_texts v_named_73 v_values_73 v_truth_73 v_isWritten v_died_73 x2 (x3 + (1 : Int32)))
def f_X12_reigns (N : Nat) (v_a : Nat → Int32) (v_texts : Nat → Int32) (v_named : Nat → Int32) (v_values : Nat → Int64) (v_truth : Nat → Int32) (v_isWritten : Int32) (v_died : Int32) (p1 : Int32) (p2 : Int32) : Option (Int32 × (Nat → Int32) × (Nat → Int32) × (Nat → Int64) × (Nat → Int32) × Int32) := ob1 (f_X12_isIn N p1 (0 : Int32) (9999 : Int32)) fun r5 => if r5 = 0 then (some ((-1 : Int32), v_a, v_named, v_values, v_truth, v_died)) else (ob1 (f_X12_isIn N p2 (1 : Int32) (40 : Int32)) fun r15 => if r15 = 0 then (some ((-1 : Int32), v_a, v_named, v_values, v_truth, v_died)) else (gA v_a 8762 (1 : Int32) fun v26 => if v26 = 0 then (some ((-1 : Int32), v_a, v_named, v_values, v_truth, v_died)) else (ob1 (f_X12_keep N v_a) fun v_a_33 => sA v_a_33 8762 (11 : Int32) ((p1 * (2 : Int32)) + (149 : Int32)) fun v_a_49 => f_X12_reigns_52 N N v_a_49 v_texts v_named v_values v_truth v_isWritten v_died p2 (0 : Int32))))
set_option maxHeartbeats 4000000 in
set_option maxRecDepth 100000 in
theorem k_X12_reigns (l : Launch) (N : Nat) (D : va_G) (cI cJ cZ cB cT : ClassId) (h : Nat) (q : Nat → Nat) (v_a : Nat → Int32) (v_image : Nat → Int32) (v_texts : Nat → Int32) (v_tape : Nat → Int32) (v_taped : Int32) (v_fault : Int32) (v_faultPlace : Int32) (v_at : Int32) (v_place : Int32) (v_token : Int32) (v_number : Int32) (v_word : Int64) (v_text0 : Int32) (v_written : Int32) (v_sort0 : Int32) (v_pile : Nat → Int32) (v_piled : Int32) (v_opens : Int32) (v_isWhole : Int32) (v_once : Int32) (v_named : Nat → Int32) (v_values : Nat → Int64) (v_truth : Nat → Int32) (v_isWritten : Int32) (v_died : Int32) (v_aside : Nat → Int32) (v_likely : Nat → Int32) (v_safe : Nat → Int32) (v_headOf : Nat → Int32) (p1 : Int32) (p2 : Int32) (o_r : Int32) (o_v_a : Nat → Int32) (o_v_named : Nat → Int32) (o_v_values : Nat → Int64) (o_v_truth : Nat → Int32) (o_v_died : Int32) (hf : f_X12_reigns N v_a v_texts v_named v_values v_truth v_isWritten v_died p1 p2 = some (o_r, o_v_a, o_v_named, o_v_values, o_v_truth, o_v_died)) : ∀ sz, Met l yX12_reigns (mw yX12_reigns cX12_reigns 5 (some .int)) ({ frames := 10, cells := 0, slots := 0, locals := 231 } : Room) (mPre D (mT cI cJ cZ cB cT) (WM h q cI cJ cZ v_a v_image v_texts v_tape v_taped v_fault v_faultPlace v_at v_place v_token v_number v_word v_text0 v_written v_sort0 v_pile v_piled v_opens v_isWhole v_once v_named v_values v_truth v_isWritten v_died v_aside v_likely v_safe v_headOf) sz [.ref h, .int p1, .int p2]) ((mQi D (WM h q cI cJ cZ o_v_a v_image v_texts v_tape v_taped v_fault v_faultPlace v_at v_place v_token v_number v_word v_text0 v_written v_sort0 v_pile v_piled v_opens v_isWhole v_once o_v_named o_v_values o_v_truth v_isWritten o_v_died v_aside v_likely v_safe v_headOf) o_r True) (va_A (WM h q cI cJ cZ v_a v_image v_texts v_tape v_taped v_fault v_faultPlace v_at v_place v_token v_number v_word v_text0 v_written v_sort0 v_pile v_piled v_opens v_isWhole v_once v_named v_values v_truth v_isWritten v_died v_aside v_likely v_safe v_headOf) sz)) 0 0 (va_A (WM h q cI cJ cZ v_a v_image v_texts v_tape v_taped v_fault v_faultPlace v_at v_place v_token v_number v_word v_text0 v_written v_sort0 v_pile v_piled v_opens v_isWhole v_once v_named v_values v_truth v_isWritten v_died v_aside v_likely v_safe v_headOf) sz) := by
  refine mMet (Qc := (mQi D (WM h q cI cJ cZ o_v_a v_image v_texts v_tape v_taped v_fault v_faultPlace v_at v_place v_token v_number v_word v_text0 v_written v_sort0 v_pile v_piled v_opens v_isWhole v_once o_v_named o_v_values o_v_truth v_isWritten o_v_died v_aside v_likely v_safe v_headOf) o_r True)) (by decide) (Nat.le_of_ble_eq_true rfl) (fun p e s m below meth c A ls hx hb hr hml hts hown hlocks hK hA hP hD hl => ?_)
  have hown : s.vm.findClass RX12 = some m.cls := hown
  have hl : lv_has ls 5 [(0, .ref h), (1, .int p1), (2, .int p2)] := hl
  have hS : va_S A s.heap s.heap [] := va_S.rf
  have b52 : ∀ n52 : Nat, ∀ (v_a : Nat → Int32) (v_named : Nat → Int32) (v_values : Nat → Int64) (v_truth : Nat → Int32) (v_died : Int32) (x2 : Int32) (x3 : Int32) (H : Heap) (locs : List Loc) (ls : Array Slot), f_X12_reigns_52 N n52 v_a v_texts v_named v_values v_truth v_isWritten v_died x2 x3 = some (o_r, o_v_a, o_v_named, o_v_values, o_v_truth, o_v_died) → va_P D vwCl (WM h q cI cJ cZ v_a v_image v_texts v_tape v_taped v_fault v_faultPlace v_at v_place v_token v_number v_word v_text0 v_written v_sort0 v_pile v_piled v_opens v_isWhole v_once v_named v_values v_truth v_isWritten v_died v_aside v_likely v_safe v_headOf) H → va_D A (WM h q cI cJ cZ v_a v_image v_texts v_tape v_taped v_fault v_faultPlace v_at v_place v_token v_number v_word v_text0 v_written v_sort0 v_pile v_piled v_opens v_isWhole v_once v_named v_values v_truth v_isWritten v_died v_aside v_likely v_safe v_headOf) → va_S A s.heap H locs → lv_has ls 5 [(0, .ref h), (2, .int x2), (3, .int x3)] → W p l e ({ frames := 10, cells := 0, slots := 0, locals := 231 } : Room) s m ([.ref h, .int p1, .int p2] : List Value).toArray below meth c H locs 0 0 (MQ below ((mQi D (WM h q cI cJ cZ o_v_a v_image v_texts v_tape v_taped v_fault v_faultPlace v_at v_place v_token v_number v_word v_text0 v_written v_sort0 v_pile v_piled v_opens v_isWhole v_once o_v_named o_v_values o_v_truth v_isWritten o_v_died v_aside v_likely v_safe v_headOf) o_r True) A) ([.ref h, .int p1, .int p2] : List Value).toArray s 0 0 A) (F0 m 52 ls []) := by
    intro n52
    induction n52 with
    | zero =>
      intro v_a v_named v_values v_truth v_died x2 x3 H locs ls hf hP hD hS hl
      simp [f_X12_reigns_52] at hf
    | succ n52 ih52 =>
      intro v_a v_named v_values v_truth v_died x2 x3 H locs ls hf hP hD hS hl
      rw [f_X12_reigns_52.eq_2] at hf
      refine lv_iload_n hx hb dX12_reigns_52 rfl (lv_at hl 2 rfl) ?_
      refine lv_iload_n hx hb dX12_reigns_53 rfl (lv_at hl 1 rfl) ?_
      refine xicmp_ge hx hb 82 dX12_reigns_54 (by decide) hf (fun hf => ?_) (fun hf => ?_)
      · refine lv_aload_n hx hb dX12_reigns_82 rfl (lv_at hl 0 rfl) ?_
        refine gfX12_7 hx hb hts hown hK hP 0 rfl rfl dX12_reigns_83 ?_
        refine lv_bipush (v := (10 : Int32)) hx hb dX12_reigns_86 (by decide) ?_
        refine xiald hx hb hK hP 1 0 rfl rfl dX12_reigns_88 hf (fun v88 hf => ?_)
        cases hf
        exact mret_i hx hb hr hlocks hP hD hS dX12_reigns_89 rfl trivial
      · refine lv_aload_n hx hb dX12_reigns_57 rfl (lv_at hl 0 rfl) ?_
        refine gfX12_7 hx hb hts hown hK hP 0 rfl rfl dX12_reigns_58 ?_
        refine lv_bipush (v := (11 : Int32)) hx hb dX12_reigns_61 (by decide) ?_
        refine xiald hx hb hK hP 1 0 rfl rfl dX12_reigns_63 hf (fun v63 hf => ?_)
        refine lv_istore (lv' := [(4, .int v63), (0, .ref h), (2, .int x2), (3, .int x3)]) hx hb dX12_reigns_64 hl (by decide) rfl (fun ls hl => ?_)
        refine lv_aload_n hx hb dX12_reigns_66 rfl (lv_at hl 1 rfl) ?_
        obtain ⟨v_a_67, hg67, hf⟩ := ob1_some hf
        refine mcV1_v (As := []) (rest := []) hx hb hml hown hts hK hP hD hS hA (k_X12_anew l N D cI cJ cZ cB cT h q v_a v_image v_texts v_tape v_taped v_fault v_faultPlace v_at v_place v_token v_number v_word v_text0 v_written v_sort0 v_pile v_piled v_opens v_isWhole v_once v_named v_values v_truth v_isWritten v_died v_aside v_likely v_safe v_headOf v_a_67 hg67) (kwX12_310 hts rfl rfl ⟨Nat.le_of_ble_eq_true rfl, Nat.le_of_ble_eq_true rfl⟩) 0 rfl rfl rfl rfl hl.1 rfl (Nat.le_of_ble_eq_true rfl) dX12_reigns_67 ⟨Nat.zero_le _, Nat.zero_le _⟩ (fun H locs hP hD hS => ?_)
        have hP : va_P D vwCl (WM h q cI cJ cZ v_a_67 v_image v_texts v_tape v_taped v_fault v_faultPlace v_at v_place v_token v_number v_word v_text0 v_written v_sort0 v_pile v_piled v_opens v_isWhole v_once v_named v_values v_truth v_isWritten v_died v_aside v_likely v_safe v_headOf) H := hP
        have hD : va_D A (WM h q cI cJ cZ v_a_67 v_image v_texts v_tape v_taped v_fault v_faultPlace v_at v_place v_token v_number v_word v_text0 v_written v_sort0 v_pile v_piled v_opens v_isWhole v_once v_named v_values v_truth v_isWritten v_died v_aside v_likely v_safe v_headOf) := hD
        refine lv_aload_n hx hb dX12_reigns_70 rfl (lv_at hl 1 rfl) ?_
        refine lv_iload hx hb dX12_reigns_71 (lv_at hl 0 rfl) ?_
        obtain ⟨v_a_73, v_named_73, v_values_73, v_truth_73, v_died_73, hg73, hf⟩ := ob5_some hf
        refine mcV1_v (As := [.int v63]) (rest := []) hx hb hml hown hts hK hP hD hS hA (k_X12_happens l N D cI cJ cZ cB cT h q v_a_67 v_image v_texts v_tape v_taped v_fault v_faultPlace v_at v_place v_token v_number v_word v_text0 v_written v_sort0 v_pile v_piled v_opens v_isWhole v_once v_named v_values v_truth v_isWritten v_died v_aside v_likely v_safe v_headOf v63 v_a_73 v_named_73 v_values_73 v_truth_73 v_died_73 hg73) (kwX12_415 hts rfl rfl ⟨Nat.le_of_ble_eq_true rfl, Nat.le_of_ble_eq_true rfl⟩) 0 rfl rfl rfl rfl hl.1 rfl (Nat.le_of_ble_eq_true rfl) dX12_reigns_73 ⟨Nat.zero_le _, Nat.zero_le _⟩ (fun H locs hP hD hS => ?_)
        have hP : va_P D vwCl (WM h q cI cJ cZ v_a_73 v_image v_texts v_tape v_taped v_fault v_faultPlace v_at v_place v_token v_number v_word v_text0 v_written v_sort0 v_pile v_piled v_opens v_isWhole v_once v_named_73 v_values_73 v_truth_73 v_isWritten v_died_73 v_aside v_likely v_safe v_headOf) H := hP
        have hD : va_D A (WM h q cI cJ cZ v_a_73 v_image v_texts v_tape v_taped v_fault v_faultPlace v_at v_place v_token v_number v_word v_text0 v_written v_sort0 v_pile v_piled v_opens v_isWhole v_once v_named_73 v_values_73 v_truth_73 v_isWritten v_died_73 v_aside v_likely v_safe v_headOf) := hD
        refine lv_iinc (v := (x3 + (1 : Int32))) (lv' := [(3, .int (x3 + (1 : Int32))), (4, .int v63), (0, .ref h), (2, .int x2)]) hx hb dX12_reigns_76 hl (k := 3) rfl rfl (by decide) rfl (fun ls hl => ?_)
        refine lv_goto (tgt := 52) hx hb dX12_reigns_79 (by decide) ?_
        exact ih52 v_a_73 v_named_73 v_values_73 v_truth_73 v_died_73 x2 (x3 + (1 : Int32)) _ _ _ hf hP hD hS (lv_sub hl [2, 3, 0] rfl)
  unfold f_X12_reigns at hf
  refine lv_iload_n hx hb dX12_reigns_0 rfl (lv_at hl 1 rfl) ?_
  refine lv_iconst (v := (0 : Int32)) hx hb dX12_reigns_1 (by decide) ?_
  refine lv_sipush (v := (9999 : Int32)) hx hb dX12_reigns_2 (by decide) ?_
  obtain ⟨r5, hg5, hf⟩ := ob1_some hf
  refine mcS0_i (As := [.int p1, .int (0 : Int32), .int (9999 : Int32)]) (rest := []) hx hb hml hown hts hK hP hD hS hA (k_X12_isIn l N D cI cJ cZ cB cT p1 (0 : Int32) (9999 : Int32) r5 hg5) (kwX12_63 hts rfl rfl ⟨Nat.le_of_ble_eq_true rfl, Nat.le_of_ble_eq_true rfl⟩) rfl hl.1 rfl (Nat.le_of_ble_eq_true rfl) dX12_reigns_5 ⟨Nat.zero_le _, Nat.zero_le _⟩ (fun hB5 H locs hP hD hS => ?_)
  refine xif_eq hx hb 30 dX12_reigns_8 (by decide) hf (fun hf => ?_) (fun hf => ?_)
  · refine lv_iconst (v := (-1 : Int32)) hx hb dX12_reigns_30 (by decide) ?_
    cases hf
    exact mret_i hx hb hr hlocks hP hD hS dX12_reigns_31 rfl trivial
  · refine lv_iload_n hx hb dX12_reigns_11 rfl (lv_at hl 2 rfl) ?_
    refine lv_iconst (v := (1 : Int32)) hx hb dX12_reigns_12 (by decide) ?_
    refine lv_bipush (v := (40 : Int32)) hx hb dX12_reigns_13 (by decide) ?_
    obtain ⟨r15, hg15, hf⟩ := ob1_some hf
    refine mcS0_i (As := [.int p2, .int (1 : Int32), .int (40 : Int32)]) (rest := []) hx hb hml hown hts hK hP hD hS hA (k_X12_isIn l N D cI cJ cZ cB cT p2 (1 : Int32) (40 : Int32) r15 hg15) (kwX12_63 hts rfl rfl ⟨Nat.le_of_ble_eq_true rfl, Nat.le_of_ble_eq_true rfl⟩) rfl hl.1 rfl (Nat.le_of_ble_eq_true rfl) dX12_reigns_15 ⟨Nat.zero_le _, Nat.zero_le _⟩ (fun hB15 H locs hP hD hS => ?_)
    refine xif_eq hx hb 30 dX12_reigns_18 (by decide) hf (fun hf => ?_) (fun hf => ?_)
    · refine lv_iconst (v := (-1 : Int32)) hx hb dX12_reigns_30 (by decide) ?_
      cases hf
      exact mret_i hx hb hr hlocks hP hD hS dX12_reigns_31 rfl trivial
    · refine lv_aload_n hx hb dX12_reigns_21 rfl (lv_at hl 0 rfl) ?_
      refine gfX12_7 hx hb hts hown hK hP 0 rfl rfl dX12_reigns_22 ?_
      refine lv_iconst (v := (1 : Int32)) hx hb dX12_reigns_25 (by decide) ?_
      refine xiald hx hb hK hP 1 0 rfl rfl dX12_reigns_26 hf (fun v26 hf => ?_)
      refine xif_ne hx hb 32 dX12_reigns_27 (by decide) hf (fun hf => ?_) (fun hf => ?_)
      · refine lv_iconst (v := (-1 : Int32)) hx hb dX12_reigns_30 (by decide) ?_
        cases hf
        exact mret_i hx hb hr hlocks hP hD hS dX12_reigns_31 rfl trivial
      · refine lv_aload_n hx hb dX12_reigns_32 rfl (lv_at hl 0 rfl) ?_
        obtain ⟨v_a_33, hg33, hf⟩ := ob1_some hf
        refine mcV1_v (As := []) (rest := []) hx hb hml hown hts hK hP hD hS hA (k_X12_keep l N D cI cJ cZ cB cT h q v_a v_image v_texts v_tape v_taped v_fault v_faultPlace v_at v_place v_token v_number v_word v_text0 v_written v_sort0 v_pile v_piled v_opens v_isWhole v_once v_named v_values v_truth v_isWritten v_died v_aside v_likely v_safe v_headOf v_a_33 hg33) (kwX12_349 hts rfl rfl ⟨Nat.le_of_ble_eq_true rfl, Nat.le_of_ble_eq_true rfl⟩) 0 rfl rfl rfl rfl hl.1 rfl (Nat.le_of_ble_eq_true rfl) dX12_reigns_33 ⟨Nat.zero_le _, Nat.zero_le _⟩ (fun H locs hP hD hS => ?_)
        have hP : va_P D vwCl (WM h q cI cJ cZ v_a_33 v_image v_texts v_tape v_taped v_fault v_faultPlace v_at v_place v_token v_number v_word v_text0 v_written v_sort0 v_pile v_piled v_opens v_isWhole v_once v_named v_values v_truth v_isWritten v_died v_aside v_likely v_safe v_headOf) H := hP
        have hD : va_D A (WM h q cI cJ cZ v_a_33 v_image v_texts v_tape v_taped v_fault v_faultPlace v_at v_place v_token v_number v_word v_text0 v_written v_sort0 v_pile v_piled v_opens v_isWhole v_once v_named v_values v_truth v_isWritten v_died v_aside v_likely v_safe v_headOf) := hD
        refine lv_aload_n hx hb dX12_reigns_36 rfl (lv_at hl 0 rfl) ?_
        refine gfX12_7 hx hb hts hown hK hP 0 rfl rfl dX12_reigns_37 ?_
        refine lv_bipush (v := (11 : Int32)) hx hb dX12_reigns_40 (by decide) ?_
        refine lv_iload_n hx hb dX12_reigns_42 rfl (lv_at hl 1 rfl) ?_
        refine lv_iconst (v := (2 : Int32)) hx hb dX12_reigns_43 (by decide) ?_
        refine lv_imul hx hb dX12_reigns_44 ?_
        refine lv_sipush (v := (149 : Int32)) hx hb dX12_reigns_45 (by decide) ?_
        refine lv_iadd hx hb dX12_reigns_48 ?_
        refine xiast hx hb hK hP hD hS 1 0 rfl rfl dX12_reigns_49 hf (fun v_a_49 hf H locs hP hD hS => ?_)
        have hP : va_P D vwCl (WM h q cI cJ cZ v_a_49 v_image v_texts v_tape v_taped v_fault v_faultPlace v_at v_place v_token v_number v_word v_text0 v_written v_sort0 v_pile v_piled v_opens v_isWhole v_once v_named v_values v_truth v_isWritten v_died v_aside v_likely v_safe v_headOf) H := hP
        have hD : va_D A (WM h q cI cJ cZ v_a_49 v_image v_texts v_tape v_taped v_fault v_faultPlace v_at v_place v_token v_number v_word v_text0 v_written v_sort0 v_pile v_piled v_opens v_isWhole v_once v_named v_values v_truth v_isWritten v_died v_aside v_likely v_safe v_headOf) := hD
        refine lv_iconst (v := (0 : Int32)) hx hb dX12_reigns_50 (by decide) ?_
        refine lv_istore_n (lv' := [(3, .int (0 : Int32)), (0, .ref h), (1, .int p1), (2, .int p2)]) hx hb dX12_reigns_51 rfl hl (by decide) rfl (fun ls hl => ?_)
        exact b52 N v_a_49 v_named v_values v_truth v_died p2 (0 : Int32) _ _ _ hf hP hD hS (lv_sub hl [1, 3, 0] rfl)
theorem dX12_of_0 : decode cX12_of 0 = .ok (.aload_n 0, 1) := by decide +kernel
theorem dX12_of_1 : decode cX12_of 1 = .ok (.iload_n 1, 1) := by decide +kernel
theorem dX12_of_2 : decode cX12_of 2 = .ok (.invokevirtual 67, 3) := by decide +kernel
theorem dX12_of_5 : decode cX12_of 5 = .ok (.ifCond .ne 5, 3) := by decide +kernel
theorem dX12_of_8 : decode cX12_of 8 = .ok (.iconst (-1), 1) := by decide +kernel
theorem dX12_of_9 : decode cX12_of 9 = .ok (.ireturn, 1) := by decide +kernel
theorem dX12_of_10 : decode cX12_of 10 = .ok (.iload_n 2, 1) := by decide +kernel
theorem dX12_of_11 : decode cX12_of 11 = .ok (.tableswitch 122 0 12 #[65, 72, 122, 122, 122, 122, 122, 122, 80, 86, 92, 104, 110], 65) := by decide +kernel
theorem dX12_of_76 : decode cX12_of 76 = .ok (.aload_n 0, 1) := by decide +kernel
theorem dX12_of_77 : decode cX12_of 77 = .ok (.iload_n 1, 1) := by decide +kernel
theorem dX12_of_78 : decode cX12_of 78 = .ok (.iconst 0, 1) := by decide +kernel
theorem dX12_of_79 : decode cX12_of 79 = .ok (.invokevirtual 71, 3) := by decide +kernel
theorem dX12_of_82 : decode cX12_of 82 = .ok (.ireturn, 1) := by decide +kernel
theorem dX12_of_83 : decode cX12_of 83 = .ok (.aload_n 0, 1) := by decide +kernel
theorem dX12_of_84 : decode cX12_of 84 = .ok (.iload_n 1, 1) := by decide +kernel
theorem dX12_of_85 : decode cX12_of 85 = .ok (.bipush 7, 2) := by decide +kernel
theorem dX12_of_87 : decode cX12_of 87 = .ok (.invokevirtual 71, 3) := by decide +kernel
theorem dX12_of_90 : decode cX12_of 90 = .ok (.ireturn, 1) := by decide +kernel
theorem dX12_of_91 : decode cX12_of 91 = .ok (.aload_n 0, 1) := by decide +kernel
theorem dX12_of_92 : decode cX12_of 92 = .ok (.iload_n 1, 1) := by decide +kernel
theorem dX12_of_93 : decode cX12_of 93 = .ok (.invokevirtual 328, 3) := by decide +kernel
theorem dX12_of_96 : decode cX12_of 96 = .ok (.ireturn, 1) := by decide +kernel
theorem dX12_of_97 : decode cX12_of 97 = .ok (.aload_n 0, 1) := by decide +kernel
theorem dX12_of_98 : decode cX12_of 98 = .ok (.iload_n 1, 1) := by decide +kernel
theorem dX12_of_99 : decode cX12_of 99 = .ok (.invokevirtual 334, 3) := by decide +kernel
theorem dX12_of_102 : decode cX12_of 102 = .ok (.ireturn, 1) := by decide +kernel
theorem dX12_of_103 : decode cX12_of 103 = .ok (.aload_n 0, 1) := by decide +kernel
theorem dX12_of_104 : decode cX12_of 104 = .ok (.aload_n 0, 1) := by decide +kernel
theorem dX12_of_105 : decode cX12_of 105 = .ok (.getfield 7, 3) := by decide +kernel
theorem dX12_of_108 : decode cX12_of 108 = .ok (.iconst 3, 1) := by decide +kernel
theorem dX12_of_109 : decode cX12_of 109 = .ok (.iaload, 1) := by decide +kernel
theorem dX12_of_110 : decode cX12_of 110 = .ok (.iload_n 1, 1) := by decide +kernel
theorem dX12_of_111 : decode cX12_of 111 = .ok (.invokevirtual 373, 3) := by decide +kernel
theorem dX12_of_114 : decode cX12_of 114 = .ok (.ireturn, 1) := by decide +kernel
theorem dX12_of_115 : decode cX12_of 115 = .ok (.aload_n 0, 1) := by decide +kernel
theorem dX12_of_116 : decode cX12_of 116 = .ok (.iload_n 1, 1) := by decide +kernel
theorem dX12_of_117 : decode cX12_of 117 = .ok (.invokevirtual 325, 3) := by decide +kernel
theorem dX12_of_120 : decode cX12_of 120 = .ok (.ireturn, 1) := by decide +kernel
theorem dX12_of_121 : decode cX12_of 121 = .ok (.aload_n 0, 1) := by decide +kernel
theorem dX12_of_122 : decode cX12_of 122 = .ok (.iload_n 1, 1) := by decide +kernel
theorem dX12_of_123 : decode cX12_of 123 = .ok (.aload_n 0, 1) := by decide +kernel
theorem dX12_of_124 : decode cX12_of 124 = .ok (.iload_n 1, 1) := by decide +kernel
theorem dX12_of_125 : decode cX12_of 125 = .ok (.iconst 0, 1) := by decide +kernel
theorem dX12_of_126 : decode cX12_of 126 = .ok (.invokevirtual 71, 3) := by decide +kernel
theorem dX12_of_129 : decode cX12_of 129 = .ok (.invokevirtual 297, 3) := by decide +kernel
theorem dX12_of_132 : decode cX12_of 132 = .ok (.ireturn, 1) := by decide +kernel
theorem dX12_of_133 : decode cX12_of 133 = .ok (.iload_n 2, 1) := by decide +kernel
theorem dX12_of_134 : decode cX12_of 134 = .ok (.iconst 2, 1) := by decide +kernel
theorem dX12_of_135 : decode cX12_of 135 = .ok (.bipush 7, 2) := by decide +kernel
theorem dX12_of_137 : decode cX12_of 137 = .ok (.invokestatic 63, 3) := by decide +kernel
theorem dX12_of_140 : decode cX12_of 140 = .ok (.ifCond .eq 14, 3) := by decide +kernel
theorem dX12_of_143 : decode cX12_of 143 = .ok (.aload_n 0, 1) := by decide +kernel
theorem dX12_of_144 : decode cX12_of 144 = .ok (.iload_n 1, 1) := by decide +kernel
theorem dX12_of_145 : decode cX12_of 145 = .ok (.iload_n 2, 1) := by decide +kernel
theorem dX12_of_146 : decode cX12_of 146 = .ok (.iconst 1, 1) := by decide +kernel
theorem dX12_of_147 : decode cX12_of 147 = .ok (.isub, 1) := by decide +kernel
theorem dX12_of_148 : decode cX12_of 148 = .ok (.invokevirtual 71, 3) := by decide +kernel
theorem dX12_of_151 : decode cX12_of 151 = .ok (.goto 4, 3) := by decide +kernel
theorem dX12_of_154 : decode cX12_of 154 = .ok (.iconst (-1), 1) := by decide +kernel
theorem dX12_of_155 : decode cX12_of 155 = .ok (.ireturn, 1) := by decide +kernel
def f_X12_of_133 (N : Nat) (v_a : Nat → Int32) (v_texts : Nat → Int32) (v_named : Nat → Int32) (v_values : Nat → Int64) (v_truth : Nat → Int32) (x1 : Int32) (x2 : Int32) : Option (Int32 × (Nat → Int32) × (Nat → Int64) × (Nat → Int32)) := ob1 (f_X12_isIn N x2 (2 : Int32) (7 : Int32)) fun r137 => if r137 = 0 then (some ((-1 : Int32), v_named, v_values, v_truth)) else (ob1 (f_X12_get N v_a x1 (x2 - (1 : Int32))) fun r148 => some (r148, v_named, v_values, v_truth))
def f_X12_of (N : Nat) (v_a : Nat → Int32) (v_texts : Nat → Int32) (v_named : Nat → Int32) (v_values : Nat → Int64) (v_truth : Nat → Int32) (p1 : Int32) (p2 : Int32) : Option (Int32 × (Nat → Int32) × (Nat → Int64) × (Nat → Int32)) := ob1 (f_X12_isPerson N v_a p1) fun r2 => if r2 = 0 then (some ((-1 : Int32), v_named, v_values, v_truth)) else (if p2 = (0 : Int32) then (ob1 (f_X12_get N v_a p1 (0 : Int32)) fun r79 => some (r79, v_named, v_values, v_truth)) else if p2 = (1 : Int32) then (ob1 (f_X12_get N v_a p1 (7 : Int32)) fun r87 => some (r87, v_named, v_values, v_truth)) else if p2 = (8 : Int32) then (ob4 (f_X12_hungersOf N v_a v_texts v_named v_values v_truth p1) fun r93 v_named_93 v_values_93 v_truth_93 => some (r93, v_named_93, v_values_93, v_truth_93)) else if p2 = (9 : Int32) then (ob4 (f_X12_findsOf N v_a v_texts v_named v_values v_truth p1) fun r99 v_named_99 v_values_99 v_truth_99 => some (r99, v_named_99, v_values_99, v_truth_99)) else if p2 = (10 : Int32) then (gA v_a 8762 (3 : Int32) fun v109 => ob4 (f_X12_priceOf N v_a v_texts v_named v_values v_truth v109 p1) fun r111 v_named_111 v_values_111 v_truth_111 => some (r111, v_named_111, v_values_111, v_truth_111)) else if p2 = (11 : Int32) then (ob4 (f_X12_earnsOf N v_a v_texts v_named v_values v_truth p1) fun r117 v_named_117 v_values_117 v_truth_117 => some (r117, v_named_117, v_values_117, v_truth_117)) else if p2 = (12 : Int32) then (ob1 (f_X12_get N v_a p1 (0 : Int32)) fun r126 => ob1 (f_X12_crowdOf N v_a p1 r126) fun r129 => some (r129, v_named, v_values, v_truth)) else (f_X12_of_133 N v_a v_texts v_named v_values v_truth p1 p2))
set_option maxHeartbeats 4000000 in
set_option maxRecDepth 100000 in
theorem k_X12_of (l : Launch) (N : Nat) (D : va_G) (cI cJ cZ cB cT : ClassId) (h : Nat) (q : Nat → Nat) (v_a : Nat → Int32) (v_image : Nat → Int32) (v_texts : Nat → Int32) (v_tape : Nat → Int32) (v_taped : Int32) (v_fault : Int32) (v_faultPlace : Int32) (v_at : Int32) (v_place : Int32) (v_token : Int32) (v_number : Int32) (v_word : Int64) (v_text0 : Int32) (v_written : Int32) (v_sort0 : Int32) (v_pile : Nat → Int32) (v_piled : Int32) (v_opens : Int32) (v_isWhole : Int32) (v_once : Int32) (v_named : Nat → Int32) (v_values : Nat → Int64) (v_truth : Nat → Int32) (v_isWritten : Int32) (v_died : Int32) (v_aside : Nat → Int32) (v_likely : Nat → Int32) (v_safe : Nat → Int32) (v_headOf : Nat → Int32) (p1 : Int32) (p2 : Int32) (o_r : Int32) (o_v_named : Nat → Int32) (o_v_values : Nat → Int64) (o_v_truth : Nat → Int32) (hf : f_X12_of N v_a v_texts v_named v_values v_truth p1 p2 = some (o_r, o_v_named, o_v_values, o_v_truth)) : ∀ sz, Met l yX12_of (mw yX12_of cX12_of 3 (some .int)) ({ frames := 7, cells := 0, slots := 0, locals := 164 } : Room) (mPre D (mT cI cJ cZ cB cT) (WM h q cI cJ cZ v_a v_image v_texts v_tape v_taped v_fault v_faultPlace v_at v_place v_token v_number v_word v_text0 v_written v_sort0 v_pile v_piled v_opens v_isWhole v_once v_named v_values v_truth v_isWritten v_died v_aside v_likely v_safe v_headOf) sz [.ref h, .int p1, .int p2]) ((mQi D (WM h q cI cJ cZ v_a v_image v_texts v_tape v_taped v_fault v_faultPlace v_at v_place v_token v_number v_word v_text0 v_written v_sort0 v_pile v_piled v_opens v_isWhole v_once o_v_named o_v_values o_v_truth v_isWritten v_died v_aside v_likely v_safe v_headOf) o_r True) (va_A (WM h q cI cJ cZ v_a v_image v_texts v_tape v_taped v_fault v_faultPlace v_at v_place v_token v_number v_word v_text0 v_written v_sort0 v_pile v_piled v_opens v_isWhole v_once v_named v_values v_truth v_isWritten v_died v_aside v_likely v_safe v_headOf) sz)) 0 0 (va_A (WM h q cI cJ cZ v_a v_image v_texts v_tape v_taped v_fault v_faultPlace v_at v_place v_token v_number v_word v_text0 v_written v_sort0 v_pile v_piled v_opens v_isWhole v_once v_named v_values v_truth v_isWritten v_died v_aside v_likely v_safe v_headOf) sz) := by
  refine mMet (Qc := (mQi D (WM h q cI cJ cZ v_a v_image v_texts v_tape v_taped v_fault v_faultPlace v_at v_place v_token v_number v_word v_text0 v_written v_sort0 v_pile v_piled v_opens v_isWhole v_once o_v_named o_v_values o_v_truth v_isWritten v_died v_aside v_likely v_safe v_headOf) o_r True)) (by decide) (Nat.le_of_ble_eq_true rfl) (fun p e s m below meth c A ls hx hb hr hml hts hown hlocks hK hA hP hD hl => ?_)
  have hown : s.vm.findClass RX12 = some m.cls := hown
  have hl : lv_has ls 3 [(0, .ref h), (1, .int p1), (2, .int p2)] := hl
  have hS : va_S A s.heap s.heap [] := va_S.rf
  have b133 : ∀ (v_named : Nat → Int32) (v_values : Nat → Int64) (v_truth : Nat → Int32) (x1 : Int32) (x2 : Int32) (H : Heap) (locs : List Loc) (ls : Array Slot), f_X12_of_133 N v_a v_texts v_named v_values v_truth x1 x2 = some (o_r, o_v_named, o_v_values, o_v_truth) → va_P D vwCl (WM h q cI cJ cZ v_a v_image v_texts v_tape v_taped v_fault v_faultPlace v_at v_place v_token v_number v_word v_text0 v_written v_sort0 v_pile v_piled v_opens v_isWhole v_once v_named v_values v_truth v_isWritten v_died v_aside v_likely v_safe v_headOf) H → va_D A (WM h q cI cJ cZ v_a v_image v_texts v_tape v_taped v_fault v_faultPlace v_at v_place v_token v_number v_word v_text0 v_written v_sort0 v_pile v_piled v_opens v_isWhole v_once v_named v_values v_truth v_isWritten v_died v_aside v_likely v_safe v_headOf) → va_S A s.heap H locs → lv_has ls 3 [(0, .ref h), (1, .int x1), (2, .int x2)] → W p l e ({ frames := 7, cells := 0, slots := 0, locals := 164 } : Room) s m ([.ref h, .int p1, .int p2] : List Value).toArray below meth c H locs 0 0 (MQ below ((mQi D (WM h q cI cJ cZ v_a v_image v_texts v_tape v_taped v_fault v_faultPlace v_at v_place v_token v_number v_word v_text0 v_written v_sort0 v_pile v_piled v_opens v_isWhole v_once o_v_named o_v_values o_v_truth v_isWritten v_died v_aside v_likely v_safe v_headOf) o_r True) A) ([.ref h, .int p1, .int p2] : List Value).toArray s 0 0 A) (F0 m 133 ls []) := by
    intro v_named v_values v_truth x1 x2 H locs ls hf hP hD hS hl
    unfold f_X12_of_133 at hf
    refine lv_iload_n hx hb dX12_of_133 rfl (lv_at hl 2 rfl) ?_
    refine lv_iconst (v := (2 : Int32)) hx hb dX12_of_134 (by decide) ?_
    refine lv_bipush (v := (7 : Int32)) hx hb dX12_of_135 (by decide) ?_
    obtain ⟨r137, hg137, hf⟩ := ob1_some hf
    refine mcS0_i (As := [.int x2, .int (2 : Int32), .int (7 : Int32)]) (rest := []) hx hb hml hown hts hK hP hD hS hA (k_X12_isIn l N D cI cJ cZ cB cT x2 (2 : Int32) (7 : Int32) r137 hg137) (kwX12_63 hts rfl rfl ⟨Nat.le_of_ble_eq_true rfl, Nat.le_of_ble_eq_true rfl⟩) rfl hl.1 rfl (Nat.le_of_ble_eq_true rfl) dX12_of_137 ⟨Nat.zero_le _, Nat.zero_le _⟩ (fun hB137 H locs hP hD hS => ?_)
    refine xif_eq hx hb 154 dX12_of_140 (by decide) hf (fun hf => ?_) (fun hf => ?_)
    · refine lv_iconst (v := (-1 : Int32)) hx hb dX12_of_154 (by decide) ?_
      cases hf
      exact mret_i hx hb hr hlocks hP hD hS dX12_of_155 rfl trivial
    · refine lv_aload_n hx hb dX12_of_143 rfl (lv_at hl 0 rfl) ?_
      refine lv_iload_n hx hb dX12_of_144 rfl (lv_at hl 1 rfl) ?_
      refine lv_iload_n hx hb dX12_of_145 rfl (lv_at hl 2 rfl) ?_
      refine lv_iconst (v := (1 : Int32)) hx hb dX12_of_146 (by decide) ?_
      refine lv_isub hx hb dX12_of_147 ?_
      obtain ⟨r148, hg148, hf⟩ := ob1_some hf
      refine mcV1_i (As := [.int x1, .int (x2 - (1 : Int32))]) (rest := []) hx hb hml hown hts hK hP hD hS hA (k_X12_get l N D cI cJ cZ cB cT h q v_a v_image v_texts v_tape v_taped v_fault v_faultPlace v_at v_place v_token v_number v_word v_text0 v_written v_sort0 v_pile v_piled v_opens v_isWhole v_once v_named v_values v_truth v_isWritten v_died v_aside v_likely v_safe v_headOf x1 (x2 - (1 : Int32)) r148 hg148) (kwX12_71 hts rfl rfl ⟨Nat.le_of_ble_eq_true rfl, Nat.le_of_ble_eq_true rfl⟩) 0 rfl rfl rfl rfl hl.1 rfl (Nat.le_of_ble_eq_true rfl) dX12_of_148 ⟨Nat.zero_le _, Nat.zero_le _⟩ (fun hB148 H locs hP hD hS => ?_)
      have hP : va_P D vwCl (WM h q cI cJ cZ v_a v_image v_texts v_tape v_taped v_fault v_faultPlace v_at v_place v_token v_number v_word v_text0 v_written v_sort0 v_pile v_piled v_opens v_isWhole v_once v_named v_values v_truth v_isWritten v_died v_aside v_likely v_safe v_headOf) H := hP
      have hD : va_D A (WM h q cI cJ cZ v_a v_image v_texts v_tape v_taped v_fault v_faultPlace v_at v_place v_token v_number v_word v_text0 v_written v_sort0 v_pile v_piled v_opens v_isWhole v_once v_named v_values v_truth v_isWritten v_died v_aside v_likely v_safe v_headOf) := hD
      refine lv_goto (tgt := 155) hx hb dX12_of_151 (by decide) ?_
      cases hf
      exact mret_i hx hb hr hlocks hP hD hS dX12_of_155 rfl trivial
  unfold f_X12_of at hf
  refine lv_aload_n hx hb dX12_of_0 rfl (lv_at hl 0 rfl) ?_
  refine lv_iload_n hx hb dX12_of_1 rfl (lv_at hl 1 rfl) ?_
  obtain ⟨r2, hg2, hf⟩ := ob1_some hf
  refine mcV1_i (As := [.int p1]) (rest := []) hx hb hml hown hts hK hP hD hS hA (k_X12_isPerson l N D cI cJ cZ cB cT h q v_a v_image v_texts v_tape v_taped v_fault v_faultPlace v_at v_place v_token v_number v_word v_text0 v_written v_sort0 v_pile v_piled v_opens v_isWhole v_once v_named v_values v_truth v_isWritten v_died v_aside v_likely v_safe v_headOf p1 r2 hg2) (kwX12_67 hts rfl rfl ⟨Nat.le_of_ble_eq_true rfl, Nat.le_of_ble_eq_true rfl⟩) 0 rfl rfl rfl rfl hl.1 rfl (Nat.le_of_ble_eq_true rfl) dX12_of_2 ⟨Nat.zero_le _, Nat.zero_le _⟩ (fun hB2 H locs hP hD hS => ?_)
  have hP : va_P D vwCl (WM h q cI cJ cZ v_a v_image v_texts v_tape v_taped v_fault v_faultPlace v_at v_place v_token v_number v_word v_text0 v_written v_sort0 v_pile v_piled v_opens v_isWhole v_once v_named v_values v_truth v_isWritten v_died v_aside v_likely v_safe v_headOf) H := hP
  have hD : va_D A (WM h q cI cJ cZ v_a v_image v_texts v_tape v_taped v_fault v_faultPlace v_at v_place v_token v_number v_word v_text0 v_written v_sort0 v_pile v_piled v_opens v_isWhole v_once v_named v_values v_truth v_isWritten v_died v_aside v_likely v_safe v_headOf) := hD
  refine xif_ne hx hb 10 dX12_of_5 (by decide) hf (fun hf => ?_) (fun hf => ?_)
  · refine lv_iconst (v := (-1 : Int32)) hx hb dX12_of_8 (by decide) ?_
    cases hf
    exact mret_i hx hb hr hlocks hP hD hS dX12_of_9 rfl trivial
  · refine lv_iload_n hx hb dX12_of_10 rfl (lv_at hl 2 rfl) ?_
    by_cases e11_0 : p2 = (0 : Int32)
    · replace hf := (if_pos e11_0).symm.trans hf
      refine lv_tableIn (off := 65) (tgt := 76) hx hb dX12_of_11 (by rw [e11_0]; decide) (by rw [e11_0]; decide) (by rw [e11_0]; rfl) (by decide) ?_
      refine lv_aload_n hx hb dX12_of_76 rfl (lv_at hl 0 rfl) ?_
      refine lv_iload_n hx hb dX12_of_77 rfl (lv_at hl 1 rfl) ?_
      refine lv_iconst (v := (0 : Int32)) hx hb dX12_of_78 (by decide) ?_
      obtain ⟨r79, hg79, hf⟩ := ob1_some hf
      refine mcV1_i (As := [.int p1, .int (0 : Int32)]) (rest := []) hx hb hml hown hts hK hP hD hS hA (k_X12_get l N D cI cJ cZ cB cT h q v_a v_image v_texts v_tape v_taped v_fault v_faultPlace v_at v_place v_token v_number v_word v_text0 v_written v_sort0 v_pile v_piled v_opens v_isWhole v_once v_named v_values v_truth v_isWritten v_died v_aside v_likely v_safe v_headOf p1 (0 : Int32) r79 hg79) (kwX12_71 hts rfl rfl ⟨Nat.le_of_ble_eq_true rfl, Nat.le_of_ble_eq_true rfl⟩) 0 rfl rfl rfl rfl hl.1 rfl (Nat.le_of_ble_eq_true rfl) dX12_of_79 ⟨Nat.zero_le _, Nat.zero_le _⟩ (fun hB79 H locs hP hD hS => ?_)
      have hP : va_P D vwCl (WM h q cI cJ cZ v_a v_image v_texts v_tape v_taped v_fault v_faultPlace v_at v_place v_token v_number v_word v_text0 v_written v_sort0 v_pile v_piled v_opens v_isWhole v_once v_named v_values v_truth v_isWritten v_died v_aside v_likely v_safe v_headOf) H := hP
      have hD : va_D A (WM h q cI cJ cZ v_a v_image v_texts v_tape v_taped v_fault v_faultPlace v_at v_place v_token v_number v_word v_text0 v_written v_sort0 v_pile v_piled v_opens v_isWhole v_once v_named v_values v_truth v_isWritten v_died v_aside v_likely v_safe v_headOf) := hD
      cases hf
      exact mret_i hx hb hr hlocks hP hD hS dX12_of_82 rfl trivial
    replace hf := (if_neg e11_0).symm.trans hf
    by_cases e11_1 : p2 = (1 : Int32)
    · replace hf := (if_pos e11_1).symm.trans hf
      refine lv_tableIn (off := 72) (tgt := 83) hx hb dX12_of_11 (by rw [e11_1]; decide) (by rw [e11_1]; decide) (by rw [e11_1]; rfl) (by decide) ?_
      refine lv_aload_n hx hb dX12_of_83 rfl (lv_at hl 0 rfl) ?_
      refine lv_iload_n hx hb dX12_of_84 rfl (lv_at hl 1 rfl) ?_
      refine lv_bipush (v := (7 : Int32)) hx hb dX12_of_85 (by decide) ?_
      obtain ⟨r87, hg87, hf⟩ := ob1_some hf
      refine mcV1_i (As := [.int p1, .int (7 : Int32)]) (rest := []) hx hb hml hown hts hK hP hD hS hA (k_X12_get l N D cI cJ cZ cB cT h q v_a v_image v_texts v_tape v_taped v_fault v_faultPlace v_at v_place v_token v_number v_word v_text0 v_written v_sort0 v_pile v_piled v_opens v_isWhole v_once v_named v_values v_truth v_isWritten v_died v_aside v_likely v_safe v_headOf p1 (7 : Int32) r87 hg87) (kwX12_71 hts rfl rfl ⟨Nat.le_of_ble_eq_true rfl, Nat.le_of_ble_eq_true rfl⟩) 0 rfl rfl rfl rfl hl.1 rfl (Nat.le_of_ble_eq_true rfl) dX12_of_87 ⟨Nat.zero_le _, Nat.zero_le _⟩ (fun hB87 H locs hP hD hS => ?_)
      have hP : va_P D vwCl (WM h q cI cJ cZ v_a v_image v_texts v_tape v_taped v_fault v_faultPlace v_at v_place v_token v_number v_word v_text0 v_written v_sort0 v_pile v_piled v_opens v_isWhole v_once v_named v_values v_truth v_isWritten v_died v_aside v_likely v_safe v_headOf) H := hP
      have hD : va_D A (WM h q cI cJ cZ v_a v_image v_texts v_tape v_taped v_fault v_faultPlace v_at v_place v_token v_number v_word v_text0 v_written v_sort0 v_pile v_piled v_opens v_isWhole v_once v_named v_values v_truth v_isWritten v_died v_aside v_likely v_safe v_headOf) := hD
      cases hf
      exact mret_i hx hb hr hlocks hP hD hS dX12_of_90 rfl trivial
    replace hf := (if_neg e11_1).symm.trans hf
    by_cases e11_8 : p2 = (8 : Int32)
    · replace hf := (if_pos e11_8).symm.trans hf
      refine lv_tableIn (off := 80) (tgt := 91) hx hb dX12_of_11 (by rw [e11_8]; decide) (by rw [e11_8]; decide) (by rw [e11_8]; rfl) (by decide) ?_
      refine lv_aload_n hx hb dX12_of_91 rfl (lv_at hl 0 rfl) ?_
      refine lv_iload_n hx hb dX12_of_92 rfl (lv_at hl 1 rfl) ?_
      obtain ⟨r93, v_named_93, v_values_93, v_truth_93, hg93, hf⟩ := ob4_some hf
      refine mcV1_i (As := [.int p1]) (rest := []) hx hb hml hown hts hK hP hD hS hA (k_X12_hungersOf l N D cI cJ cZ cB cT h q v_a v_image v_texts v_tape v_taped v_fault v_faultPlace v_at v_place v_token v_number v_word v_text0 v_written v_sort0 v_pile v_piled v_opens v_isWhole v_once v_named v_values v_truth v_isWritten v_died v_aside v_likely v_safe v_headOf p1 r93 v_named_93 v_values_93 v_truth_93 hg93) (kwX12_328 hts rfl rfl ⟨Nat.le_of_ble_eq_true rfl, Nat.le_of_ble_eq_true rfl⟩) 0 rfl rfl rfl rfl hl.1 rfl (Nat.le_of_ble_eq_true rfl) dX12_of_93 ⟨Nat.zero_le _, Nat.zero_le _⟩ (fun hB93 H locs hP hD hS => ?_)
      have hP : va_P D vwCl (WM h q cI cJ cZ v_a v_image v_texts v_tape v_taped v_fault v_faultPlace v_at v_place v_token v_number v_word v_text0 v_written v_sort0 v_pile v_piled v_opens v_isWhole v_once v_named_93 v_values_93 v_truth_93 v_isWritten v_died v_aside v_likely v_safe v_headOf) H := hP
      have hD : va_D A (WM h q cI cJ cZ v_a v_image v_texts v_tape v_taped v_fault v_faultPlace v_at v_place v_token v_number v_word v_text0 v_written v_sort0 v_pile v_piled v_opens v_isWhole v_once v_named_93 v_values_93 v_truth_93 v_isWritten v_died v_aside v_likely v_safe v_headOf) := hD
      cases hf
      exact mret_i hx hb hr hlocks hP hD hS dX12_of_96 rfl trivial
    replace hf := (if_neg e11_8).symm.trans hf
    by_cases e11_9 : p2 = (9 : Int32)
    · replace hf := (if_pos e11_9).symm.trans hf
      refine lv_tableIn (off := 86) (tgt := 97) hx hb dX12_of_11 (by rw [e11_9]; decide) (by rw [e11_9]; decide) (by rw [e11_9]; rfl) (by decide) ?_
      refine lv_aload_n hx hb dX12_of_97 rfl (lv_at hl 0 rfl) ?_
      refine lv_iload_n hx hb dX12_of_98 rfl (lv_at hl 1 rfl) ?_
      obtain ⟨r99, v_named_99, v_values_99, v_truth_99, hg99, hf⟩ := ob4_some hf
      refine mcV1_i (As := [.int p1]) (rest := []) hx hb hml hown hts hK hP hD hS hA (k_X12_findsOf l N D cI cJ cZ cB cT h q v_a v_image v_texts v_tape v_taped v_fault v_faultPlace v_at v_place v_token v_number v_word v_text0 v_written v_sort0 v_pile v_piled v_opens v_isWhole v_once v_named v_values v_truth v_isWritten v_died v_aside v_likely v_safe v_headOf p1 r99 v_named_99 v_values_99 v_truth_99 hg99) (kwX12_334 hts rfl rfl ⟨Nat.le_of_ble_eq_true rfl, Nat.le_of_ble_eq_true rfl⟩) 0 rfl rfl rfl rfl hl.1 rfl (Nat.le_of_ble_eq_true rfl) dX12_of_99 ⟨Nat.zero_le _, Nat.zero_le _⟩ (fun hB99 H locs hP hD hS => ?_)
      have hP : va_P D vwCl (WM h q cI cJ cZ v_a v_image v_texts v_tape v_taped v_fault v_faultPlace v_at v_place v_token v_number v_word v_text0 v_written v_sort0 v_pile v_piled v_opens v_isWhole v_once v_named_99 v_values_99 v_truth_99 v_isWritten v_died v_aside v_likely v_safe v_headOf) H := hP
      have hD : va_D A (WM h q cI cJ cZ v_a v_image v_texts v_tape v_taped v_fault v_faultPlace v_at v_place v_token v_number v_word v_text0 v_written v_sort0 v_pile v_piled v_opens v_isWhole v_once v_named_99 v_values_99 v_truth_99 v_isWritten v_died v_aside v_likely v_safe v_headOf) := hD
      cases hf
      exact mret_i hx hb hr hlocks hP hD hS dX12_of_102 rfl trivial
    replace hf := (if_neg e11_9).symm.trans hf
    by_cases e11_10 : p2 = (10 : Int32)
    · replace hf := (if_pos e11_10).symm.trans hf
      refine lv_tableIn (off := 92) (tgt := 103) hx hb dX12_of_11 (by rw [e11_10]; decide) (by rw [e11_10]; decide) (by rw [e11_10]; rfl) (by decide) ?_
      refine lv_aload_n hx hb dX12_of_103 rfl (lv_at hl 0 rfl) ?_
      refine lv_aload_n hx hb dX12_of_104 rfl (lv_at hl 0 rfl) ?_
      refine gfX12_7 hx hb hts hown hK hP 0 rfl rfl dX12_of_105 ?_
      refine lv_iconst (v := (3 : Int32)) hx hb dX12_of_108 (by decide) ?_
      refine xiald hx hb hK hP 1 0 rfl rfl dX12_of_109 hf (fun v109 hf => ?_)
      refine lv_iload_n hx hb dX12_of_110 rfl (lv_at hl 1 rfl) ?_
      obtain ⟨r111, v_named_111, v_values_111, v_truth_111, hg111, hf⟩ := ob4_some hf
      refine mcV1_i (As := [.int v109, .int p1]) (rest := []) hx hb hml hown hts hK hP hD hS hA (k_X12_priceOf l N D cI cJ cZ cB cT h q v_a v_image v_texts v_tape v_taped v_fault v_faultPlace v_at v_place v_token v_number v_word v_text0 v_written v_sort0 v_pile v_piled v_opens v_isWhole v_once v_named v_values v_truth v_isWritten v_died v_aside v_likely v_safe v_headOf v109 p1 r111 v_named_111 v_values_111 v_truth_111 hg111) (kwX12_373 hts rfl rfl ⟨Nat.le_of_ble_eq_true rfl, Nat.le_of_ble_eq_true rfl⟩) 0 rfl rfl rfl rfl hl.1 rfl (Nat.le_of_ble_eq_true rfl) dX12_of_111 ⟨Nat.zero_le _, Nat.zero_le _⟩ (fun hB111 H locs hP hD hS => ?_)
      have hP : va_P D vwCl (WM h q cI cJ cZ v_a v_image v_texts v_tape v_taped v_fault v_faultPlace v_at v_place v_token v_number v_word v_text0 v_written v_sort0 v_pile v_piled v_opens v_isWhole v_once v_named_111 v_values_111 v_truth_111 v_isWritten v_died v_aside v_likely v_safe v_headOf) H := hP
      have hD : va_D A (WM h q cI cJ cZ v_a v_image v_texts v_tape v_taped v_fault v_faultPlace v_at v_place v_token v_number v_word v_text0 v_written v_sort0 v_pile v_piled v_opens v_isWhole v_once v_named_111 v_values_111 v_truth_111 v_isWritten v_died v_aside v_likely v_safe v_headOf) := hD
      cases hf
      exact mret_i hx hb hr hlocks hP hD hS dX12_of_114 rfl trivial
    replace hf := (if_neg e11_10).symm.trans hf
    by_cases e11_11 : p2 = (11 : Int32)
    · replace hf := (if_pos e11_11).symm.trans hf
      refine lv_tableIn (off := 104) (tgt := 115) hx hb dX12_of_11 (by rw [e11_11]; decide) (by rw [e11_11]; decide) (by rw [e11_11]; rfl) (by decide) ?_
      refine lv_aload_n hx hb dX12_of_115 rfl (lv_at hl 0 rfl) ?_
      refine lv_iload_n hx hb dX12_of_116 rfl (lv_at hl 1 rfl) ?_
      obtain ⟨r117, v_named_117, v_values_117, v_truth_117, hg117, hf⟩ := ob4_some hf
      refine mcV1_i (As := [.int p1]) (rest := []) hx hb hml hown hts hK hP hD hS hA (k_X12_earnsOf l N D cI cJ cZ cB cT h q v_a v_image v_texts v_tape v_taped v_fault v_faultPlace v_at v_place v_token v_number v_word v_text0 v_written v_sort0 v_pile v_piled v_opens v_isWhole v_once v_named v_values v_truth v_isWritten v_died v_aside v_likely v_safe v_headOf p1 r117 v_named_117 v_values_117 v_truth_117 hg117) (kwX12_325 hts rfl rfl ⟨Nat.le_of_ble_eq_true rfl, Nat.le_of_ble_eq_true rfl⟩) 0 rfl rfl rfl rfl hl.1 rfl (Nat.le_of_ble_eq_true rfl) dX12_of_117 ⟨Nat.zero_le _, Nat.zero_le _⟩ (fun hB117 H locs hP hD hS => ?_)
      have hP : va_P D vwCl (WM h q cI cJ cZ v_a v_image v_texts v_tape v_taped v_fault v_faultPlace v_at v_place v_token v_number v_word v_text0 v_written v_sort0 v_pile v_piled v_opens v_isWhole v_once v_named_117 v_values_117 v_truth_117 v_isWritten v_died v_aside v_likely v_safe v_headOf) H := hP
      have hD : va_D A (WM h q cI cJ cZ v_a v_image v_texts v_tape v_taped v_fault v_faultPlace v_at v_place v_token v_number v_word v_text0 v_written v_sort0 v_pile v_piled v_opens v_isWhole v_once v_named_117 v_values_117 v_truth_117 v_isWritten v_died v_aside v_likely v_safe v_headOf) := hD
      cases hf
      exact mret_i hx hb hr hlocks hP hD hS dX12_of_120 rfl trivial
    replace hf := (if_neg e11_11).symm.trans hf
    by_cases e11_12 : p2 = (12 : Int32)
    · replace hf := (if_pos e11_12).symm.trans hf
      refine lv_tableIn (off := 110) (tgt := 121) hx hb dX12_of_11 (by rw [e11_12]; decide) (by rw [e11_12]; decide) (by rw [e11_12]; rfl) (by decide) ?_
      refine lv_aload_n hx hb dX12_of_121 rfl (lv_at hl 0 rfl) ?_
      refine lv_iload_n hx hb dX12_of_122 rfl (lv_at hl 1 rfl) ?_
      refine lv_aload_n hx hb dX12_of_123 rfl (lv_at hl 0 rfl) ?_
      refine lv_iload_n hx hb dX12_of_124 rfl (lv_at hl 1 rfl) ?_
      refine lv_iconst (v := (0 : Int32)) hx hb dX12_of_125 (by decide) ?_
      obtain ⟨r126, hg126, hf⟩ := ob1_some hf
      refine mcV1_i (As := [.int p1, .int (0 : Int32)]) (rest := [.int p1, .ref h]) hx hb hml hown hts hK hP hD hS hA (k_X12_get l N D cI cJ cZ cB cT h q v_a v_image v_texts v_tape v_taped v_fault v_faultPlace v_at v_place v_token v_number v_word v_text0 v_written v_sort0 v_pile v_piled v_opens v_isWhole v_once v_named v_values v_truth v_isWritten v_died v_aside v_likely v_safe v_headOf p1 (0 : Int32) r126 hg126) (kwX12_71 hts rfl rfl ⟨Nat.le_of_ble_eq_true rfl, Nat.le_of_ble_eq_true rfl⟩) 0 rfl rfl rfl rfl hl.1 rfl (Nat.le_of_ble_eq_true rfl) dX12_of_126 ⟨Nat.zero_le _, Nat.zero_le _⟩ (fun hB126 H locs hP hD hS => ?_)
      have hP : va_P D vwCl (WM h q cI cJ cZ v_a v_image v_texts v_tape v_taped v_fault v_faultPlace v_at v_place v_token v_number v_word v_text0 v_written v_sort0 v_pile v_piled v_opens v_isWhole v_once v_named v_values v_truth v_isWritten v_died v_aside v_likely v_safe v_headOf) H := hP
      have hD : va_D A (WM h q cI cJ cZ v_a v_image v_texts v_tape v_taped v_fault v_faultPlace v_at v_place v_token v_number v_word v_text0 v_written v_sort0 v_pile v_piled v_opens v_isWhole v_once v_named v_values v_truth v_isWritten v_died v_aside v_likely v_safe v_headOf) := hD
      obtain ⟨r129, hg129, hf⟩ := ob1_some hf
      refine mcV1_i (As := [.int p1, .int r126]) (rest := []) hx hb hml hown hts hK hP hD hS hA (k_X12_crowdOf l N D cI cJ cZ cB cT h q v_a v_image v_texts v_tape v_taped v_fault v_faultPlace v_at v_place v_token v_number v_word v_text0 v_written v_sort0 v_pile v_piled v_opens v_isWhole v_once v_named v_values v_truth v_isWritten v_died v_aside v_likely v_safe v_headOf p1 r126 r129 hg129) (kwX12_297 hts rfl rfl ⟨Nat.le_of_ble_eq_true rfl, Nat.le_of_ble_eq_true rfl⟩) 0 rfl rfl rfl rfl hl.1 rfl (Nat.le_of_ble_eq_true rfl) dX12_of_129 ⟨Nat.zero_le _, Nat.zero_le _⟩ (fun hB129 H locs hP hD hS => ?_)
      have hP : va_P D vwCl (WM h q cI cJ cZ v_a v_image v_texts v_tape v_taped v_fault v_faultPlace v_at v_place v_token v_number v_word v_text0 v_written v_sort0 v_pile v_piled v_opens v_isWhole v_once v_named v_values v_truth v_isWritten v_died v_aside v_likely v_safe v_headOf) H := hP
      have hD : va_D A (WM h q cI cJ cZ v_a v_image v_texts v_tape v_taped v_fault v_faultPlace v_at v_place v_token v_number v_word v_text0 v_written v_sort0 v_pile v_piled v_opens v_isWhole v_once v_named v_values v_truth v_isWritten v_died v_aside v_likely v_safe v_headOf) := hD
      cases hf
      exact mret_i hx hb hr hlocks hP hD hS dX12_of_132 rfl trivial
    replace hf := (if_neg e11_12).symm.trans hf
    by_cases e11_2 : p2 = (2 : Int32)
    · refine lv_tableIn (off := 122) (tgt := 133) hx hb dX12_of_11 (by rw [e11_2]; decide) (by rw [e11_2]; decide) (by rw [e11_2]; rfl) (by decide) ?_
      exact b133 v_named v_values v_truth p1 p2 _ _ _ hf hP hD hS (lv_sub hl [0, 1, 2] rfl)
    by_cases e11_3 : p2 = (3 : Int32)
    · refine lv_tableIn (off := 122) (tgt := 133) hx hb dX12_of_11 (by rw [e11_3]; decide) (by rw [e11_3]; decide) (by rw [e11_3]; rfl) (by decide) ?_
      exact b133 v_named v_values v_truth p1 p2 _ _ _ hf hP hD hS (lv_sub hl [0, 1, 2] rfl)
    by_cases e11_4 : p2 = (4 : Int32)
    · refine lv_tableIn (off := 122) (tgt := 133) hx hb dX12_of_11 (by rw [e11_4]; decide) (by rw [e11_4]; decide) (by rw [e11_4]; rfl) (by decide) ?_
      exact b133 v_named v_values v_truth p1 p2 _ _ _ hf hP hD hS (lv_sub hl [0, 1, 2] rfl)
    by_cases e11_5 : p2 = (5 : Int32)
    · refine lv_tableIn (off := 122) (tgt := 133) hx hb dX12_of_11 (by rw [e11_5]; decide) (by rw [e11_5]; decide) (by rw [e11_5]; rfl) (by decide) ?_
      exact b133 v_named v_values v_truth p1 p2 _ _ _ hf hP hD hS (lv_sub hl [0, 1, 2] rfl)
    by_cases e11_6 : p2 = (6 : Int32)
    · refine lv_tableIn (off := 122) (tgt := 133) hx hb dX12_of_11 (by rw [e11_6]; decide) (by rw [e11_6]; decide) (by rw [e11_6]; rfl) (by decide) ?_
      exact b133 v_named v_values v_truth p1 p2 _ _ _ hf hP hD hS (lv_sub hl [0, 1, 2] rfl)
    by_cases e11_7 : p2 = (7 : Int32)
    · refine lv_tableIn (off := 122) (tgt := 133) hx hb dX12_of_11 (by rw [e11_7]; decide) (by rw [e11_7]; decide) (by rw [e11_7]; rfl) (by decide) ?_
      exact b133 v_named v_values v_truth p1 p2 _ _ _ hf hP hD hS (lv_sub hl [0, 1, 2] rfl)
    have ne11_0 : p2.toInt ≠ (0 : Int) := sw_ne e11_0
    have ne11_1 : p2.toInt ≠ (1 : Int) := sw_ne e11_1
    have ne11_2 : p2.toInt ≠ (2 : Int) := sw_ne e11_2
    have ne11_3 : p2.toInt ≠ (3 : Int) := sw_ne e11_3
    have ne11_4 : p2.toInt ≠ (4 : Int) := sw_ne e11_4
    have ne11_5 : p2.toInt ≠ (5 : Int) := sw_ne e11_5
    have ne11_6 : p2.toInt ≠ (6 : Int) := sw_ne e11_6
    have ne11_7 : p2.toInt ≠ (7 : Int) := sw_ne e11_7
    have ne11_8 : p2.toInt ≠ (8 : Int) := sw_ne e11_8
    have ne11_9 : p2.toInt ≠ (9 : Int) := sw_ne e11_9
    have ne11_10 : p2.toInt ≠ (10 : Int) := sw_ne e11_10
    have ne11_11 : p2.toInt ≠ (11 : Int) := sw_ne e11_11
    have ne11_12 : p2.toInt ≠ (12 : Int) := sw_ne e11_12
    refine lv_tableOut (tgt := 133) hx hb dX12_of_11 (by omega) (by decide) ?_
    exact b133 v_named v_values v_truth p1 p2 _ _ _ hf hP hD hS (lv_sub hl [0, 1, 2] rfl)
