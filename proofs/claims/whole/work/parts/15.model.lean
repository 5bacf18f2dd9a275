theorem dX12_crowd_0 : decode cX12_crowd 0 = .ok (.iload_n 1, 1) := by decide +kernel
theorem dX12_crowd_1 : decode cX12_crowd 1 = .ok (.iconst (-1), 1) := by decide +kernel
theorem dX12_crowd_2 : decode cX12_crowd 2 = .ok (.if_icmp .ne 12, 3) := by decide +kernel
theorem dX12_crowd_5 : decode cX12_crowd 5 = .ok (.aload_n 0, 1) := by decide +kernel
theorem dX12_crowd_6 : decode cX12_crowd 6 = .ok (.getfield 7, 3) := by decide +kernel
theorem dX12_crowd_9 : decode cX12_crowd 9 = .ok (.iconst 5, 1) := by decide +kernel
theorem dX12_crowd_10 : decode cX12_crowd 10 = .ok (.iconst 0, 1) := by decide +kernel
theorem dX12_crowd_11 : decode cX12_crowd 11 = .ok (.iastore, 1) := by decide +kernel
theorem dX12_crowd_12 : decode cX12_crowd 12 = .ok (.iconst 0, 1) := by decide +kernel
theorem dX12_crowd_13 : decode cX12_crowd 13 = .ok (.ireturn, 1) := by decide +kernel
theorem dX12_crowd_14 : decode cX12_crowd 14 = .ok (.aload_n 0, 1) := by decide +kernel
theorem dX12_crowd_15 : decode cX12_crowd 15 = .ok (.iload_n 1, 1) := by decide +kernel
theorem dX12_crowd_16 : decode cX12_crowd 16 = .ok (.invokevirtual 75, 3) := by decide +kernel
theorem dX12_crowd_19 : decode cX12_crowd 19 = .ok (.ifCond .eq 13, 3) := by decide +kernel
theorem dX12_crowd_22 : decode cX12_crowd 22 = .ok (.aload_n 0, 1) := by decide +kernel
theorem dX12_crowd_23 : decode cX12_crowd 23 = .ok (.getfield 7, 3) := by decide +kernel
theorem dX12_crowd_26 : decode cX12_crowd 26 = .ok (.iconst 5, 1) := by decide +kernel
theorem dX12_crowd_27 : decode cX12_crowd 27 = .ok (.iaload, 1) := by decide +kernel
theorem dX12_crowd_28 : decode cX12_crowd 28 = .ok (.iconst 5, 1) := by decide +kernel
theorem dX12_crowd_29 : decode cX12_crowd 29 = .ok (.if_icmp .ne 6, 3) := by decide +kernel
theorem dX12_crowd_32 : decode cX12_crowd 32 = .ok (.bipush (-2), 2) := by decide +kernel
theorem dX12_crowd_34 : decode cX12_crowd 34 = .ok (.ireturn, 1) := by decide +kernel
theorem dX12_crowd_35 : decode cX12_crowd 35 = .ok (.aload_n 0, 1) := by decide +kernel
theorem dX12_crowd_36 : decode cX12_crowd 36 = .ok (.getfield 7, 3) := by decide +kernel
theorem dX12_crowd_39 : decode cX12_crowd 39 = .ok (.bipush 96, 2) := by decide +kernel
theorem dX12_crowd_41 : decode cX12_crowd 41 = .ok (.aload_n 0, 1) := by decide +kernel
theorem dX12_crowd_42 : decode cX12_crowd 42 = .ok (.getfield 7, 3) := by decide +kernel
theorem dX12_crowd_45 : decode cX12_crowd 45 = .ok (.iconst 5, 1) := by decide +kernel
theorem dX12_crowd_46 : decode cX12_crowd 46 = .ok (.iaload, 1) := by decide +kernel
theorem dX12_crowd_47 : decode cX12_crowd 47 = .ok (.iadd, 1) := by decide +kernel
theorem dX12_crowd_48 : decode cX12_crowd 48 = .ok (.iload_n 1, 1) := by decide +kernel
theorem dX12_crowd_49 : decode cX12_crowd 49 = .ok (.iastore, 1) := by decide +kernel
theorem dX12_crowd_50 : decode cX12_crowd 50 = .ok (.aload_n 0, 1) := by decide +kernel
theorem dX12_crowd_51 : decode cX12_crowd 51 = .ok (.getfield 7, 3) := by decide +kernel
theorem dX12_crowd_54 : decode cX12_crowd 54 = .ok (.iconst 5, 1) := by decide +kernel
theorem dX12_crowd_55 : decode cX12_crowd 55 = .ok (.dup2, 1) := by decide +kernel
theorem dX12_crowd_56 : decode cX12_crowd 56 = .ok (.iaload, 1) := by decide +kernel
theorem dX12_crowd_57 : decode cX12_crowd 57 = .ok (.iconst 1, 1) := by decide +kernel
theorem dX12_crowd_58 : decode cX12_crowd 58 = .ok (.iadd, 1) := by decide +kernel
theorem dX12_crowd_59 : decode cX12_crowd 59 = .ok (.iastore, 1) := by decide +kernel
theorem dX12_crowd_60 : decode cX12_crowd 60 = .ok (.aload_n 0, 1) := by decide +kernel
theorem dX12_crowd_61 : decode cX12_crowd 61 = .ok (.getfield 7, 3) := by decide +kernel
theorem dX12_crowd_64 : decode cX12_crowd 64 = .ok (.iconst 5, 1) := by decide +kernel
theorem dX12_crowd_65 : decode cX12_crowd 65 = .ok (.iaload, 1) := by decide +kernel
theorem dX12_crowd_66 : decode cX12_crowd 66 = .ok (.ireturn, 1) := by decide +kernel
def f_X12_crowd (N : Nat) (v_a : Nat → Int32) (p1 : Int32) : Option (Int32 × (Nat → Int32)) := if p1 = (-1 : Int32) then (sA v_a 8762 (5 : Int32) (0 : Int32) fun v_a_11 => some ((0 : Int32), v_a_11)) else (ob1 (f_X12_isLand N v_a p1) fun r16 => if r16 = 0 then (some ((-2 : Int32), v_a)) else (gA v_a 8762 (5 : Int32) fun v27 => if v27 = (5 : Int32) then (some ((-2 : Int32), v_a)) else (gA v_a 8762 (5 : Int32) fun v46 => sA v_a 8762 ((96 : Int32) + v46) p1 fun v_a_49 => gA v_a_49 8762 (5 : Int32) fun v56 => sA v_a_49 8762 (5 : Int32) (v56 + (1 : Int32)) fun v_a_59 => gA v_a_59 8762 (5 : Int32) fun v65 => some (v65, v_a_59))))
set_option maxHeartbeats 4000000 in
set_option maxRecDepth 100000 in
theorem k_X12_crowd (l : Launch) (N : Nat) (D : va_G) (cI cJ cZ cB cT : ClassId) (h : Nat) (q : Nat → Nat) (v_a : Nat → Int32) (v_image : Nat → Int32) (v_texts : Nat → Int32) (v_tape : Nat → Int32) (v_taped : Int32) (v_fault : Int32) (v_faultPlace : Int32) (v_at : Int32) (v_place : Int32) (v_token : Int32) (v_number : Int32) (v_word : Int64) (v_text0 : Int32) (v_written : Int32) (v_sort0 : Int32) (v_pile : Nat → Int32) (v_piled : Int32) (v_opens : Int32) (v_isWhole : Int32) (v_once : Int32) (v_named : Nat → Int32) (v_values : Nat → Int64) (v_truth : Nat → Int32) (v_isWritten : Int32) (v_died : Int32) (v_aside : Nat → Int32) (v_likely : Nat → Int32) (v_safe : Nat → Int32) (v_headOf : Nat → Int32) (p1 : Int32) (o_r : Int32) (o_v_a : Nat → Int32) (hf : f_X12_crowd N v_a p1 = some (o_r, o_v_a)) : ∀ sz, Met l yX12_crowd (mw yX12_crowd cX12_crowd 2 (some .int)) ({ frames := 2, cells := 0, slots := 0, locals := 43 } : Room) (mPre D (mT cI cJ cZ cB cT) (WM h q cI cJ cZ v_a v_image v_texts v_tape v_taped v_fault v_faultPlace v_at v_place v_token v_number v_word v_text0 v_written v_sort0 v_pile v_piled v_opens v_isWhole v_once v_named v_values v_truth v_isWritten v_died v_aside v_likely v_safe v_headOf) sz [.ref h, .int p1]) ((mQi D (WM h q cI cJ cZ o_v_a v_image v_texts v_tape v_taped v_fault v_faultPlace v_at v_place v_token v_number v_word v_text0 v_written v_sort0 v_pile v_piled v_opens v_isWhole v_once v_named v_values v_truth v_isWritten v_died v_aside v_likely v_safe v_headOf) o_r True) (va_A (WM h q cI cJ cZ v_a v_image v_texts v_tape v_taped v_fault v_faultPlace v_at v_place v_token v_number v_word v_text0 v_written v_sort0 v_pile v_piled v_opens v_isWhole v_once v_named v_values v_truth v_isWritten v_died v_aside v_likely v_safe v_headOf) sz)) 0 0 (va_A (WM h q cI cJ cZ v_a v_image v_texts v_tape v_taped v_fault v_faultPlace v_at v_place v_token v_number v_word v_text0 v_written v_sort0 v_pile v_piled v_opens v_isWhole v_once v_named v_values v_truth v_isWritten v_died v_aside v_likely v_safe v_headOf) sz) := by
  refine mMet (Qc := (mQi D (WM h q cI cJ cZ o_v_a v_image v_texts v_tape v_taped v_fault v_faultPlace v_at v_place v_token v_number v_word v_text0 v_written v_sort0 v_pile v_piled v_opens v_isWhole v_once v_named v_values v_truth v_isWritten v_died v_aside v_likely v_safe v_headOf) o_r True)) (by decide) (Nat.le_of_ble_eq_true rfl) (fun p e s m below meth c A ls hx hb hr hml hts hown hlocks hK hA hP hD hl => ?_)
  have hown : s.vm.findClass RX12 = some m.cls := hown
  have hl : lv_has ls 2 [(0, .ref h), (1, .int p1)] := hl
  have hS : va_S A s.heap s.heap [] := va_S.rf
  unfold f_X12_crowd at hf
  refine lv_iload_n hx hb dX12_crowd_0 rfl (lv_at hl 1 rfl) ?_
  refine lv_iconst (v := (-1 : Int32)) hx hb dX12_crowd_1 (by decide) ?_
  refine xicmp_ne hx hb 14 dX12_crowd_2 (by decide) hf (fun hf => ?_) (fun hf => ?_)
  · refine lv_aload_n hx hb dX12_crowd_5 rfl (lv_at hl 0 rfl) ?_
    refine gfX12_7 hx hb hts hown hK hP 0 rfl rfl dX12_crowd_6 ?_
    refine lv_iconst (v := (5 : Int32)) hx hb dX12_crowd_9 (by decide) ?_
    refine lv_iconst (v := (0 : Int32)) hx hb dX12_crowd_10 (by decide) ?_
    refine xiast hx hb hK hP hD hS 1 0 rfl rfl dX12_crowd_11 hf (fun v_a_11 hf H locs hP hD hS => ?_)
    have hP : va_P D vwCl (WM h q cI cJ cZ v_a_11 v_image v_texts v_tape v_taped v_fault v_faultPlace v_at v_place v_token v_number v_word v_text0 v_written v_sort0 v_pile v_piled v_opens v_isWhole v_once v_named v_values v_truth v_isWritten v_died v_aside v_likely v_safe v_headOf) H := hP
    have hD : va_D A (WM h q cI cJ cZ v_a_11 v_image v_texts v_tape v_taped v_fault v_faultPlace v_at v_place v_token v_number v_word v_text0 v_written v_sort0 v_pile v_piled v_opens v_isWhole v_once v_named v_values v_truth v_isWritten v_died v_aside v_likely v_safe v_headOf) := hD
    refine lv_iconst (v := (0 : Int32)) hx hb dX12_crowd_12 (by decide) ?_
    cases hf
    exact mret_i hx hb hr hlocks hP hD hS dX12_crowd_13 rfl trivial
  · refine lv_aload_n hx hb dX12_crowd_14 rfl (lv_at hl 0 rfl) ?_
    refine lv_iload_n hx hb dX12_crowd_15 rfl (lv_at hl 1 rfl) ?_
    obtain ⟨r16, hg16, hf⟩ := ob1_some hf
    refine mcV1_i (As := [.int p1]) (rest := []) hx hb hml hown hts hK hP hD hS hA (k_X12_isLand l N D cI cJ cZ cB cT h q v_a v_image v_texts v_tape v_taped v_fault v_faultPlace v_at v_place v_token v_number v_word v_text0 v_written v_sort0 v_pile v_piled v_opens v_isWhole v_once v_named v_values v_truth v_isWritten v_died v_aside v_likely v_safe v_headOf p1 r16 hg16) (kwX12_75 hts rfl rfl ⟨Nat.le_of_ble_eq_true rfl, Nat.le_of_ble_eq_true rfl⟩) 0 rfl rfl rfl rfl hl.1 rfl (Nat.le_of_ble_eq_true rfl) dX12_crowd_16 ⟨Nat.zero_le _, Nat.zero_le _⟩ (fun hB16 H locs hP hD hS => ?_)
    have hP : va_P D vwCl (WM h q cI cJ cZ v_a v_image v_texts v_tape v_taped v_fault v_faultPlace v_at v_place v_token v_number v_word v_text0 v_written v_sort0 v_pile v_piled v_opens v_isWhole v_once v_named v_values v_truth v_isWritten v_died v_aside v_likely v_safe v_headOf) H := hP
    have hD : va_D A (WM h q cI cJ cZ v_a v_image v_texts v_tape v_taped v_fault v_faultPlace v_at v_place v_token v_number v_word v_text0 v_written v_sort0 v_pile v_piled v_opens v_isWhole v_once v_named v_values v_truth v_isWritten v_died v_aside v_likely v_safe v_headOf) := hD
    refine xif_eq hx hb 32 dX12_crowd_19 (by decide) hf (fun hf => ?_) (fun hf => ?_)
    · refine lv_bipush (v := (-2 : Int32)) hx hb dX12_crowd_32 (by decide) ?_
      cases hf
      exact mret_i hx hb hr hlocks hP hD hS dX12_crowd_34 rfl trivial
    · refine lv_aload_n hx hb dX12_crowd_22 rfl (lv_at hl 0 rfl) ?_
      refine gfX12_7 hx hb hts hown hK hP 0 rfl rfl dX12_crowd_23 ?_
      refine lv_iconst (v := (5 : Int32)) hx hb dX12_crowd_26 (by decide) ?_
      refine xiald hx hb hK hP 1 0 rfl rfl dX12_crowd_27 hf (fun v27 hf => ?_)
      refine lv_iconst (v := (5 : Int32)) hx hb dX12_crowd_28 (by decide) ?_
      refine xicmp_ne hx hb 35 dX12_crowd_29 (by decide) hf (fun hf => ?_) (fun hf => ?_)
      · refine lv_bipush (v := (-2 : Int32)) hx hb dX12_crowd_32 (by decide) ?_
        cases hf
        exact mret_i hx hb hr hlocks hP hD hS dX12_crowd_34 rfl trivial
      · refine lv_aload_n hx hb dX12_crowd_35 rfl (lv_at hl 0 rfl) ?_
        refine gfX12_7 hx hb hts hown hK hP 0 rfl rfl dX12_crowd_36 ?_
        refine lv_bipush (v := (96 : Int32)) hx hb dX12_crowd_39 (by decide) ?_
        refine lv_aload_n hx hb dX12_crowd_41 rfl (lv_at hl 0 rfl) ?_
        refine gfX12_7 hx hb hts hown hK hP 0 rfl rfl dX12_crowd_42 ?_
        refine lv_iconst (v := (5 : Int32)) hx hb dX12_crowd_45 (by decide) ?_
        refine xiald hx hb hK hP 1 0 rfl rfl dX12_crowd_46 hf (fun v46 hf => ?_)
        refine lv_iadd hx hb dX12_crowd_47 ?_
        refine lv_iload_n hx hb dX12_crowd_48 rfl (lv_at hl 1 rfl) ?_
        refine xiast hx hb hK hP hD hS 1 0 rfl rfl dX12_crowd_49 hf (fun v_a_49 hf H locs hP hD hS => ?_)
        have hP : va_P D vwCl (WM h q cI cJ cZ v_a_49 v_image v_texts v_tape v_taped v_fault v_faultPlace v_at v_place v_token v_number v_word v_text0 v_written v_sort0 v_pile v_piled v_opens v_isWhole v_once v_named v_values v_truth v_isWritten v_died v_aside v_likely v_safe v_headOf) H := hP
        have hD : va_D A (WM h q cI cJ cZ v_a_49 v_image v_texts v_tape v_taped v_fault v_faultPlace v_at v_place v_token v_number v_word v_text0 v_written v_sort0 v_pile v_piled v_opens v_isWhole v_once v_named v_values v_truth v_isWritten v_died v_aside v_likely v_safe v_headOf) := hD
        refine lv_aload_n hx hb dX12_crowd_50 rfl (lv_at hl 0 rfl) ?_
        refine gfX12_7 hx hb hts hown hK hP 0 rfl rfl dX12_crowd_51 ?_
        refine lv_iconst (v := (5 : Int32)) hx hb dX12_crowd_54 (by decide) ?_
        refine lv_dup2_11 hx hb dX12_crowd_55 rfl rfl ?_
        refine xiald hx hb hK hP 1 0 rfl rfl dX12_crowd_56 hf (fun v56 hf => ?_)
        refine lv_iconst (v := (1 : Int32)) hx hb dX12_crowd_57 (by decide) ?_
        refine lv_iadd hx hb dX12_crowd_58 ?_
        refine xiast hx hb hK hP hD hS 1 0 rfl rfl dX12_crowd_59 hf (fun v_a_59 hf H locs hP hD hS => ?_)
        have hP : va_P D vwCl (WM h q cI cJ cZ v_a_59 v_image v_texts v_tape v_taped v_fault v_faultPlace v_at v_place v_token v_number v_word v_text0 v_written v_sort0 v_pile v_piled v_opens v_isWhole v_once v_named v_values v_truth v_isWritten v_died v_aside v_likely v_safe v_headOf) H := hP
        have hD : va_D A (WM h q cI cJ cZ v_a_59 v_image v_texts v_tape v_taped v_fault v_faultPlace v_at v_place v_token v_number v_word v_text0 v_written v_sort0 v_pile v_piled v_opens v_isWhole v_once v_named v_values v_truth v_isWritten v_died v_aside v_likely v_safe v_headOf) := hD
        refine lv_aload_n hx hb dX12_crowd_60 rfl (lv_at hl 0 rfl) ?_
        refine gfX12_7 hx hb hts hown hK hP 0 rfl rfl dX12_crowd_61 ?_
        refine lv_iconst (v := (5 : Int32)) hx hb dX12_crowd_64 (by decide) ?_
        refine xiald hx hb hK hP 1 0 rfl rfl dX12_crowd_65 hf (fun v65 hf => ?_)
        cases hf
        exact mret_i hx hb hr hlocks hP hD hS dX12_crowd_66 rfl trivial
theorem dX12_wasAt_0 : decode cX12_wasAt 0 = .ok (.iload_n 2, 1) := by decide +kernel
theorem dX12_wasAt_1 : decode cX12_wasAt 1 = .ok (.istore_n 3, 1) := by decide +kernel
theorem dX12_wasAt_2 : decode cX12_wasAt 2 = .ok (.aload_n 0, 1) := by decide +kernel
theorem dX12_wasAt_3 : decode cX12_wasAt 3 = .ok (.getfield 7, 3) := by decide +kernel
theorem dX12_wasAt_6 : decode cX12_wasAt 6 = .ok (.bipush 96, 2) := by decide +kernel
theorem dX12_wasAt_8 : decode cX12_wasAt 8 = .ok (.iaload, 1) := by decide +kernel
theorem dX12_wasAt_9 : decode cX12_wasAt 9 = .ok (.iload_n 2, 1) := by decide +kernel
theorem dX12_wasAt_10 : decode cX12_wasAt 10 = .ok (.if_icmp .ne 7, 3) := by decide +kernel
theorem dX12_wasAt_13 : decode cX12_wasAt 13 = .ok (.iconst 1, 1) := by decide +kernel
theorem dX12_wasAt_14 : decode cX12_wasAt 14 = .ok (.goto 4, 3) := by decide +kernel
theorem dX12_wasAt_17 : decode cX12_wasAt 17 = .ok (.iconst 0, 1) := by decide +kernel
theorem dX12_wasAt_18 : decode cX12_wasAt 18 = .ok (.istore 4, 2) := by decide +kernel
theorem dX12_wasAt_20 : decode cX12_wasAt 20 = .ok (.iload_n 1, 1) := by decide +kernel
theorem dX12_wasAt_21 : decode cX12_wasAt 21 = .ok (.istore 5, 2) := by decide +kernel
theorem dX12_wasAt_23 : decode cX12_wasAt 23 = .ok (.iconst 1, 1) := by decide +kernel
theorem dX12_wasAt_24 : decode cX12_wasAt 24 = .ok (.istore 6, 2) := by decide +kernel
theorem dX12_wasAt_26 : decode cX12_wasAt 26 = .ok (.iload 6, 2) := by decide +kernel
theorem dX12_wasAt_28 : decode cX12_wasAt 28 = .ok (.aload_n 0, 1) := by decide +kernel
theorem dX12_wasAt_29 : decode cX12_wasAt 29 = .ok (.getfield 7, 3) := by decide +kernel
theorem dX12_wasAt_32 : decode cX12_wasAt 32 = .ok (.iconst 5, 1) := by decide +kernel
theorem dX12_wasAt_33 : decode cX12_wasAt 33 = .ok (.iaload, 1) := by decide +kernel
theorem dX12_wasAt_34 : decode cX12_wasAt 34 = .ok (.if_icmp .ge 77, 3) := by decide +kernel
theorem dX12_wasAt_37 : decode cX12_wasAt 37 = .ok (.iload 5, 2) := by decide +kernel
theorem dX12_wasAt_39 : decode cX12_wasAt 39 = .ok (.bipush 8, 2) := by decide +kernel
theorem dX12_wasAt_41 : decode cX12_wasAt 41 = .ok (.irem, 1) := by decide +kernel
theorem dX12_wasAt_42 : decode cX12_wasAt 42 = .ok (.istore 7, 2) := by decide +kernel
theorem dX12_wasAt_44 : decode cX12_wasAt 44 = .ok (.iload 5, 2) := by decide +kernel
theorem dX12_wasAt_46 : decode cX12_wasAt 46 = .ok (.bipush 8, 2) := by decide +kernel
theorem dX12_wasAt_48 : decode cX12_wasAt 48 = .ok (.idiv, 1) := by decide +kernel
theorem dX12_wasAt_49 : decode cX12_wasAt 49 = .ok (.istore 5, 2) := by decide +kernel
theorem dX12_wasAt_51 : decode cX12_wasAt 51 = .ok (.aload_n 0, 1) := by decide +kernel
theorem dX12_wasAt_52 : decode cX12_wasAt 52 = .ok (.iload 7, 2) := by decide +kernel
theorem dX12_wasAt_54 : decode cX12_wasAt 54 = .ok (.invokevirtual 75, 3) := by decide +kernel
theorem dX12_wasAt_57 : decode cX12_wasAt 57 = .ok (.ifCond .eq 16, 3) := by decide +kernel
theorem dX12_wasAt_60 : decode cX12_wasAt 60 = .ok (.aload_n 0, 1) := by decide +kernel
theorem dX12_wasAt_61 : decode cX12_wasAt 61 = .ok (.iload_n 3, 1) := by decide +kernel
theorem dX12_wasAt_62 : decode cX12_wasAt 62 = .ok (.invokevirtual 436, 3) := by decide +kernel
theorem dX12_wasAt_65 : decode cX12_wasAt 65 = .ok (.iload 7, 2) := by decide +kernel
theorem dX12_wasAt_67 : decode cX12_wasAt 67 = .ok (.invokestatic 78, 3) := by decide +kernel
theorem dX12_wasAt_70 : decode cX12_wasAt 70 = .ok (.ifCond .ne 5, 3) := by decide +kernel
theorem dX12_wasAt_73 : decode cX12_wasAt 73 = .ok (.iconst (-1), 1) := by decide +kernel
theorem dX12_wasAt_74 : decode cX12_wasAt 74 = .ok (.ireturn, 1) := by decide +kernel
theorem dX12_wasAt_75 : decode cX12_wasAt 75 = .ok (.iload 7, 2) := by decide +kernel
theorem dX12_wasAt_77 : decode cX12_wasAt 77 = .ok (.istore_n 3, 1) := by decide +kernel
theorem dX12_wasAt_78 : decode cX12_wasAt 78 = .ok (.iload 4, 2) := by decide +kernel
theorem dX12_wasAt_80 : decode cX12_wasAt 80 = .ok (.aload_n 0, 1) := by decide +kernel
theorem dX12_wasAt_81 : decode cX12_wasAt 81 = .ok (.getfield 7, 3) := by decide +kernel
theorem dX12_wasAt_84 : decode cX12_wasAt 84 = .ok (.bipush 96, 2) := by decide +kernel
theorem dX12_wasAt_86 : decode cX12_wasAt 86 = .ok (.iload 6, 2) := by decide +kernel
theorem dX12_wasAt_88 : decode cX12_wasAt 88 = .ok (.iadd, 1) := by decide +kernel
theorem dX12_wasAt_89 : decode cX12_wasAt 89 = .ok (.iaload, 1) := by decide +kernel
theorem dX12_wasAt_90 : decode cX12_wasAt 90 = .ok (.iload_n 3, 1) := by decide +kernel
theorem dX12_wasAt_91 : decode cX12_wasAt 91 = .ok (.if_icmp .ne 10, 3) := by decide +kernel
theorem dX12_wasAt_94 : decode cX12_wasAt 94 = .ok (.iconst 1, 1) := by decide +kernel
theorem dX12_wasAt_95 : decode cX12_wasAt 95 = .ok (.iload 6, 2) := by decide +kernel
theorem dX12_wasAt_97 : decode cX12_wasAt 97 = .ok (.ishl, 1) := by decide +kernel
theorem dX12_wasAt_98 : decode cX12_wasAt 98 = .ok (.goto 4, 3) := by decide +kernel
theorem dX12_wasAt_101 : decode cX12_wasAt 101 = .ok (.iconst 0, 1) := by decide +kernel
theorem dX12_wasAt_102 : decode cX12_wasAt 102 = .ok (.ior, 1) := by decide +kernel
theorem dX12_wasAt_103 : decode cX12_wasAt 103 = .ok (.istore 4, 2) := by decide +kernel
theorem dX12_wasAt_105 : decode cX12_wasAt 105 = .ok (.iinc 6 1, 3) := by decide +kernel
theorem dX12_wasAt_108 : decode cX12_wasAt 108 = .ok (.goto (-82), 3) := by decide +kernel
theorem dX12_wasAt_111 : decode cX12_wasAt 111 = .ok (.iload 4, 2) := by decide +kernel
theorem dX12_wasAt_113 : decode cX12_wasAt 113 = .ok (.ireturn, 1) := by decide +kernel
def f_X12_wasAt_102 (N : Nat) (k_26 : (Nat → Int32) → Int32 → Int32 → Int32 → Int32 → Option (Int32)) (v_a : Nat → Int32) (x3 : Int32) (x5 : Int32) (x6 : Int32) (s0 : Int32) (s1 : Int32) : Option (Int32) := k_26 v_a x3 (s0 ||| s1) x5 (x6 + (1 : Int32))
def f_X12_wasAt_26 (N : Nat) : Nat → (Nat → Int32) → Int32 → Int32 → Int32 → Int32 → Option (Int32)
  | 0, _, _, _, _, _ => none
  | n + 1, v_a, x3, x4, x5, x6 => gA v_a 8762 (5 : Int32) fun v33 => if v33 ≤ x6 then (some x4) else (rmI x5 (8 : Int32) fun v41 => dvI x5 (8 : Int32) fun v48 => ob1 (f_X12_isLand N v_a v41) fun r54 => if r54 = 0 then (some (-1 : Int32)) else (ob1 (f_X12_reachOf N v_a x3) fun r62 => ob1 (f_X12_isWith N r62 v41) fun r67 => if r67 = 0 then (some (-1 : Int32)) else (gA v_a 8762 ((96 : Int32) + x6) fun v89 => if v89 = v41 then (f_X12_wasAt_102 N (f_X12_wasAt_26 N n) v_a v41 v48 x6 x4 ((1 : Int32) <<< (x6 &&& 31))) else (f_X12_wasAt_102 N (f_X12_wasAt_26 N n) v_a v41 v48 x6 x4 (0 : Int32)))))
def f_X12_wasAt_18 (N : Nat) (v_a : Nat → Int32) (x1 : Int32) (x3 : Int32) (s0 : Int32) : Option (Int32) := f_X12_wasAt_26 N N v_a x3 s0 x1 (1 : Int32)
def f_X12_wasAt (N : Nat) (v_a : Nat → Int32) (p1 : Int32) (p2 : Int32) : Option (Int32) := gA v_a 8762 (96 : Int32) fun v8 => if v8 = p2 then (f_X12_wasAt_18 N v_a p1 p2 (1 : Int32)) else (f_X12_wasAt_18 N v_a p1 p2 (0 : Int32))
set_option maxHeartbeats 4000000 in
set_option maxRecDepth 100000 in
theorem k_X12_wasAt (l : Launch) (N : Nat) (D : va_G) (cI cJ cZ cB cT : ClassId) (h : Nat) (q : Nat → Nat) (v_a : Nat → Int32) (v_image : Nat → Int32) (v_texts : Nat → Int32) (v_tape : Nat → Int32) (v_taped : Int32) (v_fault : Int32) (v_faultPlace : Int32) (v_at : Int32) (v_place : Int32) (v_token : Int32) (v_number : Int32) (v_word : Int64) (v_text0 : Int32) (v_written : Int32) (v_sort0 : Int32) (v_pile : Nat → Int32) (v_piled : Int32) (v_opens : Int32) (v_isWhole : Int32) (v_once : Int32) (v_named : Nat → Int32) (v_values : Nat → Int64) (v_truth : Nat → Int32) (v_isWritten : Int32) (v_died : Int32) (v_aside : Nat → Int32) (v_likely : Nat → Int32) (v_safe : Nat → Int32) (v_headOf : Nat → Int32) (p1 : Int32) (p2 : Int32) (o_r : Int32) (hf : f_X12_wasAt N v_a p1 p2 = some o_r) : ∀ sz, Met l yX12_wasAt (mw yX12_wasAt cX12_wasAt 8 (some .int)) ({ frames := 2, cells := 0, slots := 0, locals := 43 } : Room) (mPre D (mT cI cJ cZ cB cT) (WM h q cI cJ cZ v_a v_image v_texts v_tape v_taped v_fault v_faultPlace v_at v_place v_token v_number v_word v_text0 v_written v_sort0 v_pile v_piled v_opens v_isWhole v_once v_named v_values v_truth v_isWritten v_died v_aside v_likely v_safe v_headOf) sz [.ref h, .int p1, .int p2]) ((mQi D (WM h q cI cJ cZ v_a v_image v_texts v_tape v_taped v_fault v_faultPlace v_at v_place v_token v_number v_word v_text0 v_written v_sort0 v_pile v_piled v_opens v_isWhole v_once v_named v_values v_truth v_isWritten v_died v_aside v_likely v_safe v_headOf) o_r True) (va_A (WM h q cI cJ cZ v_a v_image v_texts v_tape v_taped v_fault v_faultPlace v_at v_place v_token v_number v_word v_text0 v_written v_sort0 v_pile v_piled v_opens v_isWhole v_once v_named v_values v_truth v_isWritten v_died v_aside v_likely v_safe v_headOf) sz)) 0 0 (va_A (WM h q cI cJ cZ v_a v_image v_texts v_tape v_taped v_fault v_faultPlace v_at v_place v_token v_number v_word v_text0 v_written v_sort0 v_pile v_piled v_opens v_isWhole v_once v_named v_values v_truth v_isWritten v_died v_aside v_likely v_safe v_headOf) sz) := by
  refine mMet (Qc := (mQi D (WM h q cI cJ cZ v_a v_image v_texts v_tape v_taped v_fault v_faultPlace v_at v_place v_token v_number v_word v_text0 v_written v_sort0 v_pile v_piled v_opens v_isWhole v_once v_named v_values v_truth v_isWritten v_died v_aside v_likely v_safe v_headOf) o_r True)) (by decide) (Nat.le_of_ble_eq_true rfl) (fun p e s m below meth c A ls hx hb hr hml hts hown hlocks hK hA hP hD hl => ?_)
  have hown : s.vm.findClass RX12 = some m.cls := hown
  have hl : lv_has ls 8 [(0, .ref h), (1, .int p1), (2, .int p2)] := hl
  have hS : va_S A s.heap s.heap [] := va_S.rf
  have b26 : ∀ n26 : Nat, ∀ (x3 : Int32) (x4 : Int32) (x5 : Int32) (x6 : Int32) (H : Heap) (locs : List Loc) (ls : Array Slot), f_X12_wasAt_26 N n26 v_a x3 x4 x5 x6 = some o_r → va_P D vwCl (WM h q cI cJ cZ v_a v_image v_texts v_tape v_taped v_fault v_faultPlace v_at v_place v_token v_number v_word v_text0 v_written v_sort0 v_pile v_piled v_opens v_isWhole v_once v_named v_values v_truth v_isWritten v_died v_aside v_likely v_safe v_headOf) H → va_D A (WM h q cI cJ cZ v_a v_image v_texts v_tape v_taped v_fault v_faultPlace v_at v_place v_token v_number v_word v_text0 v_written v_sort0 v_pile v_piled v_opens v_isWhole v_once v_named v_values v_truth v_isWritten v_died v_aside v_likely v_safe v_headOf) → va_S A s.heap H locs → lv_has ls 8 [(0, .ref h), (3, .int x3), (4, .int x4), (5, .int x5), (6, .int x6)] → W p l e ({ frames := 2, cells := 0, slots := 0, locals := 43 } : Room) s m ([.ref h, .int p1, .int p2] : List Value).toArray below meth c H locs 0 0 (MQ below ((mQi D (WM h q cI cJ cZ v_a v_image v_texts v_tape v_taped v_fault v_faultPlace v_at v_place v_token v_number v_word v_text0 v_written v_sort0 v_pile v_piled v_opens v_isWhole v_once v_named v_values v_truth v_isWritten v_died v_aside v_likely v_safe v_headOf) o_r True) A) ([.ref h, .int p1, .int p2] : List Value).toArray s 0 0 A) (F0 m 26 ls []) := by
    intro n26
    induction n26 with
    | zero =>
      intro x3 x4 x5 x6 H locs ls hf hP hD hS hl
      simp [f_X12_wasAt_26] at hf
    | succ n26 ih26 =>
      have b102 : ∀ (x3 : Int32) (x5 : Int32) (x6 : Int32) (s0 : Int32) (s1 : Int32) (H : Heap) (locs : List Loc) (ls : Array Slot), f_X12_wasAt_102 N (f_X12_wasAt_26 N n26) v_a x3 x5 x6 s0 s1 = some o_r → va_P D vwCl (WM h q cI cJ cZ v_a v_image v_texts v_tape v_taped v_fault v_faultPlace v_at v_place v_token v_number v_word v_text0 v_written v_sort0 v_pile v_piled v_opens v_isWhole v_once v_named v_values v_truth v_isWritten v_died v_aside v_likely v_safe v_headOf) H → va_D A (WM h q cI cJ cZ v_a v_image v_texts v_tape v_taped v_fault v_faultPlace v_at v_place v_token v_number v_word v_text0 v_written v_sort0 v_pile v_piled v_opens v_isWhole v_once v_named v_values v_truth v_isWritten v_died v_aside v_likely v_safe v_headOf) → va_S A s.heap H locs → lv_has ls 8 [(0, .ref h), (3, .int x3), (5, .int x5), (6, .int x6)] → W p l e ({ frames := 2, cells := 0, slots := 0, locals := 43 } : Room) s m ([.ref h, .int p1, .int p2] : List Value).toArray below meth c H locs 0 0 (MQ below ((mQi D (WM h q cI cJ cZ v_a v_image v_texts v_tape v_taped v_fault v_faultPlace v_at v_place v_token v_number v_word v_text0 v_written v_sort0 v_pile v_piled v_opens v_isWhole v_once v_named v_values v_truth v_isWritten v_died v_aside v_likely v_safe v_headOf) o_r True) A) ([.ref h, .int p1, .int p2] : List Value).toArray s 0 0 A) (F0 m 102 ls [.int s1, .int s0]) := by
        intro x3 x5 x6 s0 s1 H locs ls hf hP hD hS hl
        unfold f_X12_wasAt_102 at hf
        refine lv_ior hx hb dX12_wasAt_102 ?_
        refine lv_istore (lv' := [(4, .int (s0 ||| s1)), (0, .ref h), (3, .int x3), (5, .int x5), (6, .int x6)]) hx hb dX12_wasAt_103 hl (by decide) rfl (fun ls hl => ?_)
        refine lv_iinc (v := (x6 + (1 : Int32))) (lv' := [(6, .int (x6 + (1 : Int32))), (4, .int (s0 ||| s1)), (0, .ref h), (3, .int x3), (5, .int x5)]) hx hb dX12_wasAt_105 hl (k := 4) rfl rfl (by decide) rfl (fun ls hl => ?_)
        refine lv_goto (tgt := 26) hx hb dX12_wasAt_108 (by decide) ?_
        exact ih26 x3 (s0 ||| s1) x5 (x6 + (1 : Int32)) _ _ _ hf hP hD hS (lv_sub hl [2, 3, 1, 4, 0] rfl)
      intro x3 x4 x5 x6 H locs ls hf hP hD hS hl
      rw [f_X12_wasAt_26.eq_2] at hf
      refine lv_iload hx hb dX12_wasAt_26 (lv_at hl 4 rfl) ?_
      refine lv_aload_n hx hb dX12_wasAt_28 rfl (lv_at hl 0 rfl) ?_
      refine gfX12_7 hx hb hts hown hK hP 0 rfl rfl dX12_wasAt_29 ?_
      refine lv_iconst (v := (5 : Int32)) hx hb dX12_wasAt_32 (by decide) ?_
      refine xiald hx hb hK hP 1 0 rfl rfl dX12_wasAt_33 hf (fun v33 hf => ?_)
      refine xicmp_ge hx hb 111 dX12_wasAt_34 (by decide) hf (fun hf => ?_) (fun hf => ?_)
      · refine lv_iload hx hb dX12_wasAt_111 (lv_at hl 2 rfl) ?_
        cases hf
        exact mret_i hx hb hr hlocks hP hD hS dX12_wasAt_113 rfl trivial
      · refine lv_iload hx hb dX12_wasAt_37 (lv_at hl 3 rfl) ?_
        refine lv_bipush (v := (8 : Int32)) hx hb dX12_wasAt_39 (by decide) ?_
        refine xirem hx hb dX12_wasAt_41 hf (fun v41 hf => ?_)
        refine lv_istore (lv' := [(7, .int v41), (0, .ref h), (3, .int x3), (4, .int x4), (5, .int x5), (6, .int x6)]) hx hb dX12_wasAt_42 hl (by decide) rfl (fun ls hl => ?_)
        refine lv_iload hx hb dX12_wasAt_44 (lv_at hl 4 rfl) ?_
        refine lv_bipush (v := (8 : Int32)) hx hb dX12_wasAt_46 (by decide) ?_
        refine xidiv hx hb dX12_wasAt_48 hf (fun v48 hf => ?_)
        refine lv_istore (lv' := [(5, .int v48), (7, .int v41), (0, .ref h), (3, .int x3), (4, .int x4), (6, .int x6)]) hx hb dX12_wasAt_49 hl (by decide) rfl (fun ls hl => ?_)
        refine lv_aload_n hx hb dX12_wasAt_51 rfl (lv_at hl 2 rfl) ?_
        refine lv_iload hx hb dX12_wasAt_52 (lv_at hl 1 rfl) ?_
        obtain ⟨r54, hg54, hf⟩ := ob1_some hf
        refine mcV1_i (As := [.int v41]) (rest := []) hx hb hml hown hts hK hP hD hS hA (k_X12_isLand l N D cI cJ cZ cB cT h q v_a v_image v_texts v_tape v_taped v_fault v_faultPlace v_at v_place v_token v_number v_word v_text0 v_written v_sort0 v_pile v_piled v_opens v_isWhole v_once v_named v_values v_truth v_isWritten v_died v_aside v_likely v_safe v_headOf v41 r54 hg54) (kwX12_75 hts rfl rfl ⟨Nat.le_of_ble_eq_true rfl, Nat.le_of_ble_eq_true rfl⟩) 0 rfl rfl rfl rfl hl.1 rfl (Nat.le_of_ble_eq_true rfl) dX12_wasAt_54 ⟨Nat.zero_le _, Nat.zero_le _⟩ (fun hB54 H locs hP hD hS => ?_)
        have hP : va_P D vwCl (WM h q cI cJ cZ v_a v_image v_texts v_tape v_taped v_fault v_faultPlace v_at v_place v_token v_number v_word v_text0 v_written v_sort0 v_pile v_piled v_opens v_isWhole v_once v_named v_values v_truth v_isWritten v_died v_aside v_likely v_safe v_headOf) H := hP
        have hD : va_D A (WM h q cI cJ cZ v_a v_image v_texts v_tape v_taped v_fault v_faultPlace v_at v_place v_token v_number v_word v_text0 v_written v_sort0 v_pile v_piled v_opens v_isWhole v_once v_named v_values v_truth v_isWritten v_died v_aside v_likely v_safe v_headOf) := hD
        refine xif_eq hx hb 73 dX12_wasAt_57 (by decide) hf (fun hf => ?_) (fun hf => ?_)
        · refine lv_iconst (v := (-1 : Int32)) hx hb dX12_wasAt_73 (by decide) ?_
          cases hf
          exact mret_i hx hb hr hlocks hP hD hS dX12_wasAt_74 rfl trivial
        · refine lv_aload_n hx hb dX12_wasAt_60 rfl (lv_at hl 2 rfl) ?_
          refine lv_iload_n hx hb dX12_wasAt_61 rfl (lv_at hl 3 rfl) ?_
          obtain ⟨r62, hg62, hf⟩ := ob1_some hf
          refine mcV1_i (As := [.int x3]) (rest := []) hx hb hml hown hts hK hP hD hS hA (k_X12_reachOf l N D cI cJ cZ cB cT h q v_a v_image v_texts v_tape v_taped v_fault v_faultPlace v_at v_place v_token v_number v_word v_text0 v_written v_sort0 v_pile v_piled v_opens v_isWhole v_once v_named v_values v_truth v_isWritten v_died v_aside v_likely v_safe v_headOf x3 r62 hg62) (kwX12_436 hts rfl rfl ⟨Nat.le_of_ble_eq_true rfl, Nat.le_of_ble_eq_true rfl⟩) 0 rfl rfl rfl rfl hl.1 rfl (Nat.le_of_ble_eq_true rfl) dX12_wasAt_62 ⟨Nat.zero_le _, Nat.zero_le _⟩ (fun hB62 H locs hP hD hS => ?_)
          have hP : va_P D vwCl (WM h q cI cJ cZ v_a v_image v_texts v_tape v_taped v_fault v_faultPlace v_at v_place v_token v_number v_word v_text0 v_written v_sort0 v_pile v_piled v_opens v_isWhole v_once v_named v_values v_truth v_isWritten v_died v_aside v_likely v_safe v_headOf) H := hP
          have hD : va_D A (WM h q cI cJ cZ v_a v_image v_texts v_tape v_taped v_fault v_faultPlace v_at v_place v_token v_number v_word v_text0 v_written v_sort0 v_pile v_piled v_opens v_isWhole v_once v_named v_values v_truth v_isWritten v_died v_aside v_likely v_safe v_headOf) := hD
          refine lv_iload hx hb dX12_wasAt_65 (lv_at hl 1 rfl) ?_
          obtain ⟨r67, hg67, hf⟩ := ob1_some hf
          refine mcS0_i (As := [.int r62, .int v41]) (rest := []) hx hb hml hown hts hK hP hD hS hA (k_X12_isWith l N D cI cJ cZ cB cT r62 v41 r67 hg67) (kwX12_78 hts rfl rfl ⟨Nat.le_of_ble_eq_true rfl, Nat.le_of_ble_eq_true rfl⟩) rfl hl.1 rfl (Nat.le_of_ble_eq_true rfl) dX12_wasAt_67 ⟨Nat.zero_le _, Nat.zero_le _⟩ (fun hB67 H locs hP hD hS => ?_)
          refine xif_ne hx hb 75 dX12_wasAt_70 (by decide) hf (fun hf => ?_) (fun hf => ?_)
          · refine lv_iconst (v := (-1 : Int32)) hx hb dX12_wasAt_73 (by decide) ?_
            cases hf
            exact mret_i hx hb hr hlocks hP hD hS dX12_wasAt_74 rfl trivial
          · refine lv_iload hx hb dX12_wasAt_75 (lv_at hl 1 rfl) ?_
            refine lv_istore_n (lv' := [(3, .int v41), (5, .int v48), (7, .int v41), (0, .ref h), (4, .int x4), (6, .int x6)]) hx hb dX12_wasAt_77 rfl hl (by decide) rfl (fun ls hl => ?_)
            refine lv_iload hx hb dX12_wasAt_78 (lv_at hl 4 rfl) ?_
            refine lv_aload_n hx hb dX12_wasAt_80 rfl (lv_at hl 3 rfl) ?_
            refine gfX12_7 hx hb hts hown hK hP 0 rfl rfl dX12_wasAt_81 ?_
            refine lv_bipush (v := (96 : Int32)) hx hb dX12_wasAt_84 (by decide) ?_
            refine lv_iload hx hb dX12_wasAt_86 (lv_at hl 5 rfl) ?_
            refine lv_iadd hx hb dX12_wasAt_88 ?_
            refine xiald hx hb hK hP 1 0 rfl rfl dX12_wasAt_89 hf (fun v89 hf => ?_)
            refine lv_iload_n hx hb dX12_wasAt_90 rfl (lv_at hl 0 rfl) ?_
            refine xicmp_ne hx hb 101 dX12_wasAt_91 (by decide) hf (fun hf => ?_) (fun hf => ?_)
            · refine lv_iconst (v := (1 : Int32)) hx hb dX12_wasAt_94 (by decide) ?_
              refine lv_iload hx hb dX12_wasAt_95 (lv_at hl 5 rfl) ?_
              refine lv_ishl hx hb dX12_wasAt_97 ?_
              refine lv_goto (tgt := 102) hx hb dX12_wasAt_98 (by decide) ?_
              exact b102 v41 v48 x6 x4 ((1 : Int32) <<< (x6 &&& 31)) _ _ _ hf hP hD hS (lv_sub hl [3, 0, 1, 5] rfl)
            · refine lv_iconst (v := (0 : Int32)) hx hb dX12_wasAt_101 (by decide) ?_
              exact b102 v41 v48 x6 x4 (0 : Int32) _ _ _ hf hP hD hS (lv_sub hl [3, 0, 1, 5] rfl)
  have b18 : ∀ (x1 : Int32) (x3 : Int32) (s0 : Int32) (H : Heap) (locs : List Loc) (ls : Array Slot), f_X12_wasAt_18 N v_a x1 x3 s0 = some o_r → va_P D vwCl (WM h q cI cJ cZ v_a v_image v_texts v_tape v_taped v_fault v_faultPlace v_at v_place v_token v_number v_word v_text0 v_written v_sort0 v_pile v_piled v_opens v_isWhole v_once v_named v_values v_truth v_isWritten v_died v_aside v_likely v_safe v_headOf) H → va_D A (WM h q cI cJ cZ v_a v_image v_texts v_tape v_taped v_fault v_faultPlace v_at v_place v_token v_number v_word v_text0 v_written v_sort0 v_pile v_piled v_opens v_isWhole v_once v_named v_values v_truth v_isWritten v_died v_aside v_likely v_safe v_headOf) → va_S A s.heap H locs → lv_has ls 8 [(0, .ref h), (1, .int x1), (3, .int x3)] → W p l e ({ frames := 2, cells := 0, slots := 0, locals := 43 } : Room) s m ([.ref h, .int p1, .int p2] : List Value).toArray below meth c H locs 0 0 (MQ below ((mQi D (WM h q cI cJ cZ v_a v_image v_texts v_tape v_taped v_fault v_faultPlace v_at v_place v_token v_number v_word v_text0 v_written v_sort0 v_pile v_piled v_opens v_isWhole v_once v_named v_values v_truth v_isWritten v_died v_aside v_likely v_safe v_headOf) o_r True) A) ([.ref h, .int p1, .int p2] : List Value).toArray s 0 0 A) (F0 m 18 ls [.int s0]) := by
    intro x1 x3 s0 H locs ls hf hP hD hS hl
    unfold f_X12_wasAt_18 at hf
    refine lv_istore (lv' := [(4, .int s0), (0, .ref h), (1, .int x1), (3, .int x3)]) hx hb dX12_wasAt_18 hl (by decide) rfl (fun ls hl => ?_)
    refine lv_iload_n hx hb dX12_wasAt_20 rfl (lv_at hl 2 rfl) ?_
    refine lv_istore (lv' := [(5, .int x1), (4, .int s0), (0, .ref h), (1, .int x1), (3, .int x3)]) hx hb dX12_wasAt_21 hl (by decide) rfl (fun ls hl => ?_)
    refine lv_iconst (v := (1 : Int32)) hx hb dX12_wasAt_23 (by decide) ?_
    refine lv_istore (lv' := [(6, .int (1 : Int32)), (5, .int x1), (4, .int s0), (0, .ref h), (1, .int x1), (3, .int x3)]) hx hb dX12_wasAt_24 hl (by decide) rfl (fun ls hl => ?_)
    exact b26 N x3 s0 x1 (1 : Int32) _ _ _ hf hP hD hS (lv_sub hl [3, 5, 2, 1, 0] rfl)
  unfold f_X12_wasAt at hf
  refine lv_iload_n hx hb dX12_wasAt_0 rfl (lv_at hl 2 rfl) ?_
  refine lv_istore_n (lv' := [(3, .int p2), (0, .ref h), (1, .int p1), (2, .int p2)]) hx hb dX12_wasAt_1 rfl hl (by decide) rfl (fun ls hl => ?_)
  refine lv_aload_n hx hb dX12_wasAt_2 rfl (lv_at hl 1 rfl) ?_
  refine gfX12_7 hx hb hts hown hK hP 0 rfl rfl dX12_wasAt_3 ?_
  refine lv_bipush (v := (96 : Int32)) hx hb dX12_wasAt_6 (by decide) ?_
  refine xiald hx hb hK hP 1 0 rfl rfl dX12_wasAt_8 hf (fun v8 hf => ?_)
  refine lv_iload_n hx hb dX12_wasAt_9 rfl (lv_at hl 3 rfl) ?_
  refine xicmp_ne hx hb 17 dX12_wasAt_10 (by decide) hf (fun hf => ?_) (fun hf => ?_)
  · refine lv_iconst (v := (1 : Int32)) hx hb dX12_wasAt_13 (by decide) ?_
    refine lv_goto (tgt := 18) hx hb dX12_wasAt_14 (by decide) ?_
    exact b18 p1 p2 (1 : Int32) _ _ _ hf hP hD hS (lv_sub hl [1, 2, 0] rfl)
  · refine lv_iconst (v := (0 : Int32)) hx hb dX12_wasAt_17 (by decide) ?_
    exact b18 p1 p2 (0 : Int32) _ _ _ hf hP hD hS (lv_sub hl [1, 2, 0] rfl)
theorem dX12_inCrowd_0 : decode cX12_inCrowd 0 = .ok (.aload_n 0, 1) := by decide +kernel
theorem dX12_inCrowd_1 : decode cX12_inCrowd 1 = .ok (.iload_n 1, 1) := by decide +kernel
theorem dX12_inCrowd_2 : decode cX12_inCrowd 2 = .ok (.invokevirtual 75, 3) := by decide +kernel
theorem dX12_inCrowd_5 : decode cX12_inCrowd 5 = .ok (.ifCond .eq 30, 3) := by decide +kernel
theorem dX12_inCrowd_8 : decode cX12_inCrowd 8 = .ok (.iload_n 2, 1) := by decide +kernel
theorem dX12_inCrowd_9 : decode cX12_inCrowd 9 = .ok (.iconst 0, 1) := by decide +kernel
theorem dX12_inCrowd_10 : decode cX12_inCrowd 10 = .ok (.iconst 5, 1) := by decide +kernel
theorem dX12_inCrowd_11 : decode cX12_inCrowd 11 = .ok (.invokestatic 63, 3) := by decide +kernel
theorem dX12_inCrowd_14 : decode cX12_inCrowd 14 = .ok (.ifCond .eq 21, 3) := by decide +kernel
theorem dX12_inCrowd_17 : decode cX12_inCrowd 17 = .ok (.iload_n 3, 1) := by decide +kernel
theorem dX12_inCrowd_18 : decode cX12_inCrowd 18 = .ok (.iconst 0, 1) := by decide +kernel
theorem dX12_inCrowd_19 : decode cX12_inCrowd 19 = .ok (.iconst 2, 1) := by decide +kernel
theorem dX12_inCrowd_20 : decode cX12_inCrowd 20 = .ok (.invokestatic 63, 3) := by decide +kernel
theorem dX12_inCrowd_23 : decode cX12_inCrowd 23 = .ok (.ifCond .eq 12, 3) := by decide +kernel
theorem dX12_inCrowd_26 : decode cX12_inCrowd 26 = .ok (.aload_n 0, 1) := by decide +kernel
theorem dX12_inCrowd_27 : decode cX12_inCrowd 27 = .ok (.getfield 7, 3) := by decide +kernel
theorem dX12_inCrowd_30 : decode cX12_inCrowd 30 = .ok (.iconst 5, 1) := by decide +kernel
theorem dX12_inCrowd_31 : decode cX12_inCrowd 31 = .ok (.iaload, 1) := by decide +kernel
theorem dX12_inCrowd_32 : decode cX12_inCrowd 32 = .ok (.ifCond .ne 5, 3) := by decide +kernel
theorem dX12_inCrowd_35 : decode cX12_inCrowd 35 = .ok (.iconst (-1), 1) := by decide +kernel
theorem dX12_inCrowd_36 : decode cX12_inCrowd 36 = .ok (.ireturn, 1) := by decide +kernel
theorem dX12_inCrowd_37 : decode cX12_inCrowd 37 = .ok (.iconst 1, 1) := by decide +kernel
theorem dX12_inCrowd_38 : decode cX12_inCrowd 38 = .ok (.istore 4, 2) := by decide +kernel
theorem dX12_inCrowd_40 : decode cX12_inCrowd 40 = .ok (.iconst 1, 1) := by decide +kernel
theorem dX12_inCrowd_41 : decode cX12_inCrowd 41 = .ok (.istore 5, 2) := by decide +kernel
theorem dX12_inCrowd_43 : decode cX12_inCrowd 43 = .ok (.iload 5, 2) := by decide +kernel
theorem dX12_inCrowd_45 : decode cX12_inCrowd 45 = .ok (.aload_n 0, 1) := by decide +kernel
theorem dX12_inCrowd_46 : decode cX12_inCrowd 46 = .ok (.getfield 7, 3) := by decide +kernel
theorem dX12_inCrowd_49 : decode cX12_inCrowd 49 = .ok (.iconst 5, 1) := by decide +kernel
theorem dX12_inCrowd_50 : decode cX12_inCrowd 50 = .ok (.iaload, 1) := by decide +kernel
theorem dX12_inCrowd_51 : decode cX12_inCrowd 51 = .ok (.if_icmp .ge 16, 3) := by decide +kernel
theorem dX12_inCrowd_54 : decode cX12_inCrowd 54 = .ok (.iload 4, 2) := by decide +kernel
theorem dX12_inCrowd_56 : decode cX12_inCrowd 56 = .ok (.bipush 8, 2) := by decide +kernel
theorem dX12_inCrowd_58 : decode cX12_inCrowd 58 = .ok (.imul, 1) := by decide +kernel
theorem dX12_inCrowd_59 : decode cX12_inCrowd 59 = .ok (.istore 4, 2) := by decide +kernel
theorem dX12_inCrowd_61 : decode cX12_inCrowd 61 = .ok (.iinc 5 1, 3) := by decide +kernel
theorem dX12_inCrowd_64 : decode cX12_inCrowd 64 = .ok (.goto (-21), 3) := by decide +kernel
theorem dX12_inCrowd_67 : decode cX12_inCrowd 67 = .ok (.iconst 0, 1) := by decide +kernel
theorem dX12_inCrowd_68 : decode cX12_inCrowd 68 = .ok (.istore 5, 2) := by decide +kernel
theorem dX12_inCrowd_70 : decode cX12_inCrowd 70 = .ok (.iconst 0, 1) := by decide +kernel
theorem dX12_inCrowd_71 : decode cX12_inCrowd 71 = .ok (.istore 6, 2) := by decide +kernel
theorem dX12_inCrowd_73 : decode cX12_inCrowd 73 = .ok (.bipush 31, 2) := by decide +kernel
theorem dX12_inCrowd_75 : decode cX12_inCrowd 75 = .ok (.istore 7, 2) := by decide +kernel
theorem dX12_inCrowd_77 : decode cX12_inCrowd 77 = .ok (.iconst 0, 1) := by decide +kernel
theorem dX12_inCrowd_78 : decode cX12_inCrowd 78 = .ok (.istore 8, 2) := by decide +kernel
theorem dX12_inCrowd_80 : decode cX12_inCrowd 80 = .ok (.iload 8, 2) := by decide +kernel
theorem dX12_inCrowd_82 : decode cX12_inCrowd 82 = .ok (.iload 4, 2) := by decide +kernel
theorem dX12_inCrowd_84 : decode cX12_inCrowd 84 = .ok (.if_icmp .ge 54, 3) := by decide +kernel
theorem dX12_inCrowd_87 : decode cX12_inCrowd 87 = .ok (.aload_n 0, 1) := by decide +kernel
theorem dX12_inCrowd_88 : decode cX12_inCrowd 88 = .ok (.iload 8, 2) := by decide +kernel
theorem dX12_inCrowd_90 : decode cX12_inCrowd 90 = .ok (.iload_n 1, 1) := by decide +kernel
theorem dX12_inCrowd_91 : decode cX12_inCrowd 91 = .ok (.invokevirtual 457, 3) := by decide +kernel
theorem dX12_inCrowd_94 : decode cX12_inCrowd 94 = .ok (.istore 9, 2) := by decide +kernel
theorem dX12_inCrowd_96 : decode cX12_inCrowd 96 = .ok (.iload 9, 2) := by decide +kernel
theorem dX12_inCrowd_98 : decode cX12_inCrowd 98 = .ok (.iconst (-1), 1) := by decide +kernel
theorem dX12_inCrowd_99 : decode cX12_inCrowd 99 = .ok (.if_icmp .eq 33, 3) := by decide +kernel
theorem dX12_inCrowd_102 : decode cX12_inCrowd 102 = .ok (.iload 9, 2) := by decide +kernel
theorem dX12_inCrowd_104 : decode cX12_inCrowd 104 = .ok (.i2l, 1) := by decide +kernel
theorem dX12_inCrowd_105 : decode cX12_inCrowd 105 = .ok (.invokestatic 268, 3) := by decide +kernel
theorem dX12_inCrowd_108 : decode cX12_inCrowd 108 = .ok (.iload_n 2, 1) := by decide +kernel
theorem dX12_inCrowd_109 : decode cX12_inCrowd 109 = .ok (.if_icmp .eq 6, 3) := by decide +kernel
theorem dX12_inCrowd_112 : decode cX12_inCrowd 112 = .ok (.goto 20, 3) := by decide +kernel
theorem dX12_inCrowd_115 : decode cX12_inCrowd 115 = .ok (.iinc 5 1, 3) := by decide +kernel
theorem dX12_inCrowd_118 : decode cX12_inCrowd 118 = .ok (.iload 6, 2) := by decide +kernel
theorem dX12_inCrowd_120 : decode cX12_inCrowd 120 = .ok (.iload 9, 2) := by decide +kernel
theorem dX12_inCrowd_122 : decode cX12_inCrowd 122 = .ok (.ior, 1) := by decide +kernel
theorem dX12_inCrowd_123 : decode cX12_inCrowd 123 = .ok (.istore 6, 2) := by decide +kernel
theorem dX12_inCrowd_125 : decode cX12_inCrowd 125 = .ok (.iload 7, 2) := by decide +kernel
theorem dX12_inCrowd_127 : decode cX12_inCrowd 127 = .ok (.iload 9, 2) := by decide +kernel
theorem dX12_inCrowd_129 : decode cX12_inCrowd 129 = .ok (.iand, 1) := by decide +kernel
theorem dX12_inCrowd_130 : decode cX12_inCrowd 130 = .ok (.istore 7, 2) := by decide +kernel
theorem dX12_inCrowd_132 : decode cX12_inCrowd 132 = .ok (.iinc 8 1, 3) := by decide +kernel
theorem dX12_inCrowd_135 : decode cX12_inCrowd 135 = .ok (.goto (-55), 3) := by decide +kernel
theorem dX12_inCrowd_138 : decode cX12_inCrowd 138 = .ok (.iload_n 3, 1) := by decide +kernel
theorem dX12_inCrowd_139 : decode cX12_inCrowd 139 = .ok (.ifCond .ne 8, 3) := by decide +kernel
theorem dX12_inCrowd_142 : decode cX12_inCrowd 142 = .ok (.iload 5, 2) := by decide +kernel
theorem dX12_inCrowd_144 : decode cX12_inCrowd 144 = .ok (.goto 24, 3) := by decide +kernel
theorem dX12_inCrowd_147 : decode cX12_inCrowd 147 = .ok (.iload_n 3, 1) := by decide +kernel
theorem dX12_inCrowd_148 : decode cX12_inCrowd 148 = .ok (.iconst 1, 1) := by decide +kernel
theorem dX12_inCrowd_149 : decode cX12_inCrowd 149 = .ok (.if_icmp .ne 8, 3) := by decide +kernel
theorem dX12_inCrowd_152 : decode cX12_inCrowd 152 = .ok (.iload 6, 2) := by decide +kernel
theorem dX12_inCrowd_154 : decode cX12_inCrowd 154 = .ok (.goto 14, 3) := by decide +kernel
theorem dX12_inCrowd_157 : decode cX12_inCrowd 157 = .ok (.iload 5, 2) := by decide +kernel
theorem dX12_inCrowd_159 : decode cX12_inCrowd 159 = .ok (.ifCond .ne 7, 3) := by decide +kernel
theorem dX12_inCrowd_162 : decode cX12_inCrowd 162 = .ok (.iconst 0, 1) := by decide +kernel
theorem dX12_inCrowd_163 : decode cX12_inCrowd 163 = .ok (.goto 5, 3) := by decide +kernel
theorem dX12_inCrowd_166 : decode cX12_inCrowd 166 = .ok (.iload 7, 2) := by decide +kernel
theorem dX12_inCrowd_168 : decode cX12_inCrowd 168 = .ok (.ireturn, 1) := by decide +kernel
def f_X12_inCrowd_132 (N : Nat) (k_80 : (Nat → Int32) → Int32 → Int32 → Int32 → Int32 → Int32 → Int32 → Int32 → Int32 → Option (Int32)) (v_a : Nat → Int32) (x1 : Int32) (x2 : Int32) (x3 : Int32) (x4 : Int32) (x5 : Int32) (x6 : Int32) (x7 : Int32) (x8 : Int32) : Option (Int32) := k_80 v_a x1 x2 x3 x4 x5 x6 x7 (x8 + (1 : Int32))
def f_X12_inCrowd_80 (N : Nat) : Nat → (Nat → Int32) → Int32 → Int32 → Int32 → Int32 → Int32 → Int32 → Int32 → Int32 → Option (Int32)
  | 0, _, _, _, _, _, _, _, _, _ => none
  | n + 1, v_a, x1, x2, x3, x4, x5, x6, x7, x8 => if x4 ≤ x8 then (if x3 = 0 then (some x5) else (if x3 = (1 : Int32) then (some x6) else (if x5 = 0 then (some (0 : Int32)) else (some x7)))) else (ob1 (f_X12_wasAt N v_a x8 x1) fun r91 => if r91 = (-1 : Int32) then (f_X12_inCrowd_132 N (f_X12_inCrowd_80 N n) v_a x1 x2 x3 x4 x5 x6 x7 x8) else (ob1 (f_X12_bits N r91.toInt64) fun r105 => if r105 = x2 then (f_X12_inCrowd_132 N (f_X12_inCrowd_80 N n) v_a x1 x2 x3 x4 (x5 + (1 : Int32)) (x6 ||| r91) (x7 &&& r91) x8) else (f_X12_inCrowd_132 N (f_X12_inCrowd_80 N n) v_a x1 x2 x3 x4 x5 x6 x7 x8)))
def f_X12_inCrowd_43 (N : Nat) : Nat → (Nat → Int32) → Int32 → Int32 → Int32 → Int32 → Int32 → Option (Int32)
  | 0, _, _, _, _, _, _ => none
  | n + 1, v_a, x1, x2, x3, x4, x5 => gA v_a 8762 (5 : Int32) fun v50 => if v50 ≤ x5 then (f_X12_inCrowd_80 N N v_a x1 x2 x3 x4 (0 : Int32) (0 : Int32) (31 : Int32) (0 : Int32)) else ((f_X12_inCrowd_43 N n) v_a x1 x2 x3 (x4 * (8 : Int32)) (x5 + (1 : Int32)))
def f_X12_inCrowd (N : Nat) (v_a : Nat → Int32) (p1 : Int32) (p2 : Int32) (p3 : Int32) : Option (Int32) := ob1 (f_X12_isLand N v_a p1) fun r2 => if r2 = 0 then (some (-1 : Int32)) else (ob1 (f_X12_isIn N p2 (0 : Int32) (5 : Int32)) fun r11 => if r11 = 0 then (some (-1 : Int32)) else (ob1 (f_X12_isIn N p3 (0 : Int32) (2 : Int32)) fun r20 => if r20 = 0 then (some (-1 : Int32)) else (gA v_a 8762 (5 : Int32) fun v31 => if v31 = 0 then (some (-1 : Int32)) else (f_X12_inCrowd_43 N N v_a p1 p2 p3 (1 : Int32) (1 : Int32)))))
set_option maxHeartbeats 4000000 in
set_option maxRecDepth 100000 in
theorem k_X12_inCrowd (l : Launch) (N : Nat) (D : va_G) (cI cJ cZ cB cT : ClassId) (h : Nat) (q : Nat → Nat) (v_a : Nat → Int32) (v_image : Nat → Int32) (v_texts : Nat → Int32) (v_tape : Nat → Int32) (v_taped : Int32) (v_fault : Int32) (v_faultPlace : Int32) (v_at : Int32) (v_place : Int32) (v_token : Int32) (v_number : Int32) (v_word : Int64) (v_text0 : Int32) (v_written : Int32) (v_sort0 : Int32) (v_pile : Nat → Int32) (v_piled : Int32) (v_opens : Int32) (v_isWhole : Int32) (v_once : Int32) (v_named : Nat → Int32) (v_values : Nat → Int64) (v_truth : Nat → Int32) (v_isWritten : Int32) (v_died : Int32) (v_aside : Nat → Int32) (v_likely : Nat → Int32) (v_safe : Nat → Int32) (v_headOf : Nat → Int32) (p1 : Int32) (p2 : Int32) (p3 : Int32) (o_r : Int32) (hf : f_X12_inCrowd N v_a p1 p2 p3 = some o_r) : ∀ sz, Met l yX12_inCrowd (mw yX12_inCrowd cX12_inCrowd 10 (some .int)) ({ frames := 3, cells := 0, slots := 0, locals := 70 } : Room) (mPre D (mT cI cJ cZ cB cT) (WM h q cI cJ cZ v_a v_image v_texts v_tape v_taped v_fault v_faultPlace v_at v_place v_token v_number v_word v_text0 v_written v_sort0 v_pile v_piled v_opens v_isWhole v_once v_named v_values v_truth v_isWritten v_died v_aside v_likely v_safe v_headOf) sz [.ref h, .int p1, .int p2, .int p3]) ((mQi D (WM h q cI cJ cZ v_a v_image v_texts v_tape v_taped v_fault v_faultPlace v_at v_place v_token v_number v_word v_text0 v_written v_sort0 v_pile v_piled v_opens v_isWhole v_once v_named v_values v_truth v_isWritten v_died v_aside v_likely v_safe v_headOf) o_r True) (va_A (WM h q cI cJ cZ v_a v_image v_texts v_tape v_taped v_fault v_faultPlace v_at v_place v_token v_number v_word v_text0 v_written v_sort0 v_pile v_piled v_opens v_isWhole v_once v_named v_values v_truth v_isWritten v_died v_aside v_likely v_safe v_headOf) sz)) 0 0 (va_A (WM h q cI cJ cZ v_a v_image v_texts v_tape v_taped v_fault v_faultPlace v_at v_place v_token v_number v_word v_text0 v_written v_sort0 v_pile v_piled v_opens v_isWhole v_once v_named v_values v_truth v_isWritten v_died v_aside v_likely v_safe v_headOf) sz) := by
  refine mMet (Qc := (mQi D (WM h q cI cJ cZ v_a v_image v_texts v_tape v_taped v_fault v_faultPlace v_at v_place v_token v_number v_word v_text0 v_written v_sort0 v_pile v_piled v_opens v_isWhole v_once v_named v_values v_truth v_isWritten v_died v_aside v_likely v_safe v_headOf) o_r True)) (by decide) (Nat.le_of_ble_eq_true rfl) (fun p e s m below meth c A ls hx hb hr hml hts hown hlocks hK hA hP hD hl => ?_)
  have hown : s.vm.findClass RX12 = some m.cls := hown
  have hl : lv_has ls 10 [(0, .ref h), (1, .int p1), (2, .int p2), (3, .int p3)] := hl
  have hS : va_S A s.heap s.heap [] := va_S.rf
  have b80 : ∀ n80 : Nat, ∀ (x1 : Int32) (x2 : Int32) (x3 : Int32) (x4 : Int32) (x5 : Int32) (x6 : Int32) (x7 : Int32) (x8 : Int32) (H : Heap) (locs : List Loc) (ls : Array Slot), f_X12_inCrowd_80 N n80 v_a x1 x2 x3 x4 x5 x6 x7 x8 = some o_r → va_P D vwCl (WM h q cI cJ cZ v_a v_image v_texts v_tape v_taped v_fault v_faultPlace v_at v_place v_token v_number v_word v_text0 v_written v_sort0 v_pile v_piled v_opens v_isWhole v_once v_named v_values v_truth v_isWritten v_died v_aside v_likely v_safe v_headOf) H → va_D A (WM h q cI cJ cZ v_a v_image v_texts v_tape v_taped v_fault v_faultPlace v_at v_place v_token v_number v_word v_text0 v_written v_sort0 v_pile v_piled v_opens v_isWhole v_once v_named v_values v_truth v_isWritten v_died v_aside v_likely v_safe v_headOf) → va_S A s.heap H locs → lv_has ls 10 [(0, .ref h), (1, .int x1), (2, .int x2), (3, .int x3), (4, .int x4), (5, .int x5), (6, .int x6), (7, .int x7), (8, .int x8)] → W p l e ({ frames := 3, cells := 0, slots := 0, locals := 70 } : Room) s m ([.ref h, .int p1, .int p2, .int p3] : List Value).toArray below meth c H locs 0 0 (MQ below ((mQi D (WM h q cI cJ cZ v_a v_image v_texts v_tape v_taped v_fault v_faultPlace v_at v_place v_token v_number v_word v_text0 v_written v_sort0 v_pile v_piled v_opens v_isWhole v_once v_named v_values v_truth v_isWritten v_died v_aside v_likely v_safe v_headOf) o_r True) A) ([.ref h, .int p1, .int p2, .int p3] : List Value).toArray s 0 0 A) (F0 m 80 ls []) := by
    intro n80
    induction n80 with
    | zero =>
      intro x1 x2 x3 x4 x5 x6 x7 x8 H locs ls hf hP hD hS hl
      simp [f_X12_inCrowd_80] at hf
    | succ n80 ih80 =>
      have b132 : ∀ (x1 : Int32) (x2 : Int32) (x3 : Int32) (x4 : Int32) (x5 : Int32) (x6 : Int32) (x7 : Int32) (x8 : Int32) (H : Heap) (locs : List Loc) (ls : Array Slot), f_X12_inCrowd_132 N (f_X12_inCrowd_80 N n80) v_a x1 x2 x3 x4 x5 x6 x7 x8 = some o_r → va_P D vwCl (WM h q cI cJ cZ v_a v_image v_texts v_tape v_taped v_fault v_faultPlace v_at v_place v_token v_number v_word v_text0 v_written v_sort0 v_pile v_piled v_opens v_isWhole v_once v_named v_values v_truth v_isWritten v_died v_aside v_likely v_safe v_headOf) H → va_D A (WM h q cI cJ cZ v_a v_image v_texts v_tape v_taped v_fault v_faultPlace v_at v_place v_token v_number v_word v_text0 v_written v_sort0 v_pile v_piled v_opens v_isWhole v_once v_named v_values v_truth v_isWritten v_died v_aside v_likely v_safe v_headOf) → va_S A s.heap H locs → lv_has ls 10 [(0, .ref h), (1, .int x1), (2, .int x2), (3, .int x3), (4, .int x4), (5, .int x5), (6, .int x6), (7, .int x7), (8, .int x8)] → W p l e ({ frames := 3, cells := 0, slots := 0, locals := 70 } : Room) s m ([.ref h, .int p1, .int p2, .int p3] : List Value).toArray below meth c H locs 0 0 (MQ below ((mQi D (WM h q cI cJ cZ v_a v_image v_texts v_tape v_taped v_fault v_faultPlace v_at v_place v_token v_number v_word v_text0 v_written v_sort0 v_pile v_piled v_opens v_isWhole v_once v_named v_values v_truth v_isWritten v_died v_aside v_likely v_safe v_headOf) o_r True) A) ([.ref h, .int p1, .int p2, .int p3] : List Value).toArray s 0 0 A) (F0 m 132 ls []) := by
        intro x1 x2 x3 x4 x5 x6 x7 x8 H locs ls hf hP hD hS hl
        unfold f_X12_inCrowd_132 at hf
        refine lv_iinc (v := (x8 + (1 : Int32))) (lv' := [(8, .int (x8 + (1 : Int32))), (0, .ref h), (1, .int x1), (2, .int x2), (3, .int x3), (4, .int x4), (5, .int x5), (6, .int x6), (7, .int x7)]) hx hb dX12_inCrowd_132 hl (k := 8) rfl rfl (by decide) rfl (fun ls hl => ?_)
        refine lv_goto (tgt := 80) hx hb dX12_inCrowd_135 (by decide) ?_
        exact ih80 x1 x2 x3 x4 x5 x6 x7 (x8 + (1 : Int32)) _ _ _ hf hP hD hS (lv_sub hl [1, 2, 3, 4, 5, 6, 7, 8, 0] rfl)
      intro x1 x2 x3 x4 x5 x6 x7 x8 H locs ls hf hP hD hS hl
      rw [f_X12_inCrowd_80.eq_2] at hf
      refine lv_iload hx hb dX12_inCrowd_80 (lv_at hl 8 rfl) ?_
      refine lv_iload hx hb dX12_inCrowd_82 (lv_at hl 4 rfl) ?_
      refine xicmp_ge hx hb 138 dX12_inCrowd_84 (by decide) hf (fun hf => ?_) (fun hf => ?_)
      · refine lv_iload_n hx hb dX12_inCrowd_138 rfl (lv_at hl 3 rfl) ?_
        refine xif_ne hx hb 147 dX12_inCrowd_139 (by decide) hf (fun hf => ?_) (fun hf => ?_)
        · refine lv_iload hx hb dX12_inCrowd_142 (lv_at hl 5 rfl) ?_
          refine lv_goto (tgt := 168) hx hb dX12_inCrowd_144 (by decide) ?_
          cases hf
          exact mret_i hx hb hr hlocks hP hD hS dX12_inCrowd_168 rfl trivial
        · refine lv_iload_n hx hb dX12_inCrowd_147 rfl (lv_at hl 3 rfl) ?_
          refine lv_iconst (v := (1 : Int32)) hx hb dX12_inCrowd_148 (by decide) ?_
          refine xicmp_ne hx hb 157 dX12_inCrowd_149 (by decide) hf (fun hf => ?_) (fun hf => ?_)
          · refine lv_iload hx hb dX12_inCrowd_152 (lv_at hl 6 rfl) ?_
            refine lv_goto (tgt := 168) hx hb dX12_inCrowd_154 (by decide) ?_
            cases hf
            exact mret_i hx hb hr hlocks hP hD hS dX12_inCrowd_168 rfl trivial
          · refine lv_iload hx hb dX12_inCrowd_157 (lv_at hl 5 rfl) ?_
            refine xif_ne hx hb 166 dX12_inCrowd_159 (by decide) hf (fun hf => ?_) (fun hf => ?_)
            · refine lv_iconst (v := (0 : Int32)) hx hb dX12_inCrowd_162 (by decide) ?_
              refine lv_goto (tgt := 168) hx hb dX12_inCrowd_163 (by decide) ?_
              cases hf
              exact mret_i hx hb hr hlocks hP hD hS dX12_inCrowd_168 rfl trivial
            · refine lv_iload hx hb dX12_inCrowd_166 (lv_at hl 7 rfl) ?_
              cases hf
              exact mret_i hx hb hr hlocks hP hD hS dX12_inCrowd_168 rfl trivial
      · refine lv_aload_n hx hb dX12_inCrowd_87 rfl (lv_at hl 0 rfl) ?_
        refine lv_iload hx hb dX12_inCrowd_88 (lv_at hl 8 rfl) ?_
        refine lv_iload_n hx hb dX12_inCrowd_90 rfl (lv_at hl 1 rfl) ?_
        obtain ⟨r91, hg91, hf⟩ := ob1_some hf
        refine mcV1_i (As := [.int x8, .int x1]) (rest := []) hx hb hml hown hts hK hP hD hS hA (k_X12_wasAt l N D cI cJ cZ cB cT h q v_a v_image v_texts v_tape v_taped v_fault v_faultPlace v_at v_place v_token v_number v_word v_text0 v_written v_sort0 v_pile v_piled v_opens v_isWhole v_once v_named v_values v_truth v_isWritten v_died v_aside v_likely v_safe v_headOf x8 x1 r91 hg91) (kwX12_457 hts rfl rfl ⟨Nat.le_of_ble_eq_true rfl, Nat.le_of_ble_eq_true rfl⟩) 0 rfl rfl rfl rfl hl.1 rfl (Nat.le_of_ble_eq_true rfl) dX12_inCrowd_91 ⟨Nat.zero_le _, Nat.zero_le _⟩ (fun hB91 H locs hP hD hS => ?_)
        have hP : va_P D vwCl (WM h q cI cJ cZ v_a v_image v_texts v_tape v_taped v_fault v_faultPlace v_at v_place v_token v_number v_word v_text0 v_written v_sort0 v_pile v_piled v_opens v_isWhole v_once v_named v_values v_truth v_isWritten v_died v_aside v_likely v_safe v_headOf) H := hP
        have hD : va_D A (WM h q cI cJ cZ v_a v_image v_texts v_tape v_taped v_fault v_faultPlace v_at v_place v_token v_number v_word v_text0 v_written v_sort0 v_pile v_piled v_opens v_isWhole v_once v_named v_values v_truth v_isWritten v_died v_aside v_likely v_safe v_headOf) := hD
        refine lv_istore (lv' := [(9, .int r91), (0, .ref h), (1, .int x1), (2, .int x2), (3, .int x3), (4, .int x4), (5, .int x5), (6, .int x6), (7, .int x7), (8, .int x8)]) hx hb dX12_inCrowd_94 hl (by decide) rfl (fun ls hl => ?_)
        refine lv_iload hx hb dX12_inCrowd_96 (lv_at hl 0 rfl) ?_
        refine lv_iconst (v := (-1 : Int32)) hx hb dX12_inCrowd_98 (by decide) ?_
        refine xicmp_eq hx hb 132 dX12_inCrowd_99 (by decide) hf (fun hf => ?_) (fun hf => ?_)
        · exact b132 x1 x2 x3 x4 x5 x6 x7 x8 _ _ _ hf hP hD hS (lv_sub hl [1, 2, 3, 4, 5, 6, 7, 8, 9] rfl)
        · refine lv_iload hx hb dX12_inCrowd_102 (lv_at hl 0 rfl) ?_
          refine lv_i2l hx hb dX12_inCrowd_104 rfl ?_
          obtain ⟨r105, hg105, hf⟩ := ob1_some hf
          refine mcS0_i (As := [.long r91.toInt64]) (rest := []) hx hb hml hown hts hK hP hD hS hA (k_X12_bits l N D cI cJ cZ cB cT r91.toInt64 r105 hg105) (kwX12_268 hts rfl rfl ⟨Nat.le_of_ble_eq_true rfl, Nat.le_of_ble_eq_true rfl⟩) rfl hl.1 rfl (Nat.le_of_ble_eq_true rfl) dX12_inCrowd_105 ⟨Nat.zero_le _, Nat.zero_le _⟩ (fun hB105 H locs hP hD hS => ?_)
          refine lv_iload_n hx hb dX12_inCrowd_108 rfl (lv_at hl 3 rfl) ?_
          refine xicmp_eq hx hb 115 dX12_inCrowd_109 (by decide) hf (fun hf => ?_) (fun hf => ?_)
          · refine lv_iinc (v := (x5 + (1 : Int32))) (lv' := [(5, .int (x5 + (1 : Int32))), (9, .int r91), (0, .ref h), (1, .int x1), (2, .int x2), (3, .int x3), (4, .int x4), (6, .int x6), (7, .int x7), (8, .int x8)]) hx hb dX12_inCrowd_115 hl (k := 6) rfl rfl (by decide) rfl (fun ls hl => ?_)
            refine lv_iload hx hb dX12_inCrowd_118 (lv_at hl 7 rfl) ?_
            refine lv_iload hx hb dX12_inCrowd_120 (lv_at hl 1 rfl) ?_
            refine lv_ior hx hb dX12_inCrowd_122 ?_
            refine lv_istore (lv' := [(6, .int (x6 ||| r91)), (5, .int (x5 + (1 : Int32))), (9, .int r91), (0, .ref h), (1, .int x1), (2, .int x2), (3, .int x3), (4, .int x4), (7, .int x7), (8, .int x8)]) hx hb dX12_inCrowd_123 hl (by decide) rfl (fun ls hl => ?_)
            refine lv_iload hx hb dX12_inCrowd_125 (lv_at hl 8 rfl) ?_
            refine lv_iload hx hb dX12_inCrowd_127 (lv_at hl 2 rfl) ?_
            refine lv_iand hx hb dX12_inCrowd_129 ?_
            refine lv_istore (lv' := [(7, .int (x7 &&& r91)), (6, .int (x6 ||| r91)), (5, .int (x5 + (1 : Int32))), (9, .int r91), (0, .ref h), (1, .int x1), (2, .int x2), (3, .int x3), (4, .int x4), (8, .int x8)]) hx hb dX12_inCrowd_130 hl (by decide) rfl (fun ls hl => ?_)
            exact b132 x1 x2 x3 x4 (x5 + (1 : Int32)) (x6 ||| r91) (x7 &&& r91) x8 _ _ _ hf hP hD hS (lv_sub hl [4, 5, 6, 7, 8, 2, 1, 0, 9] rfl)
          · refine lv_goto (tgt := 132) hx hb dX12_inCrowd_112 (by decide) ?_
            exact b132 x1 x2 x3 x4 x5 x6 x7 x8 _ _ _ hf hP hD hS (lv_sub hl [1, 2, 3, 4, 5, 6, 7, 8, 9] rfl)
  have b43 : ∀ n43 : Nat, ∀ (x1 : Int32) (x2 : Int32) (x3 : Int32) (x4 : Int32) (x5 : Int32) (H : Heap) (locs : List Loc) (ls : Array Slot), f_X12_inCrowd_43 N n43 v_a x1 x2 x3 x4 x5 = some o_r → va_P D vwCl (WM h q cI cJ cZ v_a v_image v_texts v_tape v_taped v_fault v_faultPlace v_at v_place v_token v_number v_word v_text0 v_written v_sort0 v_pile v_piled v_opens v_isWhole v_once v_named v_values v_truth v_isWritten v_died v_aside v_likely v_safe v_headOf) H → va_D A (WM h q cI cJ cZ v_a v_image v_texts v_tape v_taped v_fault v_faultPlace v_at v_place v_token v_number v_word v_text0 v_written v_sort0 v_pile v_piled v_opens v_isWhole v_once v_named v_values v_truth v_isWritten v_died v_aside v_likely v_safe v_headOf) → va_S A s.heap H locs → lv_has ls 10 [(0, .ref h), (1, .int x1), (2, .int x2), (3, .int x3), (4, .int x4), (5, .int x5)] → W p l e ({ frames := 3, cells := 0, slots := 0, locals := 70 } : Room) s m ([.ref h, .int p1, .int p2, .int p3] : List Value).toArray below meth c H locs 0 0 (MQ below ((mQi D (WM h q cI cJ cZ v_a v_image v_texts v_tape v_taped v_fault v_faultPlace v_at v_place v_token v_number v_word v_text0 v_written v_sort0 v_pile v_piled v_opens v_isWhole v_once v_named v_values v_truth v_isWritten v_died v_aside v_likely v_safe v_headOf) o_r True) A) ([.ref h, .int p1, .int p2, .int p3] : List Value).toArray s 0 0 A) (F0 m 43 ls []) := by
    intro n43
    induction n43 with
    | zero =>
      intro x1 x2 x3 x4 x5 H locs ls hf hP hD hS hl
      simp [f_X12_inCrowd_43] at hf
    | succ n43 ih43 =>
      intro x1 x2 x3 x4 x5 H locs ls hf hP hD hS hl
      rw [f_X12_inCrowd_43.eq_2] at hf
      refine lv_iload hx hb dX12_inCrowd_43 (lv_at hl 5 rfl) ?_
      refine lv_aload_n hx hb dX12_inCrowd_45 rfl (lv_at hl 0 rfl) ?_
      refine gfX12_7 hx hb hts hown hK hP 0 rfl rfl dX12_inCrowd_46 ?_
      refine lv_iconst (v := (5 : Int32)) hx hb dX12_inCrowd_49 (by decide) ?_
      refine xiald hx hb hK hP 1 0 rfl rfl dX12_inCrowd_50 hf (fun v50 hf => ?_)
      refine xicmp_ge hx hb 67 dX12_inCrowd_51 (by decide) hf (fun hf => ?_) (fun hf => ?_)
      · refine lv_iconst (v := (0 : Int32)) hx hb dX12_inCrowd_67 (by decide) ?_
        refine lv_istore (lv' := [(5, .int (0 : Int32)), (0, .ref h), (1, .int x1), (2, .int x2), (3, .int x3), (4, .int x4)]) hx hb dX12_inCrowd_68 hl (by decide) rfl (fun ls hl => ?_)
        refine lv_iconst (v := (0 : Int32)) hx hb dX12_inCrowd_70 (by decide) ?_
        refine lv_istore (lv' := [(6, .int (0 : Int32)), (5, .int (0 : Int32)), (0, .ref h), (1, .int x1), (2, .int x2), (3, .int x3), (4, .int x4)]) hx hb dX12_inCrowd_71 hl (by decide) rfl (fun ls hl => ?_)
        refine lv_bipush (v := (31 : Int32)) hx hb dX12_inCrowd_73 (by decide) ?_
        refine lv_istore (lv' := [(7, .int (31 : Int32)), (6, .int (0 : Int32)), (5, .int (0 : Int32)), (0, .ref h), (1, .int x1), (2, .int x2), (3, .int x3), (4, .int x4)]) hx hb dX12_inCrowd_75 hl (by decide) rfl (fun ls hl => ?_)
        refine lv_iconst (v := (0 : Int32)) hx hb dX12_inCrowd_77 (by decide) ?_
        refine lv_istore (lv' := [(8, .int (0 : Int32)), (7, .int (31 : Int32)), (6, .int (0 : Int32)), (5, .int (0 : Int32)), (0, .ref h), (1, .int x1), (2, .int x2), (3, .int x3), (4, .int x4)]) hx hb dX12_inCrowd_78 hl (by decide) rfl (fun ls hl => ?_)
        exact b80 N x1 x2 x3 x4 (0 : Int32) (0 : Int32) (31 : Int32) (0 : Int32) _ _ _ hf hP hD hS (lv_sub hl [4, 5, 6, 7, 8, 3, 2, 1, 0] rfl)
      · refine lv_iload hx hb dX12_inCrowd_54 (lv_at hl 4 rfl) ?_
        refine lv_bipush (v := (8 : Int32)) hx hb dX12_inCrowd_56 (by decide) ?_
        refine lv_imul hx hb dX12_inCrowd_58 ?_
        refine lv_istore (lv' := [(4, .int (x4 * (8 : Int32))), (0, .ref h), (1, .int x1), (2, .int x2), (3, .int x3), (5, .int x5)]) hx hb dX12_inCrowd_59 hl (by decide) rfl (fun ls hl => ?_)
        refine lv_iinc (v := (x5 + (1 : Int32))) (lv' := [(5, .int (x5 + (1 : Int32))), (4, .int (x4 * (8 : Int32))), (0, .ref h), (1, .int x1), (2, .int x2), (3, .int x3)]) hx hb dX12_inCrowd_61 hl (k := 5) rfl rfl (by decide) rfl (fun ls hl => ?_)
        refine lv_goto (tgt := 43) hx hb dX12_inCrowd_64 (by decide) ?_
        exact ih43 x1 x2 x3 (x4 * (8 : Int32)) (x5 + (1 : Int32)) _ _ _ hf hP hD hS (lv_sub hl [2, 3, 4, 5, 1, 0] rfl)
  unfold f_X12_inCrowd at hf
  refine lv_aload_n hx hb dX12_inCrowd_0 rfl (lv_at hl 0 rfl) ?_
  refine lv_iload_n hx hb dX12_inCrowd_1 rfl (lv_at hl 1 rfl) ?_
  obtain ⟨r2, hg2, hf⟩ := ob1_some hf
  refine mcV1_i (As := [.int p1]) (rest := []) hx hb hml hown hts hK hP hD hS hA (k_X12_isLand l N D cI cJ cZ cB cT h q v_a v_image v_texts v_tape v_taped v_fault v_faultPlace v_at v_place v_token v_number v_word v_text0 v_written v_sort0 v_pile v_piled v_opens v_isWhole v_once v_named v_values v_truth v_isWritten v_died v_aside v_likely v_safe v_headOf p1 r2 hg2) (kwX12_75 hts rfl rfl ⟨Nat.le_of_ble_eq_true rfl, Nat.le_of_ble_eq_true rfl⟩) 0 rfl rfl rfl rfl hl.1 rfl (Nat.le_of_ble_eq_true rfl) dX12_inCrowd_2 ⟨Nat.zero_le _, Nat.zero_le _⟩ (fun hB2 H locs hP hD hS => ?_)
  have hP : va_P D vwCl (WM h q cI cJ cZ v_a v_image v_texts v_tape v_taped v_fault v_faultPlace v_at v_place v_token v_number v_word v_text0 v_written v_sort0 v_pile v_piled v_opens v_isWhole v_once v_named v_values v_truth v_isWritten v_died v_aside v_likely v_safe v_headOf) H := hP
  have hD : va_D A (WM h q cI cJ cZ v_a v_image v_texts v_tape v_taped v_fault v_faultPlace v_at v_place v_token v_number v_word v_text0 v_written v_sort0 v_pile v_piled v_opens v_isWhole v_once v_named v_values v_truth v_isWritten v_died v_aside v_likely v_safe v_headOf) := hD
  refine xif_eq hx hb 35 dX12_inCrowd_5 (by decide) hf (fun hf => ?_) (fun hf => ?_)
  · refine lv_iconst (v := (-1 : Int32)) hx hb dX12_inCrowd_35 (by decide) ?_
    cases hf
    exact mret_i hx hb hr hlocks hP hD hS dX12_inCrowd_36 rfl trivial
  · refine lv_iload_n hx hb dX12_inCrowd_8 rfl (lv_at hl 2 rfl) ?_
    refine lv_iconst (v := (0 : Int32)) hx hb dX12_inCrowd_9 (by decide) ?_
    refine lv_iconst (v := (5 : Int32)) hx hb dX12_inCrowd_10 (by decide) ?_
    obtain ⟨r11, hg11, hf⟩ := ob1_some hf
    refine mcS0_i (As := [.int p2, .int (0 : Int32), .int (5 : Int32)]) (rest := []) hx hb hml hown hts hK hP hD hS hA (k_X12_isIn l N D cI cJ cZ cB cT p2 (0 : Int32) (5 : Int32) r11 hg11) (kwX12_63 hts rfl rfl ⟨Nat.le_of_ble_eq_true rfl, Nat.le_of_ble_eq_true rfl⟩) rfl hl.1 rfl (Nat.le_of_ble_eq_true rfl) dX12_inCrowd_11 ⟨Nat.zero_le _, Nat.zero_le _⟩ (fun hB11 H locs hP hD hS => ?_)
    refine xif_eq hx hb 35 dX12_inCrowd_14 (by decide) hf (fun hf => ?_) (fun hf => ?_)
    · refine lv_iconst (v := (-1 : Int32)) hx hb dX12_inCrowd_35 (by decide) ?_
      cases hf
      exact mret_i hx hb hr hlocks hP hD hS dX12_inCrowd_36 rfl trivial
    · refine lv_iload_n hx hb dX12_inCrowd_17 rfl (lv_at hl 3 rfl) ?_
      refine lv_iconst (v := (0 : Int32)) hx hb dX12_inCrowd_18 (by decide) ?_
      refine lv_iconst (v := (2 : Int32)) hx hb dX12_inCrowd_19 (by decide) ?_
      obtain ⟨r20, hg20, hf⟩ := ob1_some hf
      refine mcS0_i (As := [.int p3, .int (0 : Int32), .int (2 : Int32)]) (rest := []) hx hb hml hown hts hK hP hD hS hA (k_X12_isIn l N D cI cJ cZ cB cT p3 (0 : Int32) (2 : Int32) r20 hg20) (kwX12_63 hts rfl rfl ⟨Nat.le_of_ble_eq_true rfl, Nat.le_of_ble_eq_true rfl⟩) rfl hl.1 rfl (Nat.le_of_ble_eq_true rfl) dX12_inCrowd_20 ⟨Nat.zero_le _, Nat.zero_le _⟩ (fun hB20 H locs hP hD hS => ?_)
      refine xif_eq hx hb 35 dX12_inCrowd_23 (by decide) hf (fun hf => ?_) (fun hf => ?_)
      · refine lv_iconst (v := (-1 : Int32)) hx hb dX12_inCrowd_35 (by decide) ?_
        cases hf
        exact mret_i hx hb hr hlocks hP hD hS dX12_inCrowd_36 rfl trivial
      · refine lv_aload_n hx hb dX12_inCrowd_26 rfl (lv_at hl 0 rfl) ?_
        refine gfX12_7 hx hb hts hown hK hP 0 rfl rfl dX12_inCrowd_27 ?_
        refine lv_iconst (v := (5 : Int32)) hx hb dX12_inCrowd_30 (by decide) ?_
        refine xiald hx hb hK hP 1 0 rfl rfl dX12_inCrowd_31 hf (fun v31 hf => ?_)
        refine xif_ne hx hb 37 dX12_inCrowd_32 (by decide) hf (fun hf => ?_) (fun hf => ?_)
        · refine lv_iconst (v := (-1 : Int32)) hx hb dX12_inCrowd_35 (by decide) ?_
          cases hf
          exact mret_i hx hb hr hlocks hP hD hS dX12_inCrowd_36 rfl trivial
        · refine lv_iconst (v := (1 : Int32)) hx hb dX12_inCrowd_37 (by decide) ?_
          refine lv_istore (lv' := [(4, .int (1 : Int32)), (0, .ref h), (1, .int p1), (2, .int p2), (3, .int p3)]) hx hb dX12_inCrowd_38 hl (by decide) rfl (fun ls hl => ?_)
          refine lv_iconst (v := (1 : Int32)) hx hb dX12_inCrowd_40 (by decide) ?_
          refine lv_istore (lv' := [(5, .int (1 : Int32)), (4, .int (1 : Int32)), (0, .ref h), (1, .int p1), (2, .int p2), (3, .int p3)]) hx hb dX12_inCrowd_41 hl (by decide) rfl (fun ls hl => ?_)
          exact b43 N p1 p2 p3 (1 : Int32) (1 : Int32) _ _ _ hf hP hD hS (lv_sub hl [2, 3, 4, 5, 1, 0] rfl)
theorem dX12_reports_0 : decode cX12_reports 0 = .ok (.iload_n 1, 1) := by decide +kernel
theorem dX12_reports_1 : decode cX12_reports 1 = .ok (.iconst 0, 1) := by decide +kernel
theorem dX12_reports_2 : decode cX12_reports 2 = .ok (.bipush 8, 2) := by decide +kernel
theorem dX12_reports_4 : decode cX12_reports 4 = .ok (.invokestatic 63, 3) := by decide +kernel
theorem dX12_reports_7 : decode cX12_reports 7 = .ok (.ifCond .ne 5, 3) := by decide +kernel
theorem dX12_reports_10 : decode cX12_reports 10 = .ok (.iconst 0, 1) := by decide +kernel
theorem dX12_reports_11 : decode cX12_reports 11 = .ok (.ireturn, 1) := by decide +kernel
theorem dX12_reports_12 : decode cX12_reports 12 = .ok (.aload_n 0, 1) := by decide +kernel
theorem dX12_reports_13 : decode cX12_reports 13 = .ok (.getfield 7, 3) := by decide +kernel
theorem dX12_reports_16 : decode cX12_reports 16 = .ok (.bipush 6, 2) := by decide +kernel
theorem dX12_reports_18 : decode cX12_reports 18 = .ok (.iload_n 1, 1) := by decide +kernel
theorem dX12_reports_19 : decode cX12_reports 19 = .ok (.iastore, 1) := by decide +kernel
theorem dX12_reports_20 : decode cX12_reports 20 = .ok (.aload_n 0, 1) := by decide +kernel
theorem dX12_reports_21 : decode cX12_reports 21 = .ok (.getfield 7, 3) := by decide +kernel
theorem dX12_reports_24 : decode cX12_reports 24 = .ok (.bipush 7, 2) := by decide +kernel
theorem dX12_reports_26 : decode cX12_reports 26 = .ok (.iconst 0, 1) := by decide +kernel
theorem dX12_reports_27 : decode cX12_reports 27 = .ok (.iastore, 1) := by decide +kernel
theorem dX12_reports_28 : decode cX12_reports 28 = .ok (.iconst 1, 1) := by decide +kernel
theorem dX12_reports_29 : decode cX12_reports 29 = .ok (.ireturn, 1) := by decide +kernel
def f_X12_reports (N : Nat) (v_a : Nat → Int32) (p1 : Int32) : Option (Int32 × (Nat → Int32)) := ob1 (f_X12_isIn N p1 (0 : Int32) (8 : Int32)) fun r4 => if r4 = 0 then (some ((0 : Int32), v_a)) else (sA v_a 8762 (6 : Int32) p1 fun v_a_19 => sA v_a_19 8762 (7 : Int32) (0 : Int32) fun v_a_27 => some ((1 : Int32), v_a_27))
set_option maxHeartbeats 4000000 in
set_option maxRecDepth 100000 in
theorem k_X12_reports (l : Launch) (N : Nat) (D : va_G) (cI cJ cZ cB cT : ClassId) (h : Nat) (q : Nat → Nat) (v_a : Nat → Int32) (v_image : Nat → Int32) (v_texts : Nat → Int32) (v_tape : Nat → Int32) (v_taped : Int32) (v_fault : Int32) (v_faultPlace : Int32) (v_at : Int32) (v_place : Int32) (v_token : Int32) (v_number : Int32) (v_word : Int64) (v_text0 : Int32) (v_written : Int32) (v_sort0 : Int32) (v_pile : Nat → Int32) (v_piled : Int32) (v_opens : Int32) (v_isWhole : Int32) (v_once : Int32) (v_named : Nat → Int32) (v_values : Nat → Int64) (v_truth : Nat → Int32) (v_isWritten : Int32) (v_died : Int32) (v_aside : Nat → Int32) (v_likely : Nat → Int32) (v_safe : Nat → Int32) (v_headOf : Nat → Int32) (p1 : Int32) (o_r : Int32) (o_v_a : Nat → Int32) (hf : f_X12_reports N v_a p1 = some (o_r, o_v_a)) : ∀ sz, Met l yX12_reports (mw yX12_reports cX12_reports 2 (some .boolean)) ({ frames := 1, cells := 0, slots := 0, locals := 22 } : Room) (mPre D (mT cI cJ cZ cB cT) (WM h q cI cJ cZ v_a v_image v_texts v_tape v_taped v_fault v_faultPlace v_at v_place v_token v_number v_word v_text0 v_written v_sort0 v_pile v_piled v_opens v_isWhole v_once v_named v_values v_truth v_isWritten v_died v_aside v_likely v_safe v_headOf) sz [.ref h, .int p1]) ((mQi D (WM h q cI cJ cZ o_v_a v_image v_texts v_tape v_taped v_fault v_faultPlace v_at v_place v_token v_number v_word v_text0 v_written v_sort0 v_pile v_piled v_opens v_isWhole v_once v_named v_values v_truth v_isWritten v_died v_aside v_likely v_safe v_headOf) o_r (mB o_r)) (va_A (WM h q cI cJ cZ v_a v_image v_texts v_tape v_taped v_fault v_faultPlace v_at v_place v_token v_number v_word v_text0 v_written v_sort0 v_pile v_piled v_opens v_isWhole v_once v_named v_values v_truth v_isWritten v_died v_aside v_likely v_safe v_headOf) sz)) 0 0 (va_A (WM h q cI cJ cZ v_a v_image v_texts v_tape v_taped v_fault v_faultPlace v_at v_place v_token v_number v_word v_text0 v_written v_sort0 v_pile v_piled v_opens v_isWhole v_once v_named v_values v_truth v_isWritten v_died v_aside v_likely v_safe v_headOf) sz) := by
  refine mMet (Qc := (mQi D (WM h q cI cJ cZ o_v_a v_image v_texts v_tape v_taped v_fault v_faultPlace v_at v_place v_token v_number v_word v_text0 v_written v_sort0 v_pile v_piled v_opens v_isWhole v_once v_named v_values v_truth v_isWritten v_died v_aside v_likely v_safe v_headOf) o_r (mB o_r))) (by decide) (Nat.le_of_ble_eq_true rfl) (fun p e s m below meth c A ls hx hb hr hml hts hown hlocks hK hA hP hD hl => ?_)
  have hown : s.vm.findClass RX12 = some m.cls := hown
  have hl : lv_has ls 2 [(0, .ref h), (1, .int p1)] := hl
  have hS : va_S A s.heap s.heap [] := va_S.rf
  unfold f_X12_reports at hf
  refine lv_iload_n hx hb dX12_reports_0 rfl (lv_at hl 1 rfl) ?_
  refine lv_iconst (v := (0 : Int32)) hx hb dX12_reports_1 (by decide) ?_
  refine lv_bipush (v := (8 : Int32)) hx hb dX12_reports_2 (by decide) ?_
  obtain ⟨r4, hg4, hf⟩ := ob1_some hf
  refine mcS0_i (As := [.int p1, .int (0 : Int32), .int (8 : Int32)]) (rest := []) hx hb hml hown hts hK hP hD hS hA (k_X12_isIn l N D cI cJ cZ cB cT p1 (0 : Int32) (8 : Int32) r4 hg4) (kwX12_63 hts rfl rfl ⟨Nat.le_of_ble_eq_true rfl, Nat.le_of_ble_eq_true rfl⟩) rfl hl.1 rfl (Nat.le_of_ble_eq_true rfl) dX12_reports_4 ⟨Nat.zero_le _, Nat.zero_le _⟩ (fun hB4 H locs hP hD hS => ?_)
  refine xif_ne hx hb 12 dX12_reports_7 (by decide) hf (fun hf => ?_) (fun hf => ?_)
  · refine lv_iconst (v := (0 : Int32)) hx hb dX12_reports_10 (by decide) ?_
    cases hf
    exact mret_z hx hb hr hlocks hP hD hS dX12_reports_11 rfl rfl
  · refine lv_aload_n hx hb dX12_reports_12 rfl (lv_at hl 0 rfl) ?_
    refine gfX12_7 hx hb hts hown hK hP 0 rfl rfl dX12_reports_13 ?_
    refine lv_bipush (v := (6 : Int32)) hx hb dX12_reports_16 (by decide) ?_
    refine lv_iload_n hx hb dX12_reports_18 rfl (lv_at hl 1 rfl) ?_
    refine xiast hx hb hK hP hD hS 1 0 rfl rfl dX12_reports_19 hf (fun v_a_19 hf H locs hP hD hS => ?_)
    have hP : va_P D vwCl (WM h q cI cJ cZ v_a_19 v_image v_texts v_tape v_taped v_fault v_faultPlace v_at v_place v_token v_number v_word v_text0 v_written v_sort0 v_pile v_piled v_opens v_isWhole v_once v_named v_values v_truth v_isWritten v_died v_aside v_likely v_safe v_headOf) H := hP
    have hD : va_D A (WM h q cI cJ cZ v_a_19 v_image v_texts v_tape v_taped v_fault v_faultPlace v_at v_place v_token v_number v_word v_text0 v_written v_sort0 v_pile v_piled v_opens v_isWhole v_once v_named v_values v_truth v_isWritten v_died v_aside v_likely v_safe v_headOf) := hD
    refine lv_aload_n hx hb dX12_reports_20 rfl (lv_at hl 0 rfl) ?_
    refine gfX12_7 hx hb hts hown hK hP 0 rfl rfl dX12_reports_21 ?_
    refine lv_bipush (v := (7 : Int32)) hx hb dX12_reports_24 (by decide) ?_
    refine lv_iconst (v := (0 : Int32)) hx hb dX12_reports_26 (by decide) ?_
    refine xiast hx hb hK hP hD hS 1 0 rfl rfl dX12_reports_27 hf (fun v_a_27 hf H locs hP hD hS => ?_)
    have hP : va_P D vwCl (WM h q cI cJ cZ v_a_27 v_image v_texts v_tape v_taped v_fault v_faultPlace v_at v_place v_token v_number v_word v_text0 v_written v_sort0 v_pile v_piled v_opens v_isWhole v_once v_named v_values v_truth v_isWritten v_died v_aside v_likely v_safe v_headOf) H := hP
    have hD : va_D A (WM h q cI cJ cZ v_a_27 v_image v_texts v_tape v_taped v_fault v_faultPlace v_at v_place v_token v_number v_word v_text0 v_written v_sort0 v_pile v_piled v_opens v_isWhole v_once v_named v_values v_truth v_isWritten v_died v_aside v_likely v_safe v_headOf) := hD
    refine lv_iconst (v := (1 : Int32)) hx hb dX12_reports_28 (by decide) ?_
    cases hf
    exact mret_z hx hb hr hlocks hP hD hS dX12_reports_29 rfl rfl
theorem dX12_unlike_0 : decode cX12_unlike 0 = .ok (.iload_n 1, 1) := by decide +kernel
theorem dX12_unlike_1 : decode cX12_unlike 1 = .ok (.iconst 0, 1) := by decide +kernel
theorem dX12_unlike_2 : decode cX12_unlike 2 = .ok (.aload_n 0, 1) := by decide +kernel
theorem dX12_unlike_3 : decode cX12_unlike 3 = .ok (.getfield 7, 3) := by decide +kernel
theorem dX12_unlike_6 : decode cX12_unlike 6 = .ok (.bipush 6, 2) := by decide +kernel
theorem dX12_unlike_8 : decode cX12_unlike 8 = .ok (.iaload, 1) := by decide +kernel
theorem dX12_unlike_9 : decode cX12_unlike 9 = .ok (.iconst 1, 1) := by decide +kernel
theorem dX12_unlike_10 : decode cX12_unlike 10 = .ok (.isub, 1) := by decide +kernel
theorem dX12_unlike_11 : decode cX12_unlike 11 = .ok (.invokestatic 63, 3) := by decide +kernel
theorem dX12_unlike_14 : decode cX12_unlike 14 = .ok (.ifCond .eq 37, 3) := by decide +kernel
theorem dX12_unlike_17 : decode cX12_unlike 17 = .ok (.iload_n 2, 1) := by decide +kernel
theorem dX12_unlike_18 : decode cX12_unlike 18 = .ok (.iconst 0, 1) := by decide +kernel
theorem dX12_unlike_19 : decode cX12_unlike 19 = .ok (.aload_n 0, 1) := by decide +kernel
theorem dX12_unlike_20 : decode cX12_unlike 20 = .ok (.getfield 7, 3) := by decide +kernel
theorem dX12_unlike_23 : decode cX12_unlike 23 = .ok (.bipush 6, 2) := by decide +kernel
theorem dX12_unlike_25 : decode cX12_unlike 25 = .ok (.iaload, 1) := by decide +kernel
theorem dX12_unlike_26 : decode cX12_unlike 26 = .ok (.iconst 1, 1) := by decide +kernel
theorem dX12_unlike_27 : decode cX12_unlike 27 = .ok (.isub, 1) := by decide +kernel
theorem dX12_unlike_28 : decode cX12_unlike 28 = .ok (.invokestatic 63, 3) := by decide +kernel
theorem dX12_unlike_31 : decode cX12_unlike 31 = .ok (.ifCond .eq 20, 3) := by decide +kernel
theorem dX12_unlike_34 : decode cX12_unlike 34 = .ok (.iload_n 1, 1) := by decide +kernel
theorem dX12_unlike_35 : decode cX12_unlike 35 = .ok (.iload_n 2, 1) := by decide +kernel
theorem dX12_unlike_36 : decode cX12_unlike 36 = .ok (.if_icmp .eq 15, 3) := by decide +kernel
theorem dX12_unlike_39 : decode cX12_unlike 39 = .ok (.aload_n 0, 1) := by decide +kernel
theorem dX12_unlike_40 : decode cX12_unlike 40 = .ok (.getfield 7, 3) := by decide +kernel
theorem dX12_unlike_43 : decode cX12_unlike 43 = .ok (.bipush 7, 2) := by decide +kernel
theorem dX12_unlike_45 : decode cX12_unlike 45 = .ok (.iaload, 1) := by decide +kernel
theorem dX12_unlike_46 : decode cX12_unlike 46 = .ok (.bipush 8, 2) := by decide +kernel
theorem dX12_unlike_48 : decode cX12_unlike 48 = .ok (.if_icmp .ne 6, 3) := by decide +kernel
theorem dX12_unlike_51 : decode cX12_unlike 51 = .ok (.bipush (-2), 2) := by decide +kernel
theorem dX12_unlike_53 : decode cX12_unlike 53 = .ok (.ireturn, 1) := by decide +kernel
theorem dX12_unlike_54 : decode cX12_unlike 54 = .ok (.aload_n 0, 1) := by decide +kernel
theorem dX12_unlike_55 : decode cX12_unlike 55 = .ok (.getfield 7, 3) := by decide +kernel
theorem dX12_unlike_58 : decode cX12_unlike 58 = .ok (.bipush 101, 2) := by decide +kernel
theorem dX12_unlike_60 : decode cX12_unlike 60 = .ok (.iconst 2, 1) := by decide +kernel
theorem dX12_unlike_61 : decode cX12_unlike 61 = .ok (.aload_n 0, 1) := by decide +kernel
theorem dX12_unlike_62 : decode cX12_unlike 62 = .ok (.getfield 7, 3) := by decide +kernel
theorem dX12_unlike_65 : decode cX12_unlike 65 = .ok (.bipush 7, 2) := by decide +kernel
theorem dX12_unlike_67 : decode cX12_unlike 67 = .ok (.iaload, 1) := by decide +kernel
theorem dX12_unlike_68 : decode cX12_unlike 68 = .ok (.imul, 1) := by decide +kernel
theorem dX12_unlike_69 : decode cX12_unlike 69 = .ok (.iadd, 1) := by decide +kernel
theorem dX12_unlike_70 : decode cX12_unlike 70 = .ok (.iload_n 1, 1) := by decide +kernel
theorem dX12_unlike_71 : decode cX12_unlike 71 = .ok (.iastore, 1) := by decide +kernel
theorem dX12_unlike_72 : decode cX12_unlike 72 = .ok (.aload_n 0, 1) := by decide +kernel
theorem dX12_unlike_73 : decode cX12_unlike 73 = .ok (.getfield 7, 3) := by decide +kernel
theorem dX12_unlike_76 : decode cX12_unlike 76 = .ok (.bipush 101, 2) := by decide +kernel
theorem dX12_unlike_78 : decode cX12_unlike 78 = .ok (.iconst 2, 1) := by decide +kernel
theorem dX12_unlike_79 : decode cX12_unlike 79 = .ok (.aload_n 0, 1) := by decide +kernel
theorem dX12_unlike_80 : decode cX12_unlike 80 = .ok (.getfield 7, 3) := by decide +kernel
theorem dX12_unlike_83 : decode cX12_unlike 83 = .ok (.bipush 7, 2) := by decide +kernel
theorem dX12_unlike_85 : decode cX12_unlike 85 = .ok (.iaload, 1) := by decide +kernel
theorem dX12_unlike_86 : decode cX12_unlike 86 = .ok (.imul, 1) := by decide +kernel
theorem dX12_unlike_87 : decode cX12_unlike 87 = .ok (.iadd, 1) := by decide +kernel
theorem dX12_unlike_88 : decode cX12_unlike 88 = .ok (.iconst 1, 1) := by decide +kernel
theorem dX12_unlike_89 : decode cX12_unlike 89 = .ok (.iadd, 1) := by decide +kernel
theorem dX12_unlike_90 : decode cX12_unlike 90 = .ok (.iload_n 2, 1) := by decide +kernel
theorem dX12_unlike_91 : decode cX12_unlike 91 = .ok (.iastore, 1) := by decide +kernel
theorem dX12_unlike_92 : decode cX12_unlike 92 = .ok (.aload_n 0, 1) := by decide +kernel
theorem dX12_unlike_93 : decode cX12_unlike 93 = .ok (.getfield 7, 3) := by decide +kernel
theorem dX12_unlike_96 : decode cX12_unlike 96 = .ok (.bipush 7, 2) := by decide +kernel
theorem dX12_unlike_98 : decode cX12_unlike 98 = .ok (.dup2, 1) := by decide +kernel
theorem dX12_unlike_99 : decode cX12_unlike 99 = .ok (.iaload, 1) := by decide +kernel
theorem dX12_unlike_100 : decode cX12_unlike 100 = .ok (.iconst 1, 1) := by decide +kernel
theorem dX12_unlike_101 : decode cX12_unlike 101 = .ok (.iadd, 1) := by decide +kernel
theorem dX12_unlike_102 : decode cX12_unlike 102 = .ok (.iastore, 1) := by decide +kernel
theorem dX12_unlike_103 : decode cX12_unlike 103 = .ok (.aload_n 0, 1) := by decide +kernel
theorem dX12_unlike_104 : decode cX12_unlike 104 = .ok (.getfield 7, 3) := by decide +kernel
theorem dX12_unlike_107 : decode cX12_unlike 107 = .ok (.bipush 7, 2) := by decide +kernel
theorem dX12_unlike_109 : decode cX12_unlike 109 = .ok (.iaload, 1) := by decide +kernel
theorem dX12_unlike_110 : decode cX12_unlike 110 = .ok (.ireturn, 1) := by decide +kernel
def f_X12_unlike (N : Nat) (v_a : Nat → Int32) (p1 : Int32) (p2 : Int32) : Option (Int32 × (Nat → Int32)) := gA v_a 8762 (6 : Int32) fun v8 => ob1 (f_X12_isIn N p1 (0 : Int32) (v8 - (1 : Int32))) fun r11 => if r11 = 0 then (some ((-2 : Int32), v_a)) else (gA v_a 8762 (6 : Int32) fun v25 => ob1 (f_X12_isIn N p2 (0 : Int32) (v25 - (1 : Int32))) fun r28 => if r28 = 0 then (some ((-2 : Int32), v_a)) else (if p1 = p2 then (some ((-2 : Int32), v_a)) else (gA v_a 8762 (7 : Int32) fun v45 => if v45 = (8 : Int32) then (some ((-2 : Int32), v_a)) else (gA v_a 8762 (7 : Int32) fun v67 => sA v_a 8762 ((101 : Int32) + ((2 : Int32) * v67)) p1 fun v_a_71 => gA v_a_71 8762 (7 : Int32) fun v85 => sA v_a_71 8762 (((101 : Int32) + ((2 : Int32) * v85)) + (1 : Int32)) p2 fun v_a_91 => gA v_a_91 8762 (7 : Int32) fun v99 => sA v_a_91 8762 (7 : Int32) (v99 + (1 : Int32)) fun v_a_102 => gA v_a_102 8762 (7 : Int32) fun v109 => some (v109, v_a_102)))))
set_option maxHeartbeats 4000000 in
set_option maxRecDepth 100000 in
theorem k_X12_unlike (l : Launch) (N : Nat) (D : va_G) (cI cJ cZ cB cT : ClassId) (h : Nat) (q : Nat → Nat) (v_a : Nat → Int32) (v_image : Nat → Int32) (v_texts : Nat → Int32) (v_tape : Nat → Int32) (v_taped : Int32) (v_fault : Int32) (v_faultPlace : Int32) (v_at : Int32) (v_place : Int32) (v_token : Int32) (v_number : Int32) (v_word : Int64) (v_text0 : Int32) (v_written : Int32) (v_sort0 : Int32) (v_pile : Nat → Int32) (v_piled : Int32) (v_opens : Int32) (v_isWhole : Int32) (v_once : Int32) (v_named : Nat → Int32) (v_values : Nat → Int64) (v_truth : Nat → Int32) (v_isWritten : Int32) (v_died : Int32) (v_aside : Nat → Int32) (v_likely : Nat → Int32) (v_safe : Nat → Int32) (v_headOf : Nat → Int32) (p1 : Int32) (p2 : Int32) (o_r : Int32) (o_v_a : Nat → Int32) (hf : f_X12_unlike N v_a p1 p2 = some (o_r, o_v_a)) : ∀ sz, Met l yX12_unlike (mw yX12_unlike cX12_unlike 3 (some .int)) ({ frames := 1, cells := 0, slots := 0, locals := 22 } : Room) (mPre D (mT cI cJ cZ cB cT) (WM h q cI cJ cZ v_a v_image v_texts v_tape v_taped v_fault v_faultPlace v_at v_place v_token v_number v_word v_text0 v_written v_sort0 v_pile v_piled v_opens v_isWhole v_once v_named v_values v_truth v_isWritten v_died v_aside v_likely v_safe v_headOf) sz [.ref h, .int p1, .int p2]) ((mQi D (WM h q cI cJ cZ o_v_a v_image v_texts v_tape v_taped v_fault v_faultPlace v_at v_place v_token v_number v_word v_text0 v_written v_sort0 v_pile v_piled v_opens v_isWhole v_once v_named v_values v_truth v_isWritten v_died v_aside v_likely v_safe v_headOf) o_r True) (va_A (WM h q cI cJ cZ v_a v_image v_texts v_tape v_taped v_fault v_faultPlace v_at v_place v_token v_number v_word v_text0 v_written v_sort0 v_pile v_piled v_opens v_isWhole v_once v_named v_values v_truth v_isWritten v_died v_aside v_likely v_safe v_headOf) sz)) 0 0 (va_A (WM h q cI cJ cZ v_a v_image v_texts v_tape v_taped v_fault v_faultPlace v_at v_place v_token v_number v_word v_text0 v_written v_sort0 v_pile v_piled v_opens v_isWhole v_once v_named v_values v_truth v_isWritten v_died v_aside v_likely v_safe v_headOf) sz) := by
  refine mMet (Qc := (mQi D (WM h q cI cJ cZ o_v_a v_image v_texts v_tape v_taped v_fault v_faultPlace v_at v_place v_token v_number v_word v_text0 v_written v_sort0 v_pile v_piled v_opens v_isWhole v_once v_named v_values v_truth v_isWritten v_died v_aside v_likely v_safe v_headOf) o_r True)) (by decide) (Nat.le_of_ble_eq_true rfl) (fun p e s m below meth c A ls hx hb hr hml hts hown hlocks hK hA hP hD hl => ?_)
  have hown : s.vm.findClass RX12 = some m.cls := hown
  have hl : lv_has ls 3 [(0, .ref h), (1, .int p1), (2, .int p2)] := hl
  have hS : va_S A s.heap s.heap [] := va_S.rf
  unfold f_X12_unlike at hf
  refine lv_iload_n hx hb dX12_unlike_0 rfl (lv_at hl 1 rfl) ?_
  refine lv_iconst (v := (0 : Int32)) hx hb dX12_unlike_1 (by decide) ?_
  refine lv_aload_n hx hb dX12_unlike_2 rfl (lv_at hl 0 rfl) ?_
  refine gfX12_7 hx hb hts hown hK hP 0 rfl rfl dX12_unlike_3 ?_
  refine lv_bipush (v := (6 : Int32)) hx hb dX12_unlike_6 (by decide) ?_
  refine xiald hx hb hK hP 1 0 rfl rfl dX12_unlike_8 hf (fun v8 hf => ?_)
  refine lv_iconst (v := (1 : Int32)) hx hb dX12_unlike_9 (by decide) ?_
  refine lv_isub hx hb dX12_unlike_10 ?_
  obtain ⟨r11, hg11, hf⟩ := ob1_some hf
  refine mcS0_i (As := [.int p1, .int (0 : Int32), .int (v8 - (1 : Int32))]) (rest := []) hx hb hml hown hts hK hP hD hS hA (k_X12_isIn l N D cI cJ cZ cB cT p1 (0 : Int32) (v8 - (1 : Int32)) r11 hg11) (kwX12_63 hts rfl rfl ⟨Nat.le_of_ble_eq_true rfl, Nat.le_of_ble_eq_true rfl⟩) rfl hl.1 rfl (Nat.le_of_ble_eq_true rfl) dX12_unlike_11 ⟨Nat.zero_le _, Nat.zero_le _⟩ (fun hB11 H locs hP hD hS => ?_)
  refine xif_eq hx hb 51 dX12_unlike_14 (by decide) hf (fun hf => ?_) (fun hf => ?_)
  · refine lv_bipush (v := (-2 : Int32)) hx hb dX12_unlike_51 (by decide) ?_
    cases hf
    exact mret_i hx hb hr hlocks hP hD hS dX12_unlike_53 rfl trivial
  · refine lv_iload_n hx hb dX12_unlike_17 rfl (lv_at hl 2 rfl) ?_
    refine lv_iconst (v := (0 : Int32)) hx hb dX12_unlike_18 (by decide) ?_
    refine lv_aload_n hx hb dX12_unlike_19 rfl (lv_at hl 0 rfl) ?_
    refine gfX12_7 hx hb hts hown hK hP 0 rfl rfl dX12_unlike_20 ?_
    refine lv_bipush (v := (6 : Int32)) hx hb dX12_unlike_23 (by decide) ?_
    refine xiald hx hb hK hP 1 0 rfl rfl dX12_unlike_25 hf (fun v25 hf => ?_)
    refine lv_iconst (v := (1 : Int32)) hx hb dX12_unlike_26 (by decide) ?_
    refine lv_isub hx hb dX12_unlike_27 ?_
    obtain ⟨r28, hg28, hf⟩ := ob1_some hf
    refine mcS0_i (As := [.int p2, .int (0 : Int32), .int (v25 - (1 : Int32))]) (rest := []) hx hb hml hown hts hK hP hD hS hA (k_X12_isIn l N D cI cJ cZ cB cT p2 (0 : Int32) (v25 - (1 : Int32)) r28 hg28) (kwX12_63 hts rfl rfl ⟨Nat.le_of_ble_eq_true rfl, Nat.le_of_ble_eq_true rfl⟩) rfl hl.1 rfl (Nat.le_of_ble_eq_true rfl) dX12_unlike_28 ⟨Nat.zero_le _, Nat.zero_le _⟩ (fun hB28 H locs hP hD hS => ?_)
    refine xif_eq hx hb 51 dX12_unlike_31 (by decide) hf (fun hf => ?_) (fun hf => ?_)
    · refine lv_bipush (v := (-2 : Int32)) hx hb dX12_unlike_51 (by decide) ?_
      cases hf
      exact mret_i hx hb hr hlocks hP hD hS dX12_unlike_53 rfl trivial
    · refine lv_iload_n hx hb dX12_unlike_34 rfl (lv_at hl 1 rfl) ?_
      refine lv_iload_n hx hb dX12_unlike_35 rfl (lv_at hl 2 rfl) ?_
      refine xicmp_eq hx hb 51 dX12_unlike_36 (by decide) hf (fun hf => ?_) (fun hf => ?_)
      · refine lv_bipush (v := (-2 : Int32)) hx hb dX12_unlike_51 (by decide) ?_
        cases hf
        exact mret_i hx hb hr hlocks hP hD hS dX12_unlike_53 rfl trivial
      · refine lv_aload_n hx hb dX12_unlike_39 rfl (lv_at hl 0 rfl) ?_
        refine gfX12_7 hx hb hts hown hK hP 0 rfl rfl dX12_unlike_40 ?_
        refine lv_bipush (v := (7 : Int32)) hx hb dX12_unlike_43 (by decide) ?_
        refine xiald hx hb hK hP 1 0 rfl rfl dX12_unlike_45 hf (fun v45 hf => ?_)
        refine lv_bipush (v := (8 : Int32)) hx hb dX12_unlike_46 (by decide) ?_
        refine xicmp_ne hx hb 54 dX12_unlike_48 (by decide) hf (fun hf => ?_) (fun hf => ?_)
        · refine lv_bipush (v := (-2 : Int32)) hx hb dX12_unlike_51 (by decide) ?_
          cases hf
          exact mret_i hx hb hr hlocks hP hD hS dX12_unlike_53 rfl trivial
        · refine lv_aload_n hx hb dX12_unlike_54 rfl (lv_at hl 0 rfl) ?_
          refine gfX12_7 hx hb hts hown hK hP 0 rfl rfl dX12_unlike_55 ?_
          refine lv_bipush (v := (101 : Int32)) hx hb dX12_unlike_58 (by decide) ?_
          refine lv_iconst (v := (2 : Int32)) hx hb dX12_unlike_60 (by decide) ?_
          refine lv_aload_n hx hb dX12_unlike_61 rfl (lv_at hl 0 rfl) ?_
          refine gfX12_7 hx hb hts hown hK hP 0 rfl rfl dX12_unlike_62 ?_
          refine lv_bipush (v := (7 : Int32)) hx hb dX12_unlike_65 (by decide) ?_
          refine xiald hx hb hK hP 1 0 rfl rfl dX12_unlike_67 hf (fun v67 hf => ?_)
          refine lv_imul hx hb dX12_unlike_68 ?_
          refine lv_iadd hx hb dX12_unlike_69 ?_
          refine lv_iload_n hx hb dX12_unlike_70 rfl (lv_at hl 1 rfl) ?_
          refine xiast hx hb hK hP hD hS 1 0 rfl rfl dX12_unlike_71 hf (fun v_a_71 hf H locs hP hD hS => ?_)
          have hP : va_P D vwCl (WM h q cI cJ cZ v_a_71 v_image v_texts v_tape v_taped v_fault v_faultPlace v_at v_place v_token v_number v_word v_text0 v_written v_sort0 v_pile v_piled v_opens v_isWhole v_once v_named v_values v_truth v_isWritten v_died v_aside v_likely v_safe v_headOf) H := hP
          have hD : va_D A (WM h q cI cJ cZ v_a_71 v_image v_texts v_tape v_taped v_fault v_faultPlace v_at v_place v_token v_number v_word v_text0 v_written v_sort0 v_pile v_piled v_opens v_isWhole v_once v_named v_values v_truth v_isWritten v_died v_aside v_likely v_safe v_headOf) := hD
          refine lv_aload_n hx hb dX12_unlike_72 rfl (lv_at hl 0 rfl) ?_
          refine gfX12_7 hx hb hts hown hK hP 0 rfl rfl dX12_unlike_73 ?_
          refine lv_bipush (v := (101 : Int32)) hx hb dX12_unlike_76 (by decide) ?_
          refine lv_iconst (v := (2 : Int32)) hx hb dX12_unlike_78 (by decide) ?_
          refine lv_aload_n hx hb dX12_unlike_79 rfl (lv_at hl 0 rfl) ?_
          refine gfX12_7 hx hb hts hown hK hP 0 rfl rfl dX12_unlike_80 ?_
          refine lv_bipush (v := (7 : Int32)) hx hb dX12_unlike_83 (by decide) ?_
          refine xiald hx hb hK hP 1 0 rfl rfl dX12_unlike_85 hf (fun v85 hf => ?_)
          refine lv_imul hx hb dX12_unlike_86 ?_
          refine lv_iadd hx hb dX12_unlike_87 ?_
          refine lv_iconst (v := (1 : Int32)) hx hb dX12_unlike_88 (by decide) ?_
          refine lv_iadd hx hb dX12_unlike_89 ?_
          refine lv_iload_n hx hb dX12_unlike_90 rfl (lv_at hl 2 rfl) ?_
          refine xiast hx hb hK hP hD hS 1 0 rfl rfl dX12_unlike_91 hf (fun v_a_91 hf H locs hP hD hS => ?_)
          have hP : va_P D vwCl (WM h q cI cJ cZ v_a_91 v_image v_texts v_tape v_taped v_fault v_faultPlace v_at v_place v_token v_number v_word v_text0 v_written v_sort0 v_pile v_piled v_opens v_isWhole v_once v_named v_values v_truth v_isWritten v_died v_aside v_likely v_safe v_headOf) H := hP
          have hD : va_D A (WM h q cI cJ cZ v_a_91 v_image v_texts v_tape v_taped v_fault v_faultPlace v_at v_place v_token v_number v_word v_text0 v_written v_sort0 v_pile v_piled v_opens v_isWhole v_once v_named v_values v_truth v_isWritten v_died v_aside v_likely v_safe v_headOf) := hD
          refine lv_aload_n hx hb dX12_unlike_92 rfl (lv_at hl 0 rfl) ?_
          refine gfX12_7 hx hb hts hown hK hP 0 rfl rfl dX12_unlike_93 ?_
          refine lv_bipush (v := (7 : Int32)) hx hb dX12_unlike_96 (by decide) ?_
          refine lv_dup2_11 hx hb dX12_unlike_98 rfl rfl ?_
          refine xiald hx hb hK hP 1 0 rfl rfl dX12_unlike_99 hf (fun v99 hf => ?_)
          refine lv_iconst (v := (1 : Int32)) hx hb dX12_unlike_100 (by decide) ?_
          refine lv_iadd hx hb dX12_unlike_101 ?_
          refine xiast hx hb hK hP hD hS 1 0 rfl rfl dX12_unlike_102 hf (fun v_a_102 hf H locs hP hD hS => ?_)
          have hP : va_P D vwCl (WM h q cI cJ cZ v_a_102 v_image v_texts v_tape v_taped v_fault v_faultPlace v_at v_place v_token v_number v_word v_text0 v_written v_sort0 v_pile v_piled v_opens v_isWhole v_once v_named v_values v_truth v_isWritten v_died v_aside v_likely v_safe v_headOf) H := hP
          have hD : va_D A (WM h q cI cJ cZ v_a_102 v_image v_texts v_tape v_taped v_fault v_faultPlace v_at v_place v_token v_number v_word v_text0 v_written v_sort0 v_pile v_piled v_opens v_isWhole v_once v_named v_values v_truth v_isWritten v_died v_aside v_likely v_safe v_headOf) := hD
          refine lv_aload_n hx hb dX12_unlike_103 rfl (lv_at hl 0 rfl) ?_
          refine gfX12_7 hx hb hts hown hK hP 0 rfl rfl dX12_unlike_104 ?_
          refine lv_bipush (v := (7 : Int32)) hx hb dX12_unlike_107 (by decide) ?_
          refine xiald hx hb hK hP 1 0 rfl rfl dX12_unlike_109 hf (fun v109 hf => ?_)
          cases hf
          exact mret_i hx hb hr hlocks hP hD hS dX12_unlike_110 rfl trivial
theorem dX12_canBe_0 : decode cX12_canBe 0 = .ok (.iconst 0, 1) := by decide +kernel
theorem dX12_canBe_1 : decode cX12_canBe 1 = .ok (.istore_n 3, 1) := by decide +kernel
theorem dX12_canBe_2 : decode cX12_canBe 2 = .ok (.iload_n 3, 1) := by decide +kernel
theorem dX12_canBe_3 : decode cX12_canBe 3 = .ok (.aload_n 0, 1) := by decide +kernel
theorem dX12_canBe_4 : decode cX12_canBe 4 = .ok (.getfield 7, 3) := by decide +kernel
theorem dX12_canBe_7 : decode cX12_canBe 7 = .ok (.bipush 7, 2) := by decide +kernel
theorem dX12_canBe_9 : decode cX12_canBe 9 = .ok (.iaload, 1) := by decide +kernel
theorem dX12_canBe_10 : decode cX12_canBe 10 = .ok (.if_icmp .ge 85, 3) := by decide +kernel
theorem dX12_canBe_13 : decode cX12_canBe 13 = .ok (.aload_n 0, 1) := by decide +kernel
theorem dX12_canBe_14 : decode cX12_canBe 14 = .ok (.getfield 7, 3) := by decide +kernel
theorem dX12_canBe_17 : decode cX12_canBe 17 = .ok (.bipush 101, 2) := by decide +kernel
theorem dX12_canBe_19 : decode cX12_canBe 19 = .ok (.iconst 2, 1) := by decide +kernel
theorem dX12_canBe_20 : decode cX12_canBe 20 = .ok (.iload_n 3, 1) := by decide +kernel
theorem dX12_canBe_21 : decode cX12_canBe 21 = .ok (.imul, 1) := by decide +kernel
theorem dX12_canBe_22 : decode cX12_canBe 22 = .ok (.iadd, 1) := by decide +kernel
theorem dX12_canBe_23 : decode cX12_canBe 23 = .ok (.iaload, 1) := by decide +kernel
theorem dX12_canBe_24 : decode cX12_canBe 24 = .ok (.istore 4, 2) := by decide +kernel
theorem dX12_canBe_26 : decode cX12_canBe 26 = .ok (.aload_n 0, 1) := by decide +kernel
theorem dX12_canBe_27 : decode cX12_canBe 27 = .ok (.getfield 7, 3) := by decide +kernel
theorem dX12_canBe_30 : decode cX12_canBe 30 = .ok (.bipush 101, 2) := by decide +kernel
theorem dX12_canBe_32 : decode cX12_canBe 32 = .ok (.iconst 2, 1) := by decide +kernel
theorem dX12_canBe_33 : decode cX12_canBe 33 = .ok (.iload_n 3, 1) := by decide +kernel
theorem dX12_canBe_34 : decode cX12_canBe 34 = .ok (.imul, 1) := by decide +kernel
theorem dX12_canBe_35 : decode cX12_canBe 35 = .ok (.iadd, 1) := by decide +kernel
theorem dX12_canBe_36 : decode cX12_canBe 36 = .ok (.iconst 1, 1) := by decide +kernel
theorem dX12_canBe_37 : decode cX12_canBe 37 = .ok (.iadd, 1) := by decide +kernel
theorem dX12_canBe_38 : decode cX12_canBe 38 = .ok (.iaload, 1) := by decide +kernel
theorem dX12_canBe_39 : decode cX12_canBe 39 = .ok (.istore 5, 2) := by decide +kernel
theorem dX12_canBe_41 : decode cX12_canBe 41 = .ok (.iload 4, 2) := by decide +kernel
theorem dX12_canBe_43 : decode cX12_canBe 43 = .ok (.iload_n 1, 1) := by decide +kernel
theorem dX12_canBe_44 : decode cX12_canBe 44 = .ok (.if_icmp .ne 20, 3) := by decide +kernel
theorem dX12_canBe_47 : decode cX12_canBe 47 = .ok (.iload 5, 2) := by decide +kernel
theorem dX12_canBe_49 : decode cX12_canBe 49 = .ok (.iload_n 1, 1) := by decide +kernel
theorem dX12_canBe_50 : decode cX12_canBe 50 = .ok (.if_icmp .ge 14, 3) := by decide +kernel
theorem dX12_canBe_53 : decode cX12_canBe 53 = .ok (.aload_n 0, 1) := by decide +kernel
theorem dX12_canBe_54 : decode cX12_canBe 54 = .ok (.getfield 56, 3) := by decide +kernel
theorem dX12_canBe_57 : decode cX12_canBe 57 = .ok (.iload 5, 2) := by decide +kernel
theorem dX12_canBe_59 : decode cX12_canBe 59 = .ok (.iaload, 1) := by decide +kernel
theorem dX12_canBe_60 : decode cX12_canBe 60 = .ok (.iload_n 2, 1) := by decide +kernel
theorem dX12_canBe_61 : decode cX12_canBe 61 = .ok (.if_icmp .eq 26, 3) := by decide +kernel
theorem dX12_canBe_64 : decode cX12_canBe 64 = .ok (.iload 5, 2) := by decide +kernel
theorem dX12_canBe_66 : decode cX12_canBe 66 = .ok (.iload_n 1, 1) := by decide +kernel
theorem dX12_canBe_67 : decode cX12_canBe 67 = .ok (.if_icmp .ne 22, 3) := by decide +kernel
theorem dX12_canBe_70 : decode cX12_canBe 70 = .ok (.iload 4, 2) := by decide +kernel
theorem dX12_canBe_72 : decode cX12_canBe 72 = .ok (.iload_n 1, 1) := by decide +kernel
theorem dX12_canBe_73 : decode cX12_canBe 73 = .ok (.if_icmp .ge 16, 3) := by decide +kernel
theorem dX12_canBe_76 : decode cX12_canBe 76 = .ok (.aload_n 0, 1) := by decide +kernel
theorem dX12_canBe_77 : decode cX12_canBe 77 = .ok (.getfield 56, 3) := by decide +kernel
theorem dX12_canBe_80 : decode cX12_canBe 80 = .ok (.iload 4, 2) := by decide +kernel
theorem dX12_canBe_82 : decode cX12_canBe 82 = .ok (.iaload, 1) := by decide +kernel
theorem dX12_canBe_83 : decode cX12_canBe 83 = .ok (.iload_n 2, 1) := by decide +kernel
theorem dX12_canBe_84 : decode cX12_canBe 84 = .ok (.if_icmp .ne 5, 3) := by decide +kernel
theorem dX12_canBe_87 : decode cX12_canBe 87 = .ok (.iconst 0, 1) := by decide +kernel
theorem dX12_canBe_88 : decode cX12_canBe 88 = .ok (.ireturn, 1) := by decide +kernel
theorem dX12_canBe_89 : decode cX12_canBe 89 = .ok (.iinc 3 1, 3) := by decide +kernel
theorem dX12_canBe_92 : decode cX12_canBe 92 = .ok (.goto (-90), 3) := by decide +kernel
theorem dX12_canBe_95 : decode cX12_canBe 95 = .ok (.iconst 1, 1) := by decide +kernel
theorem dX12_canBe_96 : decode cX12_canBe 96 = .ok (.ireturn, 1) := by decide +kernel
def f_X12_canBe_89 (N : Nat) (k_2 : (Nat → Int32) → (Nat → Int32) → Int32 → Int32 → Int32 → Option (Int32)) (v_a : Nat → Int32) (v_headOf : Nat → Int32) (x1 : Int32) (x2 : Int32) (x3 : Int32) : Option (Int32) := k_2 v_a v_headOf x1 x2 (x3 + (1 : Int32))
def f_X12_canBe_64 (N : Nat) (k_2 : (Nat → Int32) → (Nat → Int32) → Int32 → Int32 → Int32 → Option (Int32)) (v_a : Nat → Int32) (v_headOf : Nat → Int32) (x1 : Int32) (x2 : Int32) (x3 : Int32) (x4 : Int32) (x5 : Int32) : Option (Int32) := if x5 = x1 then (if x1 ≤ x4 then (f_X12_canBe_89 N k_2 v_a v_headOf x1 x2 x3) else (gA v_headOf 8 x4 fun v82 => if v82 = x2 then (some (0 : Int32)) else (f_X12_canBe_89 N k_2 v_a v_headOf x1 x2 x3))) else (f_X12_canBe_89 N k_2 v_a v_headOf x1 x2 x3)
def f_X12_canBe_2 (N : Nat) : Nat → (Nat → Int32) → (Nat → Int32) → Int32 → Int32 → Int32 → Option (Int32)
  | 0, _, _, _, _, _ => none
  | n + 1, v_a, v_headOf, x1, x2, x3 => gA v_a 8762 (7 : Int32) fun v9 => if v9 ≤ x3 then (some (1 : Int32)) else (gA v_a 8762 ((101 : Int32) + ((2 : Int32) * x3)) fun v23 => gA v_a 8762 (((101 : Int32) + ((2 : Int32) * x3)) + (1 : Int32)) fun v38 => if v23 = x1 then (if x1 ≤ v38 then (f_X12_canBe_64 N (f_X12_canBe_2 N n) v_a v_headOf x1 x2 x3 v23 v38) else (gA v_headOf 8 v38 fun v59 => if v59 = x2 then (some (0 : Int32)) else (f_X12_canBe_64 N (f_X12_canBe_2 N n) v_a v_headOf x1 x2 x3 v23 v38))) else (f_X12_canBe_64 N (f_X12_canBe_2 N n) v_a v_headOf x1 x2 x3 v23 v38))
def f_X12_canBe (N : Nat) (v_a : Nat → Int32) (v_headOf : Nat → Int32) (p1 : Int32) (p2 : Int32) : Option (Int32) := f_X12_canBe_2 N N v_a v_headOf p1 p2 (0 : Int32)
set_option maxHeartbeats 4000000 in
set_option maxRecDepth 100000 in
theorem k_X12_canBe (l : Launch) (N : Nat) (D : va_G) (cI cJ cZ cB cT : ClassId) (h : Nat) (q : Nat → Nat) (v_a : Nat → Int32) (v_image : Nat → Int32) (v_texts : Nat → Int32) (v_tape : Nat → Int32) (v_taped : Int32) (v_fault : Int32) (v_faultPlace : Int32) (v_at : Int32) (v_place : Int32) (v_token : Int32) (v_number : Int32) (v_word : Int64) (v_text0 : Int32) (v_written : Int32) (v_sort0 : Int32) (v_pile : Nat → Int32) (v_piled : Int32) (v_opens : Int32) (v_isWhole : Int32) (v_once : Int32) (v_named : Nat → Int32) (v_values : Nat → Int64) (v_truth : Nat → Int32) (v_isWritten : Int32) (v_died : Int32) (v_aside : Nat → Int32) (v_likely : Nat → Int32) (v_safe : Nat → Int32) (v_headOf : Nat → Int32) (p1 : Int32) (p2 : Int32) (o_r : Int32) (hf : f_X12_canBe N v_a v_headOf p1 p2 = some o_r) : ∀ sz, Met l yX12_canBe (mw yX12_canBe cX12_canBe 6 (some .boolean)) ({ frames := 0, cells := 0, slots := 0, locals := 0 } : Room) (mPre D (mT cI cJ cZ cB cT) (WM h q cI cJ cZ v_a v_image v_texts v_tape v_taped v_fault v_faultPlace v_at v_place v_token v_number v_word v_text0 v_written v_sort0 v_pile v_piled v_opens v_isWhole v_once v_named v_values v_truth v_isWritten v_died v_aside v_likely v_safe v_headOf) sz [.ref h, .int p1, .int p2]) ((mQi D (WM h q cI cJ cZ v_a v_image v_texts v_tape v_taped v_fault v_faultPlace v_at v_place v_token v_number v_word v_text0 v_written v_sort0 v_pile v_piled v_opens v_isWhole v_once v_named v_values v_truth v_isWritten v_died v_aside v_likely v_safe v_headOf) o_r (mB o_r)) (va_A (WM h q cI cJ cZ v_a v_image v_texts v_tape v_taped v_fault v_faultPlace v_at v_place v_token v_number v_word v_text0 v_written v_sort0 v_pile v_piled v_opens v_isWhole v_once v_named v_values v_truth v_isWritten v_died v_aside v_likely v_safe v_headOf) sz)) 0 0 (va_A (WM h q cI cJ cZ v_a v_image v_texts v_tape v_taped v_fault v_faultPlace v_at v_place v_token v_number v_word v_text0 v_written v_sort0 v_pile v_piled v_opens v_isWhole v_once v_named v_values v_truth v_isWritten v_died v_aside v_likely v_safe v_headOf) sz) := by
  refine mMet (Qc := (mQi D (WM h q cI cJ cZ v_a v_image v_texts v_tape v_taped v_fault v_faultPlace v_at v_place v_token v_number v_word v_text0 v_written v_sort0 v_pile v_piled v_opens v_isWhole v_once v_named v_values v_truth v_isWritten v_died v_aside v_likely v_safe v_headOf) o_r (mB o_r))) (by decide) (Nat.le_of_ble_eq_true rfl) (fun p e s m below meth c A ls hx hb hr hml hts hown hlocks hK hA hP hD hl => ?_)
  have hown : s.vm.findClass RX12 = some m.cls := hown
  have hl : lv_has ls 6 [(0, .ref h), (1, .int p1), (2, .int p2)] := hl
  have hS : va_S A s.heap s.heap [] := va_S.rf
  have b2 : ∀ n2 : Nat, ∀ (x1 : Int32) (x2 : Int32) (x3 : Int32) (H : Heap) (locs : List Loc) (ls : Array Slot), f_X12_canBe_2 N n2 v_a v_headOf x1 x2 x3 = some o_r → va_P D vwCl (WM h q cI cJ cZ v_a v_image v_texts v_tape v_taped v_fault v_faultPlace v_at v_place v_token v_number v_word v_text0 v_written v_sort0 v_pile v_piled v_opens v_isWhole v_once v_named v_values v_truth v_isWritten v_died v_aside v_likely v_safe v_headOf) H → va_D A (WM h q cI cJ cZ v_a v_image v_texts v_tape v_taped v_fault v_faultPlace v_at v_place v_token v_number v_word v_text0 v_written v_sort0 v_pile v_piled v_opens v_isWhole v_once v_named v_values v_truth v_isWritten v_died v_aside v_likely v_safe v_headOf) → va_S A s.heap H locs → lv_has ls 6 [(0, .ref h), (1, .int x1), (2, .int x2), (3, .int x3)] → W p l e ({ frames := 0, cells := 0, slots := 0, locals := 0 } : Room) s m ([.ref h, .int p1, .int p2] : List Value).toArray below meth c H locs 0 0 (MQ below ((mQi D (WM h q cI cJ cZ v_a v_image v_texts v_tape v_taped v_fault v_faultPlace v_at v_place v_token v_number v_word v_text0 v_written v_sort0 v_pile v_piled v_opens v_isWhole v_once v_named v_values v_truth v_isWritten v_died v_aside v_likely v_safe v_headOf) o_r (mB o_r)) A) ([.ref h, .int p1, .int p2] : List Value).toArray s 0 0 A) (F0 m 2 ls []) := by
    intro n2
    induction n2 with
    | zero =>
      intro x1 x2 x3 H locs ls hf hP hD hS hl
      simp [f_X12_canBe_2] at hf
    | succ n2 ih2 =>
      have b89 : ∀ (x1 : Int32) (x2 : Int32) (x3 : Int32) (H : Heap) (locs : List Loc) (ls : Array Slot), f_X12_canBe_89 N (f_X12_canBe_2 N n2) v_a v_headOf x1 x2 x3 = some o_r → va_P D vwCl (WM h q cI cJ cZ v_a v_image v_texts v_tape v_taped v_fault v_faultPlace v_at v_place v_token v_number v_word v_text0 v_written v_sort0 v_pile v_piled v_opens v_isWhole v_once v_named v_values v_truth v_isWritten v_died v_aside v_likely v_safe v_headOf) H → va_D A (WM h q cI cJ cZ v_a v_image v_texts v_tape v_taped v_fault v_faultPlace v_at v_place v_token v_number v_word v_text0 v_written v_sort0 v_pile v_piled v_opens v_isWhole v_once v_named v_values v_truth v_isWritten v_died v_aside v_likely v_safe v_headOf) → va_S A s.heap H locs → lv_has ls 6 [(0, .ref h), (1, .int x1), (2, .int x2), (3, .int x3)] → W p l e ({ frames := 0, cells := 0, slots := 0, locals := 0 } : Room) s m ([.ref h, .int p1, .int p2] : List Value).toArray below meth c H locs 0 0 (MQ below ((mQi D (WM h q cI cJ cZ v_a v_image v_texts v_tape v_taped v_fault v_faultPlace v_at v_place v_token v_number v_word v_text0 v_written v_sort0 v_pile v_piled v_opens v_isWhole v_once v_named v_values v_truth v_isWritten v_died v_aside v_likely v_safe v_headOf) o_r (mB o_r)) A) ([.ref h, .int p1, .int p2] : List Value).toArray s 0 0 A) (F0 m 89 ls []) := by
        intro x1 x2 x3 H locs ls hf hP hD hS hl
        unfold f_X12_canBe_89 at hf
        refine lv_iinc (v := (x3 + (1 : Int32))) (lv' := [(3, .int (x3 + (1 : Int32))), (0, .ref h), (1, .int x1), (2, .int x2)]) hx hb dX12_canBe_89 hl (k := 3) rfl rfl (by decide) rfl (fun ls hl => ?_)
        refine lv_goto (tgt := 2) hx hb dX12_canBe_92 (by decide) ?_
        exact ih2 x1 x2 (x3 + (1 : Int32)) _ _ _ hf hP hD hS (lv_sub hl [1, 2, 3, 0] rfl)
      have b64 : ∀ (x1 : Int32) (x2 : Int32) (x3 : Int32) (x4 : Int32) (x5 : Int32) (H : Heap) (locs : List Loc) (ls : Array Slot), f_X12_canBe_64 N (f_X12_canBe_2 N n2) v_a v_headOf x1 x2 x3 x4 x5 = some o_r → va_P D vwCl (WM h q cI cJ cZ v_a v_image v_texts v_tape v_taped v_fault v_faultPlace v_at v_place v_token v_number v_word v_text0 v_written v_sort0 v_pile v_piled v_opens v_isWhole v_once v_named v_values v_truth v_isWritten v_died v_aside v_likely v_safe v_headOf) H → va_D A (WM h q cI cJ cZ v_a v_image v_texts v_tape v_taped v_fault v_faultPlace v_at v_place v_token v_number v_word v_text0 v_written v_sort0 v_pile v_piled v_opens v_isWhole v_once v_named v_values v_truth v_isWritten v_died v_aside v_likely v_safe v_headOf) → va_S A s.heap H locs → lv_has ls 6 [(0, .ref h), (1, .int x1), (2, .int x2), (3, .int x3), (4, .int x4), (5, .int x5)] → W p l e ({ frames := 0, cells := 0, slots := 0, locals := 0 } : Room) s m ([.ref h, .int p1, .int p2] : List Value).toArray below meth c H locs 0 0 (MQ below ((mQi D (WM h q cI cJ cZ v_a v_image v_texts v_tape v_taped v_fault v_faultPlace v_at v_place v_token v_number v_word v_text0 v_written v_sort0 v_pile v_piled v_opens v_isWhole v_once v_named v_values v_truth v_isWritten v_died v_aside v_likely v_safe v_headOf) o_r (mB o_r)) A) ([.ref h, .int p1, .int p2] : List Value).toArray s 0 0 A) (F0 m 64 ls []) := by
        intro x1 x2 x3 x4 x5 H locs ls hf hP hD hS hl
        unfold f_X12_canBe_64 at hf
        refine lv_iload hx hb dX12_canBe_64 (lv_at hl 5 rfl) ?_
        refine lv_iload_n hx hb dX12_canBe_66 rfl (lv_at hl 1 rfl) ?_
        refine xicmp_ne hx hb 89 dX12_canBe_67 (by decide) hf (fun hf => ?_) (fun hf => ?_)
        · refine lv_iload hx hb dX12_canBe_70 (lv_at hl 4 rfl) ?_
          refine lv_iload_n hx hb dX12_canBe_72 rfl (lv_at hl 1 rfl) ?_
          refine xicmp_ge hx hb 89 dX12_canBe_73 (by decide) hf (fun hf => ?_) (fun hf => ?_)
          · exact b89 x1 x2 x3 _ _ _ hf hP hD hS (lv_sub hl [0, 1, 2, 3] rfl)
          · refine lv_aload_n hx hb dX12_canBe_76 rfl (lv_at hl 0 rfl) ?_
            refine gfX12_56 hx hb hts hown hK hP 0 rfl rfl dX12_canBe_77 ?_
            refine lv_iload hx hb dX12_canBe_80 (lv_at hl 4 rfl) ?_
            refine xiald hx hb hK hP 12 0 rfl rfl dX12_canBe_82 hf (fun v82 hf => ?_)
            refine lv_iload_n hx hb dX12_canBe_83 rfl (lv_at hl 2 rfl) ?_
            refine xicmp_ne hx hb 89 dX12_canBe_84 (by decide) hf (fun hf => ?_) (fun hf => ?_)
            · refine lv_iconst (v := (0 : Int32)) hx hb dX12_canBe_87 (by decide) ?_
              cases hf
              exact mret_z hx hb hr hlocks hP hD hS dX12_canBe_88 rfl rfl
            · exact b89 x1 x2 x3 _ _ _ hf hP hD hS (lv_sub hl [0, 1, 2, 3] rfl)
        · exact b89 x1 x2 x3 _ _ _ hf hP hD hS (lv_sub hl [0, 1, 2, 3] rfl)
      intro x1 x2 x3 H locs ls hf hP hD hS hl
      rw [f_X12_canBe_2.eq_2] at hf
      refine lv_iload_n hx hb dX12_canBe_2 rfl (lv_at hl 3 rfl) ?_
      refine lv_aload_n hx hb dX12_canBe_3 rfl (lv_at hl 0 rfl) ?_
      refine gfX12_7 hx hb hts hown hK hP 0 rfl rfl dX12_canBe_4 ?_
      refine lv_bipush (v := (7 : Int32)) hx hb dX12_canBe_7 (by decide) ?_
      refine xiald hx hb hK hP 1 0 rfl rfl dX12_canBe_9 hf (fun v9 hf => ?_)
      refine xicmp_ge hx hb 95 dX12_canBe_10 (by decide) hf (fun hf => ?_) (fun hf => ?_)
      · refine lv_iconst (v := (1 : Int32)) hx hb dX12_canBe_95 (by decide) ?_
        cases hf
        exact mret_z hx hb hr hlocks hP hD hS dX12_canBe_96 rfl rfl
      · refine lv_aload_n hx hb dX12_canBe_13 rfl (lv_at hl 0 rfl) ?_
        refine gfX12_7 hx hb hts hown hK hP 0 rfl rfl dX12_canBe_14 ?_
        refine lv_bipush (v := (101 : Int32)) hx hb dX12_canBe_17 (by decide) ?_
        refine lv_iconst (v := (2 : Int32)) hx hb dX12_canBe_19 (by decide) ?_
        refine lv_iload_n hx hb dX12_canBe_20 rfl (lv_at hl 3 rfl) ?_
        refine lv_imul hx hb dX12_canBe_21 ?_
        refine lv_iadd hx hb dX12_canBe_22 ?_
        refine xiald hx hb hK hP 1 0 rfl rfl dX12_canBe_23 hf (fun v23 hf => ?_)
        refine lv_istore (lv' := [(4, .int v23), (0, .ref h), (1, .int x1), (2, .int x2), (3, .int x3)]) hx hb dX12_canBe_24 hl (by decide) rfl (fun ls hl => ?_)
        refine lv_aload_n hx hb dX12_canBe_26 rfl (lv_at hl 1 rfl) ?_
        refine gfX12_7 hx hb hts hown hK hP 0 rfl rfl dX12_canBe_27 ?_
        refine lv_bipush (v := (101 : Int32)) hx hb dX12_canBe_30 (by decide) ?_
        refine lv_iconst (v := (2 : Int32)) hx hb dX12_canBe_32 (by decide) ?_
        refine lv_iload_n hx hb dX12_canBe_33 rfl (lv_at hl 4 rfl) ?_
        refine lv_imul hx hb dX12_canBe_34 ?_
        refine lv_iadd hx hb dX12_canBe_35 ?_
        refine lv_iconst (v := (1 : Int32)) hx hb dX12_canBe_36 (by decide) ?_
        refine lv_iadd hx hb dX12_canBe_37 ?_
        refine xiald hx hb hK hP 1 0 rfl rfl dX12_canBe_38 hf (fun v38 hf => ?_)
        refine lv_istore (lv' := [(5, .int v38), (4, .int v23), (0, .ref h), (1, .int x1), (2, .int x2), (3, .int x3)]) hx hb dX12_canBe_39 hl (by decide) rfl (fun ls hl => ?_)
        refine lv_iload hx hb dX12_canBe_41 (lv_at hl 1 rfl) ?_
        refine lv_iload_n hx hb dX12_canBe_43 rfl (lv_at hl 3 rfl) ?_
        refine xicmp_ne hx hb 64 dX12_canBe_44 (by decide) hf (fun hf => ?_) (fun hf => ?_)
        · refine lv_iload hx hb dX12_canBe_47 (lv_at hl 0 rfl) ?_
          refine lv_iload_n hx hb dX12_canBe_49 rfl (lv_at hl 3 rfl) ?_
          refine xicmp_ge hx hb 64 dX12_canBe_50 (by decide) hf (fun hf => ?_) (fun hf => ?_)
          · exact b64 x1 x2 x3 v23 v38 _ _ _ hf hP hD hS (lv_sub hl [2, 3, 4, 5, 1, 0] rfl)
          · refine lv_aload_n hx hb dX12_canBe_53 rfl (lv_at hl 2 rfl) ?_
            refine gfX12_56 hx hb hts hown hK hP 0 rfl rfl dX12_canBe_54 ?_
            refine lv_iload hx hb dX12_canBe_57 (lv_at hl 0 rfl) ?_
            refine xiald hx hb hK hP 12 0 rfl rfl dX12_canBe_59 hf (fun v59 hf => ?_)
            refine lv_iload_n hx hb dX12_canBe_60 rfl (lv_at hl 4 rfl) ?_
            refine xicmp_eq hx hb 87 dX12_canBe_61 (by decide) hf (fun hf => ?_) (fun hf => ?_)
            · refine lv_iconst (v := (0 : Int32)) hx hb dX12_canBe_87 (by decide) ?_
              cases hf
              exact mret_z hx hb hr hlocks hP hD hS dX12_canBe_88 rfl rfl
            · exact b64 x1 x2 x3 v23 v38 _ _ _ hf hP hD hS (lv_sub hl [2, 3, 4, 5, 1, 0] rfl)
        · exact b64 x1 x2 x3 v23 v38 _ _ _ hf hP hD hS (lv_sub hl [2, 3, 4, 5, 1, 0] rfl)
  unfold f_X12_canBe at hf
  refine lv_iconst (v := (0 : Int32)) hx hb dX12_canBe_0 (by decide) ?_
  refine lv_istore_n (lv' := [(3, .int (0 : Int32)), (0, .ref h), (1, .int p1), (2, .int p2)]) hx hb dX12_canBe_1 rfl hl (by decide) rfl (fun ls hl => ?_)
  exact b2 N p1 p2 (0 : Int32) _ _ _ hf hP hD hS (lv_sub hl [1, 2, 3, 0] rfl)
theorem dX12_isExplained_0 : decode cX12_isExplained 0 = .ok (.iconst 0, 1) := by decide +kernel
theorem dX12_isExplained_1 : decode cX12_isExplained 1 = .ok (.istore_n 2, 1) := by decide +kernel
theorem dX12_isExplained_2 : decode cX12_isExplained 2 = .ok (.iconst 0, 1) := by decide +kernel
theorem dX12_isExplained_3 : decode cX12_isExplained 3 = .ok (.istore_n 3, 1) := by decide +kernel
theorem dX12_isExplained_4 : decode cX12_isExplained 4 = .ok (.iload_n 2, 1) := by decide +kernel
theorem dX12_isExplained_5 : decode cX12_isExplained 5 = .ok (.ifCond .lt 77, 3) := by decide +kernel
theorem dX12_isExplained_8 : decode cX12_isExplained 8 = .ok (.iload_n 2, 1) := by decide +kernel
theorem dX12_isExplained_9 : decode cX12_isExplained 9 = .ok (.aload_n 0, 1) := by decide +kernel
theorem dX12_isExplained_10 : decode cX12_isExplained 10 = .ok (.getfield 7, 3) := by decide +kernel
theorem dX12_isExplained_13 : decode cX12_isExplained 13 = .ok (.bipush 6, 2) := by decide +kernel
theorem dX12_isExplained_15 : decode cX12_isExplained 15 = .ok (.iaload, 1) := by decide +kernel
theorem dX12_isExplained_16 : decode cX12_isExplained 16 = .ok (.if_icmp .ge 66, 3) := by decide +kernel
theorem dX12_isExplained_19 : decode cX12_isExplained 19 = .ok (.iload_n 3, 1) := by decide +kernel
theorem dX12_isExplained_20 : decode cX12_isExplained 20 = .ok (.iload_n 1, 1) := by decide +kernel
theorem dX12_isExplained_21 : decode cX12_isExplained 21 = .ok (.if_icmp .ge 18, 3) := by decide +kernel
theorem dX12_isExplained_24 : decode cX12_isExplained 24 = .ok (.aload_n 0, 1) := by decide +kernel
theorem dX12_isExplained_25 : decode cX12_isExplained 25 = .ok (.iload_n 2, 1) := by decide +kernel
theorem dX12_isExplained_26 : decode cX12_isExplained 26 = .ok (.iload_n 3, 1) := by decide +kernel
theorem dX12_isExplained_27 : decode cX12_isExplained 27 = .ok (.invokevirtual 460, 3) := by decide +kernel
theorem dX12_isExplained_30 : decode cX12_isExplained 30 = .ok (.ifCond .ne 9, 3) := by decide +kernel
theorem dX12_isExplained_33 : decode cX12_isExplained 33 = .ok (.iinc 3 1, 3) := by decide +kernel
theorem dX12_isExplained_36 : decode cX12_isExplained 36 = .ok (.goto (-17), 3) := by decide +kernel
theorem dX12_isExplained_39 : decode cX12_isExplained 39 = .ok (.iload_n 3, 1) := by decide +kernel
theorem dX12_isExplained_40 : decode cX12_isExplained 40 = .ok (.iload_n 1, 1) := by decide +kernel
theorem dX12_isExplained_41 : decode cX12_isExplained 41 = .ok (.if_icmp .ge 18, 3) := by decide +kernel
theorem dX12_isExplained_44 : decode cX12_isExplained 44 = .ok (.aload_n 0, 1) := by decide +kernel
theorem dX12_isExplained_45 : decode cX12_isExplained 45 = .ok (.getfield 56, 3) := by decide +kernel
theorem dX12_isExplained_48 : decode cX12_isExplained 48 = .ok (.iload_n 2, 1) := by decide +kernel
theorem dX12_isExplained_49 : decode cX12_isExplained 49 = .ok (.iload_n 3, 1) := by decide +kernel
theorem dX12_isExplained_50 : decode cX12_isExplained 50 = .ok (.iastore, 1) := by decide +kernel
theorem dX12_isExplained_51 : decode cX12_isExplained 51 = .ok (.iinc 2 1, 3) := by decide +kernel
theorem dX12_isExplained_54 : decode cX12_isExplained 54 = .ok (.iconst 0, 1) := by decide +kernel
theorem dX12_isExplained_55 : decode cX12_isExplained 55 = .ok (.istore_n 3, 1) := by decide +kernel
theorem dX12_isExplained_56 : decode cX12_isExplained 56 = .ok (.goto (-52), 3) := by decide +kernel
theorem dX12_isExplained_59 : decode cX12_isExplained 59 = .ok (.iinc 2 (-1), 3) := by decide +kernel
theorem dX12_isExplained_62 : decode cX12_isExplained 62 = .ok (.iload_n 2, 1) := by decide +kernel
theorem dX12_isExplained_63 : decode cX12_isExplained 63 = .ok (.ifCond .ge 7, 3) := by decide +kernel
theorem dX12_isExplained_66 : decode cX12_isExplained 66 = .ok (.iconst 0, 1) := by decide +kernel
theorem dX12_isExplained_67 : decode cX12_isExplained 67 = .ok (.goto 11, 3) := by decide +kernel
theorem dX12_isExplained_70 : decode cX12_isExplained 70 = .ok (.aload_n 0, 1) := by decide +kernel
theorem dX12_isExplained_71 : decode cX12_isExplained 71 = .ok (.getfield 56, 3) := by decide +kernel
theorem dX12_isExplained_74 : decode cX12_isExplained 74 = .ok (.iload_n 2, 1) := by decide +kernel
theorem dX12_isExplained_75 : decode cX12_isExplained 75 = .ok (.iaload, 1) := by decide +kernel
theorem dX12_isExplained_76 : decode cX12_isExplained 76 = .ok (.iconst 1, 1) := by decide +kernel
theorem dX12_isExplained_77 : decode cX12_isExplained 77 = .ok (.iadd, 1) := by decide +kernel
theorem dX12_isExplained_78 : decode cX12_isExplained 78 = .ok (.istore_n 3, 1) := by decide +kernel
theorem dX12_isExplained_79 : decode cX12_isExplained 79 = .ok (.goto (-75), 3) := by decide +kernel
theorem dX12_isExplained_82 : decode cX12_isExplained 82 = .ok (.iload_n 2, 1) := by decide +kernel
theorem dX12_isExplained_83 : decode cX12_isExplained 83 = .ok (.ifCond .lt 7, 3) := by decide +kernel
theorem dX12_isExplained_86 : decode cX12_isExplained 86 = .ok (.iconst 1, 1) := by decide +kernel
theorem dX12_isExplained_87 : decode cX12_isExplained 87 = .ok (.goto 4, 3) := by decide +kernel
theorem dX12_isExplained_90 : decode cX12_isExplained 90 = .ok (.iconst 0, 1) := by decide +kernel
theorem dX12_isExplained_91 : decode cX12_isExplained 91 = .ok (.ireturn, 1) := by decide +kernel
def f_X12_isExplained_82 (N : Nat) (v_a : Nat → Int32) (v_headOf : Nat → Int32) (x2 : Int32) : Option (Int32 × (Nat → Int32)) := if x2 < 0 then (some ((0 : Int32), v_headOf)) else (some ((1 : Int32), v_headOf))
def f_X12_isExplained_78 (N : Nat) (k_4 : (Nat → Int32) → (Nat → Int32) → Int32 → Int32 → Int32 → Option (Int32 × (Nat → Int32))) (v_a : Nat → Int32) (v_headOf : Nat → Int32) (x1 : Int32) (x2 : Int32) (s0 : Int32) : Option (Int32 × (Nat → Int32)) := k_4 v_a v_headOf x1 x2 s0
def f_X12_isExplained_39 (N : Nat) (k_4 : (Nat → Int32) → (Nat → Int32) → Int32 → Int32 → Int32 → Option (Int32 × (Nat → Int32))) (v_a : Nat → Int32) (v_headOf : Nat → Int32) (x1 : Int32) (x2 : Int32) (x3 : Int32) : Option (Int32 × (Nat → Int32)) := if x1 ≤ x3 then (if 0 ≤ (x2 + (-1 : Int32)) then (gA v_headOf 8 (x2 + (-1 : Int32)) fun v75 => f_X12_isExplained_78 N k_4 v_a v_headOf x1 (x2 + (-1 : Int32)) (v75 + (1 : Int32))) else (f_X12_isExplained_78 N k_4 v_a v_headOf x1 (x2 + (-1 : Int32)) (0 : Int32))) else (sA v_headOf 8 x2 x3 fun v_headOf_50 => k_4 v_a v_headOf_50 x1 (x2 + (1 : Int32)) (0 : Int32))
def f_X12_isExplained_19 (N : Nat) (k_4 : (Nat → Int32) → (Nat → Int32) → Int32 → Int32 → Int32 → Option (Int32 × (Nat → Int32))) : Nat → (Nat → Int32) → (Nat → Int32) → Int32 → Int32 → Int32 → Option (Int32 × (Nat → Int32))
  | 0, _, _, _, _, _ => none
  | n + 1, v_a, v_headOf, x1, x2, x3 => if x1 ≤ x3 then (f_X12_isExplained_39 N k_4 v_a v_headOf x1 x2 x3) else (ob1 (f_X12_canBe N v_a v_headOf x2 x3) fun r27 => if r27 = 0 then ((f_X12_isExplained_19 N k_4 n) v_a v_headOf x1 x2 (x3 + (1 : Int32))) else (f_X12_isExplained_39 N k_4 v_a v_headOf x1 x2 x3))
def f_X12_isExplained_4 (N : Nat) : Nat → (Nat → Int32) → (Nat → Int32) → Int32 → Int32 → Int32 → Option (Int32 × (Nat → Int32))
  | 0, _, _, _, _, _ => none
  | n + 1, v_a, v_headOf, x1, x2, x3 => if x2 < 0 then (f_X12_isExplained_82 N v_a v_headOf x2) else (gA v_a 8762 (6 : Int32) fun v15 => if v15 ≤ x2 then (f_X12_isExplained_82 N v_a v_headOf x2) else (f_X12_isExplained_19 N (f_X12_isExplained_4 N n) N v_a v_headOf x1 x2 x3))
def f_X12_isExplained (N : Nat) (v_a : Nat → Int32) (v_headOf : Nat → Int32) (p1 : Int32) : Option (Int32 × (Nat → Int32)) := f_X12_isExplained_4 N N v_a v_headOf p1 (0 : Int32) (0 : Int32)
set_option maxHeartbeats 4000000 in
set_option maxRecDepth 100000 in
theorem k_X12_isExplained (l : Launch) (N : Nat) (D : va_G) (cI cJ cZ cB cT : ClassId) (h : Nat) (q : Nat → Nat) (v_a : Nat → Int32) (v_image : Nat → Int32) (v_texts : Nat → Int32) (v_tape : Nat → Int32) (v_taped : Int32) (v_fault : Int32) (v_faultPlace : Int32) (v_at : Int32) (v_place : Int32) (v_token : Int32) (v_number : Int32) (v_word : Int64) (v_text0 : Int32) (v_written : Int32) (v_sort0 : Int32) (v_pile : Nat → Int32) (v_piled : Int32) (v_opens : Int32) (v_isWhole : Int32) (v_once : Int32) (v_named : Nat → Int32) (v_values : Nat → Int64) (v_truth : Nat → Int32) (v_isWritten : Int32) (v_died : Int32) (v_aside : Nat → Int32) (v_likely : Nat → Int32) (v_safe : Nat → Int32) (v_headOf : Nat → Int32) (p1 : Int32) (o_r : Int32) (o_v_headOf : Nat → Int32) (hf : f_X12_isExplained N v_a v_headOf p1 = some (o_r, o_v_headOf)) : ∀ sz, Met l yX12_isExplained (mw yX12_isExplained cX12_isExplained 4 (some .boolean)) ({ frames := 1, cells := 0, slots := 0, locals := 25 } : Room) (mPre D (mT cI cJ cZ cB cT) (WM h q cI cJ cZ v_a v_image v_texts v_tape v_taped v_fault v_faultPlace v_at v_place v_token v_number v_word v_text0 v_written v_sort0 v_pile v_piled v_opens v_isWhole v_once v_named v_values v_truth v_isWritten v_died v_aside v_likely v_safe v_headOf) sz [.ref h, .int p1]) ((mQi D (WM h q cI cJ cZ v_a v_image v_texts v_tape v_taped v_fault v_faultPlace v_at v_place v_token v_number v_word v_text0 v_written v_sort0 v_pile v_piled v_opens v_isWhole v_once v_named v_values v_truth v_isWritten v_died v_aside v_likely v_safe o_v_headOf) o_r (mB o_r)) (va_A (WM h q cI cJ cZ v_a v_image v_texts v_tape v_taped v_fault v_faultPlace v_at v_place v_token v_number v_word v_text0 v_written v_sort0 v_pile v_piled v_opens v_isWhole v_once v_named v_values v_truth v_isWritten v_died v_aside v_likely v_safe v_headOf) sz)) 0 0 (va_A (WM h q cI cJ cZ v_a v_image v_texts v_tape v_taped v_fault v_faultPlace v_at v_place v_token v_number v_word v_text0 v_written v_sort0 v_pile v_piled v_opens v_isWhole v_once v_named v_values v_truth v_isWritten v_died v_aside v_likely v_safe v_headOf) sz) := by
  refine mMet (Qc := (mQi D (WM h q cI cJ cZ v_a v_image v_texts v_tape v_taped v_fault v_faultPlace v_at v_place v_token v_number v_word v_text0 v_written v_sort0 v_pile v_piled v_opens v_isWhole v_once v_named v_values v_truth v_isWritten v_died v_aside v_likely v_safe o_v_headOf) o_r (mB o_r))) (by decide) (Nat.le_of_ble_eq_true rfl) (fun p e s m below meth c A ls hx hb hr hml hts hown hlocks hK hA hP hD hl => ?_)
  have hown : s.vm.findClass RX12 = some m.cls := hown
  have hl : lv_has ls 4 [(0, .ref h), (1, .int p1)] := hl
  have hS : va_S A s.heap s.heap [] := va_S.rf
  have b82 : ∀ (v_headOf : Nat → Int32) (x2 : Int32) (H : Heap) (locs : List Loc) (ls : Array Slot), f_X12_isExplained_82 N v_a v_headOf x2 = some (o_r, o_v_headOf) → va_P D vwCl (WM h q cI cJ cZ v_a v_image v_texts v_tape v_taped v_fault v_faultPlace v_at v_place v_token v_number v_word v_text0 v_written v_sort0 v_pile v_piled v_opens v_isWhole v_once v_named v_values v_truth v_isWritten v_died v_aside v_likely v_safe v_headOf) H → va_D A (WM h q cI cJ cZ v_a v_image v_texts v_tape v_taped v_fault v_faultPlace v_at v_place v_token v_number v_word v_text0 v_written v_sort0 v_pile v_piled v_opens v_isWhole v_once v_named v_values v_truth v_isWritten v_died v_aside v_likely v_safe v_headOf) → va_S A s.heap H locs → lv_has ls 4 [(2, .int x2)] → W p l e ({ frames := 1, cells := 0, slots := 0, locals := 25 } : Room) s m ([.ref h, .int p1] : List Value).toArray below meth c H locs 0 0 (MQ below ((mQi D (WM h q cI cJ cZ v_a v_image v_texts v_tape v_taped v_fault v_faultPlace v_at v_place v_token v_number v_word v_text0 v_written v_sort0 v_pile v_piled v_opens v_isWhole v_once v_named v_values v_truth v_isWritten v_died v_aside v_likely v_safe o_v_headOf) o_r (mB o_r)) A) ([.ref h, .int p1] : List Value).toArray s 0 0 A) (F0 m 82 ls []) := by
    intro v_headOf x2 H locs ls hf hP hD hS hl
    unfold f_X12_isExplained_82 at hf
    refine lv_iload_n hx hb dX12_isExplained_82 rfl (lv_at hl 0 rfl) ?_
    refine xif_lt hx hb 90 dX12_isExplained_83 (by decide) hf (fun hf => ?_) (fun hf => ?_)
    · refine lv_iconst (v := (0 : Int32)) hx hb dX12_isExplained_90 (by decide) ?_
      cases hf
      exact mret_z hx hb hr hlocks hP hD hS dX12_isExplained_91 rfl rfl
    · refine lv_iconst (v := (1 : Int32)) hx hb dX12_isExplained_86 (by decide) ?_
      refine lv_goto (tgt := 91) hx hb dX12_isExplained_87 (by decide) ?_
      cases hf
      exact mret_z hx hb hr hlocks hP hD hS dX12_isExplained_91 rfl rfl
  have b4 : ∀ n4 : Nat, ∀ (v_headOf : Nat → Int32) (x1 : Int32) (x2 : Int32) (x3 : Int32) (H : Heap) (locs : List Loc) (ls : Array Slot), f_X12_isExplained_4 N n4 v_a v_headOf x1 x2 x3 = some (o_r, o_v_headOf) → va_P D vwCl (WM h q cI cJ cZ v_a v_image v_texts v_tape v_taped v_fault v_faultPlace v_at v_place v_token v_number v_word v_text0 v_written v_sort0 v_pile v_piled v_opens v_isWhole v_once v_named v_values v_truth v_isWritten v_died v_aside v_likely v_safe v_headOf) H → va_D A (WM h q cI cJ cZ v_a v_image v_texts v_tape v_taped v_fault v_faultPlace v_at v_place v_token v_number v_word v_text0 v_written v_sort0 v_pile v_piled v_opens v_isWhole v_once v_named v_values v_truth v_isWritten v_died v_aside v_likely v_safe v_headOf) → va_S A s.heap H locs → lv_has ls 4 [(0, .ref h), (1, .int x1), (2, .int x2), (3, .int x3)] → W p l e ({ frames := 1, cells := 0, slots := 0, locals := 25 } : Room) s m ([.ref h, .int p1] : List Value).toArray below meth c H locs 0 0 (MQ below ((mQi D (WM h q cI cJ cZ v_a v_image v_texts v_tape v_taped v_fault v_faultPlace v_at v_place v_token v_number v_word v_text0 v_written v_sort0 v_pile v_piled v_opens v_isWhole v_once v_named v_values v_truth v_isWritten v_died v_aside v_likely v_safe o_v_headOf) o_r (mB o_r)) A) ([.ref h, .int p1] : List Value).toArray s 0 0 A) (F0 m 4 ls []) := by
    intro n4
    induction n4 with
    | zero =>
      intro v_headOf x1 x2 x3 H locs ls hf hP hD hS hl
      simp [f_X12_isExplained_4] at hf
    | succ n4 ih4 =>
      have b78 : ∀ (v_headOf : Nat → Int32) (x1 : Int32) (x2 : Int32) (s0 : Int32) (H : Heap) (locs : List Loc) (ls : Array Slot), f_X12_isExplained_78 N (f_X12_isExplained_4 N n4) v_a v_headOf x1 x2 s0 = some (o_r, o_v_headOf) → va_P D vwCl (WM h q cI cJ cZ v_a v_image v_texts v_tape v_taped v_fault v_faultPlace v_at v_place v_token v_number v_word v_text0 v_written v_sort0 v_pile v_piled v_opens v_isWhole v_once v_named v_values v_truth v_isWritten v_died v_aside v_likely v_safe v_headOf) H → va_D A (WM h q cI cJ cZ v_a v_image v_texts v_tape v_taped v_fault v_faultPlace v_at v_place v_token v_number v_word v_text0 v_written v_sort0 v_pile v_piled v_opens v_isWhole v_once v_named v_values v_truth v_isWritten v_died v_aside v_likely v_safe v_headOf) → va_S A s.heap H locs → lv_has ls 4 [(0, .ref h), (1, .int x1), (2, .int x2)] → W p l e ({ frames := 1, cells := 0, slots := 0, locals := 25 } : Room) s m ([.ref h, .int p1] : List Value).toArray below meth c H locs 0 0 (MQ below ((mQi D (WM h q cI cJ cZ v_a v_image v_texts v_tape v_taped v_fault v_faultPlace v_at v_place v_token v_number v_word v_text0 v_written v_sort0 v_pile v_piled v_opens v_isWhole v_once v_named v_values v_truth v_isWritten v_died v_aside v_likely v_safe o_v_headOf) o_r (mB o_r)) A) ([.ref h, .int p1] : List Value).toArray s 0 0 A) (F0 m 78 ls [.int s0]) := by
        intro v_headOf x1 x2 s0 H locs ls hf hP hD hS hl
        unfold f_X12_isExplained_78 at hf
        refine lv_istore_n (lv' := [(3, .int s0), (0, .ref h), (1, .int x1), (2, .int x2)]) hx hb dX12_isExplained_78 rfl hl (by decide) rfl (fun ls hl => ?_)
        refine lv_goto (tgt := 4) hx hb dX12_isExplained_79 (by decide) ?_
        exact ih4 v_headOf x1 x2 s0 _ _ _ hf hP hD hS (lv_sub hl [1, 2, 3, 0] rfl)
      have b39 : ∀ (v_headOf : Nat → Int32) (x1 : Int32) (x2 : Int32) (x3 : Int32) (H : Heap) (locs : List Loc) (ls : Array Slot), f_X12_isExplained_39 N (f_X12_isExplained_4 N n4) v_a v_headOf x1 x2 x3 = some (o_r, o_v_headOf) → va_P D vwCl (WM h q cI cJ cZ v_a v_image v_texts v_tape v_taped v_fault v_faultPlace v_at v_place v_token v_number v_word v_text0 v_written v_sort0 v_pile v_piled v_opens v_isWhole v_once v_named v_values v_truth v_isWritten v_died v_aside v_likely v_safe v_headOf) H → va_D A (WM h q cI cJ cZ v_a v_image v_texts v_tape v_taped v_fault v_faultPlace v_at v_place v_token v_number v_word v_text0 v_written v_sort0 v_pile v_piled v_opens v_isWhole v_once v_named v_values v_truth v_isWritten v_died v_aside v_likely v_safe v_headOf) → va_S A s.heap H locs → lv_has ls 4 [(0, .ref h), (1, .int x1), (2, .int x2), (3, .int x3)] → W p l e ({ frames := 1, cells := 0, slots := 0, locals := 25 } : Room) s m ([.ref h, .int p1] : List Value).toArray below meth c H locs 0 0 (MQ below ((mQi D (WM h q cI cJ cZ v_a v_image v_texts v_tape v_taped v_fault v_faultPlace v_at v_place v_token v_number v_word v_text0 v_written v_sort0 v_pile v_piled v_opens v_isWhole v_once v_named v_values v_truth v_isWritten v_died v_aside v_likely v_safe o_v_headOf) o_r (mB o_r)) A) ([.ref h, .int p1] : List Value).toArray s 0 0 A) (F0 m 39 ls []) := by
        intro v_headOf x1 x2 x3 H locs ls hf hP hD hS hl
        unfold f_X12_isExplained_39 at hf
        refine lv_iload_n hx hb dX12_isExplained_39 rfl (lv_at hl 3 rfl) ?_
        refine lv_iload_n hx hb dX12_isExplained_40 rfl (lv_at hl 1 rfl) ?_
        refine xicmp_ge hx hb 59 dX12_isExplained_41 (by decide) hf (fun hf => ?_) (fun hf => ?_)
        · refine lv_iinc (v := (x2 + (-1 : Int32))) (lv' := [(2, .int (x2 + (-1 : Int32))), (0, .ref h), (1, .int x1), (3, .int x3)]) hx hb dX12_isExplained_59 hl (k := 2) rfl rfl (by decide) rfl (fun ls hl => ?_)
          refine lv_iload_n hx hb dX12_isExplained_62 rfl (lv_at hl 0 rfl) ?_
          refine xif_ge hx hb 70 dX12_isExplained_63 (by decide) hf (fun hf => ?_) (fun hf => ?_)
          · refine lv_aload_n hx hb dX12_isExplained_70 rfl (lv_at hl 1 rfl) ?_
            refine gfX12_56 hx hb hts hown hK hP 0 rfl rfl dX12_isExplained_71 ?_
            refine lv_iload_n hx hb dX12_isExplained_74 rfl (lv_at hl 0 rfl) ?_
            refine xiald hx hb hK hP 12 0 rfl rfl dX12_isExplained_75 hf (fun v75 hf => ?_)
            refine lv_iconst (v := (1 : Int32)) hx hb dX12_isExplained_76 (by decide) ?_
            refine lv_iadd hx hb dX12_isExplained_77 ?_
            exact b78 v_headOf x1 (x2 + (-1 : Int32)) (v75 + (1 : Int32)) _ _ _ hf hP hD hS (lv_sub hl [1, 2, 0] rfl)
          · refine lv_iconst (v := (0 : Int32)) hx hb dX12_isExplained_66 (by decide) ?_
            refine lv_goto (tgt := 78) hx hb dX12_isExplained_67 (by decide) ?_
            exact b78 v_headOf x1 (x2 + (-1 : Int32)) (0 : Int32) _ _ _ hf hP hD hS (lv_sub hl [1, 2, 0] rfl)
        · refine lv_aload_n hx hb dX12_isExplained_44 rfl (lv_at hl 0 rfl) ?_
          refine gfX12_56 hx hb hts hown hK hP 0 rfl rfl dX12_isExplained_45 ?_
          refine lv_iload_n hx hb dX12_isExplained_48 rfl (lv_at hl 2 rfl) ?_
          refine lv_iload_n hx hb dX12_isExplained_49 rfl (lv_at hl 3 rfl) ?_
          refine xiast hx hb hK hP hD hS 12 0 rfl rfl dX12_isExplained_50 hf (fun v_headOf_50 hf H locs hP hD hS => ?_)
          have hP : va_P D vwCl (WM h q cI cJ cZ v_a v_image v_texts v_tape v_taped v_fault v_faultPlace v_at v_place v_token v_number v_word v_text0 v_written v_sort0 v_pile v_piled v_opens v_isWhole v_once v_named v_values v_truth v_isWritten v_died v_aside v_likely v_safe v_headOf_50) H := hP
          have hD : va_D A (WM h q cI cJ cZ v_a v_image v_texts v_tape v_taped v_fault v_faultPlace v_at v_place v_token v_number v_word v_text0 v_written v_sort0 v_pile v_piled v_opens v_isWhole v_once v_named v_values v_truth v_isWritten v_died v_aside v_likely v_safe v_headOf_50) := hD
          refine lv_iinc (v := (x2 + (1 : Int32))) (lv' := [(2, .int (x2 + (1 : Int32))), (0, .ref h), (1, .int x1), (3, .int x3)]) hx hb dX12_isExplained_51 hl (k := 2) rfl rfl (by decide) rfl (fun ls hl => ?_)
          refine lv_iconst (v := (0 : Int32)) hx hb dX12_isExplained_54 (by decide) ?_
          refine lv_istore_n (lv' := [(3, .int (0 : Int32)), (2, .int (x2 + (1 : Int32))), (0, .ref h), (1, .int x1)]) hx hb dX12_isExplained_55 rfl hl (by decide) rfl (fun ls hl => ?_)
          refine lv_goto (tgt := 4) hx hb dX12_isExplained_56 (by decide) ?_
          exact ih4 v_headOf_50 x1 (x2 + (1 : Int32)) (0 : Int32) _ _ _ hf hP hD hS (lv_sub hl [2, 3, 1, 0] rfl)
      have b19 : ∀ n19 : Nat, ∀ (v_headOf : Nat → Int32) (x1 : Int32) (x2 : Int32) (x3 : Int32) (H : Heap) (locs : List Loc) (ls : Array Slot), f_X12_isExplained_19 N (f_X12_isExplained_4 N n4) n19 v_a v_headOf x1 x2 x3 = some (o_r, o_v_headOf) → va_P D vwCl (WM h q cI cJ cZ v_a v_image v_texts v_tape v_taped v_fault v_faultPlace v_at v_place v_token v_number v_word v_text0 v_written v_sort0 v_pile v_piled v_opens v_isWhole v_once v_named v_values v_truth v_isWritten v_died v_aside v_likely v_safe v_headOf) H → va_D A (WM h q cI cJ cZ v_a v_image v_texts v_tape v_taped v_fault v_faultPlace v_at v_place v_token v_number v_word v_text0 v_written v_sort0 v_pile v_piled v_opens v_isWhole v_once v_named v_values v_truth v_isWritten v_died v_aside v_likely v_safe v_headOf) → va_S A s.heap H locs → lv_has ls 4 [(0, .ref h), (1, .int x1), (2, .int x2), (3, .int x3)] → W p l e ({ frames := 1, cells := 0, slots := 0, locals := 25 } : Room) s m ([.ref h, .int p1] : List Value).toArray below meth c H locs 0 0 (MQ below ((mQi D (WM h q cI cJ cZ v_a v_image v_texts v_tape v_taped v_fault v_faultPlace v_at v_place v_token v_number v_word v_text0 v_written v_sort0 v_pile v_piled v_opens v_isWhole v_once v_named v_values v_truth v_isWritten v_died v_aside v_likely v_safe o_v_headOf) o_r (mB o_r)) A) ([.ref h, .int p1] : List Value).toArray s 0 0 A) (F0 m 19 ls []) := by
        intro n19
        induction n19 with
        | zero =>
          intro v_headOf x1 x2 x3 H locs ls hf hP hD hS hl
          simp [f_X12_isExplained_19] at hf
        | succ n19 ih19 =>
          intro v_headOf x1 x2 x3 H locs ls hf hP hD hS hl
          rw [f_X12_isExplained_19.eq_2] at hf
          refine lv_iload_n hx hb dX12_isExplained_19 rfl (lv_at hl 3 rfl) ?_
          refine lv_iload_n hx hb dX12_isExplained_20 rfl (lv_at hl 1 rfl) ?_
          refine xicmp_ge hx hb 39 dX12_isExplained_21 (by decide) hf (fun hf => ?_) (fun hf => ?_)
          · exact b39 v_headOf x1 x2 x3 _ _ _ hf hP hD hS (lv_sub hl [0, 1, 2, 3] rfl)
          · refine lv_aload_n hx hb dX12_isExplained_24 rfl (lv_at hl 0 rfl) ?_
            refine lv_iload_n hx hb dX12_isExplained_25 rfl (lv_at hl 2 rfl) ?_
            refine lv_iload_n hx hb dX12_isExplained_26 rfl (lv_at hl 3 rfl) ?_
            obtain ⟨r27, hg27, hf⟩ := ob1_some hf
            refine mcV1_i (As := [.int x2, .int x3]) (rest := []) hx hb hml hown hts hK hP hD hS hA (k_X12_canBe l N D cI cJ cZ cB cT h q v_a v_image v_texts v_tape v_taped v_fault v_faultPlace v_at v_place v_token v_number v_word v_text0 v_written v_sort0 v_pile v_piled v_opens v_isWhole v_once v_named v_values v_truth v_isWritten v_died v_aside v_likely v_safe v_headOf x2 x3 r27 hg27) (kwX12_460 hts rfl rfl ⟨Nat.le_of_ble_eq_true rfl, Nat.le_of_ble_eq_true rfl⟩) 0 rfl rfl rfl rfl hl.1 rfl (Nat.le_of_ble_eq_true rfl) dX12_isExplained_27 ⟨Nat.zero_le _, Nat.zero_le _⟩ (fun hB27 H locs hP hD hS => ?_)
            have hP : va_P D vwCl (WM h q cI cJ cZ v_a v_image v_texts v_tape v_taped v_fault v_faultPlace v_at v_place v_token v_number v_word v_text0 v_written v_sort0 v_pile v_piled v_opens v_isWhole v_once v_named v_values v_truth v_isWritten v_died v_aside v_likely v_safe v_headOf) H := hP
            have hD : va_D A (WM h q cI cJ cZ v_a v_image v_texts v_tape v_taped v_fault v_faultPlace v_at v_place v_token v_number v_word v_text0 v_written v_sort0 v_pile v_piled v_opens v_isWhole v_once v_named v_values v_truth v_isWritten v_died v_aside v_likely v_safe v_headOf) := hD
            refine xif_ne hx hb 39 dX12_isExplained_30 (by decide) hf (fun hf => ?_) (fun hf => ?_)
            · refine lv_iinc (v := (x3 + (1 : Int32))) (lv' := [(3, .int (x3 + (1 : Int32))), (0, .ref h), (1, .int x1), (2, .int x2)]) hx hb dX12_isExplained_33 hl (k := 3) rfl rfl (by decide) rfl (fun ls hl => ?_)
              refine lv_goto (tgt := 19) hx hb dX12_isExplained_36 (by decide) ?_
              exact ih19 v_headOf x1 x2 (x3 + (1 : Int32)) _ _ _ hf hP hD hS (lv_sub hl [1, 2, 3, 0] rfl)
            · exact b39 v_headOf x1 x2 x3 _ _ _ hf hP hD hS (lv_sub hl [0, 1, 2, 3] rfl)
      intro v_headOf x1 x2 x3 H locs ls hf hP hD hS hl
      rw [f_X12_isExplained_4.eq_2] at hf
      refine lv_iload_n hx hb dX12_isExplained_4 rfl (lv_at hl 2 rfl) ?_
      refine xif_lt hx hb 82 dX12_isExplained_5 (by decide) hf (fun hf => ?_) (fun hf => ?_)
      · exact b82 v_headOf x2 _ _ _ hf hP hD hS (lv_sub hl [2] rfl)
      · refine lv_iload_n hx hb dX12_isExplained_8 rfl (lv_at hl 2 rfl) ?_
        refine lv_aload_n hx hb dX12_isExplained_9 rfl (lv_at hl 0 rfl) ?_
        refine gfX12_7 hx hb hts hown hK hP 0 rfl rfl dX12_isExplained_10 ?_
        refine lv_bipush (v := (6 : Int32)) hx hb dX12_isExplained_13 (by decide) ?_
        refine xiald hx hb hK hP 1 0 rfl rfl dX12_isExplained_15 hf (fun v15 hf => ?_)
        refine xicmp_ge hx hb 82 dX12_isExplained_16 (by decide) hf (fun hf => ?_) (fun hf => ?_)
        · exact b82 v_headOf x2 _ _ _ hf hP hD hS (lv_sub hl [2] rfl)
        · exact b19 N v_headOf x1 x2 x3 _ _ _ hf hP hD hS (lv_sub hl [0, 1, 2, 3] rfl)
  unfold f_X12_isExplained at hf
  refine lv_iconst (v := (0 : Int32)) hx hb dX12_isExplained_0 (by decide) ?_
  refine lv_istore_n (lv' := [(2, .int (0 : Int32)), (0, .ref h), (1, .int p1)]) hx hb dX12_isExplained_1 rfl hl (by decide) rfl (fun ls hl => ?_)
  refine lv_iconst (v := (0 : Int32)) hx hb dX12_isExplained_2 (by decide) ?_
  refine lv_istore_n (lv' := [(3, .int (0 : Int32)), (2, .int (0 : Int32)), (0, .ref h), (1, .int p1)]) hx hb dX12_isExplained_3 rfl hl (by decide) rfl (fun ls hl => ?_)
  exact b4 N v_headOf p1 (0 : Int32) (0 : Int32) _ _ _ hf hP hD hS (lv_sub hl [2, 3, 1, 0] rfl)
theorem dX12_heads_0 : decode cX12_heads 0 = .ok (.iload_n 1, 1) := by decide +kernel
theorem dX12_heads_1 : decode cX12_heads 1 = .ok (.iconst (-1), 1) := by decide +kernel
theorem dX12_heads_2 : decode cX12_heads 2 = .ok (.aload_n 0, 1) := by decide +kernel
theorem dX12_heads_3 : decode cX12_heads 3 = .ok (.getfield 7, 3) := by decide +kernel
theorem dX12_heads_6 : decode cX12_heads 6 = .ok (.bipush 6, 2) := by decide +kernel
theorem dX12_heads_8 : decode cX12_heads 8 = .ok (.iaload, 1) := by decide +kernel
theorem dX12_heads_9 : decode cX12_heads 9 = .ok (.iconst 1, 1) := by decide +kernel
theorem dX12_heads_10 : decode cX12_heads 10 = .ok (.isub, 1) := by decide +kernel
theorem dX12_heads_11 : decode cX12_heads 11 = .ok (.invokestatic 63, 3) := by decide +kernel
theorem dX12_heads_14 : decode cX12_heads 14 = .ok (.ifCond .ne 6, 3) := by decide +kernel
theorem dX12_heads_17 : decode cX12_heads 17 = .ok (.bipush (-2), 2) := by decide +kernel
theorem dX12_heads_19 : decode cX12_heads 19 = .ok (.ireturn, 1) := by decide +kernel
theorem dX12_heads_20 : decode cX12_heads 20 = .ok (.aload_n 0, 1) := by decide +kernel
theorem dX12_heads_21 : decode cX12_heads 21 = .ok (.getfield 7, 3) := by decide +kernel
theorem dX12_heads_24 : decode cX12_heads 24 = .ok (.bipush 6, 2) := by decide +kernel
theorem dX12_heads_26 : decode cX12_heads 26 = .ok (.iaload, 1) := by decide +kernel
theorem dX12_heads_27 : decode cX12_heads 27 = .ok (.ifCond .ne 7, 3) := by decide +kernel
theorem dX12_heads_30 : decode cX12_heads 30 = .ok (.iconst 0, 1) := by decide +kernel
theorem dX12_heads_31 : decode cX12_heads 31 = .ok (.goto 4, 3) := by decide +kernel
theorem dX12_heads_34 : decode cX12_heads 34 = .ok (.iconst 1, 1) := by decide +kernel
theorem dX12_heads_35 : decode cX12_heads 35 = .ok (.istore_n 2, 1) := by decide +kernel
theorem dX12_heads_36 : decode cX12_heads 36 = .ok (.iload_n 2, 1) := by decide +kernel
theorem dX12_heads_37 : decode cX12_heads 37 = .ok (.ifCond .le 17, 3) := by decide +kernel
theorem dX12_heads_40 : decode cX12_heads 40 = .ok (.aload_n 0, 1) := by decide +kernel
theorem dX12_heads_41 : decode cX12_heads 41 = .ok (.iload_n 2, 1) := by decide +kernel
theorem dX12_heads_42 : decode cX12_heads 42 = .ok (.invokevirtual 463, 3) := by decide +kernel
theorem dX12_heads_45 : decode cX12_heads 45 = .ok (.ifCond .ne 9, 3) := by decide +kernel
theorem dX12_heads_48 : decode cX12_heads 48 = .ok (.iinc 2 1, 3) := by decide +kernel
theorem dX12_heads_51 : decode cX12_heads 51 = .ok (.goto (-15), 3) := by decide +kernel
theorem dX12_heads_54 : decode cX12_heads 54 = .ok (.iload_n 1, 1) := by decide +kernel
theorem dX12_heads_55 : decode cX12_heads 55 = .ok (.iconst (-1), 1) := by decide +kernel
theorem dX12_heads_56 : decode cX12_heads 56 = .ok (.if_icmp .ne 7, 3) := by decide +kernel
theorem dX12_heads_59 : decode cX12_heads 59 = .ok (.iload_n 2, 1) := by decide +kernel
theorem dX12_heads_60 : decode cX12_heads 60 = .ok (.goto 9, 3) := by decide +kernel
theorem dX12_heads_63 : decode cX12_heads 63 = .ok (.aload_n 0, 1) := by decide +kernel
theorem dX12_heads_64 : decode cX12_heads 64 = .ok (.getfield 56, 3) := by decide +kernel
theorem dX12_heads_67 : decode cX12_heads 67 = .ok (.iload_n 1, 1) := by decide +kernel
theorem dX12_heads_68 : decode cX12_heads 68 = .ok (.iaload, 1) := by decide +kernel
theorem dX12_heads_69 : decode cX12_heads 69 = .ok (.ireturn, 1) := by decide +kernel
def f_X12_heads_54 (N : Nat) (v_a : Nat → Int32) (v_headOf : Nat → Int32) (x1 : Int32) (x2 : Int32) : Option (Int32 × (Nat → Int32)) := if x1 = (-1 : Int32) then (some (x2, v_headOf)) else (gA v_headOf 8 x1 fun v68 => some (v68, v_headOf))
def f_X12_heads_36 (N : Nat) : Nat → (Nat → Int32) → (Nat → Int32) → Int32 → Int32 → Option (Int32 × (Nat → Int32))
  | 0, _, _, _, _ => none
  | n + 1, v_a, v_headOf, x1, x2 => if x2 ≤ 0 then (f_X12_heads_54 N v_a v_headOf x1 x2) else (ob2 (f_X12_isExplained N v_a v_headOf x2) fun r42 v_headOf_42 => if r42 = 0 then ((f_X12_heads_36 N n) v_a v_headOf_42 x1 (x2 + (1 : Int32))) else (f_X12_heads_54 N v_a v_headOf_42 x1 x2))
def f_X12_heads_35 (N : Nat) (v_a : Nat → Int32) (v_headOf : Nat → Int32) (x1 : Int32) (s0 : Int32) : Option (Int32 × (Nat → Int32)) := f_X12_heads_36 N N v_a v_headOf x1 s0
def f_X12_heads (N : Nat) (v_a : Nat → Int32) (v_headOf : Nat → Int32) (p1 : Int32) : Option (Int32 × (Nat → Int32)) := gA v_a 8762 (6 : Int32) fun v8 => ob1 (f_X12_isIn N p1 (-1 : Int32) (v8 - (1 : Int32))) fun r11 => if r11 = 0 then (some ((-2 : Int32), v_headOf)) else (gA v_a 8762 (6 : Int32) fun v26 => if v26 = 0 then (f_X12_heads_35 N v_a v_headOf p1 (0 : Int32)) else (f_X12_heads_35 N v_a v_headOf p1 (1 : Int32)))
set_option maxHeartbeats 4000000 in
set_option maxRecDepth 100000 in
theorem k_X12_heads (l : Launch) (N : Nat) (D : va_G) (cI cJ cZ cB cT : ClassId) (h : Nat) (q : Nat → Nat) (v_a : Nat → Int32) (v_image : Nat → Int32) (v_texts : Nat → Int32) (v_tape : Nat → Int32) (v_taped : Int32) (v_fault : Int32) (v_faultPlace : Int32) (v_at : Int32) (v_place : Int32) (v_token : Int32) (v_number : Int32) (v_word : Int64) (v_text0 : Int32) (v_written : Int32) (v_sort0 : Int32) (v_pile : Nat → Int32) (v_piled : Int32) (v_opens : Int32) (v_isWhole : Int32) (v_once : Int32) (v_named : Nat → Int32) (v_values : Nat → Int64) (v_truth : Nat → Int32) (v_isWritten : Int32) (v_died : Int32) (v_aside : Nat → Int32) (v_likely : Nat → Int32) (v_safe : Nat → Int32) (v_headOf : Nat → Int32) (p1 : Int32) (o_r : Int32) (o_v_headOf : Nat → Int32) (hf : f_X12_heads N v_a v_headOf p1 = some (o_r, o_v_headOf)) : ∀ sz, Met l yX12_heads (mw yX12_heads cX12_heads 3 (some .int)) ({ frames := 2, cells := 0, slots := 0, locals := 48 } : Room) (mPre D (mT cI cJ cZ cB cT) (WM h q cI cJ cZ v_a v_image v_texts v_tape v_taped v_fault v_faultPlace v_at v_place v_token v_number v_word v_text0 v_written v_sort0 v_pile v_piled v_opens v_isWhole v_once v_named v_values v_truth v_isWritten v_died v_aside v_likely v_safe v_headOf) sz [.ref h, .int p1]) ((mQi D (WM h q cI cJ cZ v_a v_image v_texts v_tape v_taped v_fault v_faultPlace v_at v_place v_token v_number v_word v_text0 v_written v_sort0 v_pile v_piled v_opens v_isWhole v_once v_named v_values v_truth v_isWritten v_died v_aside v_likely v_safe o_v_headOf) o_r True) (va_A (WM h q cI cJ cZ v_a v_image v_texts v_tape v_taped v_fault v_faultPlace v_at v_place v_token v_number v_word v_text0 v_written v_sort0 v_pile v_piled v_opens v_isWhole v_once v_named v_values v_truth v_isWritten v_died v_aside v_likely v_safe v_headOf) sz)) 0 0 (va_A (WM h q cI cJ cZ v_a v_image v_texts v_tape v_taped v_fault v_faultPlace v_at v_place v_token v_number v_word v_text0 v_written v_sort0 v_pile v_piled v_opens v_isWhole v_once v_named v_values v_truth v_isWritten v_died v_aside v_likely v_safe v_headOf) sz) := by
  refine mMet (Qc := (mQi D (WM h q cI cJ cZ v_a v_image v_texts v_tape v_taped v_fault v_faultPlace v_at v_place v_token v_number v_word v_text0 v_written v_sort0 v_pile v_piled v_opens v_isWhole v_once v_named v_values v_truth v_isWritten v_died v_aside v_likely v_safe o_v_headOf) o_r True)) (by decide) (Nat.le_of_ble_eq_true rfl) (fun p e s m below meth c A ls hx hb hr hml hts hown hlocks hK hA hP hD hl => ?_)
  have hown : s.vm.findClass RX12 = some m.cls := hown
  have hl : lv_has ls 3 [(0, .ref h), (1, .int p1)] := hl
  have hS : va_S A s.heap s.heap [] := va_S.rf
  have b54 : ∀ (v_headOf : Nat → Int32) (x1 : Int32) (x2 : Int32) (H : Heap) (locs : List Loc) (ls : Array Slot), f_X12_heads_54 N v_a v_headOf x1 x2 = some (o_r, o_v_headOf) → va_P D vwCl (WM h q cI cJ cZ v_a v_image v_texts v_tape v_taped v_fault v_faultPlace v_at v_place v_token v_number v_word v_text0 v_written v_sort0 v_pile v_piled v_opens v_isWhole v_once v_named v_values v_truth v_isWritten v_died v_aside v_likely v_safe v_headOf) H → va_D A (WM h q cI cJ cZ v_a v_image v_texts v_tape v_taped v_fault v_faultPlace v_at v_place v_token v_number v_word v_text0 v_written v_sort0 v_pile v_piled v_opens v_isWhole v_once v_named v_values v_truth v_isWritten v_died v_aside v_likely v_safe v_headOf) → va_S A s.heap H locs → lv_has ls 3 [(0, .ref h), (1, .int x1), (2, .int x2)] → W p l e ({ frames := 2, cells := 0, slots := 0, locals := 48 } : Room) s m ([.ref h, .int p1] : List Value).toArray below meth c H locs 0 0 (MQ below ((mQi D (WM h q cI cJ cZ v_a v_image v_texts v_tape v_taped v_fault v_faultPlace v_at v_place v_token v_number v_word v_text0 v_written v_sort0 v_pile v_piled v_opens v_isWhole v_once v_named v_values v_truth v_isWritten v_died v_aside v_likely v_safe o_v_headOf) o_r True) A) ([.ref h, .int p1] : List Value).toArray s 0 0 A) (F0 m 54 ls []) := by
    intro v_headOf x1 x2 H locs ls hf hP hD hS hl
    unfold f_X12_heads_54 at hf
    refine lv_iload_n hx hb dX12_heads_54 rfl (lv_at hl 1 rfl) ?_
    refine lv_iconst (v := (-1 : Int32)) hx hb dX12_heads_55 (by decide) ?_
    refine xicmp_ne hx hb 63 dX12_heads_56 (by decide) hf (fun hf => ?_) (fun hf => ?_)
    · refine lv_iload_n hx hb dX12_heads_59 rfl (lv_at hl 2 rfl) ?_
      refine lv_goto (tgt := 69) hx hb dX12_heads_60 (by decide) ?_
      cases hf
      exact mret_i hx hb hr hlocks hP hD hS dX12_heads_69 rfl trivial
    · refine lv_aload_n hx hb dX12_heads_63 rfl (lv_at hl 0 rfl) ?_
      refine gfX12_56 hx hb hts hown hK hP 0 rfl rfl dX12_heads_64 ?_
      refine lv_iload_n hx hb dX12_heads_67 rfl (lv_at hl 1 rfl) ?_
      refine xiald hx hb hK hP 12 0 rfl rfl dX12_heads_68 hf (fun v68 hf => ?_)
      cases hf
      exact mret_i hx hb hr hlocks hP hD hS dX12_heads_69 rfl trivial
  have b36 : ∀ n36 : Nat, ∀ (v_headOf : Nat → Int32) (x1 : Int32) (x2 : Int32) (H : Heap) (locs : List Loc) (ls : Array Slot), f_X12_heads_36 N n36 v_a v_headOf x1 x2 = some (o_r, o_v_headOf) → va_P D vwCl (WM h q cI cJ cZ v_a v_image v_texts v_tape v_taped v_fault v_faultPlace v_at v_place v_token v_number v_word v_text0 v_written v_sort0 v_pile v_piled v_opens v_isWhole v_once v_named v_values v_truth v_isWritten v_died v_aside v_likely v_safe v_headOf) H → va_D A (WM h q cI cJ cZ v_a v_image v_texts v_tape v_taped v_fault v_faultPlace v_at v_place v_token v_number v_word v_text0 v_written v_sort0 v_pile v_piled v_opens v_isWhole v_once v_named v_values v_truth v_isWritten v_died v_aside v_likely v_safe v_headOf) → va_S A s.heap H locs → lv_has ls 3 [(0, .ref h), (1, .int x1), (2, .int x2)] → W p l e ({ frames := 2, cells := 0, slots := 0, locals := 48 } : Room) s m ([.ref h, .int p1] : List Value).toArray below meth c H locs 0 0 (MQ below ((mQi D (WM h q cI cJ cZ v_a v_image v_texts v_tape v_taped v_fault v_faultPlace v_at v_place v_token v_number v_word v_text0 v_written v_sort0 v_pile v_piled v_opens v_isWhole v_once v_named v_values v_truth v_isWritten v_died v_aside v_likely v_safe o_v_headOf) o_r True) A) ([.ref h, .int p1] : List Value).toArray s 0 0 A) (F0 m 36 ls []) := by
    intro n36
    induction n36 with
    | zero =>
      intro v_headOf x1 x2 H locs ls hf hP hD hS hl
      simp [f_X12_heads_36] at hf
    | succ n36 ih36 =>
      intro v_headOf x1 x2 H locs ls hf hP hD hS hl
      rw [f_X12_heads_36.eq_2] at hf
      refine lv_iload_n hx hb dX12_heads_36 rfl (lv_at hl 2 rfl) ?_
      refine xif_le hx hb 54 dX12_heads_37 (by decide) hf (fun hf => ?_) (fun hf => ?_)
      · exact b54 v_headOf x1 x2 _ _ _ hf hP hD hS (lv_sub hl [0, 1, 2] rfl)
      · refine lv_aload_n hx hb dX12_heads_40 rfl (lv_at hl 0 rfl) ?_
        refine lv_iload_n hx hb dX12_heads_41 rfl (lv_at hl 2 rfl) ?_
        obtain ⟨r42, v_headOf_42, hg42, hf⟩ := ob2_some hf
        refine mcV1_i (As := [.int x2]) (rest := []) hx hb hml hown hts hK hP hD hS hA (k_X12_isExplained l N D cI cJ cZ cB cT h q v_a v_image v_texts v_tape v_taped v_fault v_faultPlace v_at v_place v_token v_number v_word v_text0 v_written v_sort0 v_pile v_piled v_opens v_isWhole v_once v_named v_values v_truth v_isWritten v_died v_aside v_likely v_safe v_headOf x2 r42 v_headOf_42 hg42) (kwX12_463 hts rfl rfl ⟨Nat.le_of_ble_eq_true rfl, Nat.le_of_ble_eq_true rfl⟩) 0 rfl rfl rfl rfl hl.1 rfl (Nat.le_of_ble_eq_true rfl) dX12_heads_42 ⟨Nat.zero_le _, Nat.zero_le _⟩ (fun hB42 H locs hP hD hS => ?_)
        have hP : va_P D vwCl (WM h q cI cJ cZ v_a v_image v_texts v_tape v_taped v_fault v_faultPlace v_at v_place v_token v_number v_word v_text0 v_written v_sort0 v_pile v_piled v_opens v_isWhole v_once v_named v_values v_truth v_isWritten v_died v_aside v_likely v_safe v_headOf_42) H := hP
        have hD : va_D A (WM h q cI cJ cZ v_a v_image v_texts v_tape v_taped v_fault v_faultPlace v_at v_place v_token v_number v_word v_text0 v_written v_sort0 v_pile v_piled v_opens v_isWhole v_once v_named v_values v_truth v_isWritten v_died v_aside v_likely v_safe v_headOf_42) := hD
        refine xif_ne hx hb 54 dX12_heads_45 (by decide) hf (fun hf => ?_) (fun hf => ?_)
        · refine lv_iinc (v := (x2 + (1 : Int32))) (lv' := [(2, .int (x2 + (1 : Int32))), (0, .ref h), (1, .int x1)]) hx hb dX12_heads_48 hl (k := 2) rfl rfl (by decide) rfl (fun ls hl => ?_)
          refine lv_goto (tgt := 36) hx hb dX12_heads_51 (by decide) ?_
          exact ih36 v_headOf_42 x1 (x2 + (1 : Int32)) _ _ _ hf hP hD hS (lv_sub hl [1, 2, 0] rfl)
        · exact b54 v_headOf_42 x1 x2 _ _ _ hf hP hD hS (lv_sub hl [0, 1, 2] rfl)
  have b35 : ∀ (v_headOf : Nat → Int32) (x1 : Int32) (s0 : Int32) (H : Heap) (locs : List Loc) (ls : Array Slot), f_X12_heads_35 N v_a v_headOf x1 s0 = some (o_r, o_v_headOf) → va_P D vwCl (WM h q cI cJ cZ v_a v_image v_texts v_tape v_taped v_fault v_faultPlace v_at v_place v_token v_number v_word v_text0 v_written v_sort0 v_pile v_piled v_opens v_isWhole v_once v_named v_values v_truth v_isWritten v_died v_aside v_likely v_safe v_headOf) H → va_D A (WM h q cI cJ cZ v_a v_image v_texts v_tape v_taped v_fault v_faultPlace v_at v_place v_token v_number v_word v_text0 v_written v_sort0 v_pile v_piled v_opens v_isWhole v_once v_named v_values v_truth v_isWritten v_died v_aside v_likely v_safe v_headOf) → va_S A s.heap H locs → lv_has ls 3 [(0, .ref h), (1, .int x1)] → W p l e ({ frames := 2, cells := 0, slots := 0, locals := 48 } : Room) s m ([.ref h, .int p1] : List Value).toArray below meth c H locs 0 0 (MQ below ((mQi D (WM h q cI cJ cZ v_a v_image v_texts v_tape v_taped v_fault v_faultPlace v_at v_place v_token v_number v_word v_text0 v_written v_sort0 v_pile v_piled v_opens v_isWhole v_once v_named v_values v_truth v_isWritten v_died v_aside v_likely v_safe o_v_headOf) o_r True) A) ([.ref h, .int p1] : List Value).toArray s 0 0 A) (F0 m 35 ls [.int s0]) := by
    intro v_headOf x1 s0 H locs ls hf hP hD hS hl
    unfold f_X12_heads_35 at hf
    refine lv_istore_n (lv' := [(2, .int s0), (0, .ref h), (1, .int x1)]) hx hb dX12_heads_35 rfl hl (by decide) rfl (fun ls hl => ?_)
    exact b36 N v_headOf x1 s0 _ _ _ hf hP hD hS (lv_sub hl [1, 2, 0] rfl)
  unfold f_X12_heads at hf
  refine lv_iload_n hx hb dX12_heads_0 rfl (lv_at hl 1 rfl) ?_
  refine lv_iconst (v := (-1 : Int32)) hx hb dX12_heads_1 (by decide) ?_
  refine lv_aload_n hx hb dX12_heads_2 rfl (lv_at hl 0 rfl) ?_
  refine gfX12_7 hx hb hts hown hK hP 0 rfl rfl dX12_heads_3 ?_
  refine lv_bipush (v := (6 : Int32)) hx hb dX12_heads_6 (by decide) ?_
  refine xiald hx hb hK hP 1 0 rfl rfl dX12_heads_8 hf (fun v8 hf => ?_)
  refine lv_iconst (v := (1 : Int32)) hx hb dX12_heads_9 (by decide) ?_
  refine lv_isub hx hb dX12_heads_10 ?_
  obtain ⟨r11, hg11, hf⟩ := ob1_some hf
  refine mcS0_i (As := [.int p1, .int (-1 : Int32), .int (v8 - (1 : Int32))]) (rest := []) hx hb hml hown hts hK hP hD hS hA (k_X12_isIn l N D cI cJ cZ cB cT p1 (-1 : Int32) (v8 - (1 : Int32)) r11 hg11) (kwX12_63 hts rfl rfl ⟨Nat.le_of_ble_eq_true rfl, Nat.le_of_ble_eq_true rfl⟩) rfl hl.1 rfl (Nat.le_of_ble_eq_true rfl) dX12_heads_11 ⟨Nat.zero_le _, Nat.zero_le _⟩ (fun hB11 H locs hP hD hS => ?_)
  refine xif_ne hx hb 20 dX12_heads_14 (by decide) hf (fun hf => ?_) (fun hf => ?_)
  · refine lv_bipush (v := (-2 : Int32)) hx hb dX12_heads_17 (by decide) ?_
    cases hf
    exact mret_i hx hb hr hlocks hP hD hS dX12_heads_19 rfl trivial
  · refine lv_aload_n hx hb dX12_heads_20 rfl (lv_at hl 0 rfl) ?_
    refine gfX12_7 hx hb hts hown hK hP 0 rfl rfl dX12_heads_21 ?_
    refine lv_bipush (v := (6 : Int32)) hx hb dX12_heads_24 (by decide) ?_
    refine xiald hx hb hK hP 1 0 rfl rfl dX12_heads_26 hf (fun v26 hf => ?_)
    refine xif_ne hx hb 34 dX12_heads_27 (by decide) hf (fun hf => ?_) (fun hf => ?_)
    · refine lv_iconst (v := (0 : Int32)) hx hb dX12_heads_30 (by decide) ?_
      refine lv_goto (tgt := 35) hx hb dX12_heads_31 (by decide) ?_
      exact b35 v_headOf p1 (0 : Int32) _ _ _ hf hP hD hS (lv_sub hl [0, 1] rfl)
    · refine lv_iconst (v := (1 : Int32)) hx hb dX12_heads_34 (by decide) ?_
      exact b35 v_headOf p1 (1 : Int32) _ _ _ hf hP hD hS (lv_sub hl [0, 1] rfl)
theorem dX12_has_0 : decode cX12_has 0 = .ok (.iload_n 2, 1) := by decide +kernel
theorem dX12_has_1 : decode cX12_has 1 = .ok (.iconst 0, 1) := by decide +kernel
theorem dX12_has_2 : decode cX12_has 2 = .ok (.iconst 1, 1) := by decide +kernel
theorem dX12_has_3 : decode cX12_has 3 = .ok (.invokestatic 63, 3) := by decide +kernel
theorem dX12_has_6 : decode cX12_has 6 = .ok (.ifCond .eq 23, 3) := by decide +kernel
theorem dX12_has_9 : decode cX12_has 9 = .ok (.iload_n 3, 1) := by decide +kernel
theorem dX12_has_10 : decode cX12_has 10 = .ok (.iconst 0, 1) := by decide +kernel
theorem dX12_has_11 : decode cX12_has 11 = .ok (.iconst 1, 1) := by decide +kernel
theorem dX12_has_12 : decode cX12_has 12 = .ok (.invokestatic 63, 3) := by decide +kernel
theorem dX12_has_15 : decode cX12_has 15 = .ok (.ifCond .eq 14, 3) := by decide +kernel
theorem dX12_has_18 : decode cX12_has 18 = .ok (.iload 4, 2) := by decide +kernel
theorem dX12_has_20 : decode cX12_has 20 = .ok (.iconst 0, 1) := by decide +kernel
theorem dX12_has_21 : decode cX12_has 21 = .ok (.bipush 99, 2) := by decide +kernel
theorem dX12_has_23 : decode cX12_has 23 = .ok (.invokestatic 63, 3) := by decide +kernel
theorem dX12_has_26 : decode cX12_has 26 = .ok (.ifCond .ne 5, 3) := by decide +kernel
theorem dX12_has_29 : decode cX12_has 29 = .ok (.iconst 0, 1) := by decide +kernel
theorem dX12_has_30 : decode cX12_has 30 = .ok (.ireturn, 1) := by decide +kernel
theorem dX12_has_31 : decode cX12_has 31 = .ok (.aload_n 0, 1) := by decide +kernel
theorem dX12_has_32 : decode cX12_has 32 = .ok (.getfield 7, 3) := by decide +kernel
theorem dX12_has_35 : decode cX12_has 35 = .ok (.bipush 117, 2) := by decide +kernel
theorem dX12_has_37 : decode cX12_has 37 = .ok (.iload_n 1, 1) := by decide +kernel
theorem dX12_has_38 : decode cX12_has 38 = .ok (.ifCond .eq 7, 3) := by decide +kernel
theorem dX12_has_41 : decode cX12_has 41 = .ok (.iconst 4, 1) := by decide +kernel
theorem dX12_has_42 : decode cX12_has 42 = .ok (.goto 4, 3) := by decide +kernel
theorem dX12_has_45 : decode cX12_has 45 = .ok (.iconst 0, 1) := by decide +kernel
theorem dX12_has_46 : decode cX12_has 46 = .ok (.iadd, 1) := by decide +kernel
theorem dX12_has_47 : decode cX12_has 47 = .ok (.iconst 2, 1) := by decide +kernel
theorem dX12_has_48 : decode cX12_has 48 = .ok (.iload_n 2, 1) := by decide +kernel
theorem dX12_has_49 : decode cX12_has 49 = .ok (.imul, 1) := by decide +kernel
theorem dX12_has_50 : decode cX12_has 50 = .ok (.iadd, 1) := by decide +kernel
theorem dX12_has_51 : decode cX12_has 51 = .ok (.iload_n 3, 1) := by decide +kernel
theorem dX12_has_52 : decode cX12_has 52 = .ok (.iadd, 1) := by decide +kernel
theorem dX12_has_53 : decode cX12_has 53 = .ok (.iload 4, 2) := by decide +kernel
theorem dX12_has_55 : decode cX12_has 55 = .ok (.iastore, 1) := by decide +kernel
theorem dX12_has_56 : decode cX12_has 56 = .ok (.iconst 1, 1) := by decide +kernel
theorem dX12_has_57 : decode cX12_has 57 = .ok (.ireturn, 1) := by decide +kernel
def f_X12_has_46 (N : Nat) (v_a : Nat → Int32) (x2 : Int32) (x3 : Int32) (x4 : Int32) (s1 : Int32) (s2 : Int32) : Option (Int32 × (Nat → Int32)) := sA v_a 8762 (((s1 + s2) + ((2 : Int32) * x2)) + x3) x4 fun v_a_55 => some ((1 : Int32), v_a_55)
def f_X12_has (N : Nat) (v_a : Nat → Int32) (p1 : Int32) (p2 : Int32) (p3 : Int32) (p4 : Int32) : Option (Int32 × (Nat → Int32)) := ob1 (f_X12_isIn N p2 (0 : Int32) (1 : Int32)) fun r3 => if r3 = 0 then (some ((0 : Int32), v_a)) else (ob1 (f_X12_isIn N p3 (0 : Int32) (1 : Int32)) fun r12 => if r12 = 0 then (some ((0 : Int32), v_a)) else (ob1 (f_X12_isIn N p4 (0 : Int32) (99 : Int32)) fun r23 => if r23 = 0 then (some ((0 : Int32), v_a)) else (if p1 = 0 then (f_X12_has_46 N v_a p2 p3 p4 (117 : Int32) (0 : Int32)) else (f_X12_has_46 N v_a p2 p3 p4 (117 : Int32) (4 : Int32)))))
set_option maxHeartbeats 4000000 in
set_option maxRecDepth 100000 in
theorem k_X12_has (l : Launch) (N : Nat) (D : va_G) (cI cJ cZ cB cT : ClassId) (h : Nat) (q : Nat → Nat) (v_a : Nat → Int32) (v_image : Nat → Int32) (v_texts : Nat → Int32) (v_tape : Nat → Int32) (v_taped : Int32) (v_fault : Int32) (v_faultPlace : Int32) (v_at : Int32) (v_place : Int32) (v_token : Int32) (v_number : Int32) (v_word : Int64) (v_text0 : Int32) (v_written : Int32) (v_sort0 : Int32) (v_pile : Nat → Int32) (v_piled : Int32) (v_opens : Int32) (v_isWhole : Int32) (v_once : Int32) (v_named : Nat → Int32) (v_values : Nat → Int64) (v_truth : Nat → Int32) (v_isWritten : Int32) (v_died : Int32) (v_aside : Nat → Int32) (v_likely : Nat → Int32) (v_safe : Nat → Int32) (v_headOf : Nat → Int32) (p1 : Int32) (p2 : Int32) (p3 : Int32) (p4 : Int32) (o_r : Int32) (o_v_a : Nat → Int32) (hf : f_X12_has N v_a p1 p2 p3 p4 = some (o_r, o_v_a)) : ∀ sz, Met l yX12_has (mw yX12_has cX12_has 5 (some .boolean)) ({ frames := 1, cells := 0, slots := 0, locals := 22 } : Room) (mPre D (mT cI cJ cZ cB cT) (WM h q cI cJ cZ v_a v_image v_texts v_tape v_taped v_fault v_faultPlace v_at v_place v_token v_number v_word v_text0 v_written v_sort0 v_pile v_piled v_opens v_isWhole v_once v_named v_values v_truth v_isWritten v_died v_aside v_likely v_safe v_headOf) sz [.ref h, .int p1, .int p2, .int p3, .int p4]) ((mQi D (WM h q cI cJ cZ o_v_a v_image v_texts v_tape v_taped v_fault v_faultPlace v_at v_place v_token v_number v_word v_text0 v_written v_sort0 v_pile v_piled v_opens v_isWhole v_once v_named v_values v_truth v_isWritten v_died v_aside v_likely v_safe v_headOf) o_r (mB o_r)) (va_A (WM h q cI cJ cZ v_a v_image v_texts v_tape v_taped v_fault v_faultPlace v_at v_place v_token v_number v_word v_text0 v_written v_sort0 v_pile v_piled v_opens v_isWhole v_once v_named v_values v_truth v_isWritten v_died v_aside v_likely v_safe v_headOf) sz)) 0 0 (va_A (WM h q cI cJ cZ v_a v_image v_texts v_tape v_taped v_fault v_faultPlace v_at v_place v_token v_number v_word v_text0 v_written v_sort0 v_pile v_piled v_opens v_isWhole v_once v_named v_values v_truth v_isWritten v_died v_aside v_likely v_safe v_headOf) sz) := by
  refine mMet (Qc := (mQi D (WM h q cI cJ cZ o_v_a v_image v_texts v_tape v_taped v_fault v_faultPlace v_at v_place v_token v_number v_word v_text0 v_written v_sort0 v_pile v_piled v_opens v_isWhole v_once v_named v_values v_truth v_isWritten v_died v_aside v_likely v_safe v_headOf) o_r (mB o_r))) (by decide) (Nat.le_of_ble_eq_true rfl) (fun p e s m below meth c A ls hx hb hr hml hts hown hlocks hK hA hP hD hl => ?_)
  have hown : s.vm.findClass RX12 = some m.cls := hown
  have hl : lv_has ls 5 [(0, .ref h), (1, .int p1), (2, .int p2), (3, .int p3), (4, .int p4)] := hl
  have hS : va_S A s.heap s.heap [] := va_S.rf
  have b46 : ∀ (v_a : Nat → Int32) (x2 : Int32) (x3 : Int32) (x4 : Int32) (s1 : Int32) (s2 : Int32) (H : Heap) (locs : List Loc) (ls : Array Slot), f_X12_has_46 N v_a x2 x3 x4 s1 s2 = some (o_r, o_v_a) → va_P D vwCl (WM h q cI cJ cZ v_a v_image v_texts v_tape v_taped v_fault v_faultPlace v_at v_place v_token v_number v_word v_text0 v_written v_sort0 v_pile v_piled v_opens v_isWhole v_once v_named v_values v_truth v_isWritten v_died v_aside v_likely v_safe v_headOf) H → va_D A (WM h q cI cJ cZ v_a v_image v_texts v_tape v_taped v_fault v_faultPlace v_at v_place v_token v_number v_word v_text0 v_written v_sort0 v_pile v_piled v_opens v_isWhole v_once v_named v_values v_truth v_isWritten v_died v_aside v_likely v_safe v_headOf) → va_S A s.heap H locs → lv_has ls 5 [(2, .int x2), (3, .int x3), (4, .int x4)] → W p l e ({ frames := 1, cells := 0, slots := 0, locals := 22 } : Room) s m ([.ref h, .int p1, .int p2, .int p3, .int p4] : List Value).toArray below meth c H locs 0 0 (MQ below ((mQi D (WM h q cI cJ cZ o_v_a v_image v_texts v_tape v_taped v_fault v_faultPlace v_at v_place v_token v_number v_word v_text0 v_written v_sort0 v_pile v_piled v_opens v_isWhole v_once v_named v_values v_truth v_isWritten v_died v_aside v_likely v_safe v_headOf) o_r (mB o_r)) A) ([.ref h, .int p1, .int p2, .int p3, .int p4] : List Value).toArray s 0 0 A) (F0 m 46 ls [.int s2, .int s1, .ref (q 0)]) := by
    intro v_a x2 x3 x4 s1 s2 H locs ls hf hP hD hS hl
    unfold f_X12_has_46 at hf
    refine lv_iadd hx hb dX12_has_46 ?_
    refine lv_iconst (v := (2 : Int32)) hx hb dX12_has_47 (by decide) ?_
    refine lv_iload_n hx hb dX12_has_48 rfl (lv_at hl 0 rfl) ?_
    refine lv_imul hx hb dX12_has_49 ?_
    refine lv_iadd hx hb dX12_has_50 ?_
    refine lv_iload_n hx hb dX12_has_51 rfl (lv_at hl 1 rfl) ?_
    refine lv_iadd hx hb dX12_has_52 ?_
    refine lv_iload hx hb dX12_has_53 (lv_at hl 2 rfl) ?_
    refine xiast hx hb hK hP hD hS 1 0 rfl rfl dX12_has_55 hf (fun v_a_55 hf H locs hP hD hS => ?_)
    have hP : va_P D vwCl (WM h q cI cJ cZ v_a_55 v_image v_texts v_tape v_taped v_fault v_faultPlace v_at v_place v_token v_number v_word v_text0 v_written v_sort0 v_pile v_piled v_opens v_isWhole v_once v_named v_values v_truth v_isWritten v_died v_aside v_likely v_safe v_headOf) H := hP
    have hD : va_D A (WM h q cI cJ cZ v_a_55 v_image v_texts v_tape v_taped v_fault v_faultPlace v_at v_place v_token v_number v_word v_text0 v_written v_sort0 v_pile v_piled v_opens v_isWhole v_once v_named v_values v_truth v_isWritten v_died v_aside v_likely v_safe v_headOf) := hD
    refine lv_iconst (v := (1 : Int32)) hx hb dX12_has_56 (by decide) ?_
    cases hf
    exact mret_z hx hb hr hlocks hP hD hS dX12_has_57 rfl rfl
  unfold f_X12_has at hf
  refine lv_iload_n hx hb dX12_has_0 rfl (lv_at hl 2 rfl) ?_
  refine lv_iconst (v := (0 : Int32)) hx hb dX12_has_1 (by decide) ?_
  refine lv_iconst (v := (1 : Int32)) hx hb dX12_has_2 (by decide) ?_
  obtain ⟨r3, hg3, hf⟩ := ob1_some hf
  refine mcS0_i (As := [.int p2, .int (0 : Int32), .int (1 : Int32)]) (rest := []) hx hb hml hown hts hK hP hD hS hA (k_X12_isIn l N D cI cJ cZ cB cT p2 (0 : Int32) (1 : Int32) r3 hg3) (kwX12_63 hts rfl rfl ⟨Nat.le_of_ble_eq_true rfl, Nat.le_of_ble_eq_true rfl⟩) rfl hl.1 rfl (Nat.le_of_ble_eq_true rfl) dX12_has_3 ⟨Nat.zero_le _, Nat.zero_le _⟩ (fun hB3 H locs hP hD hS => ?_)
  refine xif_eq hx hb 29 dX12_has_6 (by decide) hf (fun hf => ?_) (fun hf => ?_)
  · refine lv_iconst (v := (0 : Int32)) hx hb dX12_has_29 (by decide) ?_
    cases hf
    exact mret_z hx hb hr hlocks hP hD hS dX12_has_30 rfl rfl
  · refine lv_iload_n hx hb dX12_has_9 rfl (lv_at hl 3 rfl) ?_
    refine lv_iconst (v := (0 : Int32)) hx hb dX12_has_10 (by decide) ?_
    refine lv_iconst (v := (1 : Int32)) hx hb dX12_has_11 (by decide) ?_
    obtain ⟨r12, hg12, hf⟩ := ob1_some hf
    refine mcS0_i (As := [.int p3, .int (0 : Int32), .int (1 : Int32)]) (rest := []) hx hb hml hown hts hK hP hD hS hA (k_X12_isIn l N D cI cJ cZ cB cT p3 (0 : Int32) (1 : Int32) r12 hg12) (kwX12_63 hts rfl rfl ⟨Nat.le_of_ble_eq_true rfl, Nat.le_of_ble_eq_true rfl⟩) rfl hl.1 rfl (Nat.le_of_ble_eq_true rfl) dX12_has_12 ⟨Nat.zero_le _, Nat.zero_le _⟩ (fun hB12 H locs hP hD hS => ?_)
    refine xif_eq hx hb 29 dX12_has_15 (by decide) hf (fun hf => ?_) (fun hf => ?_)
    · refine lv_iconst (v := (0 : Int32)) hx hb dX12_has_29 (by decide) ?_
      cases hf
      exact mret_z hx hb hr hlocks hP hD hS dX12_has_30 rfl rfl
    · refine lv_iload hx hb dX12_has_18 (lv_at hl 4 rfl) ?_
      refine lv_iconst (v := (0 : Int32)) hx hb dX12_has_20 (by decide) ?_
      refine lv_bipush (v := (99 : Int32)) hx hb dX12_has_21 (by decide) ?_
      obtain ⟨r23, hg23, hf⟩ := ob1_some hf
      refine mcS0_i (As := [.int p4, .int (0 : Int32), .int (99 : Int32)]) (rest := []) hx hb hml hown hts hK hP hD hS hA (k_X12_isIn l N D cI cJ cZ cB cT p4 (0 : Int32) (99 : Int32) r23 hg23) (kwX12_63 hts rfl rfl ⟨Nat.le_of_ble_eq_true rfl, Nat.le_of_ble_eq_true rfl⟩) rfl hl.1 rfl (Nat.le_of_ble_eq_true rfl) dX12_has_23 ⟨Nat.zero_le _, Nat.zero_le _⟩ (fun hB23 H locs hP hD hS => ?_)
      refine xif_ne hx hb 31 dX12_has_26 (by decide) hf (fun hf => ?_) (fun hf => ?_)
      · refine lv_iconst (v := (0 : Int32)) hx hb dX12_has_29 (by decide) ?_
        cases hf
        exact mret_z hx hb hr hlocks hP hD hS dX12_has_30 rfl rfl
      · refine lv_aload_n hx hb dX12_has_31 rfl (lv_at hl 0 rfl) ?_
        refine gfX12_7 hx hb hts hown hK hP 0 rfl rfl dX12_has_32 ?_
        refine lv_bipush (v := (117 : Int32)) hx hb dX12_has_35 (by decide) ?_
        refine lv_iload_n hx hb dX12_has_37 rfl (lv_at hl 1 rfl) ?_
        refine xif_eq hx hb 45 dX12_has_38 (by decide) hf (fun hf => ?_) (fun hf => ?_)
        · refine lv_iconst (v := (0 : Int32)) hx hb dX12_has_45 (by decide) ?_
          exact b46 v_a p2 p3 p4 (117 : Int32) (0 : Int32) _ _ _ hf hP hD hS (lv_sub hl [2, 3, 4] rfl)
        · refine lv_iconst (v := (4 : Int32)) hx hb dX12_has_41 (by decide) ?_
          refine lv_goto (tgt := 46) hx hb dX12_has_42 (by decide) ?_
          exact b46 v_a p2 p3 p4 (117 : Int32) (4 : Int32) _ _ _ hf hP hD hS (lv_sub hl [2, 3, 4] rfl)
theorem dX12_rests_0 : decode cX12_rests 0 = .ok (.iconst 0, 1) := by decide +kernel
theorem dX12_rests_1 : decode cX12_rests 1 = .ok (.istore_n 1, 1) := by decide +kernel
theorem dX12_rests_2 : decode cX12_rests 2 = .ok (.iconst 0, 1) := by decide +kernel
theorem dX12_rests_3 : decode cX12_rests 3 = .ok (.istore_n 2, 1) := by decide +kernel
theorem dX12_rests_4 : decode cX12_rests 4 = .ok (.iload_n 2, 1) := by decide +kernel
theorem dX12_rests_5 : decode cX12_rests 5 = .ok (.iconst 2, 1) := by decide +kernel
theorem dX12_rests_6 : decode cX12_rests 6 = .ok (.if_icmp .ge 110, 3) := by decide +kernel
theorem dX12_rests_9 : decode cX12_rests 9 = .ok (.iconst 0, 1) := by decide +kernel
theorem dX12_rests_10 : decode cX12_rests 10 = .ok (.istore_n 3, 1) := by decide +kernel
theorem dX12_rests_11 : decode cX12_rests 11 = .ok (.iload_n 3, 1) := by decide +kernel
theorem dX12_rests_12 : decode cX12_rests 12 = .ok (.iconst 2, 1) := by decide +kernel
theorem dX12_rests_13 : decode cX12_rests 13 = .ok (.if_icmp .ge 97, 3) := by decide +kernel
theorem dX12_rests_16 : decode cX12_rests 16 = .ok (.aload_n 0, 1) := by decide +kernel
theorem dX12_rests_17 : decode cX12_rests 17 = .ok (.getfield 7, 3) := by decide +kernel
theorem dX12_rests_20 : decode cX12_rests 20 = .ok (.bipush 117, 2) := by decide +kernel
theorem dX12_rests_22 : decode cX12_rests 22 = .ok (.iconst 2, 1) := by decide +kernel
theorem dX12_rests_23 : decode cX12_rests 23 = .ok (.iload_n 2, 1) := by decide +kernel
theorem dX12_rests_24 : decode cX12_rests 24 = .ok (.imul, 1) := by decide +kernel
theorem dX12_rests_25 : decode cX12_rests 25 = .ok (.iadd, 1) := by decide +kernel
theorem dX12_rests_26 : decode cX12_rests 26 = .ok (.iload_n 3, 1) := by decide +kernel
theorem dX12_rests_27 : decode cX12_rests 27 = .ok (.iadd, 1) := by decide +kernel
theorem dX12_rests_28 : decode cX12_rests 28 = .ok (.iaload, 1) := by decide +kernel
theorem dX12_rests_29 : decode cX12_rests 29 = .ok (.aload_n 0, 1) := by decide +kernel
theorem dX12_rests_30 : decode cX12_rests 30 = .ok (.getfield 7, 3) := by decide +kernel
theorem dX12_rests_33 : decode cX12_rests 33 = .ok (.bipush 117, 2) := by decide +kernel
theorem dX12_rests_35 : decode cX12_rests 35 = .ok (.iconst 2, 1) := by decide +kernel
theorem dX12_rests_36 : decode cX12_rests 36 = .ok (.iconst 1, 1) := by decide +kernel
theorem dX12_rests_37 : decode cX12_rests 37 = .ok (.iload_n 2, 1) := by decide +kernel
theorem dX12_rests_38 : decode cX12_rests 38 = .ok (.isub, 1) := by decide +kernel
theorem dX12_rests_39 : decode cX12_rests 39 = .ok (.imul, 1) := by decide +kernel
theorem dX12_rests_40 : decode cX12_rests 40 = .ok (.iadd, 1) := by decide +kernel
theorem dX12_rests_41 : decode cX12_rests 41 = .ok (.iload_n 3, 1) := by decide +kernel
theorem dX12_rests_42 : decode cX12_rests 42 = .ok (.iadd, 1) := by decide +kernel
theorem dX12_rests_43 : decode cX12_rests 43 = .ok (.iaload, 1) := by decide +kernel
theorem dX12_rests_44 : decode cX12_rests 44 = .ok (.if_icmp .lt 38, 3) := by decide +kernel
theorem dX12_rests_47 : decode cX12_rests 47 = .ok (.aload_n 0, 1) := by decide +kernel
theorem dX12_rests_48 : decode cX12_rests 48 = .ok (.getfield 7, 3) := by decide +kernel
theorem dX12_rests_51 : decode cX12_rests 51 = .ok (.bipush 121, 2) := by decide +kernel
theorem dX12_rests_53 : decode cX12_rests 53 = .ok (.iconst 2, 1) := by decide +kernel
theorem dX12_rests_54 : decode cX12_rests 54 = .ok (.iload_n 2, 1) := by decide +kernel
theorem dX12_rests_55 : decode cX12_rests 55 = .ok (.imul, 1) := by decide +kernel
theorem dX12_rests_56 : decode cX12_rests 56 = .ok (.iadd, 1) := by decide +kernel
theorem dX12_rests_57 : decode cX12_rests 57 = .ok (.iload_n 3, 1) := by decide +kernel
theorem dX12_rests_58 : decode cX12_rests 58 = .ok (.iadd, 1) := by decide +kernel
theorem dX12_rests_59 : decode cX12_rests 59 = .ok (.iaload, 1) := by decide +kernel
theorem dX12_rests_60 : decode cX12_rests 60 = .ok (.aload_n 0, 1) := by decide +kernel
theorem dX12_rests_61 : decode cX12_rests 61 = .ok (.getfield 7, 3) := by decide +kernel
theorem dX12_rests_64 : decode cX12_rests 64 = .ok (.bipush 121, 2) := by decide +kernel
theorem dX12_rests_66 : decode cX12_rests 66 = .ok (.iconst 2, 1) := by decide +kernel
theorem dX12_rests_67 : decode cX12_rests 67 = .ok (.iload_n 2, 1) := by decide +kernel
theorem dX12_rests_68 : decode cX12_rests 68 = .ok (.imul, 1) := by decide +kernel
theorem dX12_rests_69 : decode cX12_rests 69 = .ok (.iadd, 1) := by decide +kernel
theorem dX12_rests_70 : decode cX12_rests 70 = .ok (.iconst 1, 1) := by decide +kernel
theorem dX12_rests_71 : decode cX12_rests 71 = .ok (.iadd, 1) := by decide +kernel
theorem dX12_rests_72 : decode cX12_rests 72 = .ok (.iload_n 3, 1) := by decide +kernel
theorem dX12_rests_73 : decode cX12_rests 73 = .ok (.isub, 1) := by decide +kernel
theorem dX12_rests_74 : decode cX12_rests 74 = .ok (.iaload, 1) := by decide +kernel
theorem dX12_rests_75 : decode cX12_rests 75 = .ok (.if_icmp .lt 7, 3) := by decide +kernel
theorem dX12_rests_78 : decode cX12_rests 78 = .ok (.iconst 1, 1) := by decide +kernel
theorem dX12_rests_79 : decode cX12_rests 79 = .ok (.goto 4, 3) := by decide +kernel
theorem dX12_rests_82 : decode cX12_rests 82 = .ok (.iconst 0, 1) := by decide +kernel
theorem dX12_rests_83 : decode cX12_rests 83 = .ok (.istore 4, 2) := by decide +kernel
theorem dX12_rests_85 : decode cX12_rests 85 = .ok (.iload_n 1, 1) := by decide +kernel
theorem dX12_rests_86 : decode cX12_rests 86 = .ok (.iload 4, 2) := by decide +kernel
theorem dX12_rests_88 : decode cX12_rests 88 = .ok (.ifCond .eq 13, 3) := by decide +kernel
theorem dX12_rests_91 : decode cX12_rests 91 = .ok (.iconst 1, 1) := by decide +kernel
theorem dX12_rests_92 : decode cX12_rests 92 = .ok (.iload_n 2, 1) := by decide +kernel
theorem dX12_rests_93 : decode cX12_rests 93 = .ok (.iconst 2, 1) := by decide +kernel
theorem dX12_rests_94 : decode cX12_rests 94 = .ok (.iload_n 3, 1) := by decide +kernel
theorem dX12_rests_95 : decode cX12_rests 95 = .ok (.imul, 1) := by decide +kernel
theorem dX12_rests_96 : decode cX12_rests 96 = .ok (.iadd, 1) := by decide +kernel
theorem dX12_rests_97 : decode cX12_rests 97 = .ok (.ishl, 1) := by decide +kernel
theorem dX12_rests_98 : decode cX12_rests 98 = .ok (.goto 4, 3) := by decide +kernel
theorem dX12_rests_101 : decode cX12_rests 101 = .ok (.iconst 0, 1) := by decide +kernel
theorem dX12_rests_102 : decode cX12_rests 102 = .ok (.ior, 1) := by decide +kernel
theorem dX12_rests_103 : decode cX12_rests 103 = .ok (.istore_n 1, 1) := by decide +kernel
theorem dX12_rests_104 : decode cX12_rests 104 = .ok (.iinc 3 1, 3) := by decide +kernel
theorem dX12_rests_107 : decode cX12_rests 107 = .ok (.goto (-96), 3) := by decide +kernel
theorem dX12_rests_110 : decode cX12_rests 110 = .ok (.iinc 2 1, 3) := by decide +kernel
theorem dX12_rests_113 : decode cX12_rests 113 = .ok (.goto (-109), 3) := by decide +kernel
theorem dX12_rests_116 : decode cX12_rests 116 = .ok (.iload_n 1, 1) := by decide +kernel
theorem dX12_rests_117 : decode cX12_rests 117 = .ok (.ireturn, 1) := by decide +kernel
def f_X12_rests_102 (N : Nat) (k_11 : (Nat → Int32) → Int32 → Int32 → Int32 → Option (Int32)) (k_4 : (Nat → Int32) → Int32 → Int32 → Option (Int32)) (v_a : Nat → Int32) (x2 : Int32) (x3 : Int32) (s0 : Int32) (s1 : Int32) : Option (Int32) := k_11 v_a (s0 ||| s1) x2 (x3 + (1 : Int32))
def f_X12_rests_83 (N : Nat) (k_11 : (Nat → Int32) → Int32 → Int32 → Int32 → Option (Int32)) (k_4 : (Nat → Int32) → Int32 → Int32 → Option (Int32)) (v_a : Nat → Int32) (x1 : Int32) (x2 : Int32) (x3 : Int32) (s0 : Int32) : Option (Int32) := if s0 = 0 then (f_X12_rests_102 N k_11 k_4 v_a x2 x3 x1 (0 : Int32)) else (f_X12_rests_102 N k_11 k_4 v_a x2 x3 x1 ((1 : Int32) <<< ((x2 + ((2 : Int32) * x3)) &&& 31)))
def f_X12_rests_82 (N : Nat) (k_11 : (Nat → Int32) → Int32 → Int32 → Int32 → Option (Int32)) (k_4 : (Nat → Int32) → Int32 → Int32 → Option (Int32)) (v_a : Nat → Int32) (x1 : Int32) (x2 : Int32) (x3 : Int32) : Option (Int32) := f_X12_rests_83 N k_11 k_4 v_a x1 x2 x3 (0 : Int32)
def f_X12_rests_11 (N : Nat) (k_4 : (Nat → Int32) → Int32 → Int32 → Option (Int32)) : Nat → (Nat → Int32) → Int32 → Int32 → Int32 → Option (Int32)
  | 0, _, _, _, _ => none
  | n + 1, v_a, x1, x2, x3 => if (2 : Int32) ≤ x3 then (k_4 v_a x1 (x2 + (1 : Int32))) else (gA v_a 8762 (((117 : Int32) + ((2 : Int32) * x2)) + x3) fun v28 => gA v_a 8762 (((117 : Int32) + ((2 : Int32) * ((1 : Int32) - x2))) + x3) fun v43 => if v28 < v43 then (f_X12_rests_82 N (f_X12_rests_11 N k_4 n) k_4 v_a x1 x2 x3) else (gA v_a 8762 (((121 : Int32) + ((2 : Int32) * x2)) + x3) fun v59 => gA v_a 8762 ((((121 : Int32) + ((2 : Int32) * x2)) + (1 : Int32)) - x3) fun v74 => if v59 < v74 then (f_X12_rests_82 N (f_X12_rests_11 N k_4 n) k_4 v_a x1 x2 x3) else (f_X12_rests_83 N (f_X12_rests_11 N k_4 n) k_4 v_a x1 x2 x3 (1 : Int32))))
def f_X12_rests_4 (N : Nat) : Nat → (Nat → Int32) → Int32 → Int32 → Option (Int32)
  | 0, _, _, _ => none
  | n + 1, v_a, x1, x2 => if (2 : Int32) ≤ x2 then (some x1) else (f_X12_rests_11 N (f_X12_rests_4 N n) N v_a x1 x2 (0 : Int32))
def f_X12_rests (N : Nat) (v_a : Nat → Int32) : Option (Int32) := f_X12_rests_4 N N v_a (0 : Int32) (0 : Int32)
set_option maxHeartbeats 4000000 in
set_option maxRecDepth 100000 in
theorem k_X12_rests (l : Launch) (N : Nat) (D : va_G) (cI cJ cZ cB cT : ClassId) (h : Nat) (q : Nat → Nat) (v_a : Nat → Int32) (v_image : Nat → Int32) (v_texts : Nat → Int32) (v_tape : Nat → Int32) (v_taped : Int32) (v_fault : Int32) (v_faultPlace : Int32) (v_at : Int32) (v_place : Int32) (v_token : Int32) (v_number : Int32) (v_word : Int64) (v_text0 : Int32) (v_written : Int32) (v_sort0 : Int32) (v_pile : Nat → Int32) (v_piled : Int32) (v_opens : Int32) (v_isWhole : Int32) (v_once : Int32) (v_named : Nat → Int32) (v_values : Nat → Int64) (v_truth : Nat → Int32) (v_isWritten : Int32) (v_died : Int32) (v_aside : Nat → Int32) (v_likely : Nat → Int32) (v_safe : Nat → Int32) (v_headOf : Nat → Int32) (o_r : Int32) (hf : f_X12_rests N v_a = some o_r) : ∀ sz, Met l yX12_rests (mw yX12_rests cX12_rests 5 (some .int)) ({ frames := 0, cells := 0, slots := 0, locals := 0 } : Room) (mPre D (mT cI cJ cZ cB cT) (WM h q cI cJ cZ v_a v_image v_texts v_tape v_taped v_fault v_faultPlace v_at v_place v_token v_number v_word v_text0 v_written v_sort0 v_pile v_piled v_opens v_isWhole v_once v_named v_values v_truth v_isWritten v_died v_aside v_likely v_safe v_headOf) sz [.ref h]) ((mQi D (WM h q cI cJ cZ v_a v_image v_texts v_tape v_taped v_fault v_faultPlace v_at v_place v_token v_number v_word v_text0 v_written v_sort0 v_pile v_piled v_opens v_isWhole v_once v_named v_values v_truth v_isWritten v_died v_aside v_likely v_safe v_headOf) o_r True) (va_A (WM h q cI cJ cZ v_a v_image v_texts v_tape v_taped v_fault v_faultPlace v_at v_place v_token v_number v_word v_text0 v_written v_sort0 v_pile v_piled v_opens v_isWhole v_once v_named v_values v_truth v_isWritten v_died v_aside v_likely v_safe v_headOf) sz)) 0 0 (va_A (WM h q cI cJ cZ v_a v_image v_texts v_tape v_taped v_fault v_faultPlace v_at v_place v_token v_number v_word v_text0 v_written v_sort0 v_pile v_piled v_opens v_isWhole v_once v_named v_values v_truth v_isWritten v_died v_aside v_likely v_safe v_headOf) sz) := by
  refine mMet (Qc := (mQi D (WM h q cI cJ cZ v_a v_image v_texts v_tape v_taped v_fault v_faultPlace v_at v_place v_token v_number v_word v_text0 v_written v_sort0 v_pile v_piled v_opens v_isWhole v_once v_named v_values v_truth v_isWritten v_died v_aside v_likely v_safe v_headOf) o_r True)) (by decide) (Nat.le_of_ble_eq_true rfl) (fun p e s m below meth c A ls hx hb hr hml hts hown hlocks hK hA hP hD hl => ?_)
  have hown : s.vm.findClass RX12 = some m.cls := hown
  have hl : lv_has ls 5 [(0, .ref h)] := hl
  have hS : va_S A s.heap s.heap [] := va_S.rf
  have b4 : ∀ n4 : Nat, ∀ (x1 : Int32) (x2 : Int32) (H : Heap) (locs : List Loc) (ls : Array Slot), f_X12_rests_4 N n4 v_a x1 x2 = some o_r → va_P D vwCl (WM h q cI cJ cZ v_a v_image v_texts v_tape v_taped v_fault v_faultPlace v_at v_place v_token v_number v_word v_text0 v_written v_sort0 v_pile v_piled v_opens v_isWhole v_once v_named v_values v_truth v_isWritten v_died v_aside v_likely v_safe v_headOf) H → va_D A (WM h q cI cJ cZ v_a v_image v_texts v_tape v_taped v_fault v_faultPlace v_at v_place v_token v_number v_word v_text0 v_written v_sort0 v_pile v_piled v_opens v_isWhole v_once v_named v_values v_truth v_isWritten v_died v_aside v_likely v_safe v_headOf) → va_S A s.heap H locs → lv_has ls 5 [(0, .ref h), (1, .int x1), (2, .int x2)] → W p l e ({ frames := 0, cells := 0, slots := 0, locals := 0 } : Room) s m ([.ref h] : List Value).toArray below meth c H locs 0 0 (MQ below ((mQi D (WM h q cI cJ cZ v_a v_image v_texts v_tape v_taped v_fault v_faultPlace v_at v_place v_token v_number v_word v_text0 v_written v_sort0 v_pile v_piled v_opens v_isWhole v_once v_named v_values v_truth v_isWritten v_died v_aside v_likely v_safe v_headOf) o_r True) A) ([.ref h] : List Value).toArray s 0 0 A) (F0 m 4 ls []) := by
    intro n4
    induction n4 with
    | zero =>
      intro x1 x2 H locs ls hf hP hD hS hl
      simp [f_X12_rests_4] at hf
    | succ n4 ih4 =>
      have b11 : ∀ n11 : Nat, ∀ (x1 : Int32) (x2 : Int32) (x3 : Int32) (H : Heap) (locs : List Loc) (ls : Array Slot), f_X12_rests_11 N (f_X12_rests_4 N n4) n11 v_a x1 x2 x3 = some o_r → va_P D vwCl (WM h q cI cJ cZ v_a v_image v_texts v_tape v_taped v_fault v_faultPlace v_at v_place v_token v_number v_word v_text0 v_written v_sort0 v_pile v_piled v_opens v_isWhole v_once v_named v_values v_truth v_isWritten v_died v_aside v_likely v_safe v_headOf) H → va_D A (WM h q cI cJ cZ v_a v_image v_texts v_tape v_taped v_fault v_faultPlace v_at v_place v_token v_number v_word v_text0 v_written v_sort0 v_pile v_piled v_opens v_isWhole v_once v_named v_values v_truth v_isWritten v_died v_aside v_likely v_safe v_headOf) → va_S A s.heap H locs → lv_has ls 5 [(0, .ref h), (1, .int x1), (2, .int x2), (3, .int x3)] → W p l e ({ frames := 0, cells := 0, slots := 0, locals := 0 } : Room) s m ([.ref h] : List Value).toArray below meth c H locs 0 0 (MQ below ((mQi D (WM h q cI cJ cZ v_a v_image v_texts v_tape v_taped v_fault v_faultPlace v_at v_place v_token v_number v_word v_text0 v_written v_sort0 v_pile v_piled v_opens v_isWhole v_once v_named v_values v_truth v_isWritten v_died v_aside v_likely v_safe v_headOf) o_r True) A) ([.ref h] : List Value).toArray s 0 0 A) (F0 m 11 ls []) := by
        intro n11
        induction n11 with
        | zero =>
          intro x1 x2 x3 H locs ls hf hP hD hS hl
          simp [f_X12_rests_11] at hf
        | succ n11 ih11 =>
          have b102 : ∀ (x2 : Int32) (x3 : Int32) (s0 : Int32) (s1 : Int32) (H : Heap) (locs : List Loc) (ls : Array Slot), f_X12_rests_102 N (f_X12_rests_11 N (f_X12_rests_4 N n4) n11) (f_X12_rests_4 N n4) v_a x2 x3 s0 s1 = some o_r → va_P D vwCl (WM h q cI cJ cZ v_a v_image v_texts v_tape v_taped v_fault v_faultPlace v_at v_place v_token v_number v_word v_text0 v_written v_sort0 v_pile v_piled v_opens v_isWhole v_once v_named v_values v_truth v_isWritten v_died v_aside v_likely v_safe v_headOf) H → va_D A (WM h q cI cJ cZ v_a v_image v_texts v_tape v_taped v_fault v_faultPlace v_at v_place v_token v_number v_word v_text0 v_written v_sort0 v_pile v_piled v_opens v_isWhole v_once v_named v_values v_truth v_isWritten v_died v_aside v_likely v_safe v_headOf) → va_S A s.heap H locs → lv_has ls 5 [(0, .ref h), (2, .int x2), (3, .int x3)] → W p l e ({ frames := 0, cells := 0, slots := 0, locals := 0 } : Room) s m ([.ref h] : List Value).toArray below meth c H locs 0 0 (MQ below ((mQi D (WM h q cI cJ cZ v_a v_image v_texts v_tape v_taped v_fault v_faultPlace v_at v_place v_token v_number v_word v_text0 v_written v_sort0 v_pile v_piled v_opens v_isWhole v_once v_named v_values v_truth v_isWritten v_died v_aside v_likely v_safe v_headOf) o_r True) A) ([.ref h] : List Value).toArray s 0 0 A) (F0 m 102 ls [.int s1, .int s0]) := by
            intro x2 x3 s0 s1 H locs ls hf hP hD hS hl
            unfold f_X12_rests_102 at hf
            refine lv_ior hx hb dX12_rests_102 ?_
            refine lv_istore_n (lv' := [(1, .int (s0 ||| s1)), (0, .ref h), (2, .int x2), (3, .int x3)]) hx hb dX12_rests_103 rfl hl (by decide) rfl (fun ls hl => ?_)
            refine lv_iinc (v := (x3 + (1 : Int32))) (lv' := [(3, .int (x3 + (1 : Int32))), (1, .int (s0 ||| s1)), (0, .ref h), (2, .int x2)]) hx hb dX12_rests_104 hl (k := 3) rfl rfl (by decide) rfl (fun ls hl => ?_)
            refine lv_goto (tgt := 11) hx hb dX12_rests_107 (by decide) ?_
            exact ih11 (s0 ||| s1) x2 (x3 + (1 : Int32)) _ _ _ hf hP hD hS (lv_sub hl [2, 1, 3, 0] rfl)
          have b83 : ∀ (x1 : Int32) (x2 : Int32) (x3 : Int32) (s0 : Int32) (H : Heap) (locs : List Loc) (ls : Array Slot), f_X12_rests_83 N (f_X12_rests_11 N (f_X12_rests_4 N n4) n11) (f_X12_rests_4 N n4) v_a x1 x2 x3 s0 = some o_r → va_P D vwCl (WM h q cI cJ cZ v_a v_image v_texts v_tape v_taped v_fault v_faultPlace v_at v_place v_token v_number v_word v_text0 v_written v_sort0 v_pile v_piled v_opens v_isWhole v_once v_named v_values v_truth v_isWritten v_died v_aside v_likely v_safe v_headOf) H → va_D A (WM h q cI cJ cZ v_a v_image v_texts v_tape v_taped v_fault v_faultPlace v_at v_place v_token v_number v_word v_text0 v_written v_sort0 v_pile v_piled v_opens v_isWhole v_once v_named v_values v_truth v_isWritten v_died v_aside v_likely v_safe v_headOf) → va_S A s.heap H locs → lv_has ls 5 [(0, .ref h), (1, .int x1), (2, .int x2), (3, .int x3)] → W p l e ({ frames := 0, cells := 0, slots := 0, locals := 0 } : Room) s m ([.ref h] : List Value).toArray below meth c H locs 0 0 (MQ below ((mQi D (WM h q cI cJ cZ v_a v_image v_texts v_tape v_taped v_fault v_faultPlace v_at v_place v_token v_number v_word v_text0 v_written v_sort0 v_pile v_piled v_opens v_isWhole v_once v_named v_values v_truth v_isWritten v_died v_aside v_likely v_safe v_headOf) o_r True) A) ([.ref h] : List Value).toArray s 0 0 A) (F0 m 83 ls [.int s0]) := by
            intro x1 x2 x3 s0 H locs ls hf hP hD hS hl
            unfold f_X12_rests_83 at hf
            refine lv_istore (lv' := [(4, .int s0), (0, .ref h), (1, .int x1), (2, .int x2), (3, .int x3)]) hx hb dX12_rests_83 hl (by decide) rfl (fun ls hl => ?_)
            refine lv_iload_n hx hb dX12_rests_85 rfl (lv_at hl 2 rfl) ?_
            refine lv_iload hx hb dX12_rests_86 (lv_at hl 0 rfl) ?_
            refine xif_eq hx hb 101 dX12_rests_88 (by decide) hf (fun hf => ?_) (fun hf => ?_)
            · refine lv_iconst (v := (0 : Int32)) hx hb dX12_rests_101 (by decide) ?_
              exact b102 x2 x3 x1 (0 : Int32) _ _ _ hf hP hD hS (lv_sub hl [1, 3, 4] rfl)
            · refine lv_iconst (v := (1 : Int32)) hx hb dX12_rests_91 (by decide) ?_
              refine lv_iload_n hx hb dX12_rests_92 rfl (lv_at hl 3 rfl) ?_
              refine lv_iconst (v := (2 : Int32)) hx hb dX12_rests_93 (by decide) ?_
              refine lv_iload_n hx hb dX12_rests_94 rfl (lv_at hl 4 rfl) ?_
              refine lv_imul hx hb dX12_rests_95 ?_
              refine lv_iadd hx hb dX12_rests_96 ?_
              refine lv_ishl hx hb dX12_rests_97 ?_
              refine lv_goto (tgt := 102) hx hb dX12_rests_98 (by decide) ?_
              exact b102 x2 x3 x1 ((1 : Int32) <<< ((x2 + ((2 : Int32) * x3)) &&& 31)) _ _ _ hf hP hD hS (lv_sub hl [1, 3, 4] rfl)
          have b82 : ∀ (x1 : Int32) (x2 : Int32) (x3 : Int32) (H : Heap) (locs : List Loc) (ls : Array Slot), f_X12_rests_82 N (f_X12_rests_11 N (f_X12_rests_4 N n4) n11) (f_X12_rests_4 N n4) v_a x1 x2 x3 = some o_r → va_P D vwCl (WM h q cI cJ cZ v_a v_image v_texts v_tape v_taped v_fault v_faultPlace v_at v_place v_token v_number v_word v_text0 v_written v_sort0 v_pile v_piled v_opens v_isWhole v_once v_named v_values v_truth v_isWritten v_died v_aside v_likely v_safe v_headOf) H → va_D A (WM h q cI cJ cZ v_a v_image v_texts v_tape v_taped v_fault v_faultPlace v_at v_place v_token v_number v_word v_text0 v_written v_sort0 v_pile v_piled v_opens v_isWhole v_once v_named v_values v_truth v_isWritten v_died v_aside v_likely v_safe v_headOf) → va_S A s.heap H locs → lv_has ls 5 [(0, .ref h), (1, .int x1), (2, .int x2), (3, .int x3)] → W p l e ({ frames := 0, cells := 0, slots := 0, locals := 0 } : Room) s m ([.ref h] : List Value).toArray below meth c H locs 0 0 (MQ below ((mQi D (WM h q cI cJ cZ v_a v_image v_texts v_tape v_taped v_fault v_faultPlace v_at v_place v_token v_number v_word v_text0 v_written v_sort0 v_pile v_piled v_opens v_isWhole v_once v_named v_values v_truth v_isWritten v_died v_aside v_likely v_safe v_headOf) o_r True) A) ([.ref h] : List Value).toArray s 0 0 A) (F0 m 82 ls []) := by
            intro x1 x2 x3 H locs ls hf hP hD hS hl
            unfold f_X12_rests_82 at hf
            refine lv_iconst (v := (0 : Int32)) hx hb dX12_rests_82 (by decide) ?_
            exact b83 x1 x2 x3 (0 : Int32) _ _ _ hf hP hD hS (lv_sub hl [0, 1, 2, 3] rfl)
          intro x1 x2 x3 H locs ls hf hP hD hS hl
          rw [f_X12_rests_11.eq_2] at hf
          refine lv_iload_n hx hb dX12_rests_11 rfl (lv_at hl 3 rfl) ?_
          refine lv_iconst (v := (2 : Int32)) hx hb dX12_rests_12 (by decide) ?_
          refine xicmp_ge hx hb 110 dX12_rests_13 (by decide) hf (fun hf => ?_) (fun hf => ?_)
          · refine lv_iinc (v := (x2 + (1 : Int32))) (lv' := [(2, .int (x2 + (1 : Int32))), (0, .ref h), (1, .int x1), (3, .int x3)]) hx hb dX12_rests_110 hl (k := 2) rfl rfl (by decide) rfl (fun ls hl => ?_)
            refine lv_goto (tgt := 4) hx hb dX12_rests_113 (by decide) ?_
            exact ih4 x1 (x2 + (1 : Int32)) _ _ _ hf hP hD hS (lv_sub hl [1, 2, 0] rfl)
          · refine lv_aload_n hx hb dX12_rests_16 rfl (lv_at hl 0 rfl) ?_
            refine gfX12_7 hx hb hts hown hK hP 0 rfl rfl dX12_rests_17 ?_
            refine lv_bipush (v := (117 : Int32)) hx hb dX12_rests_20 (by decide) ?_
            refine lv_iconst (v := (2 : Int32)) hx hb dX12_rests_22 (by decide) ?_
            refine lv_iload_n hx hb dX12_rests_23 rfl (lv_at hl 2 rfl) ?_
            refine lv_imul hx hb dX12_rests_24 ?_
            refine lv_iadd hx hb dX12_rests_25 ?_
            refine lv_iload_n hx hb dX12_rests_26 rfl (lv_at hl 3 rfl) ?_
            refine lv_iadd hx hb dX12_rests_27 ?_
            refine xiald hx hb hK hP 1 0 rfl rfl dX12_rests_28 hf (fun v28 hf => ?_)
            refine lv_aload_n hx hb dX12_rests_29 rfl (lv_at hl 0 rfl) ?_
            refine gfX12_7 hx hb hts hown hK hP 0 rfl rfl dX12_rests_30 ?_
            refine lv_bipush (v := (117 : Int32)) hx hb dX12_rests_33 (by decide) ?_
            refine lv_iconst (v := (2 : Int32)) hx hb dX12_rests_35 (by decide) ?_
            refine lv_iconst (v := (1 : Int32)) hx hb dX12_rests_36 (by decide) ?_
            refine lv_iload_n hx hb dX12_rests_37 rfl (lv_at hl 2 rfl) ?_
            refine lv_isub hx hb dX12_rests_38 ?_
            refine lv_imul hx hb dX12_rests_39 ?_
            refine lv_iadd hx hb dX12_rests_40 ?_
            refine lv_iload_n hx hb dX12_rests_41 rfl (lv_at hl 3 rfl) ?_
            refine lv_iadd hx hb dX12_rests_42 ?_
            refine xiald hx hb hK hP 1 0 rfl rfl dX12_rests_43 hf (fun v43 hf => ?_)
            refine xicmp_lt hx hb 82 dX12_rests_44 (by decide) hf (fun hf => ?_) (fun hf => ?_)
            · exact b82 x1 x2 x3 _ _ _ hf hP hD hS (lv_sub hl [0, 1, 2, 3] rfl)
            · refine lv_aload_n hx hb dX12_rests_47 rfl (lv_at hl 0 rfl) ?_
              refine gfX12_7 hx hb hts hown hK hP 0 rfl rfl dX12_rests_48 ?_
              refine lv_bipush (v := (121 : Int32)) hx hb dX12_rests_51 (by decide) ?_
              refine lv_iconst (v := (2 : Int32)) hx hb dX12_rests_53 (by decide) ?_
              refine lv_iload_n hx hb dX12_rests_54 rfl (lv_at hl 2 rfl) ?_
              refine lv_imul hx hb dX12_rests_55 ?_
              refine lv_iadd hx hb dX12_rests_56 ?_
              refine lv_iload_n hx hb dX12_rests_57 rfl (lv_at hl 3 rfl) ?_
              refine lv_iadd hx hb dX12_rests_58 ?_
              refine xiald hx hb hK hP 1 0 rfl rfl dX12_rests_59 hf (fun v59 hf => ?_)
              refine lv_aload_n hx hb dX12_rests_60 rfl (lv_at hl 0 rfl) ?_
              refine gfX12_7 hx hb hts hown hK hP 0 rfl rfl dX12_rests_61 ?_
              refine lv_bipush (v := (121 : Int32)) hx hb dX12_rests_64 (by decide) ?_
              refine lv_iconst (v := (2 : Int32)) hx hb dX12_rests_66 (by decide) ?_
              refine lv_iload_n hx hb dX12_rests_67 rfl (lv_at hl 2 rfl) ?_
              refine lv_imul hx hb dX12_rests_68 ?_
              refine lv_iadd hx hb dX12_rests_69 ?_
              refine lv_iconst (v := (1 : Int32)) hx hb dX12_rests_70 (by decide) ?_
              refine lv_iadd hx hb dX12_rests_71 ?_
              refine lv_iload_n hx hb dX12_rests_72 rfl (lv_at hl 3 rfl) ?_
              refine lv_isub hx hb dX12_rests_73 ?_
              refine xiald hx hb hK hP 1 0 rfl rfl dX12_rests_74 hf (fun v74 hf => ?_)
              refine xicmp_lt hx hb 82 dX12_rests_75 (by decide) hf (fun hf => ?_) (fun hf => ?_)
              · exact b82 x1 x2 x3 _ _ _ hf hP hD hS (lv_sub hl [0, 1, 2, 3] rfl)
              · refine lv_iconst (v := (1 : Int32)) hx hb dX12_rests_78 (by decide) ?_
                refine lv_goto (tgt := 83) hx hb dX12_rests_79 (by decide) ?_
                exact b83 x1 x2 x3 (1 : Int32) _ _ _ hf hP hD hS (lv_sub hl [0, 1, 2, 3] rfl)
      intro x1 x2 H locs ls hf hP hD hS hl
      rw [f_X12_rests_4.eq_2] at hf
      refine lv_iload_n hx hb dX12_rests_4 rfl (lv_at hl 2 rfl) ?_
      refine lv_iconst (v := (2 : Int32)) hx hb dX12_rests_5 (by decide) ?_
      refine xicmp_ge hx hb 116 dX12_rests_6 (by decide) hf (fun hf => ?_) (fun hf => ?_)
      · refine lv_iload_n hx hb dX12_rests_116 rfl (lv_at hl 1 rfl) ?_
        cases hf
        exact mret_i hx hb hr hlocks hP hD hS dX12_rests_117 rfl trivial
      · refine lv_iconst (v := (0 : Int32)) hx hb dX12_rests_9 (by decide) ?_
        refine lv_istore_n (lv' := [(3, .int (0 : Int32)), (0, .ref h), (1, .int x1), (2, .int x2)]) hx hb dX12_rests_10 rfl hl (by decide) rfl (fun ls hl => ?_)
        exact b11 N x1 x2 (0 : Int32) _ _ _ hf hP hD hS (lv_sub hl [1, 2, 3, 0] rfl)
  unfold f_X12_rests at hf
  refine lv_iconst (v := (0 : Int32)) hx hb dX12_rests_0 (by decide) ?_
  refine lv_istore_n (lv' := [(1, .int (0 : Int32)), (0, .ref h)]) hx hb dX12_rests_1 rfl hl (by decide) rfl (fun ls hl => ?_)
  refine lv_iconst (v := (0 : Int32)) hx hb dX12_rests_2 (by decide) ?_
  refine lv_istore_n (lv' := [(2, .int (0 : Int32)), (1, .int (0 : Int32)), (0, .ref h)]) hx hb dX12_rests_3 rfl hl (by decide) rfl (fun ls hl => ?_)
  exact b4 N (0 : Int32) (0 : Int32) _ _ _ hf hP hD hS (lv_sub hl [2, 1, 0] rfl)
theorem dX12_mixed_0 : decode cX12_mixed 0 = .ok (.aload_n 0, 1) := by decide +kernel
theorem dX12_mixed_1 : decode cX12_mixed 1 = .ok (.getfield 7, 3) := by decide +kernel
theorem dX12_mixed_4 : decode cX12_mixed 4 = .ok (.bipush 124, 2) := by decide +kernel
theorem dX12_mixed_6 : decode cX12_mixed 6 = .ok (.iaload, 1) := by decide +kernel
theorem dX12_mixed_7 : decode cX12_mixed 7 = .ok (.aload_n 0, 1) := by decide +kernel
theorem dX12_mixed_8 : decode cX12_mixed 8 = .ok (.getfield 7, 3) := by decide +kernel
theorem dX12_mixed_11 : decode cX12_mixed 11 = .ok (.bipush 123, 2) := by decide +kernel
theorem dX12_mixed_13 : decode cX12_mixed 13 = .ok (.iaload, 1) := by decide +kernel
theorem dX12_mixed_14 : decode cX12_mixed 14 = .ok (.isub, 1) := by decide +kernel
theorem dX12_mixed_15 : decode cX12_mixed 15 = .ok (.istore_n 2, 1) := by decide +kernel
theorem dX12_mixed_16 : decode cX12_mixed 16 = .ok (.aload_n 0, 1) := by decide +kernel
theorem dX12_mixed_17 : decode cX12_mixed 17 = .ok (.getfield 7, 3) := by decide +kernel
theorem dX12_mixed_20 : decode cX12_mixed 20 = .ok (.bipush 121, 2) := by decide +kernel
theorem dX12_mixed_22 : decode cX12_mixed 22 = .ok (.iaload, 1) := by decide +kernel
theorem dX12_mixed_23 : decode cX12_mixed 23 = .ok (.aload_n 0, 1) := by decide +kernel
theorem dX12_mixed_24 : decode cX12_mixed 24 = .ok (.getfield 7, 3) := by decide +kernel
theorem dX12_mixed_27 : decode cX12_mixed 27 = .ok (.bipush 123, 2) := by decide +kernel
theorem dX12_mixed_29 : decode cX12_mixed 29 = .ok (.iaload, 1) := by decide +kernel
theorem dX12_mixed_30 : decode cX12_mixed 30 = .ok (.isub, 1) := by decide +kernel
theorem dX12_mixed_31 : decode cX12_mixed 31 = .ok (.aload_n 0, 1) := by decide +kernel
theorem dX12_mixed_32 : decode cX12_mixed 32 = .ok (.getfield 7, 3) := by decide +kernel
theorem dX12_mixed_35 : decode cX12_mixed 35 = .ok (.bipush 122, 2) := by decide +kernel
theorem dX12_mixed_37 : decode cX12_mixed 37 = .ok (.iaload, 1) := by decide +kernel
theorem dX12_mixed_38 : decode cX12_mixed 38 = .ok (.isub, 1) := by decide +kernel
theorem dX12_mixed_39 : decode cX12_mixed 39 = .ok (.aload_n 0, 1) := by decide +kernel
theorem dX12_mixed_40 : decode cX12_mixed 40 = .ok (.getfield 7, 3) := by decide +kernel
theorem dX12_mixed_43 : decode cX12_mixed 43 = .ok (.bipush 124, 2) := by decide +kernel
theorem dX12_mixed_45 : decode cX12_mixed 45 = .ok (.iaload, 1) := by decide +kernel
theorem dX12_mixed_46 : decode cX12_mixed 46 = .ok (.iadd, 1) := by decide +kernel
theorem dX12_mixed_47 : decode cX12_mixed 47 = .ok (.istore_n 3, 1) := by decide +kernel
theorem dX12_mixed_48 : decode cX12_mixed 48 = .ok (.iload_n 3, 1) := by decide +kernel
theorem dX12_mixed_49 : decode cX12_mixed 49 = .ok (.ifCond .ge 9, 3) := by decide +kernel
theorem dX12_mixed_52 : decode cX12_mixed 52 = .ok (.iload_n 2, 1) := by decide +kernel
theorem dX12_mixed_53 : decode cX12_mixed 53 = .ok (.ineg, 1) := by decide +kernel
theorem dX12_mixed_54 : decode cX12_mixed 54 = .ok (.istore_n 2, 1) := by decide +kernel
theorem dX12_mixed_55 : decode cX12_mixed 55 = .ok (.iload_n 3, 1) := by decide +kernel
theorem dX12_mixed_56 : decode cX12_mixed 56 = .ok (.ineg, 1) := by decide +kernel
theorem dX12_mixed_57 : decode cX12_mixed 57 = .ok (.istore_n 3, 1) := by decide +kernel
theorem dX12_mixed_58 : decode cX12_mixed 58 = .ok (.iload_n 2, 1) := by decide +kernel
theorem dX12_mixed_59 : decode cX12_mixed 59 = .ok (.ifCond .le 8, 3) := by decide +kernel
theorem dX12_mixed_62 : decode cX12_mixed 62 = .ok (.iload_n 2, 1) := by decide +kernel
theorem dX12_mixed_63 : decode cX12_mixed 63 = .ok (.iload_n 3, 1) := by decide +kernel
theorem dX12_mixed_64 : decode cX12_mixed 64 = .ok (.if_icmp .lt 5, 3) := by decide +kernel
theorem dX12_mixed_67 : decode cX12_mixed 67 = .ok (.iconst (-1), 1) := by decide +kernel
theorem dX12_mixed_68 : decode cX12_mixed 68 = .ok (.ireturn, 1) := by decide +kernel
theorem dX12_mixed_69 : decode cX12_mixed 69 = .ok (.iload_n 1, 1) := by decide +kernel
theorem dX12_mixed_70 : decode cX12_mixed 70 = .ok (.ifCond .eq 7, 3) := by decide +kernel
theorem dX12_mixed_73 : decode cX12_mixed 73 = .ok (.iload_n 3, 1) := by decide +kernel
theorem dX12_mixed_74 : decode cX12_mixed 74 = .ok (.goto 4, 3) := by decide +kernel
theorem dX12_mixed_77 : decode cX12_mixed 77 = .ok (.iload_n 2, 1) := by decide +kernel
theorem dX12_mixed_78 : decode cX12_mixed 78 = .ok (.iload_n 2, 1) := by decide +kernel
theorem dX12_mixed_79 : decode cX12_mixed 79 = .ok (.iload_n 3, 1) := by decide +kernel
theorem dX12_mixed_80 : decode cX12_mixed 80 = .ok (.invokestatic 445, 3) := by decide +kernel
theorem dX12_mixed_83 : decode cX12_mixed 83 = .ok (.idiv, 1) := by decide +kernel
theorem dX12_mixed_84 : decode cX12_mixed 84 = .ok (.ireturn, 1) := by decide +kernel
def f_X12_mixed_78 (N : Nat) (v_a : Nat → Int32) (x2 : Int32) (x3 : Int32) (s0 : Int32) : Option (Int32) := ob1 (f_X12_common N x2 x3) fun r80 => dvI s0 r80 fun v83 => some v83
def f_X12_mixed_58 (N : Nat) (v_a : Nat → Int32) (x1 : Int32) (x2 : Int32) (x3 : Int32) : Option (Int32) := if x2 ≤ 0 then (some (-1 : Int32)) else (if x2 < x3 then (if x1 = 0 then (f_X12_mixed_78 N v_a x2 x3 x2) else (f_X12_mixed_78 N v_a x2 x3 x3)) else (some (-1 : Int32)))
def f_X12_mixed (N : Nat) (v_a : Nat → Int32) (p1 : Int32) : Option (Int32) := gA v_a 8762 (124 : Int32) fun v6 => gA v_a 8762 (123 : Int32) fun v13 => gA v_a 8762 (121 : Int32) fun v22 => gA v_a 8762 (123 : Int32) fun v29 => gA v_a 8762 (122 : Int32) fun v37 => gA v_a 8762 (124 : Int32) fun v45 => if 0 ≤ (((v22 - v29) - v37) + v45) then (f_X12_mixed_58 N v_a p1 (v6 - v13) (((v22 - v29) - v37) + v45)) else (f_X12_mixed_58 N v_a p1 (-(v6 - v13)) (-(((v22 - v29) - v37) + v45)))
set_option maxHeartbeats 4000000 in
set_option maxRecDepth 100000 in
theorem k_X12_mixed (l : Launch) (N : Nat) (D : va_G) (cI cJ cZ cB cT : ClassId) (h : Nat) (q : Nat → Nat) (v_a : Nat → Int32) (v_image : Nat → Int32) (v_texts : Nat → Int32) (v_tape : Nat → Int32) (v_taped : Int32) (v_fault : Int32) (v_faultPlace : Int32) (v_at : Int32) (v_place : Int32) (v_token : Int32) (v_number : Int32) (v_word : Int64) (v_text0 : Int32) (v_written : Int32) (v_sort0 : Int32) (v_pile : Nat → Int32) (v_piled : Int32) (v_opens : Int32) (v_isWhole : Int32) (v_once : Int32) (v_named : Nat → Int32) (v_values : Nat → Int64) (v_truth : Nat → Int32) (v_isWritten : Int32) (v_died : Int32) (v_aside : Nat → Int32) (v_likely : Nat → Int32) (v_safe : Nat → Int32) (v_headOf : Nat → Int32) (p1 : Int32) (o_r : Int32) (hf : f_X12_mixed N v_a p1 = some o_r) : ∀ sz, Met l yX12_mixed (mw yX12_mixed cX12_mixed 4 (some .int)) ({ frames := 1, cells := 0, slots := 0, locals := 24 } : Room) (mPre D (mT cI cJ cZ cB cT) (WM h q cI cJ cZ v_a v_image v_texts v_tape v_taped v_fault v_faultPlace v_at v_place v_token v_number v_word v_text0 v_written v_sort0 v_pile v_piled v_opens v_isWhole v_once v_named v_values v_truth v_isWritten v_died v_aside v_likely v_safe v_headOf) sz [.ref h, .int p1]) ((mQi D (WM h q cI cJ cZ v_a v_image v_texts v_tape v_taped v_fault v_faultPlace v_at v_place v_token v_number v_word v_text0 v_written v_sort0 v_pile v_piled v_opens v_isWhole v_once v_named v_values v_truth v_isWritten v_died v_aside v_likely v_safe v_headOf) o_r True) (va_A (WM h q cI cJ cZ v_a v_image v_texts v_tape v_taped v_fault v_faultPlace v_at v_place v_token v_number v_word v_text0 v_written v_sort0 v_pile v_piled v_opens v_isWhole v_once v_named v_values v_truth v_isWritten v_died v_aside v_likely v_safe v_headOf) sz)) 0 0 (va_A (WM h q cI cJ cZ v_a v_image v_texts v_tape v_taped v_fault v_faultPlace v_at v_place v_token v_number v_word v_text0 v_written v_sort0 v_pile v_piled v_opens v_isWhole v_once v_named v_values v_truth v_isWritten v_died v_aside v_likely v_safe v_headOf) sz) := by
  refine mMet (Qc := (mQi D (WM h q cI cJ cZ v_a v_image v_texts v_tape v_taped v_fault v_faultPlace v_at v_place v_token v_number v_word v_text0 v_written v_sort0 v_pile v_piled v_opens v_isWhole v_once v_named v_values v_truth v_isWritten v_died v_aside v_likely v_safe v_headOf) o_r True)) (by decide) (Nat.le_of_ble_eq_true rfl) (fun p e s m below meth c A ls hx hb hr hml hts hown hlocks hK hA hP hD hl => ?_)
  have hown : s.vm.findClass RX12 = some m.cls := hown
  have hl : lv_has ls 4 [(0, .ref h), (1, .int p1)] := hl
  have hS : va_S A s.heap s.heap [] := va_S.rf
  have b78 : ∀ (x2 : Int32) (x3 : Int32) (s0 : Int32) (H : Heap) (locs : List Loc) (ls : Array Slot), f_X12_mixed_78 N v_a x2 x3 s0 = some o_r → va_P D vwCl (WM h q cI cJ cZ v_a v_image v_texts v_tape v_taped v_fault v_faultPlace v_at v_place v_token v_number v_word v_text0 v_written v_sort0 v_pile v_piled v_opens v_isWhole v_once v_named v_values v_truth v_isWritten v_died v_aside v_likely v_safe v_headOf) H → va_D A (WM h q cI cJ cZ v_a v_image v_texts v_tape v_taped v_fault v_faultPlace v_at v_place v_token v_number v_word v_text0 v_written v_sort0 v_pile v_piled v_opens v_isWhole v_once v_named v_values v_truth v_isWritten v_died v_aside v_likely v_safe v_headOf) → va_S A s.heap H locs → lv_has ls 4 [(2, .int x2), (3, .int x3)] → W p l e ({ frames := 1, cells := 0, slots := 0, locals := 24 } : Room) s m ([.ref h, .int p1] : List Value).toArray below meth c H locs 0 0 (MQ below ((mQi D (WM h q cI cJ cZ v_a v_image v_texts v_tape v_taped v_fault v_faultPlace v_at v_place v_token v_number v_word v_text0 v_written v_sort0 v_pile v_piled v_opens v_isWhole v_once v_named v_values v_truth v_isWritten v_died v_aside v_likely v_safe v_headOf) o_r True) A) ([.ref h, .int p1] : List Value).toArray s 0 0 A) (F0 m 78 ls [.int s0]) := by
    intro x2 x3 s0 H locs ls hf hP hD hS hl
    unfold f_X12_mixed_78 at hf
    refine lv_iload_n hx hb dX12_mixed_78 rfl (lv_at hl 0 rfl) ?_
    refine lv_iload_n hx hb dX12_mixed_79 rfl (lv_at hl 1 rfl) ?_
    obtain ⟨r80, hg80, hf⟩ := ob1_some hf
    refine mcS0_i (As := [.int x2, .int x3]) (rest := [.int s0]) hx hb hml hown hts hK hP hD hS hA (k_X12_common l N D cI cJ cZ cB cT x2 x3 r80 hg80) (kwX12_445 hts rfl rfl ⟨Nat.le_of_ble_eq_true rfl, Nat.le_of_ble_eq_true rfl⟩) rfl hl.1 rfl (Nat.le_of_ble_eq_true rfl) dX12_mixed_80 ⟨Nat.zero_le _, Nat.zero_le _⟩ (fun hB80 H locs hP hD hS => ?_)
    refine xidiv hx hb dX12_mixed_83 hf (fun v83 hf => ?_)
    cases hf
    exact mret_i hx hb hr hlocks hP hD hS dX12_mixed_84 rfl trivial
  have b58 : ∀ (x1 : Int32) (x2 : Int32) (x3 : Int32) (H : Heap) (locs : List Loc) (ls : Array Slot), f_X12_mixed_58 N v_a x1 x2 x3 = some o_r → va_P D vwCl (WM h q cI cJ cZ v_a v_image v_texts v_tape v_taped v_fault v_faultPlace v_at v_place v_token v_number v_word v_text0 v_written v_sort0 v_pile v_piled v_opens v_isWhole v_once v_named v_values v_truth v_isWritten v_died v_aside v_likely v_safe v_headOf) H → va_D A (WM h q cI cJ cZ v_a v_image v_texts v_tape v_taped v_fault v_faultPlace v_at v_place v_token v_number v_word v_text0 v_written v_sort0 v_pile v_piled v_opens v_isWhole v_once v_named v_values v_truth v_isWritten v_died v_aside v_likely v_safe v_headOf) → va_S A s.heap H locs → lv_has ls 4 [(1, .int x1), (2, .int x2), (3, .int x3)] → W p l e ({ frames := 1, cells := 0, slots := 0, locals := 24 } : Room) s m ([.ref h, .int p1] : List Value).toArray below meth c H locs 0 0 (MQ below ((mQi D (WM h q cI cJ cZ v_a v_image v_texts v_tape v_taped v_fault v_faultPlace v_at v_place v_token v_number v_word v_text0 v_written v_sort0 v_pile v_piled v_opens v_isWhole v_once v_named v_values v_truth v_isWritten v_died v_aside v_likely v_safe v_headOf) o_r True) A) ([.ref h, .int p1] : List Value).toArray s 0 0 A) (F0 m 58 ls []) := by
    intro x1 x2 x3 H locs ls hf hP hD hS hl
    unfold f_X12_mixed_58 at hf
    refine lv_iload_n hx hb dX12_mixed_58 rfl (lv_at hl 1 rfl) ?_
    refine xif_le hx hb 67 dX12_mixed_59 (by decide) hf (fun hf => ?_) (fun hf => ?_)
    · refine lv_iconst (v := (-1 : Int32)) hx hb dX12_mixed_67 (by decide) ?_
      cases hf
      exact mret_i hx hb hr hlocks hP hD hS dX12_mixed_68 rfl trivial
    · refine lv_iload_n hx hb dX12_mixed_62 rfl (lv_at hl 1 rfl) ?_
      refine lv_iload_n hx hb dX12_mixed_63 rfl (lv_at hl 2 rfl) ?_
      refine xicmp_lt hx hb 69 dX12_mixed_64 (by decide) hf (fun hf => ?_) (fun hf => ?_)
      · refine lv_iload_n hx hb dX12_mixed_69 rfl (lv_at hl 0 rfl) ?_
        refine xif_eq hx hb 77 dX12_mixed_70 (by decide) hf (fun hf => ?_) (fun hf => ?_)
        · refine lv_iload_n hx hb dX12_mixed_77 rfl (lv_at hl 1 rfl) ?_
          exact b78 x2 x3 x2 _ _ _ hf hP hD hS (lv_sub hl [1, 2] rfl)
        · refine lv_iload_n hx hb dX12_mixed_73 rfl (lv_at hl 2 rfl) ?_
          refine lv_goto (tgt := 78) hx hb dX12_mixed_74 (by decide) ?_
          exact b78 x2 x3 x3 _ _ _ hf hP hD hS (lv_sub hl [1, 2] rfl)
      · refine lv_iconst (v := (-1 : Int32)) hx hb dX12_mixed_67 (by decide) ?_
        cases hf
        exact mret_i hx hb hr hlocks hP hD hS dX12_mixed_68 rfl trivial
  unfold f_X12_mixed at hf
  refine lv_aload_n hx hb dX12_mixed_0 rfl (lv_at hl 0 rfl) ?_
  refine gfX12_7 hx hb hts hown hK hP 0 rfl rfl dX12_mixed_1 ?_
  refine lv_bipush (v := (124 : Int32)) hx hb dX12_mixed_4 (by decide) ?_
  refine xiald hx hb hK hP 1 0 rfl rfl dX12_mixed_6 hf (fun v6 hf => ?_)
  refine lv_aload_n hx hb dX12_mixed_7 rfl (lv_at hl 0 rfl) ?_
  refine gfX12_7 hx hb hts hown hK hP 0 rfl rfl dX12_mixed_8 ?_
  refine lv_bipush (v := (123 : Int32)) hx hb dX12_mixed_11 (by decide) ?_
  refine xiald hx hb hK hP 1 0 rfl rfl dX12_mixed_13 hf (fun v13 hf => ?_)
  refine lv_isub hx hb dX12_mixed_14 ?_
  refine lv_istore_n (lv' := [(2, .int (v6 - v13)), (0, .ref h), (1, .int p1)]) hx hb dX12_mixed_15 rfl hl (by decide) rfl (fun ls hl => ?_)
  refine lv_aload_n hx hb dX12_mixed_16 rfl (lv_at hl 1 rfl) ?_
  refine gfX12_7 hx hb hts hown hK hP 0 rfl rfl dX12_mixed_17 ?_
  refine lv_bipush (v := (121 : Int32)) hx hb dX12_mixed_20 (by decide) ?_
  refine xiald hx hb hK hP 1 0 rfl rfl dX12_mixed_22 hf (fun v22 hf => ?_)
  refine lv_aload_n hx hb dX12_mixed_23 rfl (lv_at hl 1 rfl) ?_
  refine gfX12_7 hx hb hts hown hK hP 0 rfl rfl dX12_mixed_24 ?_
  refine lv_bipush (v := (123 : Int32)) hx hb dX12_mixed_27 (by decide) ?_
  refine xiald hx hb hK hP 1 0 rfl rfl dX12_mixed_29 hf (fun v29 hf => ?_)
  refine lv_isub hx hb dX12_mixed_30 ?_
  refine lv_aload_n hx hb dX12_mixed_31 rfl (lv_at hl 1 rfl) ?_
  refine gfX12_7 hx hb hts hown hK hP 0 rfl rfl dX12_mixed_32 ?_
  refine lv_bipush (v := (122 : Int32)) hx hb dX12_mixed_35 (by decide) ?_
  refine xiald hx hb hK hP 1 0 rfl rfl dX12_mixed_37 hf (fun v37 hf => ?_)
  refine lv_isub hx hb dX12_mixed_38 ?_
  refine lv_aload_n hx hb dX12_mixed_39 rfl (lv_at hl 1 rfl) ?_
  refine gfX12_7 hx hb hts hown hK hP 0 rfl rfl dX12_mixed_40 ?_
  refine lv_bipush (v := (124 : Int32)) hx hb dX12_mixed_43 (by decide) ?_
  refine xiald hx hb hK hP 1 0 rfl rfl dX12_mixed_45 hf (fun v45 hf => ?_)
  refine lv_iadd hx hb dX12_mixed_46 ?_
  refine lv_istore_n (lv' := [(3, .int (((v22 - v29) - v37) + v45)), (2, .int (v6 - v13)), (0, .ref h), (1, .int p1)]) hx hb dX12_mixed_47 rfl hl (by decide) rfl (fun ls hl => ?_)
  refine lv_iload_n hx hb dX12_mixed_48 rfl (lv_at hl 0 rfl) ?_
  refine xif_ge hx hb 58 dX12_mixed_49 (by decide) hf (fun hf => ?_) (fun hf => ?_)
  · exact b58 p1 (v6 - v13) (((v22 - v29) - v37) + v45) _ _ _ hf hP hD hS (lv_sub hl [3, 1, 0] rfl)
  · refine lv_iload_n hx hb dX12_mixed_52 rfl (lv_at hl 1 rfl) ?_
    refine lv_ineg hx hb dX12_mixed_53 ?_
    refine lv_istore_n (lv' := [(2, .int (-(v6 - v13))), (3, .int (((v22 - v29) - v37) + v45)), (0, .ref h), (1, .int p1)]) hx hb dX12_mixed_54 rfl hl (by decide) rfl (fun ls hl => ?_)
    refine lv_iload_n hx hb dX12_mixed_55 rfl (lv_at hl 1 rfl) ?_
    refine lv_ineg hx hb dX12_mixed_56 ?_
    refine lv_istore_n (lv' := [(3, .int (-(((v22 - v29) - v37) + v45))), (2, .int (-(v6 - v13))), (0, .ref h), (1, .int p1)]) hx hb dX12_mixed_57 rfl hl (by decide) rfl (fun ls hl => ?_)
    exact b58 p1 (-(v6 - v13)) (-(((v22 - v29) - v37) + v45)) _ _ _ hf hP hD hS (lv_sub hl [3, 1, 0] rfl)
theorem dX12_paid_0 : decode cX12_paid 0 = .ok (.iload_n 1, 1) := by decide +kernel
theorem dX12_paid_1 : decode cX12_paid 1 = .ok (.iconst (-1), 1) := by decide +kernel
theorem dX12_paid_2 : decode cX12_paid 2 = .ok (.if_icmp .ne 13, 3) := by decide +kernel
theorem dX12_paid_5 : decode cX12_paid 5 = .ok (.aload_n 0, 1) := by decide +kernel
theorem dX12_paid_6 : decode cX12_paid 6 = .ok (.getfield 7, 3) := by decide +kernel
theorem dX12_paid_9 : decode cX12_paid 9 = .ok (.bipush 8, 2) := by decide +kernel
theorem dX12_paid_11 : decode cX12_paid 11 = .ok (.iconst 0, 1) := by decide +kernel
theorem dX12_paid_12 : decode cX12_paid 12 = .ok (.iastore, 1) := by decide +kernel
theorem dX12_paid_13 : decode cX12_paid 13 = .ok (.iconst 0, 1) := by decide +kernel
theorem dX12_paid_14 : decode cX12_paid 14 = .ok (.ireturn, 1) := by decide +kernel
theorem dX12_paid_15 : decode cX12_paid 15 = .ok (.aload_n 0, 1) := by decide +kernel
theorem dX12_paid_16 : decode cX12_paid 16 = .ok (.iload_n 1, 1) := by decide +kernel
theorem dX12_paid_17 : decode cX12_paid 17 = .ok (.invokevirtual 67, 3) := by decide +kernel
theorem dX12_paid_20 : decode cX12_paid 20 = .ok (.ifCond .eq 26, 3) := by decide +kernel
theorem dX12_paid_23 : decode cX12_paid 23 = .ok (.iload_n 2, 1) := by decide +kernel
theorem dX12_paid_24 : decode cX12_paid 24 = .ok (.iconst 0, 1) := by decide +kernel
theorem dX12_paid_25 : decode cX12_paid 25 = .ok (.sipush 9999, 3) := by decide +kernel
theorem dX12_paid_28 : decode cX12_paid 28 = .ok (.invokestatic 63, 3) := by decide +kernel
theorem dX12_paid_31 : decode cX12_paid 31 = .ok (.ifCond .eq 15, 3) := by decide +kernel
theorem dX12_paid_34 : decode cX12_paid 34 = .ok (.aload_n 0, 1) := by decide +kernel
theorem dX12_paid_35 : decode cX12_paid 35 = .ok (.getfield 7, 3) := by decide +kernel
theorem dX12_paid_38 : decode cX12_paid 38 = .ok (.bipush 8, 2) := by decide +kernel
theorem dX12_paid_40 : decode cX12_paid 40 = .ok (.iaload, 1) := by decide +kernel
theorem dX12_paid_41 : decode cX12_paid 41 = .ok (.bipush 8, 2) := by decide +kernel
theorem dX12_paid_43 : decode cX12_paid 43 = .ok (.if_icmp .ne 6, 3) := by decide +kernel
theorem dX12_paid_46 : decode cX12_paid 46 = .ok (.bipush (-2), 2) := by decide +kernel
theorem dX12_paid_48 : decode cX12_paid 48 = .ok (.ireturn, 1) := by decide +kernel
theorem dX12_paid_49 : decode cX12_paid 49 = .ok (.aload_n 0, 1) := by decide +kernel
theorem dX12_paid_50 : decode cX12_paid 50 = .ok (.getfield 7, 3) := by decide +kernel
theorem dX12_paid_53 : decode cX12_paid 53 = .ok (.bipush 125, 2) := by decide +kernel
theorem dX12_paid_55 : decode cX12_paid 55 = .ok (.iconst 2, 1) := by decide +kernel
theorem dX12_paid_56 : decode cX12_paid 56 = .ok (.aload_n 0, 1) := by decide +kernel
theorem dX12_paid_57 : decode cX12_paid 57 = .ok (.getfield 7, 3) := by decide +kernel
theorem dX12_paid_60 : decode cX12_paid 60 = .ok (.bipush 8, 2) := by decide +kernel
theorem dX12_paid_62 : decode cX12_paid 62 = .ok (.iaload, 1) := by decide +kernel
theorem dX12_paid_63 : decode cX12_paid 63 = .ok (.imul, 1) := by decide +kernel
theorem dX12_paid_64 : decode cX12_paid 64 = .ok (.iadd, 1) := by decide +kernel
theorem dX12_paid_65 : decode cX12_paid 65 = .ok (.iload_n 1, 1) := by decide +kernel
theorem dX12_paid_66 : decode cX12_paid 66 = .ok (.iastore, 1) := by decide +kernel
theorem dX12_paid_67 : decode cX12_paid 67 = .ok (.aload_n 0, 1) := by decide +kernel
theorem dX12_paid_68 : decode cX12_paid 68 = .ok (.getfield 7, 3) := by decide +kernel
theorem dX12_paid_71 : decode cX12_paid 71 = .ok (.bipush 125, 2) := by decide +kernel
theorem dX12_paid_73 : decode cX12_paid 73 = .ok (.iconst 2, 1) := by decide +kernel
theorem dX12_paid_74 : decode cX12_paid 74 = .ok (.aload_n 0, 1) := by decide +kernel
theorem dX12_paid_75 : decode cX12_paid 75 = .ok (.getfield 7, 3) := by decide +kernel
theorem dX12_paid_78 : decode cX12_paid 78 = .ok (.bipush 8, 2) := by decide +kernel
theorem dX12_paid_80 : decode cX12_paid 80 = .ok (.iaload, 1) := by decide +kernel
theorem dX12_paid_81 : decode cX12_paid 81 = .ok (.imul, 1) := by decide +kernel
theorem dX12_paid_82 : decode cX12_paid 82 = .ok (.iadd, 1) := by decide +kernel
theorem dX12_paid_83 : decode cX12_paid 83 = .ok (.iconst 1, 1) := by decide +kernel
theorem dX12_paid_84 : decode cX12_paid 84 = .ok (.iadd, 1) := by decide +kernel
theorem dX12_paid_85 : decode cX12_paid 85 = .ok (.iload_n 2, 1) := by decide +kernel
theorem dX12_paid_86 : decode cX12_paid 86 = .ok (.iastore, 1) := by decide +kernel
theorem dX12_paid_87 : decode cX12_paid 87 = .ok (.aload_n 0, 1) := by decide +kernel
theorem dX12_paid_88 : decode cX12_paid 88 = .ok (.getfield 7, 3) := by decide +kernel
theorem dX12_paid_91 : decode cX12_paid 91 = .ok (.bipush 8, 2) := by decide +kernel
theorem dX12_paid_93 : decode cX12_paid 93 = .ok (.dup2, 1) := by decide +kernel
theorem dX12_paid_94 : decode cX12_paid 94 = .ok (.iaload, 1) := by decide +kernel
theorem dX12_paid_95 : decode cX12_paid 95 = .ok (.iconst 1, 1) := by decide +kernel
theorem dX12_paid_96 : decode cX12_paid 96 = .ok (.iadd, 1) := by decide +kernel
theorem dX12_paid_97 : decode cX12_paid 97 = .ok (.iastore, 1) := by decide +kernel
theorem dX12_paid_98 : decode cX12_paid 98 = .ok (.aload_n 0, 1) := by decide +kernel
theorem dX12_paid_99 : decode cX12_paid 99 = .ok (.getfield 7, 3) := by decide +kernel
theorem dX12_paid_102 : decode cX12_paid 102 = .ok (.bipush 8, 2) := by decide +kernel
theorem dX12_paid_104 : decode cX12_paid 104 = .ok (.iaload, 1) := by decide +kernel
theorem dX12_paid_105 : decode cX12_paid 105 = .ok (.ireturn, 1) := by decide +kernel
def f_X12_paid (N : Nat) (v_a : Nat → Int32) (p1 : Int32) (p2 : Int32) : Option (Int32 × (Nat → Int32)) := if p1 = (-1 : Int32) then (sA v_a 8762 (8 : Int32) (0 : Int32) fun v_a_12 => some ((0 : Int32), v_a_12)) else (ob1 (f_X12_isPerson N v_a p1) fun r17 => if r17 = 0 then (some ((-2 : Int32), v_a)) else (ob1 (f_X12_isIn N p2 (0 : Int32) (9999 : Int32)) fun r28 => if r28 = 0 then (some ((-2 : Int32), v_a)) else (gA v_a 8762 (8 : Int32) fun v40 => if v40 = (8 : Int32) then (some ((-2 : Int32), v_a)) else (gA v_a 8762 (8 : Int32) fun v62 => sA v_a 8762 ((125 : Int32) + ((2 : Int32) * v62)) p1 fun v_a_66 => gA v_a_66 8762 (8 : Int32) fun v80 => sA v_a_66 8762 (((125 : Int32) + ((2 : Int32) * v80)) + (1 : Int32)) p2 fun v_a_86 => gA v_a_86 8762 (8 : Int32) fun v94 => sA v_a_86 8762 (8 : Int32) (v94 + (1 : Int32)) fun v_a_97 => gA v_a_97 8762 (8 : Int32) fun v104 => some (v104, v_a_97)))))
set_option maxHeartbeats 4000000 in
set_option maxRecDepth 100000 in
theorem k_X12_paid (l : Launch) (N : Nat) (D : va_G) (cI cJ cZ cB cT : ClassId) (h : Nat) (q : Nat → Nat) (v_a : Nat → Int32) (v_image : Nat → Int32) (v_texts : Nat → Int32) (v_tape : Nat → Int32) (v_taped : Int32) (v_fault : Int32) (v_faultPlace : Int32) (v_at : Int32) (v_place : Int32) (v_token : Int32) (v_number : Int32) (v_word : Int64) (v_text0 : Int32) (v_written : Int32) (v_sort0 : Int32) (v_pile : Nat → Int32) (v_piled : Int32) (v_opens : Int32) (v_isWhole : Int32) (v_once : Int32) (v_named : Nat → Int32) (v_values : Nat → Int64) (v_truth : Nat → Int32) (v_isWritten : Int32) (v_died : Int32) (v_aside : Nat → Int32) (v_likely : Nat → Int32) (v_safe : Nat → Int32) (v_headOf : Nat → Int32) (p1 : Int32) (p2 : Int32) (o_r : Int32) (o_v_a : Nat → Int32) (hf : f_X12_paid N v_a p1 p2 = some (o_r, o_v_a)) : ∀ sz, Met l yX12_paid (mw yX12_paid cX12_paid 3 (some .int)) ({ frames := 2, cells := 0, slots := 0, locals := 43 } : Room) (mPre D (mT cI cJ cZ cB cT) (WM h q cI cJ cZ v_a v_image v_texts v_tape v_taped v_fault v_faultPlace v_at v_place v_token v_number v_word v_text0 v_written v_sort0 v_pile v_piled v_opens v_isWhole v_once v_named v_values v_truth v_isWritten v_died v_aside v_likely v_safe v_headOf) sz [.ref h, .int p1, .int p2]) ((mQi D (WM h q cI cJ cZ o_v_a v_image v_texts v_tape v_taped v_fault v_faultPlace v_at v_place v_token v_number v_word v_text0 v_written v_sort0 v_pile v_piled v_opens v_isWhole v_once v_named v_values v_truth v_isWritten v_died v_aside v_likely v_safe v_headOf) o_r True) (va_A (WM h q cI cJ cZ v_a v_image v_texts v_tape v_taped v_fault v_faultPlace v_at v_place v_token v_number v_word v_text0 v_written v_sort0 v_pile v_piled v_opens v_isWhole v_once v_named v_values v_truth v_isWritten v_died v_aside v_likely v_safe v_headOf) sz)) 0 0 (va_A (WM h q cI cJ cZ v_a v_image v_texts v_tape v_taped v_fault v_faultPlace v_at v_place v_token v_number v_word v_text0 v_written v_sort0 v_pile v_piled v_opens v_isWhole v_once v_named v_values v_truth v_isWritten v_died v_aside v_likely v_safe v_headOf) sz) := by
  refine mMet (Qc := (mQi D (WM h q cI cJ cZ o_v_a v_image v_texts v_tape v_taped v_fault v_faultPlace v_at v_place v_token v_number v_word v_text0 v_written v_sort0 v_pile v_piled v_opens v_isWhole v_once v_named v_values v_truth v_isWritten v_died v_aside v_likely v_safe v_headOf) o_r True)) (by decide) (Nat.le_of_ble_eq_true rfl) (fun p e s m below meth c A ls hx hb hr hml hts hown hlocks hK hA hP hD hl => ?_)
  have hown : s.vm.findClass RX12 = some m.cls := hown
  have hl : lv_has ls 3 [(0, .ref h), (1, .int p1), (2, .int p2)] := hl
  have hS : va_S A s.heap s.heap [] := va_S.rf
  unfold f_X12_paid at hf
  refine lv_iload_n hx hb dX12_paid_0 rfl (lv_at hl 1 rfl) ?_
  refine lv_iconst (v := (-1 : Int32)) hx hb dX12_paid_1 (by decide) ?_
  refine xicmp_ne hx hb 15 dX12_paid_2 (by decide) hf (fun hf => ?_) (fun hf => ?_)
  · refine lv_aload_n hx hb dX12_paid_5 rfl (lv_at hl 0 rfl) ?_
    refine gfX12_7 hx hb hts hown hK hP 0 rfl rfl dX12_paid_6 ?_
    refine lv_bipush (v := (8 : Int32)) hx hb dX12_paid_9 (by decide) ?_
    refine lv_iconst (v := (0 : Int32)) hx hb dX12_paid_11 (by decide) ?_
    refine xiast hx hb hK hP hD hS 1 0 rfl rfl dX12_paid_12 hf (fun v_a_12 hf H locs hP hD hS => ?_)
    have hP : va_P D vwCl (WM h q cI cJ cZ v_a_12 v_image v_texts v_tape v_taped v_fault v_faultPlace v_at v_place v_token v_number v_word v_text0 v_written v_sort0 v_pile v_piled v_opens v_isWhole v_once v_named v_values v_truth v_isWritten v_died v_aside v_likely v_safe v_headOf) H := hP
    have hD : va_D A (WM h q cI cJ cZ v_a_12 v_image v_texts v_tape v_taped v_fault v_faultPlace v_at v_place v_token v_number v_word v_text0 v_written v_sort0 v_pile v_piled v_opens v_isWhole v_once v_named v_values v_truth v_isWritten v_died v_aside v_likely v_safe v_headOf) := hD
    refine lv_iconst (v := (0 : Int32)) hx hb dX12_paid_13 (by decide) ?_
    cases hf
    exact mret_i hx hb hr hlocks hP hD hS dX12_paid_14 rfl trivial
  · refine lv_aload_n hx hb dX12_paid_15 rfl (lv_at hl 0 rfl) ?_
    refine lv_iload_n hx hb dX12_paid_16 rfl (lv_at hl 1 rfl) ?_
    obtain ⟨r17, hg17, hf⟩ := ob1_some hf
    refine mcV1_i (As := [.int p1]) (rest := []) hx hb hml hown hts hK hP hD hS hA (k_X12_isPerson l N D cI cJ cZ cB cT h q v_a v_image v_texts v_tape v_taped v_fault v_faultPlace v_at v_place v_token v_number v_word v_text0 v_written v_sort0 v_pile v_piled v_opens v_isWhole v_once v_named v_values v_truth v_isWritten v_died v_aside v_likely v_safe v_headOf p1 r17 hg17) (kwX12_67 hts rfl rfl ⟨Nat.le_of_ble_eq_true rfl, Nat.le_of_ble_eq_true rfl⟩) 0 rfl rfl rfl rfl hl.1 rfl (Nat.le_of_ble_eq_true rfl) dX12_paid_17 ⟨Nat.zero_le _, Nat.zero_le _⟩ (fun hB17 H locs hP hD hS => ?_)
    have hP : va_P D vwCl (WM h q cI cJ cZ v_a v_image v_texts v_tape v_taped v_fault v_faultPlace v_at v_place v_token v_number v_word v_text0 v_written v_sort0 v_pile v_piled v_opens v_isWhole v_once v_named v_values v_truth v_isWritten v_died v_aside v_likely v_safe v_headOf) H := hP
    have hD : va_D A (WM h q cI cJ cZ v_a v_image v_texts v_tape v_taped v_fault v_faultPlace v_at v_place v_token v_number v_word v_text0 v_written v_sort0 v_pile v_piled v_opens v_isWhole v_once v_named v_values v_truth v_isWritten v_died v_aside v_likely v_safe v_headOf) := hD
    refine xif_eq hx hb 46 dX12_paid_20 (by decide) hf (fun hf => ?_) (fun hf => ?_)
    · refine lv_bipush (v := (-2 : Int32)) hx hb dX12_paid_46 (by decide) ?_
      cases hf
      exact mret_i hx hb hr hlocks hP hD hS dX12_paid_48 rfl trivial
    · refine lv_iload_n hx hb dX12_paid_23 rfl (lv_at hl 2 rfl) ?_
      refine lv_iconst (v := (0 : Int32)) hx hb dX12_paid_24 (by decide) ?_
      refine lv_sipush (v := (9999 : Int32)) hx hb dX12_paid_25 (by decide) ?_
      obtain ⟨r28, hg28, hf⟩ := ob1_some hf
      refine mcS0_i (As := [.int p2, .int (0 : Int32), .int (9999 : Int32)]) (rest := []) hx hb hml hown hts hK hP hD hS hA (k_X12_isIn l N D cI cJ cZ cB cT p2 (0 : Int32) (9999 : Int32) r28 hg28) (kwX12_63 hts rfl rfl ⟨Nat.le_of_ble_eq_true rfl, Nat.le_of_ble_eq_true rfl⟩) rfl hl.1 rfl (Nat.le_of_ble_eq_true rfl) dX12_paid_28 ⟨Nat.zero_le _, Nat.zero_le _⟩ (fun hB28 H locs hP hD hS => ?_)
      refine xif_eq hx hb 46 dX12_paid_31 (by decide) hf (fun hf => ?_) (fun hf => ?_)
      · refine lv_bipush (v := (-2 : Int32)) hx hb dX12_paid_46 (by decide) ?_
        cases hf
        exact mret_i hx hb hr hlocks hP hD hS dX12_paid_48 rfl trivial
      · refine lv_aload_n hx hb dX12_paid_34 rfl (lv_at hl 0 rfl) ?_
        refine gfX12_7 hx hb hts hown hK hP 0 rfl rfl dX12_paid_35 ?_
        refine lv_bipush (v := (8 : Int32)) hx hb dX12_paid_38 (by decide) ?_
        refine xiald hx hb hK hP 1 0 rfl rfl dX12_paid_40 hf (fun v40 hf => ?_)
        refine lv_bipush (v := (8 : Int32)) hx hb dX12_paid_41 (by decide) ?_
        refine xicmp_ne hx hb 49 dX12_paid_43 (by decide) hf (fun hf => ?_) (fun hf => ?_)
        · refine lv_bipush (v := (-2 : Int32)) hx hb dX12_paid_46 (by decide) ?_
          cases hf
          exact mret_i hx hb hr hlocks hP hD hS dX12_paid_48 rfl trivial
        · refine lv_aload_n hx hb dX12_paid_49 rfl (lv_at hl 0 rfl) ?_
          refine gfX12_7 hx hb hts hown hK hP 0 rfl rfl dX12_paid_50 ?_
          refine lv_bipush (v := (125 : Int32)) hx hb dX12_paid_53 (by decide) ?_
          refine lv_iconst (v := (2 : Int32)) hx hb dX12_paid_55 (by decide) ?_
          refine lv_aload_n hx hb dX12_paid_56 rfl (lv_at hl 0 rfl) ?_
          refine gfX12_7 hx hb hts hown hK hP 0 rfl rfl dX12_paid_57 ?_
          refine lv_bipush (v := (8 : Int32)) hx hb dX12_paid_60 (by decide) ?_
          refine xiald hx hb hK hP 1 0 rfl rfl dX12_paid_62 hf (fun v62 hf => ?_)
          refine lv_imul hx hb dX12_paid_63 ?_
          refine lv_iadd hx hb dX12_paid_64 ?_
          refine lv_iload_n hx hb dX12_paid_65 rfl (lv_at hl 1 rfl) ?_
          refine xiast hx hb hK hP hD hS 1 0 rfl rfl dX12_paid_66 hf (fun v_a_66 hf H locs hP hD hS => ?_)
          have hP : va_P D vwCl (WM h q cI cJ cZ v_a_66 v_image v_texts v_tape v_taped v_fault v_faultPlace v_at v_place v_token v_number v_word v_text0 v_written v_sort0 v_pile v_piled v_opens v_isWhole v_once v_named v_values v_truth v_isWritten v_died v_aside v_likely v_safe v_headOf) H := hP
          have hD : va_D A (WM h q cI cJ cZ v_a_66 v_image v_texts v_tape v_taped v_fault v_faultPlace v_at v_place v_token v_number v_word v_text0 v_written v_sort0 v_pile v_piled v_opens v_isWhole v_once v_named v_values v_truth v_isWritten v_died v_aside v_likely v_safe v_headOf) := hD
          refine lv_aload_n hx hb dX12_paid_67 rfl (lv_at hl 0 rfl) ?_
          refine gfX12_7 hx hb hts hown hK hP 0 rfl rfl dX12_paid_68 ?_
          refine lv_bipush (v := (125 : Int32)) hx hb dX12_paid_71 (by decide) ?_
          refine lv_iconst (v := (2 : Int32)) hx hb dX12_paid_73 (by decide) ?_
          refine lv_aload_n hx hb dX12_paid_74 rfl (lv_at hl 0 rfl) ?_
          refine gfX12_7 hx hb hts hown hK hP 0 rfl rfl dX12_paid_75 ?_
          refine lv_bipush (v := (8 : Int32)) hx hb dX12_paid_78 (by decide) ?_
          refine xiald hx hb hK hP 1 0 rfl rfl dX12_paid_80 hf (fun v80 hf => ?_)
          refine lv_imul hx hb dX12_paid_81 ?_
          refine lv_iadd hx hb dX12_paid_82 ?_
          refine lv_iconst (v := (1 : Int32)) hx hb dX12_paid_83 (by decide) ?_
          refine lv_iadd hx hb dX12_paid_84 ?_
          refine lv_iload_n hx hb dX12_paid_85 rfl (lv_at hl 2 rfl) ?_
          refine xiast hx hb hK hP hD hS 1 0 rfl rfl dX12_paid_86 hf (fun v_a_86 hf H locs hP hD hS => ?_)
          have hP : va_P D vwCl (WM h q cI cJ cZ v_a_86 v_image v_texts v_tape v_taped v_fault v_faultPlace v_at v_place v_token v_number v_word v_text0 v_written v_sort0 v_pile v_piled v_opens v_isWhole v_once v_named v_values v_truth v_isWritten v_died v_aside v_likely v_safe v_headOf) H := hP
          have hD : va_D A (WM h q cI cJ cZ v_a_86 v_image v_texts v_tape v_taped v_fault v_faultPlace v_at v_place v_token v_number v_word v_text0 v_written v_sort0 v_pile v_piled v_opens v_isWhole v_once v_named v_values v_truth v_isWritten v_died v_aside v_likely v_safe v_headOf) := hD
          refine lv_aload_n hx hb dX12_paid_87 rfl (lv_at hl 0 rfl) ?_
          refine gfX12_7 hx hb hts hown hK hP 0 rfl rfl dX12_paid_88 ?_
          refine lv_bipush (v := (8 : Int32)) hx hb dX12_paid_91 (by decide) ?_
          refine lv_dup2_11 hx hb dX12_paid_93 rfl rfl ?_
          refine xiald hx hb hK hP 1 0 rfl rfl dX12_paid_94 hf (fun v94 hf => ?_)
          refine lv_iconst (v := (1 : Int32)) hx hb dX12_paid_95 (by decide) ?_
          refine lv_iadd hx hb dX12_paid_96 ?_
          refine xiast hx hb hK hP hD hS 1 0 rfl rfl dX12_paid_97 hf (fun v_a_97 hf H locs hP hD hS => ?_)
          have hP : va_P D vwCl (WM h q cI cJ cZ v_a_97 v_image v_texts v_tape v_taped v_fault v_faultPlace v_at v_place v_token v_number v_word v_text0 v_written v_sort0 v_pile v_piled v_opens v_isWhole v_once v_named v_values v_truth v_isWritten v_died v_aside v_likely v_safe v_headOf) H := hP
          have hD : va_D A (WM h q cI cJ cZ v_a_97 v_image v_texts v_tape v_taped v_fault v_faultPlace v_at v_place v_token v_number v_word v_text0 v_written v_sort0 v_pile v_piled v_opens v_isWhole v_once v_named v_values v_truth v_isWritten v_died v_aside v_likely v_safe v_headOf) := hD
          refine lv_aload_n hx hb dX12_paid_98 rfl (lv_at hl 0 rfl) ?_
          refine gfX12_7 hx hb hts hown hK hP 0 rfl rfl dX12_paid_99 ?_
          refine lv_bipush (v := (8 : Int32)) hx hb dX12_paid_102 (by decide) ?_
          refine xiald hx hb hK hP 1 0 rfl rfl dX12_paid_104 hf (fun v104 hf => ?_)
          cases hf
          exact mret_i hx hb hr hlocks hP hD hS dX12_paid_105 rfl trivial
theorem dX12_whose_0 : decode cX12_whose 0 = .ok (.iconst 0, 1) := by decide +kernel
theorem dX12_whose_1 : decode cX12_whose 1 = .ok (.istore_n 1, 1) := by decide +kernel
theorem dX12_whose_2 : decode cX12_whose 2 = .ok (.iconst 0, 1) := by decide +kernel
theorem dX12_whose_3 : decode cX12_whose 3 = .ok (.istore_n 2, 1) := by decide +kernel
theorem dX12_whose_4 : decode cX12_whose 4 = .ok (.iload_n 2, 1) := by decide +kernel
theorem dX12_whose_5 : decode cX12_whose 5 = .ok (.aload_n 0, 1) := by decide +kernel
theorem dX12_whose_6 : decode cX12_whose 6 = .ok (.getfield 7, 3) := by decide +kernel
theorem dX12_whose_9 : decode cX12_whose 9 = .ok (.iconst 2, 1) := by decide +kernel
theorem dX12_whose_10 : decode cX12_whose 10 = .ok (.iaload, 1) := by decide +kernel
theorem dX12_whose_11 : decode cX12_whose 11 = .ok (.if_icmp .ge 90, 3) := by decide +kernel
theorem dX12_whose_14 : decode cX12_whose 14 = .ok (.iconst 1, 1) := by decide +kernel
theorem dX12_whose_15 : decode cX12_whose 15 = .ok (.istore_n 3, 1) := by decide +kernel
theorem dX12_whose_16 : decode cX12_whose 16 = .ok (.iconst 0, 1) := by decide +kernel
theorem dX12_whose_17 : decode cX12_whose 17 = .ok (.istore 4, 2) := by decide +kernel
theorem dX12_whose_19 : decode cX12_whose 19 = .ok (.iload 4, 2) := by decide +kernel
theorem dX12_whose_21 : decode cX12_whose 21 = .ok (.aload_n 0, 1) := by decide +kernel
theorem dX12_whose_22 : decode cX12_whose 22 = .ok (.getfield 7, 3) := by decide +kernel
theorem dX12_whose_25 : decode cX12_whose 25 = .ok (.bipush 8, 2) := by decide +kernel
theorem dX12_whose_27 : decode cX12_whose 27 = .ok (.iaload, 1) := by decide +kernel
theorem dX12_whose_28 : decode cX12_whose 28 = .ok (.if_icmp .ge 53, 3) := by decide +kernel
theorem dX12_whose_31 : decode cX12_whose 31 = .ok (.iload_n 3, 1) := by decide +kernel
theorem dX12_whose_32 : decode cX12_whose 32 = .ok (.ifCond .eq 41, 3) := by decide +kernel
theorem dX12_whose_35 : decode cX12_whose 35 = .ok (.aload_n 0, 1) := by decide +kernel
theorem dX12_whose_36 : decode cX12_whose 36 = .ok (.iload_n 2, 1) := by decide +kernel
theorem dX12_whose_37 : decode cX12_whose 37 = .ok (.aload_n 0, 1) := by decide +kernel
theorem dX12_whose_38 : decode cX12_whose 38 = .ok (.getfield 7, 3) := by decide +kernel
theorem dX12_whose_41 : decode cX12_whose 41 = .ok (.bipush 125, 2) := by decide +kernel
theorem dX12_whose_43 : decode cX12_whose 43 = .ok (.iconst 2, 1) := by decide +kernel
theorem dX12_whose_44 : decode cX12_whose 44 = .ok (.iload 4, 2) := by decide +kernel
theorem dX12_whose_46 : decode cX12_whose 46 = .ok (.imul, 1) := by decide +kernel
theorem dX12_whose_47 : decode cX12_whose 47 = .ok (.iadd, 1) := by decide +kernel
theorem dX12_whose_48 : decode cX12_whose 48 = .ok (.iaload, 1) := by decide +kernel
theorem dX12_whose_49 : decode cX12_whose 49 = .ok (.invokevirtual 373, 3) := by decide +kernel
theorem dX12_whose_52 : decode cX12_whose 52 = .ok (.aload_n 0, 1) := by decide +kernel
theorem dX12_whose_53 : decode cX12_whose 53 = .ok (.getfield 7, 3) := by decide +kernel
theorem dX12_whose_56 : decode cX12_whose 56 = .ok (.bipush 125, 2) := by decide +kernel
theorem dX12_whose_58 : decode cX12_whose 58 = .ok (.iconst 2, 1) := by decide +kernel
theorem dX12_whose_59 : decode cX12_whose 59 = .ok (.iload 4, 2) := by decide +kernel
theorem dX12_whose_61 : decode cX12_whose 61 = .ok (.imul, 1) := by decide +kernel
theorem dX12_whose_62 : decode cX12_whose 62 = .ok (.iadd, 1) := by decide +kernel
theorem dX12_whose_63 : decode cX12_whose 63 = .ok (.iconst 1, 1) := by decide +kernel
theorem dX12_whose_64 : decode cX12_whose 64 = .ok (.iadd, 1) := by decide +kernel
theorem dX12_whose_65 : decode cX12_whose 65 = .ok (.iaload, 1) := by decide +kernel
theorem dX12_whose_66 : decode cX12_whose 66 = .ok (.if_icmp .ne 7, 3) := by decide +kernel
theorem dX12_whose_69 : decode cX12_whose 69 = .ok (.iconst 1, 1) := by decide +kernel
theorem dX12_whose_70 : decode cX12_whose 70 = .ok (.goto 4, 3) := by decide +kernel
theorem dX12_whose_73 : decode cX12_whose 73 = .ok (.iconst 0, 1) := by decide +kernel
theorem dX12_whose_74 : decode cX12_whose 74 = .ok (.istore_n 3, 1) := by decide +kernel
theorem dX12_whose_75 : decode cX12_whose 75 = .ok (.iinc 4 1, 3) := by decide +kernel
theorem dX12_whose_78 : decode cX12_whose 78 = .ok (.goto (-59), 3) := by decide +kernel
theorem dX12_whose_81 : decode cX12_whose 81 = .ok (.iload_n 1, 1) := by decide +kernel
theorem dX12_whose_82 : decode cX12_whose 82 = .ok (.iload_n 3, 1) := by decide +kernel
theorem dX12_whose_83 : decode cX12_whose 83 = .ok (.ifCond .eq 9, 3) := by decide +kernel
theorem dX12_whose_86 : decode cX12_whose 86 = .ok (.iconst 1, 1) := by decide +kernel
theorem dX12_whose_87 : decode cX12_whose 87 = .ok (.iload_n 2, 1) := by decide +kernel
theorem dX12_whose_88 : decode cX12_whose 88 = .ok (.ishl, 1) := by decide +kernel
theorem dX12_whose_89 : decode cX12_whose 89 = .ok (.goto 4, 3) := by decide +kernel
theorem dX12_whose_92 : decode cX12_whose 92 = .ok (.iconst 0, 1) := by decide +kernel
theorem dX12_whose_93 : decode cX12_whose 93 = .ok (.ior, 1) := by decide +kernel
theorem dX12_whose_94 : decode cX12_whose 94 = .ok (.istore_n 1, 1) := by decide +kernel
theorem dX12_whose_95 : decode cX12_whose 95 = .ok (.iinc 2 1, 3) := by decide +kernel
theorem dX12_whose_98 : decode cX12_whose 98 = .ok (.goto (-94), 3) := by decide +kernel
theorem dX12_whose_101 : decode cX12_whose 101 = .ok (.iload_n 1, 1) := by decide +kernel
theorem dX12_whose_102 : decode cX12_whose 102 = .ok (.ireturn, 1) := by decide +kernel
def f_X12_whose_93 (N : Nat) (k_4 : (Nat → Int32) → (Nat → Int32) → (Nat → Int32) → (Nat → Int64) → (Nat → Int32) → Int32 → Int32 → Option (Int32 × (Nat → Int32) × (Nat → Int64) × (Nat → Int32))) (v_a : Nat → Int32) (v_texts : Nat → Int32) (v_named : Nat → Int32) (v_values : Nat → Int64) (v_truth : Nat → Int32) (x2 : Int32) (s0 : Int32) (s1 : Int32) : Option (Int32 × (Nat → Int32) × (Nat → Int64) × (Nat → Int32)) := k_4 v_a v_texts v_named v_values v_truth (s0 ||| s1) (x2 + (1 : Int32))
def f_X12_whose_74 (N : Nat) (k_19 : (Nat → Int32) → (Nat → Int32) → (Nat → Int32) → (Nat → Int64) → (Nat → Int32) → Int32 → Int32 → Int32 → Int32 → Option (Int32 × (Nat → Int32) × (Nat → Int64) × (Nat → Int32))) (k_4 : (Nat → Int32) → (Nat → Int32) → (Nat → Int32) → (Nat → Int64) → (Nat → Int32) → Int32 → Int32 → Option (Int32 × (Nat → Int32) × (Nat → Int64) × (Nat → Int32))) (v_a : Nat → Int32) (v_texts : Nat → Int32) (v_named : Nat → Int32) (v_values : Nat → Int64) (v_truth : Nat → Int32) (x1 : Int32) (x2 : Int32) (x4 : Int32) (s0 : Int32) : Option (Int32 × (Nat → Int32) × (Nat → Int64) × (Nat → Int32)) := k_19 v_a v_texts v_named v_values v_truth x1 x2 s0 (x4 + (1 : Int32))
def f_X12_whose_73 (N : Nat) (k_19 : (Nat → Int32) → (Nat → Int32) → (Nat → Int32) → (Nat → Int64) → (Nat → Int32) → Int32 → Int32 → Int32 → Int32 → Option (Int32 × (Nat → Int32) × (Nat → Int64) × (Nat → Int32))) (k_4 : (Nat → Int32) → (Nat → Int32) → (Nat → Int32) → (Nat → Int64) → (Nat → Int32) → Int32 → Int32 → Option (Int32 × (Nat → Int32) × (Nat → Int64) × (Nat → Int32))) (v_a : Nat → Int32) (v_texts : Nat → Int32) (v_named : Nat → Int32) (v_values : Nat → Int64) (v_truth : Nat → Int32) (x1 : Int32) (x2 : Int32) (x4 : Int32) : Option (Int32 × (Nat → Int32) × (Nat → Int64) × (Nat → Int32)) := f_X12_whose_74 N k_19 k_4 v_a v_texts v_named v_values v_truth x1 x2 x4 (0 : Int32)
def f_X12_whose_19 (N : Nat) (k_4 : (Nat → Int32) → (Nat → Int32) → (Nat → Int32) → (Nat → Int64) → (Nat → Int32) → Int32 → Int32 → Option (Int32 × (Nat → Int32) × (Nat → Int64) × (Nat → Int32))) : Nat → (Nat → Int32) → (Nat → Int32) → (Nat → Int32) → (Nat → Int64) → (Nat → Int32) → Int32 → Int32 → Int32 → Int32 → Option (Int32 × (Nat → Int32) × (Nat → Int64) × (Nat → Int32))
  | 0, _, _, _, _, _, _, _, _, _ => none
  | n + 1, v_a, v_texts, v_named, v_values, v_truth, x1, x2, x3, x4 => gA v_a 8762 (8 : Int32) fun v27 => if v27 ≤ x4 then (if x3 = 0 then (f_X12_whose_93 N k_4 v_a v_texts v_named v_values v_truth x2 x1 (0 : Int32)) else (f_X12_whose_93 N k_4 v_a v_texts v_named v_values v_truth x2 x1 ((1 : Int32) <<< (x2 &&& 31)))) else (if x3 = 0 then (f_X12_whose_73 N (f_X12_whose_19 N k_4 n) k_4 v_a v_texts v_named v_values v_truth x1 x2 x4) else (gA v_a 8762 ((125 : Int32) + ((2 : Int32) * x4)) fun v48 => ob4 (f_X12_priceOf N v_a v_texts v_named v_values v_truth x2 v48) fun r49 v_named_49 v_values_49 v_truth_49 => gA v_a 8762 (((125 : Int32) + ((2 : Int32) * x4)) + (1 : Int32)) fun v65 => if r49 = v65 then (f_X12_whose_74 N (f_X12_whose_19 N k_4 n) k_4 v_a v_texts v_named_49 v_values_49 v_truth_49 x1 x2 x4 (1 : Int32)) else (f_X12_whose_73 N (f_X12_whose_19 N k_4 n) k_4 v_a v_texts v_named_49 v_values_49 v_truth_49 x1 x2 x4)))
def f_X12_whose_4 (N : Nat) : Nat → (Nat → Int32) → (Nat → Int32) → (Nat → Int32) → (Nat → Int64) → (Nat → Int32) → Int32 → Int32 → Option (Int32 × (Nat → Int32) × (Nat → Int64) × (Nat → Int32))
  | 0, _, _, _, _, _, _, _ => none
  | n + 1, v_a, v_texts, v_named, v_values, v_truth, x1, x2 => gA v_a 8762 (2 : Int32) fun v10 => if v10 ≤ x2 then (some (x1, v_named, v_values, v_truth)) else (f_X12_whose_19 N (f_X12_whose_4 N n) N v_a v_texts v_named v_values v_truth x1 x2 (1 : Int32) (0 : Int32))
def f_X12_whose (N : Nat) (v_a : Nat → Int32) (v_texts : Nat → Int32) (v_named : Nat → Int32) (v_values : Nat → Int64) (v_truth : Nat → Int32) : Option (Int32 × (Nat → Int32) × (Nat → Int64) × (Nat → Int32)) := f_X12_whose_4 N N v_a v_texts v_named v_values v_truth (0 : Int32) (0 : Int32)
set_option maxHeartbeats 4000000 in
set_option maxRecDepth 100000 in
theorem k_X12_whose (l : Launch) (N : Nat) (D : va_G) (cI cJ cZ cB cT : ClassId) (h : Nat) (q : Nat → Nat) (v_a : Nat → Int32) (v_image : Nat → Int32) (v_texts : Nat → Int32) (v_tape : Nat → Int32) (v_taped : Int32) (v_fault : Int32) (v_faultPlace : Int32) (v_at : Int32) (v_place : Int32) (v_token : Int32) (v_number : Int32) (v_word : Int64) (v_text0 : Int32) (v_written : Int32) (v_sort0 : Int32) (v_pile : Nat → Int32) (v_piled : Int32) (v_opens : Int32) (v_isWhole : Int32) (v_once : Int32) (v_named : Nat → Int32) (v_values : Nat → Int64) (v_truth : Nat → Int32) (v_isWritten : Int32) (v_died : Int32) (v_aside : Nat → Int32) (v_likely : Nat → Int32) (v_safe : Nat → Int32) (v_headOf : Nat → Int32) (o_r : Int32) (o_v_named : Nat → Int32) (o_v_values : Nat → Int64) (o_v_truth : Nat → Int32) (hf : f_X12_whose N v_a v_texts v_named v_values v_truth = some (o_r, o_v_named, o_v_values, o_v_truth)) : ∀ sz, Met l yX12_whose (mw yX12_whose cX12_whose 5 (some .int)) ({ frames := 6, cells := 0, slots := 0, locals := 143 } : Room) (mPre D (mT cI cJ cZ cB cT) (WM h q cI cJ cZ v_a v_image v_texts v_tape v_taped v_fault v_faultPlace v_at v_place v_token v_number v_word v_text0 v_written v_sort0 v_pile v_piled v_opens v_isWhole v_once v_named v_values v_truth v_isWritten v_died v_aside v_likely v_safe v_headOf) sz [.ref h]) ((mQi D (WM h q cI cJ cZ v_a v_image v_texts v_tape v_taped v_fault v_faultPlace v_at v_place v_token v_number v_word v_text0 v_written v_sort0 v_pile v_piled v_opens v_isWhole v_once o_v_named o_v_values o_v_truth v_isWritten v_died v_aside v_likely v_safe v_headOf) o_r True) (va_A (WM h q cI cJ cZ v_a v_image v_texts v_tape v_taped v_fault v_faultPlace v_at v_place v_token v_number v_word v_text0 v_written v_sort0 v_pile v_piled v_opens v_isWhole v_once v_named v_values v_truth v_isWritten v_died v_aside v_likely v_safe v_headOf) sz)) 0 0 (va_A (WM h q cI cJ cZ v_a v_image v_texts v_tape v_taped v_fault v_faultPlace v_at v_place v_token v_number v_word v_text0 v_written v_sort0 v_pile v_piled v_opens v_isWhole v_once v_named v_values v_truth v_isWritten v_died v_aside v_likely v_safe v_headOf) sz) := by
  refine mMet (Qc := (mQi D (WM h q cI cJ cZ v_a v_image v_texts v_tape v_taped v_fault v_faultPlace v_at v_place v_token v_number v_word v_text0 v_written v_sort0 v_pile v_piled v_opens v_isWhole v_once o_v_named o_v_values o_v_truth v_isWritten v_died v_aside v_likely v_safe v_headOf) o_r True)) (by decide) (Nat.le_of_ble_eq_true rfl) (fun p e s m below meth c A ls hx hb hr hml hts hown hlocks hK hA hP hD hl => ?_)
  have hown : s.vm.findClass RX12 = some m.cls := hown
  have hl : lv_has ls 5 [(0, .ref h)] := hl
  have hS : va_S A s.heap s.heap [] := va_S.rf
  have b4 : ∀ n4 : Nat, ∀ (v_named : Nat → Int32) (v_values : Nat → Int64) (v_truth : Nat → Int32) (x1 : Int32) (x2 : Int32) (H : Heap) (locs : List Loc) (ls : Array Slot), f_X12_whose_4 N n4 v_a v_texts v_named v_values v_truth x1 x2 = some (o_r, o_v_named, o_v_values, o_v_truth) → va_P D vwCl (WM h q cI cJ cZ v_a v_image v_texts v_tape v_taped v_fault v_faultPlace v_at v_place v_token v_number v_word v_text0 v_written v_sort0 v_pile v_piled v_opens v_isWhole v_once v_named v_values v_truth v_isWritten v_died v_aside v_likely v_safe v_headOf) H → va_D A (WM h q cI cJ cZ v_a v_image v_texts v_tape v_taped v_fault v_faultPlace v_at v_place v_token v_number v_word v_text0 v_written v_sort0 v_pile v_piled v_opens v_isWhole v_once v_named v_values v_truth v_isWritten v_died v_aside v_likely v_safe v_headOf) → va_S A s.heap H locs → lv_has ls 5 [(0, .ref h), (1, .int x1), (2, .int x2)] → W p l e ({ frames := 6, cells := 0, slots := 0, locals := 143 } : Room) s m ([.ref h] : List Value).toArray below meth c H locs 0 0 (MQ below ((mQi D (WM h q cI cJ cZ v_a v_image v_texts v_tape v_taped v_fault v_faultPlace v_at v_place v_token v_number v_word v_text0 v_written v_sort0 v_pile v_piled v_opens v_isWhole v_once o_v_named o_v_values o_v_truth v_isWritten v_died v_aside v_likely v_safe v_headOf) o_r True) A) ([.ref h] : List Value).toArray s 0 0 A) (F0 m 4 ls []) := by
    intro n4
    induction n4 with
    | zero =>
      intro v_named v_values v_truth x1 x2 H locs ls hf hP hD hS hl
      simp [f_X12_whose_4] at hf
    | succ n4 ih4 =>
      have b93 : ∀ (v_named : Nat → Int32) (v_values : Nat → Int64) (v_truth : Nat → Int32) (x2 : Int32) (s0 : Int32) (s1 : Int32) (H : Heap) (locs : List Loc) (ls : Array Slot), f_X12_whose_93 N (f_X12_whose_4 N n4) v_a v_texts v_named v_values v_truth x2 s0 s1 = some (o_r, o_v_named, o_v_values, o_v_truth) → va_P D vwCl (WM h q cI cJ cZ v_a v_image v_texts v_tape v_taped v_fault v_faultPlace v_at v_place v_token v_number v_word v_text0 v_written v_sort0 v_pile v_piled v_opens v_isWhole v_once v_named v_values v_truth v_isWritten v_died v_aside v_likely v_safe v_headOf) H → va_D A (WM h q cI cJ cZ v_a v_image v_texts v_tape v_taped v_fault v_faultPlace v_at v_place v_token v_number v_word v_text0 v_written v_sort0 v_pile v_piled v_opens v_isWhole v_once v_named v_values v_truth v_isWritten v_died v_aside v_likely v_safe v_headOf) → va_S A s.heap H locs → lv_has ls 5 [(0, .ref h), (2, .int x2)] → W p l e ({ frames := 6, cells := 0, slots := 0, locals := 143 } : Room) s m ([.ref h] : List Value).toArray below meth c H locs 0 0 (MQ below ((mQi D (WM h q cI cJ cZ v_a v_image v_texts v_tape v_taped v_fault v_faultPlace v_at v_place v_token v_number v_word v_text0 v_written v_sort0 v_pile v_piled v_opens v_isWhole v_once o_v_named o_v_values o_v_truth v_isWritten v_died v_aside v_likely v_safe v_headOf) o_r True) A) ([.ref h] : List Value).toArray s 0 0 A) (F0 m 93 ls [.int s1, .int s0]) := by
        intro v_named v_values v_truth x2 s0 s1 H locs ls hf hP hD hS hl
        unfold f_X12_whose_93 at hf
        refine lv_ior hx hb dX12_whose_93 ?_
        refine lv_istore_n (lv' := [(1, .int (s0 ||| s1)), (0, .ref h), (2, .int x2)]) hx hb dX12_whose_94 rfl hl (by decide) rfl (fun ls hl => ?_)
        refine lv_iinc (v := (x2 + (1 : Int32))) (lv' := [(2, .int (x2 + (1 : Int32))), (1, .int (s0 ||| s1)), (0, .ref h)]) hx hb dX12_whose_95 hl (k := 2) rfl rfl (by decide) rfl (fun ls hl => ?_)
        refine lv_goto (tgt := 4) hx hb dX12_whose_98 (by decide) ?_
        exact ih4 v_named v_values v_truth (s0 ||| s1) (x2 + (1 : Int32)) _ _ _ hf hP hD hS (lv_sub hl [2, 1, 0] rfl)
      have b19 : ∀ n19 : Nat, ∀ (v_named : Nat → Int32) (v_values : Nat → Int64) (v_truth : Nat → Int32) (x1 : Int32) (x2 : Int32) (x3 : Int32) (x4 : Int32) (H : Heap) (locs : List Loc) (ls : Array Slot), f_X12_whose_19 N (f_X12_whose_4 N n4) n19 v_a v_texts v_named v_values v_truth x1 x2 x3 x4 = some (o_r, o_v_named, o_v_values, o_v_truth) → va_P D vwCl (WM h q cI cJ cZ v_a v_image v_texts v_tape v_taped v_fault v_faultPlace v_at v_place v_token v_number v_word v_text0 v_written v_sort0 v_pile v_piled v_opens v_isWhole v_once v_named v_values v_truth v_isWritten v_died v_aside v_likely v_safe v_headOf) H → va_D A (WM h q cI cJ cZ v_a v_image v_texts v_tape v_taped v_fault v_faultPlace v_at v_place v_token v_number v_word v_text0 v_written v_sort0 v_pile v_piled v_opens v_isWhole v_once v_named v_values v_truth v_isWritten v_died v_aside v_likely v_safe v_headOf) → va_S A s.heap H locs → lv_has ls 5 [(0, .ref h), (1, .int x1), (2, .int x2), (3, .int x3), (4, .int x4)] → W p l e ({ frames := 6, cells := 0, slots := 0, locals := 143 } : Room) s m ([.ref h] : List Value).toArray below meth c H locs 0 0 (MQ below ((mQi D (WM h q cI cJ cZ v_a v_image v_texts v_tape v_taped v_fault v_faultPlace v_at v_place v_token v_number v_word v_text0 v_written v_sort0 v_pile v_piled v_opens v_isWhole v_once o_v_named o_v_values o_v_truth v_isWritten v_died v_aside v_likely v_safe v_headOf) o_r True) A) ([.ref h] : List Value).toArray s 0 0 A) (F0 m 19 ls []) := by
        intro n19
        induction n19 with
        | zero =>
          intro v_named v_values v_truth x1 x2 x3 x4 H locs ls hf hP hD hS hl
          simp [f_X12_whose_19] at hf
        | succ n19 ih19 =>
          have b74 : ∀ (v_named : Nat → Int32) (v_values : Nat → Int64) (v_truth : Nat → Int32) (x1 : Int32) (x2 : Int32) (x4 : Int32) (s0 : Int32) (H : Heap) (locs : List Loc) (ls : Array Slot), f_X12_whose_74 N (f_X12_whose_19 N (f_X12_whose_4 N n4) n19) (f_X12_whose_4 N n4) v_a v_texts v_named v_values v_truth x1 x2 x4 s0 = some (o_r, o_v_named, o_v_values, o_v_truth) → va_P D vwCl (WM h q cI cJ cZ v_a v_image v_texts v_tape v_taped v_fault v_faultPlace v_at v_place v_token v_number v_word v_text0 v_written v_sort0 v_pile v_piled v_opens v_isWhole v_once v_named v_values v_truth v_isWritten v_died v_aside v_likely v_safe v_headOf) H → va_D A (WM h q cI cJ cZ v_a v_image v_texts v_tape v_taped v_fault v_faultPlace v_at v_place v_token v_number v_word v_text0 v_written v_sort0 v_pile v_piled v_opens v_isWhole v_once v_named v_values v_truth v_isWritten v_died v_aside v_likely v_safe v_headOf) → va_S A s.heap H locs → lv_has ls 5 [(0, .ref h), (1, .int x1), (2, .int x2), (4, .int x4)] → W p l e ({ frames := 6, cells := 0, slots := 0, locals := 143 } : Room) s m ([.ref h] : List Value).toArray below meth c H locs 0 0 (MQ below ((mQi D (WM h q cI cJ cZ v_a v_image v_texts v_tape v_taped v_fault v_faultPlace v_at v_place v_token v_number v_word v_text0 v_written v_sort0 v_pile v_piled v_opens v_isWhole v_once o_v_named o_v_values o_v_truth v_isWritten v_died v_aside v_likely v_safe v_headOf) o_r True) A) ([.ref h] : List Value).toArray s 0 0 A) (F0 m 74 ls [.int s0]) := by
            intro v_named v_values v_truth x1 x2 x4 s0 H locs ls hf hP hD hS hl
            unfold f_X12_whose_74 at hf
            refine lv_istore_n (lv' := [(3, .int s0), (0, .ref h), (1, .int x1), (2, .int x2), (4, .int x4)]) hx hb dX12_whose_74 rfl hl (by decide) rfl (fun ls hl => ?_)
            refine lv_iinc (v := (x4 + (1 : Int32))) (lv' := [(4, .int (x4 + (1 : Int32))), (3, .int s0), (0, .ref h), (1, .int x1), (2, .int x2)]) hx hb dX12_whose_75 hl (k := 4) rfl rfl (by decide) rfl (fun ls hl => ?_)
            refine lv_goto (tgt := 19) hx hb dX12_whose_78 (by decide) ?_
            exact ih19 v_named v_values v_truth x1 x2 s0 (x4 + (1 : Int32)) _ _ _ hf hP hD hS (lv_sub hl [2, 3, 4, 1, 0] rfl)
          have b73 : ∀ (v_named : Nat → Int32) (v_values : Nat → Int64) (v_truth : Nat → Int32) (x1 : Int32) (x2 : Int32) (x4 : Int32) (H : Heap) (locs : List Loc) (ls : Array Slot), f_X12_whose_73 N (f_X12_whose_19 N (f_X12_whose_4 N n4) n19) (f_X12_whose_4 N n4) v_a v_texts v_named v_values v_truth x1 x2 x4 = some (o_r, o_v_named, o_v_values, o_v_truth) → va_P D vwCl (WM h q cI cJ cZ v_a v_image v_texts v_tape v_taped v_fault v_faultPlace v_at v_place v_token v_number v_word v_text0 v_written v_sort0 v_pile v_piled v_opens v_isWhole v_once v_named v_values v_truth v_isWritten v_died v_aside v_likely v_safe v_headOf) H → va_D A (WM h q cI cJ cZ v_a v_image v_texts v_tape v_taped v_fault v_faultPlace v_at v_place v_token v_number v_word v_text0 v_written v_sort0 v_pile v_piled v_opens v_isWhole v_once v_named v_values v_truth v_isWritten v_died v_aside v_likely v_safe v_headOf) → va_S A s.heap H locs → lv_has ls 5 [(0, .ref h), (1, .int x1), (2, .int x2), (4, .int x4)] → W p l e ({ frames := 6, cells := 0, slots := 0, locals := 143 } : Room) s m ([.ref h] : List Value).toArray below meth c H locs 0 0 (MQ below ((mQi D (WM h q cI cJ cZ v_a v_image v_texts v_tape v_taped v_fault v_faultPlace v_at v_place v_token v_number v_word v_text0 v_written v_sort0 v_pile v_piled v_opens v_isWhole v_once o_v_named o_v_values o_v_truth v_isWritten v_died v_aside v_likely v_safe v_headOf) o_r True) A) ([.ref h] : List Value).toArray s 0 0 A) (F0 m 73 ls []) := by
            intro v_named v_values v_truth x1 x2 x4 H locs ls hf hP hD hS hl
            unfold f_X12_whose_73 at hf
            refine lv_iconst (v := (0 : Int32)) hx hb dX12_whose_73 (by decide) ?_
            exact b74 v_named v_values v_truth x1 x2 x4 (0 : Int32) _ _ _ hf hP hD hS (lv_sub hl [0, 1, 2, 3] rfl)
          intro v_named v_values v_truth x1 x2 x3 x4 H locs ls hf hP hD hS hl
          rw [f_X12_whose_19.eq_2] at hf
          refine lv_iload hx hb dX12_whose_19 (lv_at hl 4 rfl) ?_
          refine lv_aload_n hx hb dX12_whose_21 rfl (lv_at hl 0 rfl) ?_
          refine gfX12_7 hx hb hts hown hK hP 0 rfl rfl dX12_whose_22 ?_
          refine lv_bipush (v := (8 : Int32)) hx hb dX12_whose_25 (by decide) ?_
          refine xiald hx hb hK hP 1 0 rfl rfl dX12_whose_27 hf (fun v27 hf => ?_)
          refine xicmp_ge hx hb 81 dX12_whose_28 (by decide) hf (fun hf => ?_) (fun hf => ?_)
          · refine lv_iload_n hx hb dX12_whose_81 rfl (lv_at hl 1 rfl) ?_
            refine lv_iload_n hx hb dX12_whose_82 rfl (lv_at hl 3 rfl) ?_
            refine xif_eq hx hb 92 dX12_whose_83 (by decide) hf (fun hf => ?_) (fun hf => ?_)
            · refine lv_iconst (v := (0 : Int32)) hx hb dX12_whose_92 (by decide) ?_
              exact b93 v_named v_values v_truth x2 x1 (0 : Int32) _ _ _ hf hP hD hS (lv_sub hl [0, 2] rfl)
            · refine lv_iconst (v := (1 : Int32)) hx hb dX12_whose_86 (by decide) ?_
              refine lv_iload_n hx hb dX12_whose_87 rfl (lv_at hl 2 rfl) ?_
              refine lv_ishl hx hb dX12_whose_88 ?_
              refine lv_goto (tgt := 93) hx hb dX12_whose_89 (by decide) ?_
              exact b93 v_named v_values v_truth x2 x1 ((1 : Int32) <<< (x2 &&& 31)) _ _ _ hf hP hD hS (lv_sub hl [0, 2] rfl)
          · refine lv_iload_n hx hb dX12_whose_31 rfl (lv_at hl 3 rfl) ?_
            refine xif_eq hx hb 73 dX12_whose_32 (by decide) hf (fun hf => ?_) (fun hf => ?_)
            · exact b73 v_named v_values v_truth x1 x2 x4 _ _ _ hf hP hD hS (lv_sub hl [0, 1, 2, 4] rfl)
            · refine lv_aload_n hx hb dX12_whose_35 rfl (lv_at hl 0 rfl) ?_
              refine lv_iload_n hx hb dX12_whose_36 rfl (lv_at hl 2 rfl) ?_
              refine lv_aload_n hx hb dX12_whose_37 rfl (lv_at hl 0 rfl) ?_
              refine gfX12_7 hx hb hts hown hK hP 0 rfl rfl dX12_whose_38 ?_
              refine lv_bipush (v := (125 : Int32)) hx hb dX12_whose_41 (by decide) ?_
              refine lv_iconst (v := (2 : Int32)) hx hb dX12_whose_43 (by decide) ?_
              refine lv_iload hx hb dX12_whose_44 (lv_at hl 4 rfl) ?_
              refine lv_imul hx hb dX12_whose_46 ?_
              refine lv_iadd hx hb dX12_whose_47 ?_
              refine xiald hx hb hK hP 1 0 rfl rfl dX12_whose_48 hf (fun v48 hf => ?_)
              obtain ⟨r49, v_named_49, v_values_49, v_truth_49, hg49, hf⟩ := ob4_some hf
              refine mcV1_i (As := [.int x2, .int v48]) (rest := []) hx hb hml hown hts hK hP hD hS hA (k_X12_priceOf l N D cI cJ cZ cB cT h q v_a v_image v_texts v_tape v_taped v_fault v_faultPlace v_at v_place v_token v_number v_word v_text0 v_written v_sort0 v_pile v_piled v_opens v_isWhole v_once v_named v_values v_truth v_isWritten v_died v_aside v_likely v_safe v_headOf x2 v48 r49 v_named_49 v_values_49 v_truth_49 hg49) (kwX12_373 hts rfl rfl ⟨Nat.le_of_ble_eq_true rfl, Nat.le_of_ble_eq_true rfl⟩) 0 rfl rfl rfl rfl hl.1 rfl (Nat.le_of_ble_eq_true rfl) dX12_whose_49 ⟨Nat.zero_le _, Nat.zero_le _⟩ (fun hB49 H locs hP hD hS => ?_)
              have hP : va_P D vwCl (WM h q cI cJ cZ v_a v_image v_texts v_tape v_taped v_fault v_faultPlace v_at v_place v_token v_number v_word v_text0 v_written v_sort0 v_pile v_piled v_opens v_isWhole v_once v_named_49 v_values_49 v_truth_49 v_isWritten v_died v_aside v_likely v_safe v_headOf) H := hP
              have hD : va_D A (WM h q cI cJ cZ v_a v_image v_texts v_tape v_taped v_fault v_faultPlace v_at v_place v_token v_number v_word v_text0 v_written v_sort0 v_pile v_piled v_opens v_isWhole v_once v_named_49 v_values_49 v_truth_49 v_isWritten v_died v_aside v_likely v_safe v_headOf) := hD
              refine lv_aload_n hx hb dX12_whose_52 rfl (lv_at hl 0 rfl) ?_
              refine gfX12_7 hx hb hts hown hK hP 0 rfl rfl dX12_whose_53 ?_
              refine lv_bipush (v := (125 : Int32)) hx hb dX12_whose_56 (by decide) ?_
              refine lv_iconst (v := (2 : Int32)) hx hb dX12_whose_58 (by decide) ?_
              refine lv_iload hx hb dX12_whose_59 (lv_at hl 4 rfl) ?_
              refine lv_imul hx hb dX12_whose_61 ?_
              refine lv_iadd hx hb dX12_whose_62 ?_
              refine lv_iconst (v := (1 : Int32)) hx hb dX12_whose_63 (by decide) ?_
              refine lv_iadd hx hb dX12_whose_64 ?_
              refine xiald hx hb hK hP 1 0 rfl rfl dX12_whose_65 hf (fun v65 hf => ?_)
              refine xicmp_ne hx hb 73 dX12_whose_66 (by decide) hf (fun hf => ?_) (fun hf => ?_)
              · refine lv_iconst (v := (1 : Int32)) hx hb dX12_whose_69 (by decide) ?_
                refine lv_goto (tgt := 74) hx hb dX12_whose_70 (by decide) ?_
                exact b74 v_named_49 v_values_49 v_truth_49 x1 x2 x4 (1 : Int32) _ _ _ hf hP hD hS (lv_sub hl [0, 1, 2, 4] rfl)
              · exact b73 v_named_49 v_values_49 v_truth_49 x1 x2 x4 _ _ _ hf hP hD hS (lv_sub hl [0, 1, 2, 4] rfl)
      intro v_named v_values v_truth x1 x2 H locs ls hf hP hD hS hl
      rw [f_X12_whose_4.eq_2] at hf
      refine lv_iload_n hx hb dX12_whose_4 rfl (lv_at hl 2 rfl) ?_
      refine lv_aload_n hx hb dX12_whose_5 rfl (lv_at hl 0 rfl) ?_
      refine gfX12_7 hx hb hts hown hK hP 0 rfl rfl dX12_whose_6 ?_
      refine lv_iconst (v := (2 : Int32)) hx hb dX12_whose_9 (by decide) ?_
      refine xiald hx hb hK hP 1 0 rfl rfl dX12_whose_10 hf (fun v10 hf => ?_)
      refine xicmp_ge hx hb 101 dX12_whose_11 (by decide) hf (fun hf => ?_) (fun hf => ?_)
      · refine lv_iload_n hx hb dX12_whose_101 rfl (lv_at hl 1 rfl) ?_
        cases hf
        exact mret_i hx hb hr hlocks hP hD hS dX12_whose_102 rfl trivial
      · refine lv_iconst (v := (1 : Int32)) hx hb dX12_whose_14 (by decide) ?_
        refine lv_istore_n (lv' := [(3, .int (1 : Int32)), (0, .ref h), (1, .int x1), (2, .int x2)]) hx hb dX12_whose_15 rfl hl (by decide) rfl (fun ls hl => ?_)
        refine lv_iconst (v := (0 : Int32)) hx hb dX12_whose_16 (by decide) ?_
        refine lv_istore (lv' := [(4, .int (0 : Int32)), (3, .int (1 : Int32)), (0, .ref h), (1, .int x1), (2, .int x2)]) hx hb dX12_whose_17 hl (by decide) rfl (fun ls hl => ?_)
        exact b19 N v_named v_values v_truth x1 x2 (1 : Int32) (0 : Int32) _ _ _ hf hP hD hS (lv_sub hl [2, 3, 4, 1, 0] rfl)
  unfold f_X12_whose at hf
  refine lv_iconst (v := (0 : Int32)) hx hb dX12_whose_0 (by decide) ?_
  refine lv_istore_n (lv' := [(1, .int (0 : Int32)), (0, .ref h)]) hx hb dX12_whose_1 rfl hl (by decide) rfl (fun ls hl => ?_)
  refine lv_iconst (v := (0 : Int32)) hx hb dX12_whose_2 (by decide) ?_
  refine lv_istore_n (lv' := [(2, .int (0 : Int32)), (1, .int (0 : Int32)), (0, .ref h)]) hx hb dX12_whose_3 rfl hl (by decide) rfl (fun ls hl => ?_)
  exact b4 N v_named v_values v_truth (0 : Int32) (0 : Int32) _ _ _ hf hP hD hS (lv_sub hl [2, 1, 0] rfl)
theorem dX12_image_0 : decode cX12_image 0 = .ok (.aload_n 0, 1) := by decide +kernel
theorem dX12_image_1 : decode cX12_image 1 = .ok (.getfield 7, 3) := by decide +kernel
theorem dX12_image_4 : decode cX12_image 4 = .ok (.aload_n 0, 1) := by decide +kernel
theorem dX12_image_5 : decode cX12_image 5 = .ok (.getfield 13, 3) := by decide +kernel
theorem dX12_image_8 : decode cX12_image 8 = .ok (.invokestatic 59, 3) := by decide +kernel
theorem dX12_image_11 : decode cX12_image 11 = .ok (.aload_n 0, 1) := by decide +kernel
theorem dX12_image_12 : decode cX12_image 12 = .ok (.getfield 7, 3) := by decide +kernel
theorem dX12_image_15 : decode cX12_image 15 = .ok (.bipush 10, 2) := by decide +kernel
theorem dX12_image_17 : decode cX12_image 17 = .ok (.iaload, 1) := by decide +kernel
theorem dX12_image_18 : decode cX12_image 18 = .ok (.ireturn, 1) := by decide +kernel
def f_X12_image (N : Nat) (v_a : Nat → Int32) (v_image : Nat → Int32) : Option (Int32 × (Nat → Int32)) := ob1 (f_X12_copy N v_a v_image) fun v_image_8 => gA v_a 8762 (10 : Int32) fun v17 => some (v17, v_image_8)
set_option maxHeartbeats 4000000 in
set_option maxRecDepth 100000 in
theorem k_X12_image (l : Launch) (N : Nat) (D : va_G) (cI cJ cZ cB cT : ClassId) (h : Nat) (q : Nat → Nat) (v_a : Nat → Int32) (v_image : Nat → Int32) (v_texts : Nat → Int32) (v_tape : Nat → Int32) (v_taped : Int32) (v_fault : Int32) (v_faultPlace : Int32) (v_at : Int32) (v_place : Int32) (v_token : Int32) (v_number : Int32) (v_word : Int64) (v_text0 : Int32) (v_written : Int32) (v_sort0 : Int32) (v_pile : Nat → Int32) (v_piled : Int32) (v_opens : Int32) (v_isWhole : Int32) (v_once : Int32) (v_named : Nat → Int32) (v_values : Nat → Int64) (v_truth : Nat → Int32) (v_isWritten : Int32) (v_died : Int32) (v_aside : Nat → Int32) (v_likely : Nat → Int32) (v_safe : Nat → Int32) (v_headOf : Nat → Int32) (o_r : Int32) (o_v_image : Nat → Int32) (hf : f_X12_image N v_a v_image = some (o_r, o_v_image)) : ∀ sz, Met l yX12_image (mw yX12_image cX12_image 1 (some .int)) ({ frames := 1, cells := 0, slots := 0, locals := 22 } : Room) (mPre D (mT cI cJ cZ cB cT) (WM h q cI cJ cZ v_a v_image v_texts v_tape v_taped v_fault v_faultPlace v_at v_place v_token v_number v_word v_text0 v_written v_sort0 v_pile v_piled v_opens v_isWhole v_once v_named v_values v_truth v_isWritten v_died v_aside v_likely v_safe v_headOf) sz [.ref h]) ((mQi D (WM h q cI cJ cZ v_a o_v_image v_texts v_tape v_taped v_fault v_faultPlace v_at v_place v_token v_number v_word v_text0 v_written v_sort0 v_pile v_piled v_opens v_isWhole v_once v_named v_values v_truth v_isWritten v_died v_aside v_likely v_safe v_headOf) o_r True) (va_A (WM h q cI cJ cZ v_a v_image v_texts v_tape v_taped v_fault v_faultPlace v_at v_place v_token v_number v_word v_text0 v_written v_sort0 v_pile v_piled v_opens v_isWhole v_once v_named v_values v_truth v_isWritten v_died v_aside v_likely v_safe v_headOf) sz)) 0 0 (va_A (WM h q cI cJ cZ v_a v_image v_texts v_tape v_taped v_fault v_faultPlace v_at v_place v_token v_number v_word v_text0 v_written v_sort0 v_pile v_piled v_opens v_isWhole v_once v_named v_values v_truth v_isWritten v_died v_aside v_likely v_safe v_headOf) sz) := by
  refine mMet (Qc := (mQi D (WM h q cI cJ cZ v_a o_v_image v_texts v_tape v_taped v_fault v_faultPlace v_at v_place v_token v_number v_word v_text0 v_written v_sort0 v_pile v_piled v_opens v_isWhole v_once v_named v_values v_truth v_isWritten v_died v_aside v_likely v_safe v_headOf) o_r True)) (by decide) (Nat.le_of_ble_eq_true rfl) (fun p e s m below meth c A ls hx hb hr hml hts hown hlocks hK hA hP hD hl => ?_)
  have hown : s.vm.findClass RX12 = some m.cls := hown
  have hl : lv_has ls 1 [(0, .ref h)] := hl
  have hS : va_S A s.heap s.heap [] := va_S.rf
  unfold f_X12_image at hf
  refine lv_aload_n hx hb dX12_image_0 rfl (lv_at hl 0 rfl) ?_
  refine gfX12_7 hx hb hts hown hK hP 0 rfl rfl dX12_image_1 ?_
  refine lv_aload_n hx hb dX12_image_4 rfl (lv_at hl 0 rfl) ?_
  refine gfX12_13 hx hb hts hown hK hP 0 rfl rfl dX12_image_5 ?_
  obtain ⟨v_image_8, hg8, hf⟩ := ob1_some hf
  refine mcS_v (wr := [(h, .inr (12, [.ref (q 0), .ref (q 1), .ref (q 2), .ref (q 3), .int v_taped, .int v_fault, .int v_faultPlace, .int v_at, .int v_place, .int v_token, .int v_number, .long v_word, .int v_text0, .int v_written, .int v_sort0, .ref (q 4), .int v_piled, .int v_opens, .int v_isWhole, .int v_once, .ref (q 5), .ref (q 6), .ref (q 7), .int v_isWritten, .int v_died, .ref (q 8), .ref (q 9), .ref (q 10), .ref (q 11)])), ((q 2), .inl (cI, 2916, .inl v_texts)), ((q 3), .inl (cI, 300, .inl v_tape)), ((q 4), .inl (cI, 160, .inl v_pile)), ((q 5), .inl (cI, 10, .inl v_named)), ((q 6), .inl (cJ, 330, .inr (.inl v_values))), ((q 7), .inl (cZ, 330, .inl v_truth)), ((q 8), .inl (cI, 80, .inl v_aside)), ((q 9), .inl (cI, 56, .inl v_likely)), ((q 10), .inl (cI, 8, .inl v_safe)), ((q 11), .inl (cI, 8, .inl v_headOf))]) (As := [.ref (q 0), .ref (q 1)]) (rest := []) hx hb hml hown hts hK hP hD hS hA (k_X12_copy l N D cI cJ cZ cB cT (q 0) (q 1) v_a v_image v_image_8 hg8) (kwX12_59 hts rfl rfl ⟨Nat.le_of_ble_eq_true rfl, Nat.le_of_ble_eq_true rfl⟩) [1, 2] [0, 3, 4, 5, 6, 7, 8, 9, 10, 11, 12] rfl rfl rfl (by decide) rfl rfl hl.1 rfl (Nat.le_of_ble_eq_true rfl) dX12_image_8 ⟨Nat.zero_le _, Nat.zero_le _⟩ (fun H locs hP hD hS => ?_)
  have hP := mP_sub (wc := (WM h q cI cJ cZ v_a v_image_8 v_texts v_tape v_taped v_fault v_faultPlace v_at v_place v_token v_number v_word v_text0 v_written v_sort0 v_pile v_piled v_opens v_isWhole v_once v_named v_values v_truth v_isWritten v_died v_aside v_likely v_safe v_headOf)) hP [0, 11, 12, 1, 2, 3, 4, 5, 6, 7, 8, 9, 10] rfl
  have hD := hD.sub (ws' := (WM h q cI cJ cZ v_a v_image_8 v_texts v_tape v_taped v_fault v_faultPlace v_at v_place v_token v_number v_word v_text0 v_written v_sort0 v_pile v_piled v_opens v_isWhole v_once v_named v_values v_truth v_isWritten v_died v_aside v_likely v_safe v_headOf)) [0, 11, 12, 1, 2, 3, 4, 5, 6, 7, 8, 9, 10] rfl rfl
  refine lv_aload_n hx hb dX12_image_11 rfl (lv_at hl 0 rfl) ?_
  refine gfX12_7 hx hb hts hown hK hP 0 rfl rfl dX12_image_12 ?_
  refine lv_bipush (v := (10 : Int32)) hx hb dX12_image_15 (by decide) ?_
  refine xiald hx hb hK hP 1 0 rfl rfl dX12_image_17 hf (fun v17 hf => ?_)
  cases hf
  exact mret_i hx hb hr hlocks hP hD hS dX12_image_18 rfl trivial
theorem dX12_back_0 : decode cX12_back 0 = .ok (.aload_n 0, 1) := by decide +kernel
theorem dX12_back_1 : decode cX12_back 1 = .ok (.getfield 13, 3) := by decide +kernel
theorem dX12_back_4 : decode cX12_back 4 = .ok (.aload_n 0, 1) := by decide +kernel
theorem dX12_back_5 : decode cX12_back 5 = .ok (.getfield 7, 3) := by decide +kernel
theorem dX12_back_8 : decode cX12_back 8 = .ok (.invokestatic 59, 3) := by decide +kernel
theorem dX12_back_11 : decode cX12_back 11 = .ok (.aload_n 0, 1) := by decide +kernel
theorem dX12_back_12 : decode cX12_back 12 = .ok (.getfield 7, 3) := by decide +kernel
theorem dX12_back_15 : decode cX12_back 15 = .ok (.bipush 10, 2) := by decide +kernel
theorem dX12_back_17 : decode cX12_back 17 = .ok (.iaload, 1) := by decide +kernel
theorem dX12_back_18 : decode cX12_back 18 = .ok (.ireturn, 1) := by decide +kernel
def f_X12_back (N : Nat) (v_a : Nat → Int32) (v_image : Nat → Int32) : Option (Int32 × (Nat → Int32)) := ob1 (f_X12_copy N v_image v_a) fun v_a_8 => gA v_a_8 8762 (10 : Int32) fun v17 => some (v17, v_a_8)
set_option maxHeartbeats 4000000 in
set_option maxRecDepth 100000 in
theorem k_X12_back (l : Launch) (N : Nat) (D : va_G) (cI cJ cZ cB cT : ClassId) (h : Nat) (q : Nat → Nat) (v_a : Nat → Int32) (v_image : Nat → Int32) (v_texts : Nat → Int32) (v_tape : Nat → Int32) (v_taped : Int32) (v_fault : Int32) (v_faultPlace : Int32) (v_at : Int32) (v_place : Int32) (v_token : Int32) (v_number : Int32) (v_word : Int64) (v_text0 : Int32) (v_written : Int32) (v_sort0 : Int32) (v_pile : Nat → Int32) (v_piled : Int32) (v_opens : Int32) (v_isWhole : Int32) (v_once : Int32) (v_named : Nat → Int32) (v_values : Nat → Int64) (v_truth : Nat → Int32) (v_isWritten : Int32) (v_died : Int32) (v_aside : Nat → Int32) (v_likely : Nat → Int32) (v_safe : Nat → Int32) (v_headOf : Nat → Int32) (o_r : Int32) (o_v_a : Nat → Int32) (hf : f_X12_back N v_a v_image = some (o_r, o_v_a)) : ∀ sz, Met l yX12_back (mw yX12_back cX12_back 1 (some .int)) ({ frames := 1, cells := 0, slots := 0, locals := 22 } : Room) (mPre D (mT cI cJ cZ cB cT) (WM h q cI cJ cZ v_a v_image v_texts v_tape v_taped v_fault v_faultPlace v_at v_place v_token v_number v_word v_text0 v_written v_sort0 v_pile v_piled v_opens v_isWhole v_once v_named v_values v_truth v_isWritten v_died v_aside v_likely v_safe v_headOf) sz [.ref h]) ((mQi D (WM h q cI cJ cZ o_v_a v_image v_texts v_tape v_taped v_fault v_faultPlace v_at v_place v_token v_number v_word v_text0 v_written v_sort0 v_pile v_piled v_opens v_isWhole v_once v_named v_values v_truth v_isWritten v_died v_aside v_likely v_safe v_headOf) o_r True) (va_A (WM h q cI cJ cZ v_a v_image v_texts v_tape v_taped v_fault v_faultPlace v_at v_place v_token v_number v_word v_text0 v_written v_sort0 v_pile v_piled v_opens v_isWhole v_once v_named v_values v_truth v_isWritten v_died v_aside v_likely v_safe v_headOf) sz)) 0 0 (va_A (WM h q cI cJ cZ v_a v_image v_texts v_tape v_taped v_fault v_faultPlace v_at v_place v_token v_number v_word v_text0 v_written v_sort0 v_pile v_piled v_opens v_isWhole v_once v_named v_values v_truth v_isWritten v_died v_aside v_likely v_safe v_headOf) sz) := by
  refine mMet (Qc := (mQi D (WM h q cI cJ cZ o_v_a v_image v_texts v_tape v_taped v_fault v_faultPlace v_at v_place v_token v_number v_word v_text0 v_written v_sort0 v_pile v_piled v_opens v_isWhole v_once v_named v_values v_truth v_isWritten v_died v_aside v_likely v_safe v_headOf) o_r True)) (by decide) (Nat.le_of_ble_eq_true rfl) (fun p e s m below meth c A ls hx hb hr hml hts hown hlocks hK hA hP hD hl => ?_)
  have hown : s.vm.findClass RX12 = some m.cls := hown
  have hl : lv_has ls 1 [(0, .ref h)] := hl
  have hS : va_S A s.heap s.heap [] := va_S.rf
  unfold f_X12_back at hf
  refine lv_aload_n hx hb dX12_back_0 rfl (lv_at hl 0 rfl) ?_
  refine gfX12_13 hx hb hts hown hK hP 0 rfl rfl dX12_back_1 ?_
  refine lv_aload_n hx hb dX12_back_4 rfl (lv_at hl 0 rfl) ?_
  refine gfX12_7 hx hb hts hown hK hP 0 rfl rfl dX12_back_5 ?_
  obtain ⟨v_a_8, hg8, hf⟩ := ob1_some hf
  refine mcS_v (wr := [(h, .inr (12, [.ref (q 0), .ref (q 1), .ref (q 2), .ref (q 3), .int v_taped, .int v_fault, .int v_faultPlace, .int v_at, .int v_place, .int v_token, .int v_number, .long v_word, .int v_text0, .int v_written, .int v_sort0, .ref (q 4), .int v_piled, .int v_opens, .int v_isWhole, .int v_once, .ref (q 5), .ref (q 6), .ref (q 7), .int v_isWritten, .int v_died, .ref (q 8), .ref (q 9), .ref (q 10), .ref (q 11)])), ((q 2), .inl (cI, 2916, .inl v_texts)), ((q 3), .inl (cI, 300, .inl v_tape)), ((q 4), .inl (cI, 160, .inl v_pile)), ((q 5), .inl (cI, 10, .inl v_named)), ((q 6), .inl (cJ, 330, .inr (.inl v_values))), ((q 7), .inl (cZ, 330, .inl v_truth)), ((q 8), .inl (cI, 80, .inl v_aside)), ((q 9), .inl (cI, 56, .inl v_likely)), ((q 10), .inl (cI, 8, .inl v_safe)), ((q 11), .inl (cI, 8, .inl v_headOf))]) (As := [.ref (q 1), .ref (q 0)]) (rest := []) hx hb hml hown hts hK hP hD hS hA (k_X12_copy l N D cI cJ cZ cB cT (q 1) (q 0) v_image v_a v_a_8 hg8) (kwX12_59 hts rfl rfl ⟨Nat.le_of_ble_eq_true rfl, Nat.le_of_ble_eq_true rfl⟩) [2, 1] [0, 3, 4, 5, 6, 7, 8, 9, 10, 11, 12] rfl rfl rfl (by decide) rfl rfl hl.1 rfl (Nat.le_of_ble_eq_true rfl) dX12_back_8 ⟨Nat.zero_le _, Nat.zero_le _⟩ (fun H locs hP hD hS => ?_)
  have hP := mP_sub (wc := (WM h q cI cJ cZ v_a_8 v_image v_texts v_tape v_taped v_fault v_faultPlace v_at v_place v_token v_number v_word v_text0 v_written v_sort0 v_pile v_piled v_opens v_isWhole v_once v_named v_values v_truth v_isWritten v_died v_aside v_likely v_safe v_headOf)) hP [0, 12, 11, 1, 2, 3, 4, 5, 6, 7, 8, 9, 10] rfl
  have hD := hD.sub (ws' := (WM h q cI cJ cZ v_a_8 v_image v_texts v_tape v_taped v_fault v_faultPlace v_at v_place v_token v_number v_word v_text0 v_written v_sort0 v_pile v_piled v_opens v_isWhole v_once v_named v_values v_truth v_isWritten v_died v_aside v_likely v_safe v_headOf)) [0, 12, 11, 1, 2, 3, 4, 5, 6, 7, 8, 9, 10] rfl rfl
  refine lv_aload_n hx hb dX12_back_11 rfl (lv_at hl 0 rfl) ?_
  refine gfX12_7 hx hb hts hown hK hP 0 rfl rfl dX12_back_12 ?_
  refine lv_bipush (v := (10 : Int32)) hx hb dX12_back_15 (by decide) ?_
  refine xiald hx hb hK hP 1 0 rfl rfl dX12_back_17 hf (fun v17 hf => ?_)
  cases hf
  exact mret_i hx hb hr hlocks hP hD hS dX12_back_18 rfl trivial
theorem dX12_about_0 : decode cX12_about 0 = .ok (.iload_n 1, 1) := by decide +kernel
theorem dX12_about_1 : decode cX12_about 1 = .ok (.iconst 0, 1) := by decide +kernel
theorem dX12_about_2 : decode cX12_about 2 = .ok (.bipush 8, 2) := by decide +kernel
theorem dX12_about_4 : decode cX12_about 4 = .ok (.invokestatic 63, 3) := by decide +kernel
theorem dX12_about_7 : decode cX12_about 7 = .ok (.ifCond .eq 12, 3) := by decide +kernel
theorem dX12_about_10 : decode cX12_about 10 = .ok (.aload_n 0, 1) := by decide +kernel
theorem dX12_about_11 : decode cX12_about 11 = .ok (.getfield 7, 3) := by decide +kernel
theorem dX12_about_14 : decode cX12_about 14 = .ok (.iload_n 1, 1) := by decide +kernel
theorem dX12_about_15 : decode cX12_about 15 = .ok (.iaload, 1) := by decide +kernel
theorem dX12_about_16 : decode cX12_about 16 = .ok (.goto 18, 3) := by decide +kernel
theorem dX12_about_19 : decode cX12_about 19 = .ok (.iload_n 1, 1) := by decide +kernel
theorem dX12_about_20 : decode cX12_about 20 = .ok (.bipush 9, 2) := by decide +kernel
theorem dX12_about_22 : decode cX12_about 22 = .ok (.if_icmp .ne 10, 3) := by decide +kernel
theorem dX12_about_25 : decode cX12_about 25 = .ok (.aload_n 0, 1) := by decide +kernel
theorem dX12_about_26 : decode cX12_about 26 = .ok (.getfield 90, 3) := by decide +kernel
theorem dX12_about_29 : decode cX12_about 29 = .ok (.goto 5, 3) := by decide +kernel
theorem dX12_about_32 : decode cX12_about 32 = .ok (.bipush (-2), 2) := by decide +kernel
theorem dX12_about_34 : decode cX12_about 34 = .ok (.ireturn, 1) := by decide +kernel
def f_X12_about (N : Nat) (v_a : Nat → Int32) (v_taped : Int32) (p1 : Int32) : Option (Int32) := ob1 (f_X12_isIn N p1 (0 : Int32) (8 : Int32)) fun r4 => if r4 = 0 then (if p1 = (9 : Int32) then (some v_taped) else (some (-2 : Int32))) else (gA v_a 8762 p1 fun v15 => some v15)
set_option maxHeartbeats 4000000 in
set_option maxRecDepth 100000 in
theorem k_X12_about (l : Launch) (N : Nat) (D : va_G) (cI cJ cZ cB cT : ClassId) (h : Nat) (q : Nat → Nat) (v_a : Nat → Int32) (v_image : Nat → Int32) (v_texts : Nat → Int32) (v_tape : Nat → Int32) (v_taped : Int32) (v_fault : Int32) (v_faultPlace : Int32) (v_at : Int32) (v_place : Int32) (v_token : Int32) (v_number : Int32) (v_word : Int64) (v_text0 : Int32) (v_written : Int32) (v_sort0 : Int32) (v_pile : Nat → Int32) (v_piled : Int32) (v_opens : Int32) (v_isWhole : Int32) (v_once : Int32) (v_named : Nat → Int32) (v_values : Nat → Int64) (v_truth : Nat → Int32) (v_isWritten : Int32) (v_died : Int32) (v_aside : Nat → Int32) (v_likely : Nat → Int32) (v_safe : Nat → Int32) (v_headOf : Nat → Int32) (p1 : Int32) (o_r : Int32) (hf : f_X12_about N v_a v_taped p1 = some o_r) : ∀ sz, Met l yX12_about (mw yX12_about cX12_about 2 (some .int)) ({ frames := 1, cells := 0, slots := 0, locals := 22 } : Room) (mPre D (mT cI cJ cZ cB cT) (WM h q cI cJ cZ v_a v_image v_texts v_tape v_taped v_fault v_faultPlace v_at v_place v_token v_number v_word v_text0 v_written v_sort0 v_pile v_piled v_opens v_isWhole v_once v_named v_values v_truth v_isWritten v_died v_aside v_likely v_safe v_headOf) sz [.ref h, .int p1]) ((mQi D (WM h q cI cJ cZ v_a v_image v_texts v_tape v_taped v_fault v_faultPlace v_at v_place v_token v_number v_word v_text0 v_written v_sort0 v_pile v_piled v_opens v_isWhole v_once v_named v_values v_truth v_isWritten v_died v_aside v_likely v_safe v_headOf) o_r True) (va_A (WM h q cI cJ cZ v_a v_image v_texts v_tape v_taped v_fault v_faultPlace v_at v_place v_token v_number v_word v_text0 v_written v_sort0 v_pile v_piled v_opens v_isWhole v_once v_named v_values v_truth v_isWritten v_died v_aside v_likely v_safe v_headOf) sz)) 0 0 (va_A (WM h q cI cJ cZ v_a v_image v_texts v_tape v_taped v_fault v_faultPlace v_at v_place v_token v_number v_word v_text0 v_written v_sort0 v_pile v_piled v_opens v_isWhole v_once v_named v_values v_truth v_isWritten v_died v_aside v_likely v_safe v_headOf) sz) := by
  refine mMet (Qc := (mQi D (WM h q cI cJ cZ v_a v_image v_texts v_tape v_taped v_fault v_faultPlace v_at v_place v_token v_number v_word v_text0 v_written v_sort0 v_pile v_piled v_opens v_isWhole v_once v_named v_values v_truth v_isWritten v_died v_aside v_likely v_safe v_headOf) o_r True)) (by decide) (Nat.le_of_ble_eq_true rfl) (fun p e s m below meth c A ls hx hb hr hml hts hown hlocks hK hA hP hD hl => ?_)
  have hown : s.vm.findClass RX12 = some m.cls := hown
  have hl : lv_has ls 2 [(0, .ref h), (1, .int p1)] := hl
  have hS : va_S A s.heap s.heap [] := va_S.rf
  unfold f_X12_about at hf
  refine lv_iload_n hx hb dX12_about_0 rfl (lv_at hl 1 rfl) ?_
  refine lv_iconst (v := (0 : Int32)) hx hb dX12_about_1 (by decide) ?_
  refine lv_bipush (v := (8 : Int32)) hx hb dX12_about_2 (by decide) ?_
  obtain ⟨r4, hg4, hf⟩ := ob1_some hf
  refine mcS0_i (As := [.int p1, .int (0 : Int32), .int (8 : Int32)]) (rest := []) hx hb hml hown hts hK hP hD hS hA (k_X12_isIn l N D cI cJ cZ cB cT p1 (0 : Int32) (8 : Int32) r4 hg4) (kwX12_63 hts rfl rfl ⟨Nat.le_of_ble_eq_true rfl, Nat.le_of_ble_eq_true rfl⟩) rfl hl.1 rfl (Nat.le_of_ble_eq_true rfl) dX12_about_4 ⟨Nat.zero_le _, Nat.zero_le _⟩ (fun hB4 H locs hP hD hS => ?_)
  refine xif_eq hx hb 19 dX12_about_7 (by decide) hf (fun hf => ?_) (fun hf => ?_)
  · refine lv_iload_n hx hb dX12_about_19 rfl (lv_at hl 1 rfl) ?_
    refine lv_bipush (v := (9 : Int32)) hx hb dX12_about_20 (by decide) ?_
    refine xicmp_ne hx hb 32 dX12_about_22 (by decide) hf (fun hf => ?_) (fun hf => ?_)
    · refine lv_aload_n hx hb dX12_about_25 rfl (lv_at hl 0 rfl) ?_
      refine gfX12_90 hx hb hts hown hK hP 0 rfl rfl dX12_about_26 ?_
      refine lv_goto (tgt := 34) hx hb dX12_about_29 (by decide) ?_
      cases hf
      exact mret_i hx hb hr hlocks hP hD hS dX12_about_34 rfl trivial
    · refine lv_bipush (v := (-2 : Int32)) hx hb dX12_about_32 (by decide) ?_
      cases hf
      exact mret_i hx hb hr hlocks hP hD hS dX12_about_34 rfl trivial
  · refine lv_aload_n hx hb dX12_about_10 rfl (lv_at hl 0 rfl) ?_
    refine gfX12_7 hx hb hts hown hK hP 0 rfl rfl dX12_about_11 ?_
    refine lv_iload_n hx hb dX12_about_14 rfl (lv_at hl 1 rfl) ?_
    refine xiald hx hb hK hP 1 0 rfl rfl dX12_about_15 hf (fun v15 hf => ?_)
    refine lv_goto (tgt := 34) hx hb dX12_about_16 (by decide) ?_
    cases hf
    exact mret_i hx hb hr hlocks hP hD hS dX12_about_34 rfl trivial
