theorem dX12_settle_0 : decode cX12_settle 0 = .ok (.aload_n 0, 1) := by decide +kernel
theorem dX12_settle_1 : decode cX12_settle 1 = .ok (.getfield 157, 3) := by decide +kernel
theorem dX12_settle_4 : decode cX12_settle 4 = .ok (.ifCond .le 89, 3) := by decide +kernel
theorem dX12_settle_7 : decode cX12_settle 7 = .ok (.aload_n 0, 1) := by decide +kernel
theorem dX12_settle_8 : decode cX12_settle 8 = .ok (.getfield 29, 3) := by decide +kernel
theorem dX12_settle_11 : decode cX12_settle 11 = .ok (.aload_n 0, 1) := by decide +kernel
theorem dX12_settle_12 : decode cX12_settle 12 = .ok (.getfield 157, 3) := by decide +kernel
theorem dX12_settle_15 : decode cX12_settle 15 = .ok (.iconst 1, 1) := by decide +kernel
theorem dX12_settle_16 : decode cX12_settle 16 = .ok (.isub, 1) := by decide +kernel
theorem dX12_settle_17 : decode cX12_settle 17 = .ok (.iaload, 1) := by decide +kernel
theorem dX12_settle_18 : decode cX12_settle 18 = .ok (.invokestatic 160, 3) := by decide +kernel
theorem dX12_settle_21 : decode cX12_settle 21 = .ok (.iload_n 1, 1) := by decide +kernel
theorem dX12_settle_22 : decode cX12_settle 22 = .ok (.if_icmp .lt 71, 3) := by decide +kernel
theorem dX12_settle_25 : decode cX12_settle 25 = .ok (.aload_n 0, 1) := by decide +kernel
theorem dX12_settle_26 : decode cX12_settle 26 = .ok (.dup, 1) := by decide +kernel
theorem dX12_settle_27 : decode cX12_settle 27 = .ok (.getfield 157, 3) := by decide +kernel
theorem dX12_settle_30 : decode cX12_settle 30 = .ok (.iconst 1, 1) := by decide +kernel
theorem dX12_settle_31 : decode cX12_settle 31 = .ok (.isub, 1) := by decide +kernel
theorem dX12_settle_32 : decode cX12_settle 32 = .ok (.putfield 157, 3) := by decide +kernel
theorem dX12_settle_35 : decode cX12_settle 35 = .ok (.aload_n 0, 1) := by decide +kernel
theorem dX12_settle_36 : decode cX12_settle 36 = .ok (.aload_n 0, 1) := by decide +kernel
theorem dX12_settle_37 : decode cX12_settle 37 = .ok (.getfield 29, 3) := by decide +kernel
theorem dX12_settle_40 : decode cX12_settle 40 = .ok (.aload_n 0, 1) := by decide +kernel
theorem dX12_settle_41 : decode cX12_settle 41 = .ok (.getfield 157, 3) := by decide +kernel
theorem dX12_settle_44 : decode cX12_settle 44 = .ok (.iaload, 1) := by decide +kernel
theorem dX12_settle_45 : decode cX12_settle 45 = .ok (.iconst 0, 1) := by decide +kernel
theorem dX12_settle_46 : decode cX12_settle 46 = .ok (.invokevirtual 163, 3) := by decide +kernel
theorem dX12_settle_49 : decode cX12_settle 49 = .ok (.aload_n 0, 1) := by decide +kernel
theorem dX12_settle_50 : decode cX12_settle 50 = .ok (.getfield 29, 3) := by decide +kernel
theorem dX12_settle_53 : decode cX12_settle 53 = .ok (.aload_n 0, 1) := by decide +kernel
theorem dX12_settle_54 : decode cX12_settle 54 = .ok (.getfield 157, 3) := by decide +kernel
theorem dX12_settle_57 : decode cX12_settle 57 = .ok (.iaload, 1) := by decide +kernel
theorem dX12_settle_58 : decode cX12_settle 58 = .ok (.invokestatic 160, 3) := by decide +kernel
theorem dX12_settle_61 : decode cX12_settle 61 = .ok (.bipush 7, 2) := by decide +kernel
theorem dX12_settle_63 : decode cX12_settle 63 = .ok (.if_icmp .eq 17, 3) := by decide +kernel
theorem dX12_settle_66 : decode cX12_settle 66 = .ok (.aload_n 0, 1) := by decide +kernel
theorem dX12_settle_67 : decode cX12_settle 67 = .ok (.getfield 29, 3) := by decide +kernel
theorem dX12_settle_70 : decode cX12_settle 70 = .ok (.aload_n 0, 1) := by decide +kernel
theorem dX12_settle_71 : decode cX12_settle 71 = .ok (.getfield 157, 3) := by decide +kernel
theorem dX12_settle_74 : decode cX12_settle 74 = .ok (.iaload, 1) := by decide +kernel
theorem dX12_settle_75 : decode cX12_settle 75 = .ok (.bipush 20, 2) := by decide +kernel
theorem dX12_settle_77 : decode cX12_settle 77 = .ok (.if_icmp .ne (-77), 3) := by decide +kernel
theorem dX12_settle_80 : decode cX12_settle 80 = .ok (.aload_n 0, 1) := by decide +kernel
theorem dX12_settle_81 : decode cX12_settle 81 = .ok (.dup, 1) := by decide +kernel
theorem dX12_settle_82 : decode cX12_settle 82 = .ok (.getfield 167, 3) := by decide +kernel
theorem dX12_settle_85 : decode cX12_settle 85 = .ok (.iconst 1, 1) := by decide +kernel
theorem dX12_settle_86 : decode cX12_settle 86 = .ok (.isub, 1) := by decide +kernel
theorem dX12_settle_87 : decode cX12_settle 87 = .ok (.putfield 167, 3) := by decide +kernel
theorem dX12_settle_90 : decode cX12_settle 90 = .ok (.goto (-90), 3) := by decide +kernel
theorem dX12_settle_93 : decode cX12_settle 93 = .ok (.return_, 1) := by decide +kernel
def f_X12_settle_80 (N : Nat) (k_0 : (Nat → Int32) → Int32 → Int32 → (Nat → Int32) → Int32 → Int32 → Int32 → Option ((Nat → Int32) × Int32 × Int32 × Int32)) (v_texts : Nat → Int32) (v_text0 : Int32) (v_written : Int32) (v_pile : Nat → Int32) (v_piled : Int32) (v_opens : Int32) (x1 : Int32) : Option ((Nat → Int32) × Int32 × Int32 × Int32) := k_0 v_texts v_text0 v_written v_pile v_piled (v_opens - (1 : Int32)) x1
def f_X12_settle_0 (N : Nat) : Nat → (Nat → Int32) → Int32 → Int32 → (Nat → Int32) → Int32 → Int32 → Int32 → Option ((Nat → Int32) × Int32 × Int32 × Int32)
  | 0, _, _, _, _, _, _, _ => none
  | n + 1, v_texts, v_text0, v_written, v_pile, v_piled, v_opens, x1 => if v_piled ≤ 0 then (some (v_texts, v_written, v_piled, v_opens)) else (gA v_pile 160 (v_piled - (1 : Int32)) fun v17 => ob1 (f_X12_rank N v17) fun r18 => if r18 < x1 then (some (v_texts, v_written, v_piled, v_opens)) else (gA v_pile 160 (v_piled - (1 : Int32)) fun v44 => ob2 (f_X12_emit N v_texts v_text0 v_written v44 (0 : Int32)) fun v_texts_46 v_written_46 => gA v_pile 160 (v_piled - (1 : Int32)) fun v57 => ob1 (f_X12_rank N v57) fun r58 => if r58 = (7 : Int32) then (f_X12_settle_80 N (f_X12_settle_0 N n) v_texts_46 v_text0 v_written_46 v_pile (v_piled - (1 : Int32)) v_opens x1) else (gA v_pile 160 (v_piled - (1 : Int32)) fun v74 => if v74 = (20 : Int32) then (f_X12_settle_80 N (f_X12_settle_0 N n) v_texts_46 v_text0 v_written_46 v_pile (v_piled - (1 : Int32)) v_opens x1) else ((f_X12_settle_0 N n) v_texts_46 v_text0 v_written_46 v_pile (v_piled - (1 : Int32)) v_opens x1))))
def f_X12_settle (N : Nat) (v_texts : Nat → Int32) (v_text0 : Int32) (v_written : Int32) (v_pile : Nat → Int32) (v_piled : Int32) (v_opens : Int32) (p1 : Int32) : Option ((Nat → Int32) × Int32 × Int32 × Int32) := f_X12_settle_0 N N v_texts v_text0 v_written v_pile v_piled v_opens p1
set_option maxHeartbeats 4000000 in
set_option maxRecDepth 100000 in
theorem k_X12_settle (l : Launch) (N : Nat) (D : va_G) (cI cJ cZ cB cT : ClassId) (h : Nat) (q : Nat → Nat) (v_a : Nat → Int32) (v_image : Nat → Int32) (v_texts : Nat → Int32) (v_tape : Nat → Int32) (v_taped : Int32) (v_fault : Int32) (v_faultPlace : Int32) (v_at : Int32) (v_place : Int32) (v_token : Int32) (v_number : Int32) (v_word : Int64) (v_text0 : Int32) (v_written : Int32) (v_sort0 : Int32) (v_pile : Nat → Int32) (v_piled : Int32) (v_opens : Int32) (v_isWhole : Int32) (v_once : Int32) (v_named : Nat → Int32) (v_values : Nat → Int64) (v_truth : Nat → Int32) (v_isWritten : Int32) (v_died : Int32) (v_aside : Nat → Int32) (v_likely : Nat → Int32) (v_safe : Nat → Int32) (v_headOf : Nat → Int32) (p1 : Int32) (o_v_texts : Nat → Int32) (o_v_written : Int32) (o_v_piled : Int32) (o_v_opens : Int32) (hf : f_X12_settle N v_texts v_text0 v_written v_pile v_piled v_opens p1 = some (o_v_texts, o_v_written, o_v_piled, o_v_opens)) : ∀ sz, Met l yX12_settle (mw yX12_settle cX12_settle 2 none) ({ frames := 1, cells := 0, slots := 0, locals := 22 } : Room) (mPre D (mT cI cJ cZ cB cT) (WM h q cI cJ cZ v_a v_image v_texts v_tape v_taped v_fault v_faultPlace v_at v_place v_token v_number v_word v_text0 v_written v_sort0 v_pile v_piled v_opens v_isWhole v_once v_named v_values v_truth v_isWritten v_died v_aside v_likely v_safe v_headOf) sz [.ref h, .int p1]) ((mQv D (WM h q cI cJ cZ v_a v_image o_v_texts v_tape v_taped v_fault v_faultPlace v_at v_place v_token v_number v_word v_text0 o_v_written v_sort0 v_pile o_v_piled o_v_opens v_isWhole v_once v_named v_values v_truth v_isWritten v_died v_aside v_likely v_safe v_headOf)) (va_A (WM h q cI cJ cZ v_a v_image v_texts v_tape v_taped v_fault v_faultPlace v_at v_place v_token v_number v_word v_text0 v_written v_sort0 v_pile v_piled v_opens v_isWhole v_once v_named v_values v_truth v_isWritten v_died v_aside v_likely v_safe v_headOf) sz)) 0 0 (va_A (WM h q cI cJ cZ v_a v_image v_texts v_tape v_taped v_fault v_faultPlace v_at v_place v_token v_number v_word v_text0 v_written v_sort0 v_pile v_piled v_opens v_isWhole v_once v_named v_values v_truth v_isWritten v_died v_aside v_likely v_safe v_headOf) sz) := by
  refine mMet (Qc := (mQv D (WM h q cI cJ cZ v_a v_image o_v_texts v_tape v_taped v_fault v_faultPlace v_at v_place v_token v_number v_word v_text0 o_v_written v_sort0 v_pile o_v_piled o_v_opens v_isWhole v_once v_named v_values v_truth v_isWritten v_died v_aside v_likely v_safe v_headOf))) (by decide) (Nat.le_of_ble_eq_true rfl) (fun p e s m below meth c A ls hx hb hr hml hts hown hlocks hK hA hP hD hl => ?_)
  have hown : s.vm.findClass RX12 = some m.cls := hown
  have hl : lv_has ls 2 [(0, .ref h), (1, .int p1)] := hl
  have hS : va_S A s.heap s.heap [] := va_S.rf
  have b0 : ∀ n0 : Nat, ∀ (v_texts : Nat → Int32) (v_written : Int32) (v_piled : Int32) (v_opens : Int32) (x1 : Int32) (H : Heap) (locs : List Loc) (ls : Array Slot), f_X12_settle_0 N n0 v_texts v_text0 v_written v_pile v_piled v_opens x1 = some (o_v_texts, o_v_written, o_v_piled, o_v_opens) → va_P D vwCl (WM h q cI cJ cZ v_a v_image v_texts v_tape v_taped v_fault v_faultPlace v_at v_place v_token v_number v_word v_text0 v_written v_sort0 v_pile v_piled v_opens v_isWhole v_once v_named v_values v_truth v_isWritten v_died v_aside v_likely v_safe v_headOf) H → va_D A (WM h q cI cJ cZ v_a v_image v_texts v_tape v_taped v_fault v_faultPlace v_at v_place v_token v_number v_word v_text0 v_written v_sort0 v_pile v_piled v_opens v_isWhole v_once v_named v_values v_truth v_isWritten v_died v_aside v_likely v_safe v_headOf) → va_S A s.heap H locs → lv_has ls 2 [(0, .ref h), (1, .int x1)] → W p l e ({ frames := 1, cells := 0, slots := 0, locals := 22 } : Room) s m ([.ref h, .int p1] : List Value).toArray below meth c H locs 0 0 (MQ below ((mQv D (WM h q cI cJ cZ v_a v_image o_v_texts v_tape v_taped v_fault v_faultPlace v_at v_place v_token v_number v_word v_text0 o_v_written v_sort0 v_pile o_v_piled o_v_opens v_isWhole v_once v_named v_values v_truth v_isWritten v_died v_aside v_likely v_safe v_headOf)) A) ([.ref h, .int p1] : List Value).toArray s 0 0 A) (F0 m 0 ls []) := by
    intro n0
    induction n0 with
    | zero =>
      intro v_texts v_written v_piled v_opens x1 H locs ls hf hP hD hS hl
      simp [f_X12_settle_0] at hf
    | succ n0 ih0 =>
      have b80 : ∀ (v_texts : Nat → Int32) (v_written : Int32) (v_piled : Int32) (v_opens : Int32) (x1 : Int32) (H : Heap) (locs : List Loc) (ls : Array Slot), f_X12_settle_80 N (f_X12_settle_0 N n0) v_texts v_text0 v_written v_pile v_piled v_opens x1 = some (o_v_texts, o_v_written, o_v_piled, o_v_opens) → va_P D vwCl (WM h q cI cJ cZ v_a v_image v_texts v_tape v_taped v_fault v_faultPlace v_at v_place v_token v_number v_word v_text0 v_written v_sort0 v_pile v_piled v_opens v_isWhole v_once v_named v_values v_truth v_isWritten v_died v_aside v_likely v_safe v_headOf) H → va_D A (WM h q cI cJ cZ v_a v_image v_texts v_tape v_taped v_fault v_faultPlace v_at v_place v_token v_number v_word v_text0 v_written v_sort0 v_pile v_piled v_opens v_isWhole v_once v_named v_values v_truth v_isWritten v_died v_aside v_likely v_safe v_headOf) → va_S A s.heap H locs → lv_has ls 2 [(0, .ref h), (1, .int x1)] → W p l e ({ frames := 1, cells := 0, slots := 0, locals := 22 } : Room) s m ([.ref h, .int p1] : List Value).toArray below meth c H locs 0 0 (MQ below ((mQv D (WM h q cI cJ cZ v_a v_image o_v_texts v_tape v_taped v_fault v_faultPlace v_at v_place v_token v_number v_word v_text0 o_v_written v_sort0 v_pile o_v_piled o_v_opens v_isWhole v_once v_named v_values v_truth v_isWritten v_died v_aside v_likely v_safe v_headOf)) A) ([.ref h, .int p1] : List Value).toArray s 0 0 A) (F0 m 80 ls []) := by
        intro v_texts v_written v_piled v_opens x1 H locs ls hf hP hD hS hl
        unfold f_X12_settle_80 at hf
        refine lv_aload_n hx hb dX12_settle_80 rfl (lv_at hl 0 rfl) ?_
        refine lv_dup hx hb dX12_settle_81 rfl ?_
        refine gfX12_167 hx hb hts hown hK hP 0 rfl rfl dX12_settle_82 ?_
        refine lv_iconst (v := (1 : Int32)) hx hb dX12_settle_85 (by decide) ?_
        refine lv_isub hx hb dX12_settle_86 ?_
        refine pfX12_167 hx hb hts hown hK hP hD hS 0 rfl (Nat.le_of_ble_eq_true rfl) dX12_settle_87 (fun H locs hP hD hS => ?_)
        have hP : va_P D vwCl (WM h q cI cJ cZ v_a v_image v_texts v_tape v_taped v_fault v_faultPlace v_at v_place v_token v_number v_word v_text0 v_written v_sort0 v_pile v_piled (v_opens - (1 : Int32)) v_isWhole v_once v_named v_values v_truth v_isWritten v_died v_aside v_likely v_safe v_headOf) H := hP
        have hD : va_D A (WM h q cI cJ cZ v_a v_image v_texts v_tape v_taped v_fault v_faultPlace v_at v_place v_token v_number v_word v_text0 v_written v_sort0 v_pile v_piled (v_opens - (1 : Int32)) v_isWhole v_once v_named v_values v_truth v_isWritten v_died v_aside v_likely v_safe v_headOf) := hD
        refine lv_goto (tgt := 0) hx hb dX12_settle_90 (by decide) ?_
        exact ih0 v_texts v_written v_piled (v_opens - (1 : Int32)) x1 _ _ _ hf hP hD hS (lv_sub hl [0, 1] rfl)
      intro v_texts v_written v_piled v_opens x1 H locs ls hf hP hD hS hl
      rw [f_X12_settle_0.eq_2] at hf
      refine lv_aload_n hx hb dX12_settle_0 rfl (lv_at hl 0 rfl) ?_
      refine gfX12_157 hx hb hts hown hK hP 0 rfl rfl dX12_settle_1 ?_
      refine xif_le hx hb 93 dX12_settle_4 (by decide) hf (fun hf => ?_) (fun hf => ?_)
      · cases hf
        exact mret_v hx hb hr hlocks hP hD hS dX12_settle_93
      · refine lv_aload_n hx hb dX12_settle_7 rfl (lv_at hl 0 rfl) ?_
        refine gfX12_29 hx hb hts hown hK hP 0 rfl rfl dX12_settle_8 ?_
        refine lv_aload_n hx hb dX12_settle_11 rfl (lv_at hl 0 rfl) ?_
        refine gfX12_157 hx hb hts hown hK hP 0 rfl rfl dX12_settle_12 ?_
        refine lv_iconst (v := (1 : Int32)) hx hb dX12_settle_15 (by decide) ?_
        refine lv_isub hx hb dX12_settle_16 ?_
        refine xiald hx hb hK hP 5 0 rfl rfl dX12_settle_17 hf (fun v17 hf => ?_)
        obtain ⟨r18, hg18, hf⟩ := ob1_some hf
        refine mcS0_i (As := [.int v17]) (rest := []) hx hb hml hown hts hK hP hD hS hA (k_X12_rank l N D cI cJ cZ cB cT v17 r18 hg18) (kwX12_160 hts rfl rfl ⟨Nat.le_of_ble_eq_true rfl, Nat.le_of_ble_eq_true rfl⟩) rfl hl.1 rfl (Nat.le_of_ble_eq_true rfl) dX12_settle_18 ⟨Nat.zero_le _, Nat.zero_le _⟩ (fun hB18 H locs hP hD hS => ?_)
        refine lv_iload_n hx hb dX12_settle_21 rfl (lv_at hl 1 rfl) ?_
        refine xicmp_lt hx hb 93 dX12_settle_22 (by decide) hf (fun hf => ?_) (fun hf => ?_)
        · cases hf
          exact mret_v hx hb hr hlocks hP hD hS dX12_settle_93
        · refine lv_aload_n hx hb dX12_settle_25 rfl (lv_at hl 0 rfl) ?_
          refine lv_dup hx hb dX12_settle_26 rfl ?_
          refine gfX12_157 hx hb hts hown hK hP 0 rfl rfl dX12_settle_27 ?_
          refine lv_iconst (v := (1 : Int32)) hx hb dX12_settle_30 (by decide) ?_
          refine lv_isub hx hb dX12_settle_31 ?_
          refine pfX12_157 hx hb hts hown hK hP hD hS 0 rfl (Nat.le_of_ble_eq_true rfl) dX12_settle_32 (fun H locs hP hD hS => ?_)
          have hP : va_P D vwCl (WM h q cI cJ cZ v_a v_image v_texts v_tape v_taped v_fault v_faultPlace v_at v_place v_token v_number v_word v_text0 v_written v_sort0 v_pile (v_piled - (1 : Int32)) v_opens v_isWhole v_once v_named v_values v_truth v_isWritten v_died v_aside v_likely v_safe v_headOf) H := hP
          have hD : va_D A (WM h q cI cJ cZ v_a v_image v_texts v_tape v_taped v_fault v_faultPlace v_at v_place v_token v_number v_word v_text0 v_written v_sort0 v_pile (v_piled - (1 : Int32)) v_opens v_isWhole v_once v_named v_values v_truth v_isWritten v_died v_aside v_likely v_safe v_headOf) := hD
          refine lv_aload_n hx hb dX12_settle_35 rfl (lv_at hl 0 rfl) ?_
          refine lv_aload_n hx hb dX12_settle_36 rfl (lv_at hl 0 rfl) ?_
          refine gfX12_29 hx hb hts hown hK hP 0 rfl rfl dX12_settle_37 ?_
          refine lv_aload_n hx hb dX12_settle_40 rfl (lv_at hl 0 rfl) ?_
          refine gfX12_157 hx hb hts hown hK hP 0 rfl rfl dX12_settle_41 ?_
          refine xiald hx hb hK hP 5 0 rfl rfl dX12_settle_44 hf (fun v44 hf => ?_)
          refine lv_iconst (v := (0 : Int32)) hx hb dX12_settle_45 (by decide) ?_
          obtain ⟨v_texts_46, v_written_46, hg46, hf⟩ := ob2_some hf
          refine mcV1_v (As := [.int v44, .int (0 : Int32)]) (rest := []) hx hb hml hown hts hK hP hD hS hA (k_X12_emit l N D cI cJ cZ cB cT h q v_a v_image v_texts v_tape v_taped v_fault v_faultPlace v_at v_place v_token v_number v_word v_text0 v_written v_sort0 v_pile (v_piled - (1 : Int32)) v_opens v_isWhole v_once v_named v_values v_truth v_isWritten v_died v_aside v_likely v_safe v_headOf v44 (0 : Int32) v_texts_46 v_written_46 hg46) (kwX12_163 hts rfl rfl ⟨Nat.le_of_ble_eq_true rfl, Nat.le_of_ble_eq_true rfl⟩) 0 rfl rfl rfl rfl hl.1 rfl (Nat.le_of_ble_eq_true rfl) dX12_settle_46 ⟨Nat.zero_le _, Nat.zero_le _⟩ (fun H locs hP hD hS => ?_)
          have hP : va_P D vwCl (WM h q cI cJ cZ v_a v_image v_texts_46 v_tape v_taped v_fault v_faultPlace v_at v_place v_token v_number v_word v_text0 v_written_46 v_sort0 v_pile (v_piled - (1 : Int32)) v_opens v_isWhole v_once v_named v_values v_truth v_isWritten v_died v_aside v_likely v_safe v_headOf) H := hP
          have hD : va_D A (WM h q cI cJ cZ v_a v_image v_texts_46 v_tape v_taped v_fault v_faultPlace v_at v_place v_token v_number v_word v_text0 v_written_46 v_sort0 v_pile (v_piled - (1 : Int32)) v_opens v_isWhole v_once v_named v_values v_truth v_isWritten v_died v_aside v_likely v_safe v_headOf) := hD
          refine lv_aload_n hx hb dX12_settle_49 rfl (lv_at hl 0 rfl) ?_
          refine gfX12_29 hx hb hts hown hK hP 0 rfl rfl dX12_settle_50 ?_
          refine lv_aload_n hx hb dX12_settle_53 rfl (lv_at hl 0 rfl) ?_
          refine gfX12_157 hx hb hts hown hK hP 0 rfl rfl dX12_settle_54 ?_
          refine xiald hx hb hK hP 5 0 rfl rfl dX12_settle_57 hf (fun v57 hf => ?_)
          obtain ⟨r58, hg58, hf⟩ := ob1_some hf
          refine mcS0_i (As := [.int v57]) (rest := []) hx hb hml hown hts hK hP hD hS hA (k_X12_rank l N D cI cJ cZ cB cT v57 r58 hg58) (kwX12_160 hts rfl rfl ⟨Nat.le_of_ble_eq_true rfl, Nat.le_of_ble_eq_true rfl⟩) rfl hl.1 rfl (Nat.le_of_ble_eq_true rfl) dX12_settle_58 ⟨Nat.zero_le _, Nat.zero_le _⟩ (fun hB58 H locs hP hD hS => ?_)
          refine lv_bipush (v := (7 : Int32)) hx hb dX12_settle_61 (by decide) ?_
          refine xicmp_eq hx hb 80 dX12_settle_63 (by decide) hf (fun hf => ?_) (fun hf => ?_)
          · exact b80 v_texts_46 v_written_46 (v_piled - (1 : Int32)) v_opens x1 _ _ _ hf hP hD hS (lv_sub hl [0, 1] rfl)
          · refine lv_aload_n hx hb dX12_settle_66 rfl (lv_at hl 0 rfl) ?_
            refine gfX12_29 hx hb hts hown hK hP 0 rfl rfl dX12_settle_67 ?_
            refine lv_aload_n hx hb dX12_settle_70 rfl (lv_at hl 0 rfl) ?_
            refine gfX12_157 hx hb hts hown hK hP 0 rfl rfl dX12_settle_71 ?_
            refine xiald hx hb hK hP 5 0 rfl rfl dX12_settle_74 hf (fun v74 hf => ?_)
            refine lv_bipush (v := (20 : Int32)) hx hb dX12_settle_75 (by decide) ?_
            refine xicmp_ne hx hb 0 dX12_settle_77 (by decide) hf (fun hf => ?_) (fun hf => ?_)
            · exact b80 v_texts_46 v_written_46 (v_piled - (1 : Int32)) v_opens x1 _ _ _ hf hP hD hS (lv_sub hl [0, 1] rfl)
            · exact ih0 v_texts_46 v_written_46 (v_piled - (1 : Int32)) v_opens x1 _ _ _ hf hP hD hS (lv_sub hl [0, 1] rfl)
  unfold f_X12_settle at hf
  exact b0 N v_texts v_written v_piled v_opens p1 _ _ _ hf hP hD hS (lv_sub hl [0, 1] rfl)
theorem dX12_openAt_0 : decode cX12_openAt 0 = .ok (.aload_n 0, 1) := by decide +kernel
theorem dX12_openAt_1 : decode cX12_openAt 1 = .ok (.getfield 157, 3) := by decide +kernel
theorem dX12_openAt_4 : decode cX12_openAt 4 = .ok (.iconst 1, 1) := by decide +kernel
theorem dX12_openAt_5 : decode cX12_openAt 5 = .ok (.isub, 1) := by decide +kernel
theorem dX12_openAt_6 : decode cX12_openAt 6 = .ok (.istore_n 1, 1) := by decide +kernel
theorem dX12_openAt_7 : decode cX12_openAt 7 = .ok (.iload_n 1, 1) := by decide +kernel
theorem dX12_openAt_8 : decode cX12_openAt 8 = .ok (.ifCond .lt 20, 3) := by decide +kernel
theorem dX12_openAt_11 : decode cX12_openAt 11 = .ok (.aload_n 0, 1) := by decide +kernel
theorem dX12_openAt_12 : decode cX12_openAt 12 = .ok (.getfield 29, 3) := by decide +kernel
theorem dX12_openAt_15 : decode cX12_openAt 15 = .ok (.iload_n 1, 1) := by decide +kernel
theorem dX12_openAt_16 : decode cX12_openAt 16 = .ok (.iaload, 1) := by decide +kernel
theorem dX12_openAt_17 : decode cX12_openAt 17 = .ok (.bipush 40, 2) := by decide +kernel
theorem dX12_openAt_19 : decode cX12_openAt 19 = .ok (.if_icmp .ge 9, 3) := by decide +kernel
theorem dX12_openAt_22 : decode cX12_openAt 22 = .ok (.iinc 1 (-1), 3) := by decide +kernel
theorem dX12_openAt_25 : decode cX12_openAt 25 = .ok (.goto (-18), 3) := by decide +kernel
theorem dX12_openAt_28 : decode cX12_openAt 28 = .ok (.iload_n 1, 1) := by decide +kernel
theorem dX12_openAt_29 : decode cX12_openAt 29 = .ok (.ireturn, 1) := by decide +kernel
def f_X12_openAt_7 (N : Nat) : Nat → (Nat → Int32) → Int32 → Int32 → Option (Int32)
  | 0, _, _, _ => none
  | n + 1, v_pile, v_piled, x1 => if x1 < 0 then (some x1) else (gA v_pile 160 x1 fun v16 => if (40 : Int32) ≤ v16 then (some x1) else ((f_X12_openAt_7 N n) v_pile v_piled (x1 + (-1 : Int32))))
def f_X12_openAt (N : Nat) (v_pile : Nat → Int32) (v_piled : Int32) : Option (Int32) := f_X12_openAt_7 N N v_pile v_piled (v_piled - (1 : Int32))
set_option maxHeartbeats 4000000 in
set_option maxRecDepth 100000 in
theorem k_X12_openAt (l : Launch) (N : Nat) (D : va_G) (cI cJ cZ cB cT : ClassId) (h : Nat) (q : Nat → Nat) (v_a : Nat → Int32) (v_image : Nat → Int32) (v_texts : Nat → Int32) (v_tape : Nat → Int32) (v_taped : Int32) (v_fault : Int32) (v_faultPlace : Int32) (v_at : Int32) (v_place : Int32) (v_token : Int32) (v_number : Int32) (v_word : Int64) (v_text0 : Int32) (v_written : Int32) (v_sort0 : Int32) (v_pile : Nat → Int32) (v_piled : Int32) (v_opens : Int32) (v_isWhole : Int32) (v_once : Int32) (v_named : Nat → Int32) (v_values : Nat → Int64) (v_truth : Nat → Int32) (v_isWritten : Int32) (v_died : Int32) (v_aside : Nat → Int32) (v_likely : Nat → Int32) (v_safe : Nat → Int32) (v_headOf : Nat → Int32) (o_r : Int32) (hf : f_X12_openAt N v_pile v_piled = some o_r) : ∀ sz, Met l yX12_openAt (mw yX12_openAt cX12_openAt 2 (some .int)) ({ frames := 0, cells := 0, slots := 0, locals := 0 } : Room) (mPre D (mT cI cJ cZ cB cT) (WM h q cI cJ cZ v_a v_image v_texts v_tape v_taped v_fault v_faultPlace v_at v_place v_token v_number v_word v_text0 v_written v_sort0 v_pile v_piled v_opens v_isWhole v_once v_named v_values v_truth v_isWritten v_died v_aside v_likely v_safe v_headOf) sz [.ref h]) ((mQi D (WM h q cI cJ cZ v_a v_image v_texts v_tape v_taped v_fault v_faultPlace v_at v_place v_token v_number v_word v_text0 v_written v_sort0 v_pile v_piled v_opens v_isWhole v_once v_named v_values v_truth v_isWritten v_died v_aside v_likely v_safe v_headOf) o_r True) (va_A (WM h q cI cJ cZ v_a v_image v_texts v_tape v_taped v_fault v_faultPlace v_at v_place v_token v_number v_word v_text0 v_written v_sort0 v_pile v_piled v_opens v_isWhole v_once v_named v_values v_truth v_isWritten v_died v_aside v_likely v_safe v_headOf) sz)) 0 0 (va_A (WM h q cI cJ cZ v_a v_image v_texts v_tape v_taped v_fault v_faultPlace v_at v_place v_token v_number v_word v_text0 v_written v_sort0 v_pile v_piled v_opens v_isWhole v_once v_named v_values v_truth v_isWritten v_died v_aside v_likely v_safe v_headOf) sz) := by
  refine mMet (Qc := (mQi D (WM h q cI cJ cZ v_a v_image v_texts v_tape v_taped v_fault v_faultPlace v_at v_place v_token v_number v_word v_text0 v_written v_sort0 v_pile v_piled v_opens v_isWhole v_once v_named v_values v_truth v_isWritten v_died v_aside v_likely v_safe v_headOf) o_r True)) (by decide) (Nat.le_of_ble_eq_true rfl) (fun p e s m below meth c A ls hx hb hr hml hts hown hlocks hK hA hP hD hl => ?_)
  have hown : s.vm.findClass RX12 = some m.cls := hown
  have hl : lv_has ls 2 [(0, .ref h)] := hl
  have hS : va_S A s.heap s.heap [] := va_S.rf
  have b7 : ∀ n7 : Nat, ∀ (x1 : Int32) (H : Heap) (locs : List Loc) (ls : Array Slot), f_X12_openAt_7 N n7 v_pile v_piled x1 = some o_r → va_P D vwCl (WM h q cI cJ cZ v_a v_image v_texts v_tape v_taped v_fault v_faultPlace v_at v_place v_token v_number v_word v_text0 v_written v_sort0 v_pile v_piled v_opens v_isWhole v_once v_named v_values v_truth v_isWritten v_died v_aside v_likely v_safe v_headOf) H → va_D A (WM h q cI cJ cZ v_a v_image v_texts v_tape v_taped v_fault v_faultPlace v_at v_place v_token v_number v_word v_text0 v_written v_sort0 v_pile v_piled v_opens v_isWhole v_once v_named v_values v_truth v_isWritten v_died v_aside v_likely v_safe v_headOf) → va_S A s.heap H locs → lv_has ls 2 [(0, .ref h), (1, .int x1)] → W p l e ({ frames := 0, cells := 0, slots := 0, locals := 0 } : Room) s m ([.ref h] : List Value).toArray below meth c H locs 0 0 (MQ below ((mQi D (WM h q cI cJ cZ v_a v_image v_texts v_tape v_taped v_fault v_faultPlace v_at v_place v_token v_number v_word v_text0 v_written v_sort0 v_pile v_piled v_opens v_isWhole v_once v_named v_values v_truth v_isWritten v_died v_aside v_likely v_safe v_headOf) o_r True) A) ([.ref h] : List Value).toArray s 0 0 A) (F0 m 7 ls []) := by
    intro n7
    induction n7 with
    | zero =>
      intro x1 H locs ls hf hP hD hS hl
      simp [f_X12_openAt_7] at hf
    | succ n7 ih7 =>
      intro x1 H locs ls hf hP hD hS hl
      rw [f_X12_openAt_7.eq_2] at hf
      refine lv_iload_n hx hb dX12_openAt_7 rfl (lv_at hl 1 rfl) ?_
      refine xif_lt hx hb 28 dX12_openAt_8 (by decide) hf (fun hf => ?_) (fun hf => ?_)
      · refine lv_iload_n hx hb dX12_openAt_28 rfl (lv_at hl 1 rfl) ?_
        cases hf
        exact mret_i hx hb hr hlocks hP hD hS dX12_openAt_29 rfl trivial
      · refine lv_aload_n hx hb dX12_openAt_11 rfl (lv_at hl 0 rfl) ?_
        refine gfX12_29 hx hb hts hown hK hP 0 rfl rfl dX12_openAt_12 ?_
        refine lv_iload_n hx hb dX12_openAt_15 rfl (lv_at hl 1 rfl) ?_
        refine xiald hx hb hK hP 5 0 rfl rfl dX12_openAt_16 hf (fun v16 hf => ?_)
        refine lv_bipush (v := (40 : Int32)) hx hb dX12_openAt_17 (by decide) ?_
        refine xicmp_ge hx hb 28 dX12_openAt_19 (by decide) hf (fun hf => ?_) (fun hf => ?_)
        · refine lv_iload_n hx hb dX12_openAt_28 rfl (lv_at hl 1 rfl) ?_
          cases hf
          exact mret_i hx hb hr hlocks hP hD hS dX12_openAt_29 rfl trivial
        · refine lv_iinc (v := (x1 + (-1 : Int32))) (lv' := [(1, .int (x1 + (-1 : Int32))), (0, .ref h)]) hx hb dX12_openAt_22 hl (k := 1) rfl rfl (by decide) rfl (fun ls hl => ?_)
          refine lv_goto (tgt := 7) hx hb dX12_openAt_25 (by decide) ?_
          exact ih7 (x1 + (-1 : Int32)) _ _ _ hf hP hD hS (lv_sub hl [1, 0] rfl)
  unfold f_X12_openAt at hf
  refine lv_aload_n hx hb dX12_openAt_0 rfl (lv_at hl 0 rfl) ?_
  refine gfX12_157 hx hb hts hown hK hP 0 rfl rfl dX12_openAt_1 ?_
  refine lv_iconst (v := (1 : Int32)) hx hb dX12_openAt_4 (by decide) ?_
  refine lv_isub hx hb dX12_openAt_5 ?_
  refine lv_istore_n (lv' := [(1, .int (v_piled - (1 : Int32))), (0, .ref h)]) hx hb dX12_openAt_6 rfl hl (by decide) rfl (fun ls hl => ?_)
  exact b7 N (v_piled - (1 : Int32)) _ _ _ hf hP hD hS (lv_sub hl [1, 0] rfl)
theorem dX12_openNow_0 : decode cX12_openNow 0 = .ok (.aload_n 0, 1) := by decide +kernel
theorem dX12_openNow_1 : decode cX12_openNow 1 = .ok (.invokevirtual 170, 3) := by decide +kernel
theorem dX12_openNow_4 : decode cX12_openNow 4 = .ok (.ifCond .ge 7, 3) := by decide +kernel
theorem dX12_openNow_7 : decode cX12_openNow 7 = .ok (.iconst (-1), 1) := by decide +kernel
theorem dX12_openNow_8 : decode cX12_openNow 8 = .ok (.goto 12, 3) := by decide +kernel
theorem dX12_openNow_11 : decode cX12_openNow 11 = .ok (.aload_n 0, 1) := by decide +kernel
theorem dX12_openNow_12 : decode cX12_openNow 12 = .ok (.getfield 29, 3) := by decide +kernel
theorem dX12_openNow_15 : decode cX12_openNow 15 = .ok (.aload_n 0, 1) := by decide +kernel
theorem dX12_openNow_16 : decode cX12_openNow 16 = .ok (.invokevirtual 170, 3) := by decide +kernel
theorem dX12_openNow_19 : decode cX12_openNow 19 = .ok (.iaload, 1) := by decide +kernel
theorem dX12_openNow_20 : decode cX12_openNow 20 = .ok (.ireturn, 1) := by decide +kernel
def f_X12_openNow (N : Nat) (v_pile : Nat → Int32) (v_piled : Int32) : Option (Int32) := ob1 (f_X12_openAt N v_pile v_piled) fun r1 => if 0 ≤ r1 then (ob1 (f_X12_openAt N v_pile v_piled) fun r16 => gA v_pile 160 r16 fun v19 => some v19) else (some (-1 : Int32))
set_option maxHeartbeats 4000000 in
set_option maxRecDepth 100000 in
theorem k_X12_openNow (l : Launch) (N : Nat) (D : va_G) (cI cJ cZ cB cT : ClassId) (h : Nat) (q : Nat → Nat) (v_a : Nat → Int32) (v_image : Nat → Int32) (v_texts : Nat → Int32) (v_tape : Nat → Int32) (v_taped : Int32) (v_fault : Int32) (v_faultPlace : Int32) (v_at : Int32) (v_place : Int32) (v_token : Int32) (v_number : Int32) (v_word : Int64) (v_text0 : Int32) (v_written : Int32) (v_sort0 : Int32) (v_pile : Nat → Int32) (v_piled : Int32) (v_opens : Int32) (v_isWhole : Int32) (v_once : Int32) (v_named : Nat → Int32) (v_values : Nat → Int64) (v_truth : Nat → Int32) (v_isWritten : Int32) (v_died : Int32) (v_aside : Nat → Int32) (v_likely : Nat → Int32) (v_safe : Nat → Int32) (v_headOf : Nat → Int32) (o_r : Int32) (hf : f_X12_openNow N v_pile v_piled = some o_r) : ∀ sz, Met l yX12_openNow (mw yX12_openNow cX12_openNow 1 (some .int)) ({ frames := 1, cells := 0, slots := 0, locals := 21 } : Room) (mPre D (mT cI cJ cZ cB cT) (WM h q cI cJ cZ v_a v_image v_texts v_tape v_taped v_fault v_faultPlace v_at v_place v_token v_number v_word v_text0 v_written v_sort0 v_pile v_piled v_opens v_isWhole v_once v_named v_values v_truth v_isWritten v_died v_aside v_likely v_safe v_headOf) sz [.ref h]) ((mQi D (WM h q cI cJ cZ v_a v_image v_texts v_tape v_taped v_fault v_faultPlace v_at v_place v_token v_number v_word v_text0 v_written v_sort0 v_pile v_piled v_opens v_isWhole v_once v_named v_values v_truth v_isWritten v_died v_aside v_likely v_safe v_headOf) o_r True) (va_A (WM h q cI cJ cZ v_a v_image v_texts v_tape v_taped v_fault v_faultPlace v_at v_place v_token v_number v_word v_text0 v_written v_sort0 v_pile v_piled v_opens v_isWhole v_once v_named v_values v_truth v_isWritten v_died v_aside v_likely v_safe v_headOf) sz)) 0 0 (va_A (WM h q cI cJ cZ v_a v_image v_texts v_tape v_taped v_fault v_faultPlace v_at v_place v_token v_number v_word v_text0 v_written v_sort0 v_pile v_piled v_opens v_isWhole v_once v_named v_values v_truth v_isWritten v_died v_aside v_likely v_safe v_headOf) sz) := by
  refine mMet (Qc := (mQi D (WM h q cI cJ cZ v_a v_image v_texts v_tape v_taped v_fault v_faultPlace v_at v_place v_token v_number v_word v_text0 v_written v_sort0 v_pile v_piled v_opens v_isWhole v_once v_named v_values v_truth v_isWritten v_died v_aside v_likely v_safe v_headOf) o_r True)) (by decide) (Nat.le_of_ble_eq_true rfl) (fun p e s m below meth c A ls hx hb hr hml hts hown hlocks hK hA hP hD hl => ?_)
  have hown : s.vm.findClass RX12 = some m.cls := hown
  have hl : lv_has ls 1 [(0, .ref h)] := hl
  have hS : va_S A s.heap s.heap [] := va_S.rf
  unfold f_X12_openNow at hf
  refine lv_aload_n hx hb dX12_openNow_0 rfl (lv_at hl 0 rfl) ?_
  obtain ⟨r1, hg1, hf⟩ := ob1_some hf
  refine mcV1_i (As := []) (rest := []) hx hb hml hown hts hK hP hD hS hA (k_X12_openAt l N D cI cJ cZ cB cT h q v_a v_image v_texts v_tape v_taped v_fault v_faultPlace v_at v_place v_token v_number v_word v_text0 v_written v_sort0 v_pile v_piled v_opens v_isWhole v_once v_named v_values v_truth v_isWritten v_died v_aside v_likely v_safe v_headOf r1 hg1) (kwX12_170 hts rfl rfl ⟨Nat.le_of_ble_eq_true rfl, Nat.le_of_ble_eq_true rfl⟩) 0 rfl rfl rfl rfl hl.1 rfl (Nat.le_of_ble_eq_true rfl) dX12_openNow_1 ⟨Nat.zero_le _, Nat.zero_le _⟩ (fun hB1 H locs hP hD hS => ?_)
  have hP : va_P D vwCl (WM h q cI cJ cZ v_a v_image v_texts v_tape v_taped v_fault v_faultPlace v_at v_place v_token v_number v_word v_text0 v_written v_sort0 v_pile v_piled v_opens v_isWhole v_once v_named v_values v_truth v_isWritten v_died v_aside v_likely v_safe v_headOf) H := hP
  have hD : va_D A (WM h q cI cJ cZ v_a v_image v_texts v_tape v_taped v_fault v_faultPlace v_at v_place v_token v_number v_word v_text0 v_written v_sort0 v_pile v_piled v_opens v_isWhole v_once v_named v_values v_truth v_isWritten v_died v_aside v_likely v_safe v_headOf) := hD
  refine xif_ge hx hb 11 dX12_openNow_4 (by decide) hf (fun hf => ?_) (fun hf => ?_)
  · refine lv_aload_n hx hb dX12_openNow_11 rfl (lv_at hl 0 rfl) ?_
    refine gfX12_29 hx hb hts hown hK hP 0 rfl rfl dX12_openNow_12 ?_
    refine lv_aload_n hx hb dX12_openNow_15 rfl (lv_at hl 0 rfl) ?_
    obtain ⟨r16, hg16, hf⟩ := ob1_some hf
    refine mcV1_i (As := []) (rest := [.ref (q 4)]) hx hb hml hown hts hK hP hD hS hA (k_X12_openAt l N D cI cJ cZ cB cT h q v_a v_image v_texts v_tape v_taped v_fault v_faultPlace v_at v_place v_token v_number v_word v_text0 v_written v_sort0 v_pile v_piled v_opens v_isWhole v_once v_named v_values v_truth v_isWritten v_died v_aside v_likely v_safe v_headOf r16 hg16) (kwX12_170 hts rfl rfl ⟨Nat.le_of_ble_eq_true rfl, Nat.le_of_ble_eq_true rfl⟩) 0 rfl rfl rfl rfl hl.1 rfl (Nat.le_of_ble_eq_true rfl) dX12_openNow_16 ⟨Nat.zero_le _, Nat.zero_le _⟩ (fun hB16 H locs hP hD hS => ?_)
    have hP : va_P D vwCl (WM h q cI cJ cZ v_a v_image v_texts v_tape v_taped v_fault v_faultPlace v_at v_place v_token v_number v_word v_text0 v_written v_sort0 v_pile v_piled v_opens v_isWhole v_once v_named v_values v_truth v_isWritten v_died v_aside v_likely v_safe v_headOf) H := hP
    have hD : va_D A (WM h q cI cJ cZ v_a v_image v_texts v_tape v_taped v_fault v_faultPlace v_at v_place v_token v_number v_word v_text0 v_written v_sort0 v_pile v_piled v_opens v_isWhole v_once v_named v_values v_truth v_isWritten v_died v_aside v_likely v_safe v_headOf) := hD
    refine xiald hx hb hK hP 5 0 rfl rfl dX12_openNow_19 hf (fun v19 hf => ?_)
    cases hf
    exact mret_i hx hb hr hlocks hP hD hS dX12_openNow_20 rfl trivial
  · refine lv_iconst (v := (-1 : Int32)) hx hb dX12_openNow_7 (by decide) ?_
    refine lv_goto (tgt := 20) hx hb dX12_openNow_8 (by decide) ?_
    cases hf
    exact mret_i hx hb hr hlocks hP hD hS dX12_openNow_20 rfl trivial
theorem dX12_isCompared_0 : decode cX12_isCompared 0 = .ok (.aload_n 0, 1) := by decide +kernel
theorem dX12_isCompared_1 : decode cX12_isCompared 1 = .ok (.getfield 157, 3) := by decide +kernel
theorem dX12_isCompared_4 : decode cX12_isCompared 4 = .ok (.iconst 1, 1) := by decide +kernel
theorem dX12_isCompared_5 : decode cX12_isCompared 5 = .ok (.isub, 1) := by decide +kernel
theorem dX12_isCompared_6 : decode cX12_isCompared 6 = .ok (.istore_n 1, 1) := by decide +kernel
theorem dX12_isCompared_7 : decode cX12_isCompared 7 = .ok (.iload_n 1, 1) := by decide +kernel
theorem dX12_isCompared_8 : decode cX12_isCompared 8 = .ok (.ifCond .lt 22, 3) := by decide +kernel
theorem dX12_isCompared_11 : decode cX12_isCompared 11 = .ok (.aload_n 0, 1) := by decide +kernel
theorem dX12_isCompared_12 : decode cX12_isCompared 12 = .ok (.getfield 29, 3) := by decide +kernel
theorem dX12_isCompared_15 : decode cX12_isCompared 15 = .ok (.iload_n 1, 1) := by decide +kernel
theorem dX12_isCompared_16 : decode cX12_isCompared 16 = .ok (.iaload, 1) := by decide +kernel
theorem dX12_isCompared_17 : decode cX12_isCompared 17 = .ok (.invokestatic 160, 3) := by decide +kernel
theorem dX12_isCompared_20 : decode cX12_isCompared 20 = .ok (.iconst 4, 1) := by decide +kernel
theorem dX12_isCompared_21 : decode cX12_isCompared 21 = .ok (.if_icmp .le 9, 3) := by decide +kernel
theorem dX12_isCompared_24 : decode cX12_isCompared 24 = .ok (.iinc 1 (-1), 3) := by decide +kernel
theorem dX12_isCompared_27 : decode cX12_isCompared 27 = .ok (.goto (-20), 3) := by decide +kernel
theorem dX12_isCompared_30 : decode cX12_isCompared 30 = .ok (.iload_n 1, 1) := by decide +kernel
theorem dX12_isCompared_31 : decode cX12_isCompared 31 = .ok (.ifCond .lt 20, 3) := by decide +kernel
theorem dX12_isCompared_34 : decode cX12_isCompared 34 = .ok (.aload_n 0, 1) := by decide +kernel
theorem dX12_isCompared_35 : decode cX12_isCompared 35 = .ok (.getfield 29, 3) := by decide +kernel
theorem dX12_isCompared_38 : decode cX12_isCompared 38 = .ok (.iload_n 1, 1) := by decide +kernel
theorem dX12_isCompared_39 : decode cX12_isCompared 39 = .ok (.iaload, 1) := by decide +kernel
theorem dX12_isCompared_40 : decode cX12_isCompared 40 = .ok (.invokestatic 160, 3) := by decide +kernel
theorem dX12_isCompared_43 : decode cX12_isCompared 43 = .ok (.iconst 4, 1) := by decide +kernel
theorem dX12_isCompared_44 : decode cX12_isCompared 44 = .ok (.if_icmp .ne 7, 3) := by decide +kernel
theorem dX12_isCompared_47 : decode cX12_isCompared 47 = .ok (.iconst 1, 1) := by decide +kernel
theorem dX12_isCompared_48 : decode cX12_isCompared 48 = .ok (.goto 4, 3) := by decide +kernel
theorem dX12_isCompared_51 : decode cX12_isCompared 51 = .ok (.iconst 0, 1) := by decide +kernel
theorem dX12_isCompared_52 : decode cX12_isCompared 52 = .ok (.ireturn, 1) := by decide +kernel
def f_X12_isCompared_30 (N : Nat) (v_pile : Nat → Int32) (v_piled : Int32) (x1 : Int32) : Option (Int32) := if x1 < 0 then (some (0 : Int32)) else (gA v_pile 160 x1 fun v39 => ob1 (f_X12_rank N v39) fun r40 => if r40 = (4 : Int32) then (some (1 : Int32)) else (some (0 : Int32)))
def f_X12_isCompared_7 (N : Nat) : Nat → (Nat → Int32) → Int32 → Int32 → Option (Int32)
  | 0, _, _, _ => none
  | n + 1, v_pile, v_piled, x1 => if x1 < 0 then (f_X12_isCompared_30 N v_pile v_piled x1) else (gA v_pile 160 x1 fun v16 => ob1 (f_X12_rank N v16) fun r17 => if r17 ≤ (4 : Int32) then (f_X12_isCompared_30 N v_pile v_piled x1) else ((f_X12_isCompared_7 N n) v_pile v_piled (x1 + (-1 : Int32))))
def f_X12_isCompared (N : Nat) (v_pile : Nat → Int32) (v_piled : Int32) : Option (Int32) := f_X12_isCompared_7 N N v_pile v_piled (v_piled - (1 : Int32))
set_option maxHeartbeats 4000000 in
set_option maxRecDepth 100000 in
theorem k_X12_isCompared (l : Launch) (N : Nat) (D : va_G) (cI cJ cZ cB cT : ClassId) (h : Nat) (q : Nat → Nat) (v_a : Nat → Int32) (v_image : Nat → Int32) (v_texts : Nat → Int32) (v_tape : Nat → Int32) (v_taped : Int32) (v_fault : Int32) (v_faultPlace : Int32) (v_at : Int32) (v_place : Int32) (v_token : Int32) (v_number : Int32) (v_word : Int64) (v_text0 : Int32) (v_written : Int32) (v_sort0 : Int32) (v_pile : Nat → Int32) (v_piled : Int32) (v_opens : Int32) (v_isWhole : Int32) (v_once : Int32) (v_named : Nat → Int32) (v_values : Nat → Int64) (v_truth : Nat → Int32) (v_isWritten : Int32) (v_died : Int32) (v_aside : Nat → Int32) (v_likely : Nat → Int32) (v_safe : Nat → Int32) (v_headOf : Nat → Int32) (o_r : Int32) (hf : f_X12_isCompared N v_pile v_piled = some o_r) : ∀ sz, Met l yX12_isCompared (mw yX12_isCompared cX12_isCompared 2 (some .boolean)) ({ frames := 1, cells := 0, slots := 0, locals := 20 } : Room) (mPre D (mT cI cJ cZ cB cT) (WM h q cI cJ cZ v_a v_image v_texts v_tape v_taped v_fault v_faultPlace v_at v_place v_token v_number v_word v_text0 v_written v_sort0 v_pile v_piled v_opens v_isWhole v_once v_named v_values v_truth v_isWritten v_died v_aside v_likely v_safe v_headOf) sz [.ref h]) ((mQi D (WM h q cI cJ cZ v_a v_image v_texts v_tape v_taped v_fault v_faultPlace v_at v_place v_token v_number v_word v_text0 v_written v_sort0 v_pile v_piled v_opens v_isWhole v_once v_named v_values v_truth v_isWritten v_died v_aside v_likely v_safe v_headOf) o_r (mB o_r)) (va_A (WM h q cI cJ cZ v_a v_image v_texts v_tape v_taped v_fault v_faultPlace v_at v_place v_token v_number v_word v_text0 v_written v_sort0 v_pile v_piled v_opens v_isWhole v_once v_named v_values v_truth v_isWritten v_died v_aside v_likely v_safe v_headOf) sz)) 0 0 (va_A (WM h q cI cJ cZ v_a v_image v_texts v_tape v_taped v_fault v_faultPlace v_at v_place v_token v_number v_word v_text0 v_written v_sort0 v_pile v_piled v_opens v_isWhole v_once v_named v_values v_truth v_isWritten v_died v_aside v_likely v_safe v_headOf) sz) := by
  refine mMet (Qc := (mQi D (WM h q cI cJ cZ v_a v_image v_texts v_tape v_taped v_fault v_faultPlace v_at v_place v_token v_number v_word v_text0 v_written v_sort0 v_pile v_piled v_opens v_isWhole v_once v_named v_values v_truth v_isWritten v_died v_aside v_likely v_safe v_headOf) o_r (mB o_r))) (by decide) (Nat.le_of_ble_eq_true rfl) (fun p e s m below meth c A ls hx hb hr hml hts hown hlocks hK hA hP hD hl => ?_)
  have hown : s.vm.findClass RX12 = some m.cls := hown
  have hl : lv_has ls 2 [(0, .ref h)] := hl
  have hS : va_S A s.heap s.heap [] := va_S.rf
  have b30 : ∀ (x1 : Int32) (H : Heap) (locs : List Loc) (ls : Array Slot), f_X12_isCompared_30 N v_pile v_piled x1 = some o_r → va_P D vwCl (WM h q cI cJ cZ v_a v_image v_texts v_tape v_taped v_fault v_faultPlace v_at v_place v_token v_number v_word v_text0 v_written v_sort0 v_pile v_piled v_opens v_isWhole v_once v_named v_values v_truth v_isWritten v_died v_aside v_likely v_safe v_headOf) H → va_D A (WM h q cI cJ cZ v_a v_image v_texts v_tape v_taped v_fault v_faultPlace v_at v_place v_token v_number v_word v_text0 v_written v_sort0 v_pile v_piled v_opens v_isWhole v_once v_named v_values v_truth v_isWritten v_died v_aside v_likely v_safe v_headOf) → va_S A s.heap H locs → lv_has ls 2 [(0, .ref h), (1, .int x1)] → W p l e ({ frames := 1, cells := 0, slots := 0, locals := 20 } : Room) s m ([.ref h] : List Value).toArray below meth c H locs 0 0 (MQ below ((mQi D (WM h q cI cJ cZ v_a v_image v_texts v_tape v_taped v_fault v_faultPlace v_at v_place v_token v_number v_word v_text0 v_written v_sort0 v_pile v_piled v_opens v_isWhole v_once v_named v_values v_truth v_isWritten v_died v_aside v_likely v_safe v_headOf) o_r (mB o_r)) A) ([.ref h] : List Value).toArray s 0 0 A) (F0 m 30 ls []) := by
    intro x1 H locs ls hf hP hD hS hl
    unfold f_X12_isCompared_30 at hf
    refine lv_iload_n hx hb dX12_isCompared_30 rfl (lv_at hl 1 rfl) ?_
    refine xif_lt hx hb 51 dX12_isCompared_31 (by decide) hf (fun hf => ?_) (fun hf => ?_)
    · refine lv_iconst (v := (0 : Int32)) hx hb dX12_isCompared_51 (by decide) ?_
      cases hf
      exact mret_z hx hb hr hlocks hP hD hS dX12_isCompared_52 rfl rfl
    · refine lv_aload_n hx hb dX12_isCompared_34 rfl (lv_at hl 0 rfl) ?_
      refine gfX12_29 hx hb hts hown hK hP 0 rfl rfl dX12_isCompared_35 ?_
      refine lv_iload_n hx hb dX12_isCompared_38 rfl (lv_at hl 1 rfl) ?_
      refine xiald hx hb hK hP 5 0 rfl rfl dX12_isCompared_39 hf (fun v39 hf => ?_)
      obtain ⟨r40, hg40, hf⟩ := ob1_some hf
      refine mcS0_i (As := [.int v39]) (rest := []) hx hb hml hown hts hK hP hD hS hA (k_X12_rank l N D cI cJ cZ cB cT v39 r40 hg40) (kwX12_160 hts rfl rfl ⟨Nat.le_of_ble_eq_true rfl, Nat.le_of_ble_eq_true rfl⟩) rfl hl.1 rfl (Nat.le_of_ble_eq_true rfl) dX12_isCompared_40 ⟨Nat.zero_le _, Nat.zero_le _⟩ (fun hB40 H locs hP hD hS => ?_)
      refine lv_iconst (v := (4 : Int32)) hx hb dX12_isCompared_43 (by decide) ?_
      refine xicmp_ne hx hb 51 dX12_isCompared_44 (by decide) hf (fun hf => ?_) (fun hf => ?_)
      · refine lv_iconst (v := (1 : Int32)) hx hb dX12_isCompared_47 (by decide) ?_
        refine lv_goto (tgt := 52) hx hb dX12_isCompared_48 (by decide) ?_
        cases hf
        exact mret_z hx hb hr hlocks hP hD hS dX12_isCompared_52 rfl rfl
      · refine lv_iconst (v := (0 : Int32)) hx hb dX12_isCompared_51 (by decide) ?_
        cases hf
        exact mret_z hx hb hr hlocks hP hD hS dX12_isCompared_52 rfl rfl
  have b7 : ∀ n7 : Nat, ∀ (x1 : Int32) (H : Heap) (locs : List Loc) (ls : Array Slot), f_X12_isCompared_7 N n7 v_pile v_piled x1 = some o_r → va_P D vwCl (WM h q cI cJ cZ v_a v_image v_texts v_tape v_taped v_fault v_faultPlace v_at v_place v_token v_number v_word v_text0 v_written v_sort0 v_pile v_piled v_opens v_isWhole v_once v_named v_values v_truth v_isWritten v_died v_aside v_likely v_safe v_headOf) H → va_D A (WM h q cI cJ cZ v_a v_image v_texts v_tape v_taped v_fault v_faultPlace v_at v_place v_token v_number v_word v_text0 v_written v_sort0 v_pile v_piled v_opens v_isWhole v_once v_named v_values v_truth v_isWritten v_died v_aside v_likely v_safe v_headOf) → va_S A s.heap H locs → lv_has ls 2 [(0, .ref h), (1, .int x1)] → W p l e ({ frames := 1, cells := 0, slots := 0, locals := 20 } : Room) s m ([.ref h] : List Value).toArray below meth c H locs 0 0 (MQ below ((mQi D (WM h q cI cJ cZ v_a v_image v_texts v_tape v_taped v_fault v_faultPlace v_at v_place v_token v_number v_word v_text0 v_written v_sort0 v_pile v_piled v_opens v_isWhole v_once v_named v_values v_truth v_isWritten v_died v_aside v_likely v_safe v_headOf) o_r (mB o_r)) A) ([.ref h] : List Value).toArray s 0 0 A) (F0 m 7 ls []) := by
    intro n7
    induction n7 with
    | zero =>
      intro x1 H locs ls hf hP hD hS hl
      simp [f_X12_isCompared_7] at hf
    | succ n7 ih7 =>
      intro x1 H locs ls hf hP hD hS hl
      rw [f_X12_isCompared_7.eq_2] at hf
      refine lv_iload_n hx hb dX12_isCompared_7 rfl (lv_at hl 1 rfl) ?_
      refine xif_lt hx hb 30 dX12_isCompared_8 (by decide) hf (fun hf => ?_) (fun hf => ?_)
      · exact b30 x1 _ _ _ hf hP hD hS (lv_sub hl [0, 1] rfl)
      · refine lv_aload_n hx hb dX12_isCompared_11 rfl (lv_at hl 0 rfl) ?_
        refine gfX12_29 hx hb hts hown hK hP 0 rfl rfl dX12_isCompared_12 ?_
        refine lv_iload_n hx hb dX12_isCompared_15 rfl (lv_at hl 1 rfl) ?_
        refine xiald hx hb hK hP 5 0 rfl rfl dX12_isCompared_16 hf (fun v16 hf => ?_)
        obtain ⟨r17, hg17, hf⟩ := ob1_some hf
        refine mcS0_i (As := [.int v16]) (rest := []) hx hb hml hown hts hK hP hD hS hA (k_X12_rank l N D cI cJ cZ cB cT v16 r17 hg17) (kwX12_160 hts rfl rfl ⟨Nat.le_of_ble_eq_true rfl, Nat.le_of_ble_eq_true rfl⟩) rfl hl.1 rfl (Nat.le_of_ble_eq_true rfl) dX12_isCompared_17 ⟨Nat.zero_le _, Nat.zero_le _⟩ (fun hB17 H locs hP hD hS => ?_)
        refine lv_iconst (v := (4 : Int32)) hx hb dX12_isCompared_20 (by decide) ?_
        refine xicmp_le hx hb 30 dX12_isCompared_21 (by decide) hf (fun hf => ?_) (fun hf => ?_)
        · exact b30 x1 _ _ _ hf hP hD hS (lv_sub hl [0, 1] rfl)
        · refine lv_iinc (v := (x1 + (-1 : Int32))) (lv' := [(1, .int (x1 + (-1 : Int32))), (0, .ref h)]) hx hb dX12_isCompared_24 hl (k := 1) rfl rfl (by decide) rfl (fun ls hl => ?_)
          refine lv_goto (tgt := 7) hx hb dX12_isCompared_27 (by decide) ?_
          exact ih7 (x1 + (-1 : Int32)) _ _ _ hf hP hD hS (lv_sub hl [1, 0] rfl)
  unfold f_X12_isCompared at hf
  refine lv_aload_n hx hb dX12_isCompared_0 rfl (lv_at hl 0 rfl) ?_
  refine gfX12_157 hx hb hts hown hK hP 0 rfl rfl dX12_isCompared_1 ?_
  refine lv_iconst (v := (1 : Int32)) hx hb dX12_isCompared_4 (by decide) ?_
  refine lv_isub hx hb dX12_isCompared_5 ?_
  refine lv_istore_n (lv' := [(1, .int (v_piled - (1 : Int32))), (0, .ref h)]) hx hb dX12_isCompared_6 rfl hl (by decide) rfl (fun ls hl => ?_)
  exact b7 N (v_piled - (1 : Int32)) _ _ _ hf hP hD hS (lv_sub hl [1, 0] rfl)
theorem dX12_isAskAhead_0 : decode cX12_isAskAhead 0 = .ok (.aload_n 0, 1) := by decide +kernel
theorem dX12_isAskAhead_1 : decode cX12_isAskAhead 1 = .ok (.invokevirtual 174, 3) := by decide +kernel
theorem dX12_isAskAhead_4 : decode cX12_isAskAhead 4 = .ok (.bipush 41, 2) := by decide +kernel
theorem dX12_isAskAhead_6 : decode cX12_isAskAhead 6 = .ok (.if_icmp .ne 45, 3) := by decide +kernel
theorem dX12_isAskAhead_9 : decode cX12_isAskAhead 9 = .ok (.aload_n 0, 1) := by decide +kernel
theorem dX12_isAskAhead_10 : decode cX12_isAskAhead 10 = .ok (.getfield 29, 3) := by decide +kernel
theorem dX12_isAskAhead_13 : decode cX12_isAskAhead 13 = .ok (.aload_n 0, 1) := by decide +kernel
theorem dX12_isAskAhead_14 : decode cX12_isAskAhead 14 = .ok (.getfield 157, 3) := by decide +kernel
theorem dX12_isAskAhead_17 : decode cX12_isAskAhead 17 = .ok (.iconst 1, 1) := by decide +kernel
theorem dX12_isAskAhead_18 : decode cX12_isAskAhead 18 = .ok (.isub, 1) := by decide +kernel
theorem dX12_isAskAhead_19 : decode cX12_isAskAhead 19 = .ok (.iaload, 1) := by decide +kernel
theorem dX12_isAskAhead_20 : decode cX12_isAskAhead 20 = .ok (.bipush 40, 2) := by decide +kernel
theorem dX12_isAskAhead_22 : decode cX12_isAskAhead 22 = .ok (.if_icmp .ge 25, 3) := by decide +kernel
theorem dX12_isAskAhead_25 : decode cX12_isAskAhead 25 = .ok (.aload_n 0, 1) := by decide +kernel
theorem dX12_isAskAhead_26 : decode cX12_isAskAhead 26 = .ok (.getfield 29, 3) := by decide +kernel
theorem dX12_isAskAhead_29 : decode cX12_isAskAhead 29 = .ok (.aload_n 0, 1) := by decide +kernel
theorem dX12_isAskAhead_30 : decode cX12_isAskAhead 30 = .ok (.getfield 157, 3) := by decide +kernel
theorem dX12_isAskAhead_33 : decode cX12_isAskAhead 33 = .ok (.iconst 1, 1) := by decide +kernel
theorem dX12_isAskAhead_34 : decode cX12_isAskAhead 34 = .ok (.isub, 1) := by decide +kernel
theorem dX12_isAskAhead_35 : decode cX12_isAskAhead 35 = .ok (.iaload, 1) := by decide +kernel
theorem dX12_isAskAhead_36 : decode cX12_isAskAhead 36 = .ok (.invokestatic 160, 3) := by decide +kernel
theorem dX12_isAskAhead_39 : decode cX12_isAskAhead 39 = .ok (.iconst 1, 1) := by decide +kernel
theorem dX12_isAskAhead_40 : decode cX12_isAskAhead 40 = .ok (.iconst 3, 1) := by decide +kernel
theorem dX12_isAskAhead_41 : decode cX12_isAskAhead 41 = .ok (.invokestatic 63, 3) := by decide +kernel
theorem dX12_isAskAhead_44 : decode cX12_isAskAhead 44 = .ok (.ifCond .eq 7, 3) := by decide +kernel
theorem dX12_isAskAhead_47 : decode cX12_isAskAhead 47 = .ok (.iconst 1, 1) := by decide +kernel
theorem dX12_isAskAhead_48 : decode cX12_isAskAhead 48 = .ok (.goto 4, 3) := by decide +kernel
theorem dX12_isAskAhead_51 : decode cX12_isAskAhead 51 = .ok (.iconst 0, 1) := by decide +kernel
theorem dX12_isAskAhead_52 : decode cX12_isAskAhead 52 = .ok (.ireturn, 1) := by decide +kernel
def f_X12_isAskAhead_47 (N : Nat) (v_pile : Nat → Int32) (v_piled : Int32) : Option (Int32) := some (1 : Int32)
def f_X12_isAskAhead (N : Nat) (v_pile : Nat → Int32) (v_piled : Int32) : Option (Int32) := ob1 (f_X12_openNow N v_pile v_piled) fun r1 => if r1 = (41 : Int32) then (gA v_pile 160 (v_piled - (1 : Int32)) fun v19 => if (40 : Int32) ≤ v19 then (f_X12_isAskAhead_47 N v_pile v_piled) else (gA v_pile 160 (v_piled - (1 : Int32)) fun v35 => ob1 (f_X12_rank N v35) fun r36 => ob1 (f_X12_isIn N r36 (1 : Int32) (3 : Int32)) fun r41 => if r41 = 0 then (some (0 : Int32)) else (f_X12_isAskAhead_47 N v_pile v_piled))) else (some (0 : Int32))
set_option maxHeartbeats 4000000 in
set_option maxRecDepth 100000 in
theorem k_X12_isAskAhead (l : Launch) (N : Nat) (D : va_G) (cI cJ cZ cB cT : ClassId) (h : Nat) (q : Nat → Nat) (v_a : Nat → Int32) (v_image : Nat → Int32) (v_texts : Nat → Int32) (v_tape : Nat → Int32) (v_taped : Int32) (v_fault : Int32) (v_faultPlace : Int32) (v_at : Int32) (v_place : Int32) (v_token : Int32) (v_number : Int32) (v_word : Int64) (v_text0 : Int32) (v_written : Int32) (v_sort0 : Int32) (v_pile : Nat → Int32) (v_piled : Int32) (v_opens : Int32) (v_isWhole : Int32) (v_once : Int32) (v_named : Nat → Int32) (v_values : Nat → Int64) (v_truth : Nat → Int32) (v_isWritten : Int32) (v_died : Int32) (v_aside : Nat → Int32) (v_likely : Nat → Int32) (v_safe : Nat → Int32) (v_headOf : Nat → Int32) (o_r : Int32) (hf : f_X12_isAskAhead N v_pile v_piled = some o_r) : ∀ sz, Met l yX12_isAskAhead (mw yX12_isAskAhead cX12_isAskAhead 1 (some .boolean)) ({ frames := 2, cells := 0, slots := 0, locals := 41 } : Room) (mPre D (mT cI cJ cZ cB cT) (WM h q cI cJ cZ v_a v_image v_texts v_tape v_taped v_fault v_faultPlace v_at v_place v_token v_number v_word v_text0 v_written v_sort0 v_pile v_piled v_opens v_isWhole v_once v_named v_values v_truth v_isWritten v_died v_aside v_likely v_safe v_headOf) sz [.ref h]) ((mQi D (WM h q cI cJ cZ v_a v_image v_texts v_tape v_taped v_fault v_faultPlace v_at v_place v_token v_number v_word v_text0 v_written v_sort0 v_pile v_piled v_opens v_isWhole v_once v_named v_values v_truth v_isWritten v_died v_aside v_likely v_safe v_headOf) o_r (mB o_r)) (va_A (WM h q cI cJ cZ v_a v_image v_texts v_tape v_taped v_fault v_faultPlace v_at v_place v_token v_number v_word v_text0 v_written v_sort0 v_pile v_piled v_opens v_isWhole v_once v_named v_values v_truth v_isWritten v_died v_aside v_likely v_safe v_headOf) sz)) 0 0 (va_A (WM h q cI cJ cZ v_a v_image v_texts v_tape v_taped v_fault v_faultPlace v_at v_place v_token v_number v_word v_text0 v_written v_sort0 v_pile v_piled v_opens v_isWhole v_once v_named v_values v_truth v_isWritten v_died v_aside v_likely v_safe v_headOf) sz) := by
  refine mMet (Qc := (mQi D (WM h q cI cJ cZ v_a v_image v_texts v_tape v_taped v_fault v_faultPlace v_at v_place v_token v_number v_word v_text0 v_written v_sort0 v_pile v_piled v_opens v_isWhole v_once v_named v_values v_truth v_isWritten v_died v_aside v_likely v_safe v_headOf) o_r (mB o_r))) (by decide) (Nat.le_of_ble_eq_true rfl) (fun p e s m below meth c A ls hx hb hr hml hts hown hlocks hK hA hP hD hl => ?_)
  have hown : s.vm.findClass RX12 = some m.cls := hown
  have hl : lv_has ls 1 [(0, .ref h)] := hl
  have hS : va_S A s.heap s.heap [] := va_S.rf
  have b47 : ∀ (H : Heap) (locs : List Loc) (ls : Array Slot), f_X12_isAskAhead_47 N v_pile v_piled = some o_r → va_P D vwCl (WM h q cI cJ cZ v_a v_image v_texts v_tape v_taped v_fault v_faultPlace v_at v_place v_token v_number v_word v_text0 v_written v_sort0 v_pile v_piled v_opens v_isWhole v_once v_named v_values v_truth v_isWritten v_died v_aside v_likely v_safe v_headOf) H → va_D A (WM h q cI cJ cZ v_a v_image v_texts v_tape v_taped v_fault v_faultPlace v_at v_place v_token v_number v_word v_text0 v_written v_sort0 v_pile v_piled v_opens v_isWhole v_once v_named v_values v_truth v_isWritten v_died v_aside v_likely v_safe v_headOf) → va_S A s.heap H locs → lv_has ls 1 [] → W p l e ({ frames := 2, cells := 0, slots := 0, locals := 41 } : Room) s m ([.ref h] : List Value).toArray below meth c H locs 0 0 (MQ below ((mQi D (WM h q cI cJ cZ v_a v_image v_texts v_tape v_taped v_fault v_faultPlace v_at v_place v_token v_number v_word v_text0 v_written v_sort0 v_pile v_piled v_opens v_isWhole v_once v_named v_values v_truth v_isWritten v_died v_aside v_likely v_safe v_headOf) o_r (mB o_r)) A) ([.ref h] : List Value).toArray s 0 0 A) (F0 m 47 ls []) := by
    intro H locs ls hf hP hD hS hl
    unfold f_X12_isAskAhead_47 at hf
    refine lv_iconst (v := (1 : Int32)) hx hb dX12_isAskAhead_47 (by decide) ?_
    refine lv_goto (tgt := 52) hx hb dX12_isAskAhead_48 (by decide) ?_
    cases hf
    exact mret_z hx hb hr hlocks hP hD hS dX12_isAskAhead_52 rfl rfl
  unfold f_X12_isAskAhead at hf
  refine lv_aload_n hx hb dX12_isAskAhead_0 rfl (lv_at hl 0 rfl) ?_
  obtain ⟨r1, hg1, hf⟩ := ob1_some hf
  refine mcV1_i (As := []) (rest := []) hx hb hml hown hts hK hP hD hS hA (k_X12_openNow l N D cI cJ cZ cB cT h q v_a v_image v_texts v_tape v_taped v_fault v_faultPlace v_at v_place v_token v_number v_word v_text0 v_written v_sort0 v_pile v_piled v_opens v_isWhole v_once v_named v_values v_truth v_isWritten v_died v_aside v_likely v_safe v_headOf r1 hg1) (kwX12_174 hts rfl rfl ⟨Nat.le_of_ble_eq_true rfl, Nat.le_of_ble_eq_true rfl⟩) 0 rfl rfl rfl rfl hl.1 rfl (Nat.le_of_ble_eq_true rfl) dX12_isAskAhead_1 ⟨Nat.zero_le _, Nat.zero_le _⟩ (fun hB1 H locs hP hD hS => ?_)
  have hP : va_P D vwCl (WM h q cI cJ cZ v_a v_image v_texts v_tape v_taped v_fault v_faultPlace v_at v_place v_token v_number v_word v_text0 v_written v_sort0 v_pile v_piled v_opens v_isWhole v_once v_named v_values v_truth v_isWritten v_died v_aside v_likely v_safe v_headOf) H := hP
  have hD : va_D A (WM h q cI cJ cZ v_a v_image v_texts v_tape v_taped v_fault v_faultPlace v_at v_place v_token v_number v_word v_text0 v_written v_sort0 v_pile v_piled v_opens v_isWhole v_once v_named v_values v_truth v_isWritten v_died v_aside v_likely v_safe v_headOf) := hD
  refine lv_bipush (v := (41 : Int32)) hx hb dX12_isAskAhead_4 (by decide) ?_
  refine xicmp_ne hx hb 51 dX12_isAskAhead_6 (by decide) hf (fun hf => ?_) (fun hf => ?_)
  · refine lv_aload_n hx hb dX12_isAskAhead_9 rfl (lv_at hl 0 rfl) ?_
    refine gfX12_29 hx hb hts hown hK hP 0 rfl rfl dX12_isAskAhead_10 ?_
    refine lv_aload_n hx hb dX12_isAskAhead_13 rfl (lv_at hl 0 rfl) ?_
    refine gfX12_157 hx hb hts hown hK hP 0 rfl rfl dX12_isAskAhead_14 ?_
    refine lv_iconst (v := (1 : Int32)) hx hb dX12_isAskAhead_17 (by decide) ?_
    refine lv_isub hx hb dX12_isAskAhead_18 ?_
    refine xiald hx hb hK hP 5 0 rfl rfl dX12_isAskAhead_19 hf (fun v19 hf => ?_)
    refine lv_bipush (v := (40 : Int32)) hx hb dX12_isAskAhead_20 (by decide) ?_
    refine xicmp_ge hx hb 47 dX12_isAskAhead_22 (by decide) hf (fun hf => ?_) (fun hf => ?_)
    · exact b47 _ _ _ hf hP hD hS (lv_sub hl [] rfl)
    · refine lv_aload_n hx hb dX12_isAskAhead_25 rfl (lv_at hl 0 rfl) ?_
      refine gfX12_29 hx hb hts hown hK hP 0 rfl rfl dX12_isAskAhead_26 ?_
      refine lv_aload_n hx hb dX12_isAskAhead_29 rfl (lv_at hl 0 rfl) ?_
      refine gfX12_157 hx hb hts hown hK hP 0 rfl rfl dX12_isAskAhead_30 ?_
      refine lv_iconst (v := (1 : Int32)) hx hb dX12_isAskAhead_33 (by decide) ?_
      refine lv_isub hx hb dX12_isAskAhead_34 ?_
      refine xiald hx hb hK hP 5 0 rfl rfl dX12_isAskAhead_35 hf (fun v35 hf => ?_)
      obtain ⟨r36, hg36, hf⟩ := ob1_some hf
      refine mcS0_i (As := [.int v35]) (rest := []) hx hb hml hown hts hK hP hD hS hA (k_X12_rank l N D cI cJ cZ cB cT v35 r36 hg36) (kwX12_160 hts rfl rfl ⟨Nat.le_of_ble_eq_true rfl, Nat.le_of_ble_eq_true rfl⟩) rfl hl.1 rfl (Nat.le_of_ble_eq_true rfl) dX12_isAskAhead_36 ⟨Nat.zero_le _, Nat.zero_le _⟩ (fun hB36 H locs hP hD hS => ?_)
      refine lv_iconst (v := (1 : Int32)) hx hb dX12_isAskAhead_39 (by decide) ?_
      refine lv_iconst (v := (3 : Int32)) hx hb dX12_isAskAhead_40 (by decide) ?_
      obtain ⟨r41, hg41, hf⟩ := ob1_some hf
      refine mcS0_i (As := [.int r36, .int (1 : Int32), .int (3 : Int32)]) (rest := []) hx hb hml hown hts hK hP hD hS hA (k_X12_isIn l N D cI cJ cZ cB cT r36 (1 : Int32) (3 : Int32) r41 hg41) (kwX12_63 hts rfl rfl ⟨Nat.le_of_ble_eq_true rfl, Nat.le_of_ble_eq_true rfl⟩) rfl hl.1 rfl (Nat.le_of_ble_eq_true rfl) dX12_isAskAhead_41 ⟨Nat.zero_le _, Nat.zero_le _⟩ (fun hB41 H locs hP hD hS => ?_)
      refine xif_eq hx hb 51 dX12_isAskAhead_44 (by decide) hf (fun hf => ?_) (fun hf => ?_)
      · refine lv_iconst (v := (0 : Int32)) hx hb dX12_isAskAhead_51 (by decide) ?_
        cases hf
        exact mret_z hx hb hr hlocks hP hD hS dX12_isAskAhead_52 rfl rfl
      · exact b47 _ _ _ hf hP hD hS (lv_sub hl [] rfl)
  · refine lv_iconst (v := (0 : Int32)) hx hb dX12_isAskAhead_51 (by decide) ?_
    cases hf
    exact mret_z hx hb hr hlocks hP hD hS dX12_isAskAhead_52 rfl rfl
theorem dX12_opened_0 : decode cX12_opened 0 = .ok (.aload_n 0, 1) := by decide +kernel
theorem dX12_opened_1 : decode cX12_opened 1 = .ok (.getfield 167, 3) := by decide +kernel
theorem dX12_opened_4 : decode cX12_opened 4 = .ok (.bipush 8, 2) := by decide +kernel
theorem dX12_opened_6 : decode cX12_opened 6 = .ok (.if_icmp .ne 5, 3) := by decide +kernel
theorem dX12_opened_9 : decode cX12_opened 9 = .ok (.iconst 3, 1) := by decide +kernel
theorem dX12_opened_10 : decode cX12_opened 10 = .ok (.ireturn, 1) := by decide +kernel
theorem dX12_opened_11 : decode cX12_opened 11 = .ok (.aload_n 0, 1) := by decide +kernel
theorem dX12_opened_12 : decode cX12_opened 12 = .ok (.dup, 1) := by decide +kernel
theorem dX12_opened_13 : decode cX12_opened 13 = .ok (.getfield 167, 3) := by decide +kernel
theorem dX12_opened_16 : decode cX12_opened 16 = .ok (.iconst 1, 1) := by decide +kernel
theorem dX12_opened_17 : decode cX12_opened 17 = .ok (.iadd, 1) := by decide +kernel
theorem dX12_opened_18 : decode cX12_opened 18 = .ok (.putfield 167, 3) := by decide +kernel
theorem dX12_opened_21 : decode cX12_opened 21 = .ok (.aload_n 0, 1) := by decide +kernel
theorem dX12_opened_22 : decode cX12_opened 22 = .ok (.getfield 29, 3) := by decide +kernel
theorem dX12_opened_25 : decode cX12_opened 25 = .ok (.aload_n 0, 1) := by decide +kernel
theorem dX12_opened_26 : decode cX12_opened 26 = .ok (.getfield 157, 3) := by decide +kernel
theorem dX12_opened_29 : decode cX12_opened 29 = .ok (.iload_n 1, 1) := by decide +kernel
theorem dX12_opened_30 : decode cX12_opened 30 = .ok (.iastore, 1) := by decide +kernel
theorem dX12_opened_31 : decode cX12_opened 31 = .ok (.aload_n 0, 1) := by decide +kernel
theorem dX12_opened_32 : decode cX12_opened 32 = .ok (.dup, 1) := by decide +kernel
theorem dX12_opened_33 : decode cX12_opened 33 = .ok (.getfield 157, 3) := by decide +kernel
theorem dX12_opened_36 : decode cX12_opened 36 = .ok (.iconst 1, 1) := by decide +kernel
theorem dX12_opened_37 : decode cX12_opened 37 = .ok (.iadd, 1) := by decide +kernel
theorem dX12_opened_38 : decode cX12_opened 38 = .ok (.putfield 157, 3) := by decide +kernel
theorem dX12_opened_41 : decode cX12_opened 41 = .ok (.aload_n 0, 1) := by decide +kernel
theorem dX12_opened_42 : decode cX12_opened 42 = .ok (.invokevirtual 177, 3) := by decide +kernel
theorem dX12_opened_45 : decode cX12_opened 45 = .ok (.iconst 0, 1) := by decide +kernel
theorem dX12_opened_46 : decode cX12_opened 46 = .ok (.ireturn, 1) := by decide +kernel
def f_X12_opened (N : Nat) (v_tape : Nat → Int32) (v_taped : Int32) (v_at : Int32) (v_place : Int32) (v_token : Int32) (v_number : Int32) (v_word : Int64) (v_pile : Nat → Int32) (v_piled : Int32) (v_opens : Int32) (p1 : Int32) : Option (Int32 × Int32 × Int32 × Int32 × Int32 × Int64 × (Nat → Int32) × Int32 × Int32) := if v_opens = (8 : Int32) then (some ((3 : Int32), v_at, v_place, v_token, v_number, v_word, v_pile, v_piled, v_opens)) else (sA v_pile 160 v_piled p1 fun v_pile_30 => ob5 (f_X12_nextToken N v_tape v_taped v_at v_place v_token v_number v_word) fun v_at_42 v_place_42 v_token_42 v_number_42 v_word_42 => some ((0 : Int32), v_at_42, v_place_42, v_token_42, v_number_42, v_word_42, v_pile_30, (v_piled + (1 : Int32)), (v_opens + (1 : Int32))))
set_option maxHeartbeats 4000000 in
set_option maxRecDepth 100000 in
theorem k_X12_opened (l : Launch) (N : Nat) (D : va_G) (cI cJ cZ cB cT : ClassId) (h : Nat) (q : Nat → Nat) (v_a : Nat → Int32) (v_image : Nat → Int32) (v_texts : Nat → Int32) (v_tape : Nat → Int32) (v_taped : Int32) (v_fault : Int32) (v_faultPlace : Int32) (v_at : Int32) (v_place : Int32) (v_token : Int32) (v_number : Int32) (v_word : Int64) (v_text0 : Int32) (v_written : Int32) (v_sort0 : Int32) (v_pile : Nat → Int32) (v_piled : Int32) (v_opens : Int32) (v_isWhole : Int32) (v_once : Int32) (v_named : Nat → Int32) (v_values : Nat → Int64) (v_truth : Nat → Int32) (v_isWritten : Int32) (v_died : Int32) (v_aside : Nat → Int32) (v_likely : Nat → Int32) (v_safe : Nat → Int32) (v_headOf : Nat → Int32) (p1 : Int32) (o_r : Int32) (o_v_at : Int32) (o_v_place : Int32) (o_v_token : Int32) (o_v_number : Int32) (o_v_word : Int64) (o_v_pile : Nat → Int32) (o_v_piled : Int32) (o_v_opens : Int32) (hf : f_X12_opened N v_tape v_taped v_at v_place v_token v_number v_word v_pile v_piled v_opens p1 = some (o_r, o_v_at, o_v_place, o_v_token, o_v_number, o_v_word, o_v_pile, o_v_piled, o_v_opens)) : ∀ sz, Met l yX12_opened (mw yX12_opened cX12_opened 2 (some .int)) ({ frames := 2, cells := 0, slots := 0, locals := 42 } : Room) (mPre D (mT cI cJ cZ cB cT) (WM h q cI cJ cZ v_a v_image v_texts v_tape v_taped v_fault v_faultPlace v_at v_place v_token v_number v_word v_text0 v_written v_sort0 v_pile v_piled v_opens v_isWhole v_once v_named v_values v_truth v_isWritten v_died v_aside v_likely v_safe v_headOf) sz [.ref h, .int p1]) ((mQi D (WM h q cI cJ cZ v_a v_image v_texts v_tape v_taped v_fault v_faultPlace o_v_at o_v_place o_v_token o_v_number o_v_word v_text0 v_written v_sort0 o_v_pile o_v_piled o_v_opens v_isWhole v_once v_named v_values v_truth v_isWritten v_died v_aside v_likely v_safe v_headOf) o_r True) (va_A (WM h q cI cJ cZ v_a v_image v_texts v_tape v_taped v_fault v_faultPlace v_at v_place v_token v_number v_word v_text0 v_written v_sort0 v_pile v_piled v_opens v_isWhole v_once v_named v_values v_truth v_isWritten v_died v_aside v_likely v_safe v_headOf) sz)) 0 0 (va_A (WM h q cI cJ cZ v_a v_image v_texts v_tape v_taped v_fault v_faultPlace v_at v_place v_token v_number v_word v_text0 v_written v_sort0 v_pile v_piled v_opens v_isWhole v_once v_named v_values v_truth v_isWritten v_died v_aside v_likely v_safe v_headOf) sz) := by
  refine mMet (Qc := (mQi D (WM h q cI cJ cZ v_a v_image v_texts v_tape v_taped v_fault v_faultPlace o_v_at o_v_place o_v_token o_v_number o_v_word v_text0 v_written v_sort0 o_v_pile o_v_piled o_v_opens v_isWhole v_once v_named v_values v_truth v_isWritten v_died v_aside v_likely v_safe v_headOf) o_r True)) (by decide) (Nat.le_of_ble_eq_true rfl) (fun p e s m below meth c A ls hx hb hr hml hts hown hlocks hK hA hP hD hl => ?_)
  have hown : s.vm.findClass RX12 = some m.cls := hown
  have hl : lv_has ls 2 [(0, .ref h), (1, .int p1)] := hl
  have hS : va_S A s.heap s.heap [] := va_S.rf
  unfold f_X12_opened at hf
  refine lv_aload_n hx hb dX12_opened_0 rfl (lv_at hl 0 rfl) ?_
  refine gfX12_167 hx hb hts hown hK hP 0 rfl rfl dX12_opened_1 ?_
  refine lv_bipush (v := (8 : Int32)) hx hb dX12_opened_4 (by decide) ?_
  refine xicmp_ne hx hb 11 dX12_opened_6 (by decide) hf (fun hf => ?_) (fun hf => ?_)
  · refine lv_iconst (v := (3 : Int32)) hx hb dX12_opened_9 (by decide) ?_
    cases hf
    exact mret_i hx hb hr hlocks hP hD hS dX12_opened_10 rfl trivial
  · refine lv_aload_n hx hb dX12_opened_11 rfl (lv_at hl 0 rfl) ?_
    refine lv_dup hx hb dX12_opened_12 rfl ?_
    refine gfX12_167 hx hb hts hown hK hP 0 rfl rfl dX12_opened_13 ?_
    refine lv_iconst (v := (1 : Int32)) hx hb dX12_opened_16 (by decide) ?_
    refine lv_iadd hx hb dX12_opened_17 ?_
    refine pfX12_167 hx hb hts hown hK hP hD hS 0 rfl (Nat.le_of_ble_eq_true rfl) dX12_opened_18 (fun H locs hP hD hS => ?_)
    have hP : va_P D vwCl (WM h q cI cJ cZ v_a v_image v_texts v_tape v_taped v_fault v_faultPlace v_at v_place v_token v_number v_word v_text0 v_written v_sort0 v_pile v_piled (v_opens + (1 : Int32)) v_isWhole v_once v_named v_values v_truth v_isWritten v_died v_aside v_likely v_safe v_headOf) H := hP
    have hD : va_D A (WM h q cI cJ cZ v_a v_image v_texts v_tape v_taped v_fault v_faultPlace v_at v_place v_token v_number v_word v_text0 v_written v_sort0 v_pile v_piled (v_opens + (1 : Int32)) v_isWhole v_once v_named v_values v_truth v_isWritten v_died v_aside v_likely v_safe v_headOf) := hD
    refine lv_aload_n hx hb dX12_opened_21 rfl (lv_at hl 0 rfl) ?_
    refine gfX12_29 hx hb hts hown hK hP 0 rfl rfl dX12_opened_22 ?_
    refine lv_aload_n hx hb dX12_opened_25 rfl (lv_at hl 0 rfl) ?_
    refine gfX12_157 hx hb hts hown hK hP 0 rfl rfl dX12_opened_26 ?_
    refine lv_iload_n hx hb dX12_opened_29 rfl (lv_at hl 1 rfl) ?_
    refine xiast hx hb hK hP hD hS 5 0 rfl rfl dX12_opened_30 hf (fun v_pile_30 hf H locs hP hD hS => ?_)
    have hP : va_P D vwCl (WM h q cI cJ cZ v_a v_image v_texts v_tape v_taped v_fault v_faultPlace v_at v_place v_token v_number v_word v_text0 v_written v_sort0 v_pile_30 v_piled (v_opens + (1 : Int32)) v_isWhole v_once v_named v_values v_truth v_isWritten v_died v_aside v_likely v_safe v_headOf) H := hP
    have hD : va_D A (WM h q cI cJ cZ v_a v_image v_texts v_tape v_taped v_fault v_faultPlace v_at v_place v_token v_number v_word v_text0 v_written v_sort0 v_pile_30 v_piled (v_opens + (1 : Int32)) v_isWhole v_once v_named v_values v_truth v_isWritten v_died v_aside v_likely v_safe v_headOf) := hD
    refine lv_aload_n hx hb dX12_opened_31 rfl (lv_at hl 0 rfl) ?_
    refine lv_dup hx hb dX12_opened_32 rfl ?_
    refine gfX12_157 hx hb hts hown hK hP 0 rfl rfl dX12_opened_33 ?_
    refine lv_iconst (v := (1 : Int32)) hx hb dX12_opened_36 (by decide) ?_
    refine lv_iadd hx hb dX12_opened_37 ?_
    refine pfX12_157 hx hb hts hown hK hP hD hS 0 rfl (Nat.le_of_ble_eq_true rfl) dX12_opened_38 (fun H locs hP hD hS => ?_)
    have hP : va_P D vwCl (WM h q cI cJ cZ v_a v_image v_texts v_tape v_taped v_fault v_faultPlace v_at v_place v_token v_number v_word v_text0 v_written v_sort0 v_pile_30 (v_piled + (1 : Int32)) (v_opens + (1 : Int32)) v_isWhole v_once v_named v_values v_truth v_isWritten v_died v_aside v_likely v_safe v_headOf) H := hP
    have hD : va_D A (WM h q cI cJ cZ v_a v_image v_texts v_tape v_taped v_fault v_faultPlace v_at v_place v_token v_number v_word v_text0 v_written v_sort0 v_pile_30 (v_piled + (1 : Int32)) (v_opens + (1 : Int32)) v_isWhole v_once v_named v_values v_truth v_isWritten v_died v_aside v_likely v_safe v_headOf) := hD
    refine lv_aload_n hx hb dX12_opened_41 rfl (lv_at hl 0 rfl) ?_
    obtain ⟨v_at_42, v_place_42, v_token_42, v_number_42, v_word_42, hg42, hf⟩ := ob5_some hf
    refine mcV1_v (As := []) (rest := []) hx hb hml hown hts hK hP hD hS hA (k_X12_nextToken l N D cI cJ cZ cB cT h q v_a v_image v_texts v_tape v_taped v_fault v_faultPlace v_at v_place v_token v_number v_word v_text0 v_written v_sort0 v_pile_30 (v_piled + (1 : Int32)) (v_opens + (1 : Int32)) v_isWhole v_once v_named v_values v_truth v_isWritten v_died v_aside v_likely v_safe v_headOf v_at_42 v_place_42 v_token_42 v_number_42 v_word_42 hg42) (kwX12_177 hts rfl rfl ⟨Nat.le_of_ble_eq_true rfl, Nat.le_of_ble_eq_true rfl⟩) 0 rfl rfl rfl rfl hl.1 rfl (Nat.le_of_ble_eq_true rfl) dX12_opened_42 ⟨Nat.zero_le _, Nat.zero_le _⟩ (fun H locs hP hD hS => ?_)
    have hP : va_P D vwCl (WM h q cI cJ cZ v_a v_image v_texts v_tape v_taped v_fault v_faultPlace v_at_42 v_place_42 v_token_42 v_number_42 v_word_42 v_text0 v_written v_sort0 v_pile_30 (v_piled + (1 : Int32)) (v_opens + (1 : Int32)) v_isWhole v_once v_named v_values v_truth v_isWritten v_died v_aside v_likely v_safe v_headOf) H := hP
    have hD : va_D A (WM h q cI cJ cZ v_a v_image v_texts v_tape v_taped v_fault v_faultPlace v_at_42 v_place_42 v_token_42 v_number_42 v_word_42 v_text0 v_written v_sort0 v_pile_30 (v_piled + (1 : Int32)) (v_opens + (1 : Int32)) v_isWhole v_once v_named v_values v_truth v_isWritten v_died v_aside v_likely v_safe v_headOf) := hD
    refine lv_iconst (v := (0 : Int32)) hx hb dX12_opened_45 (by decide) ?_
    cases hf
    exact mret_i hx hb hr hlocks hP hD hS dX12_opened_46 rfl trivial
theorem dX12_beginOne_0 : decode cX12_beginOne 0 = .ok (.aload_n 0, 1) := by decide +kernel
theorem dX12_beginOne_1 : decode cX12_beginOne 1 = .ok (.getfield 106, 3) := by decide +kernel
theorem dX12_beginOne_4 : decode cX12_beginOne 4 = .ok (.iconst 1, 1) := by decide +kernel
theorem dX12_beginOne_5 : decode cX12_beginOne 5 = .ok (.if_icmp .ne 15, 3) := by decide +kernel
theorem dX12_beginOne_8 : decode cX12_beginOne 8 = .ok (.aload_n 0, 1) := by decide +kernel
theorem dX12_beginOne_9 : decode cX12_beginOne 9 = .ok (.getfield 112, 3) := by decide +kernel
theorem dX12_beginOne_12 : decode cX12_beginOne 12 = .ok (.sipush 9999, 3) := by decide +kernel
theorem dX12_beginOne_15 : decode cX12_beginOne 15 = .ok (.if_icmp .le 5, 3) := by decide +kernel
theorem dX12_beginOne_18 : decode cX12_beginOne 18 = .ok (.iconst 2, 1) := by decide +kernel
theorem dX12_beginOne_19 : decode cX12_beginOne 19 = .ok (.ireturn, 1) := by decide +kernel
theorem dX12_beginOne_20 : decode cX12_beginOne 20 = .ok (.aload_n 0, 1) := by decide +kernel
theorem dX12_beginOne_21 : decode cX12_beginOne 21 = .ok (.invokevirtual 180, 3) := by decide +kernel
theorem dX12_beginOne_24 : decode cX12_beginOne 24 = .ok (.istore_n 1, 1) := by decide +kernel
theorem dX12_beginOne_25 : decode cX12_beginOne 25 = .ok (.iload_n 1, 1) := by decide +kernel
theorem dX12_beginOne_26 : decode cX12_beginOne 26 = .ok (.ifCond .lt 13, 3) := by decide +kernel
theorem dX12_beginOne_29 : decode cX12_beginOne 29 = .ok (.aload_n 0, 1) := by decide +kernel
theorem dX12_beginOne_30 : decode cX12_beginOne 30 = .ok (.iload_n 1, 1) := by decide +kernel
theorem dX12_beginOne_31 : decode cX12_beginOne 31 = .ok (.invokevirtual 183, 3) := by decide +kernel
theorem dX12_beginOne_34 : decode cX12_beginOne 34 = .ok (.ifCond .ne 5, 3) := by decide +kernel
theorem dX12_beginOne_37 : decode cX12_beginOne 37 = .ok (.iconst 5, 1) := by decide +kernel
theorem dX12_beginOne_38 : decode cX12_beginOne 38 = .ok (.ireturn, 1) := by decide +kernel
theorem dX12_beginOne_39 : decode cX12_beginOne 39 = .ok (.aload_n 0, 1) := by decide +kernel
theorem dX12_beginOne_40 : decode cX12_beginOne 40 = .ok (.getfield 106, 3) := by decide +kernel
theorem dX12_beginOne_43 : decode cX12_beginOne 43 = .ok (.iconst 1, 1) := by decide +kernel
theorem dX12_beginOne_44 : decode cX12_beginOne 44 = .ok (.if_icmp .eq 7, 3) := by decide +kernel
theorem dX12_beginOne_47 : decode cX12_beginOne 47 = .ok (.iload_n 1, 1) := by decide +kernel
theorem dX12_beginOne_48 : decode cX12_beginOne 48 = .ok (.ifCond .lt 53, 3) := by decide +kernel
theorem dX12_beginOne_51 : decode cX12_beginOne 51 = .ok (.aload_n 0, 1) := by decide +kernel
theorem dX12_beginOne_52 : decode cX12_beginOne 52 = .ok (.aload_n 0, 1) := by decide +kernel
theorem dX12_beginOne_53 : decode cX12_beginOne 53 = .ok (.getfield 106, 3) := by decide +kernel
theorem dX12_beginOne_56 : decode cX12_beginOne 56 = .ok (.iconst 1, 1) := by decide +kernel
theorem dX12_beginOne_57 : decode cX12_beginOne 57 = .ok (.if_icmp .ne 7, 3) := by decide +kernel
theorem dX12_beginOne_60 : decode cX12_beginOne 60 = .ok (.iconst 0, 1) := by decide +kernel
theorem dX12_beginOne_61 : decode cX12_beginOne 61 = .ok (.goto 4, 3) := by decide +kernel
theorem dX12_beginOne_64 : decode cX12_beginOne 64 = .ok (.iconst 1, 1) := by decide +kernel
theorem dX12_beginOne_65 : decode cX12_beginOne 65 = .ok (.aload_n 0, 1) := by decide +kernel
theorem dX12_beginOne_66 : decode cX12_beginOne 66 = .ok (.getfield 106, 3) := by decide +kernel
theorem dX12_beginOne_69 : decode cX12_beginOne 69 = .ok (.iconst 1, 1) := by decide +kernel
theorem dX12_beginOne_70 : decode cX12_beginOne 70 = .ok (.if_icmp .ne 10, 3) := by decide +kernel
theorem dX12_beginOne_73 : decode cX12_beginOne 73 = .ok (.aload_n 0, 1) := by decide +kernel
theorem dX12_beginOne_74 : decode cX12_beginOne 74 = .ok (.getfield 112, 3) := by decide +kernel
theorem dX12_beginOne_77 : decode cX12_beginOne 77 = .ok (.goto 4, 3) := by decide +kernel
theorem dX12_beginOne_80 : decode cX12_beginOne 80 = .ok (.iload_n 1, 1) := by decide +kernel
theorem dX12_beginOne_81 : decode cX12_beginOne 81 = .ok (.invokevirtual 163, 3) := by decide +kernel
theorem dX12_beginOne_84 : decode cX12_beginOne 84 = .ok (.aload_n 0, 1) := by decide +kernel
theorem dX12_beginOne_85 : decode cX12_beginOne 85 = .ok (.invokevirtual 177, 3) := by decide +kernel
theorem dX12_beginOne_88 : decode cX12_beginOne 88 = .ok (.aload_n 0, 1) := by decide +kernel
theorem dX12_beginOne_89 : decode cX12_beginOne 89 = .ok (.iconst 1, 1) := by decide +kernel
theorem dX12_beginOne_90 : decode cX12_beginOne 90 = .ok (.putfield 186, 3) := by decide +kernel
theorem dX12_beginOne_93 : decode cX12_beginOne 93 = .ok (.aload_n 0, 1) := by decide +kernel
theorem dX12_beginOne_94 : decode cX12_beginOne 94 = .ok (.bipush 7, 2) := by decide +kernel
theorem dX12_beginOne_96 : decode cX12_beginOne 96 = .ok (.invokevirtual 189, 3) := by decide +kernel
theorem dX12_beginOne_99 : decode cX12_beginOne 99 = .ok (.iconst 0, 1) := by decide +kernel
theorem dX12_beginOne_100 : decode cX12_beginOne 100 = .ok (.ireturn, 1) := by decide +kernel
theorem dX12_beginOne_101 : decode cX12_beginOne 101 = .ok (.aload_n 0, 1) := by decide +kernel
theorem dX12_beginOne_102 : decode cX12_beginOne 102 = .ok (.getfield 106, 3) := by decide +kernel
theorem dX12_beginOne_105 : decode cX12_beginOne 105 = .ok (.bipush 40, 2) := by decide +kernel
theorem dX12_beginOne_107 : decode cX12_beginOne 107 = .ok (.if_icmp .ne 10, 3) := by decide +kernel
theorem dX12_beginOne_110 : decode cX12_beginOne 110 = .ok (.aload_n 0, 1) := by decide +kernel
theorem dX12_beginOne_111 : decode cX12_beginOne 111 = .ok (.bipush 40, 2) := by decide +kernel
theorem dX12_beginOne_113 : decode cX12_beginOne 113 = .ok (.invokevirtual 192, 3) := by decide +kernel
theorem dX12_beginOne_116 : decode cX12_beginOne 116 = .ok (.ireturn, 1) := by decide +kernel
theorem dX12_beginOne_117 : decode cX12_beginOne 117 = .ok (.aload_n 0, 1) := by decide +kernel
theorem dX12_beginOne_118 : decode cX12_beginOne 118 = .ok (.getfield 106, 3) := by decide +kernel
theorem dX12_beginOne_121 : decode cX12_beginOne 121 = .ok (.bipush 45, 2) := by decide +kernel
theorem dX12_beginOne_123 : decode cX12_beginOne 123 = .ok (.if_icmp .ne 9, 3) := by decide +kernel
theorem dX12_beginOne_126 : decode cX12_beginOne 126 = .ok (.aload_n 0, 1) := by decide +kernel
theorem dX12_beginOne_127 : decode cX12_beginOne 127 = .ok (.iconst 5, 1) := by decide +kernel
theorem dX12_beginOne_128 : decode cX12_beginOne 128 = .ok (.invokevirtual 192, 3) := by decide +kernel
theorem dX12_beginOne_131 : decode cX12_beginOne 131 = .ok (.ireturn, 1) := by decide +kernel
theorem dX12_beginOne_132 : decode cX12_beginOne 132 = .ok (.aload_n 0, 1) := by decide +kernel
theorem dX12_beginOne_133 : decode cX12_beginOne 133 = .ok (.bipush 111, 2) := by decide +kernel
theorem dX12_beginOne_135 : decode cX12_beginOne 135 = .ok (.bipush 110, 2) := by decide +kernel
theorem dX12_beginOne_137 : decode cX12_beginOne 137 = .ok (.bipush 101, 2) := by decide +kernel
theorem dX12_beginOne_139 : decode cX12_beginOne 139 = .ok (.bipush 115, 2) := by decide +kernel
theorem dX12_beginOne_141 : decode cX12_beginOne 141 = .ok (.invokestatic 136, 3) := by decide +kernel
theorem dX12_beginOne_144 : decode cX12_beginOne 144 = .ok (.invokevirtual 195, 3) := by decide +kernel
theorem dX12_beginOne_147 : decode cX12_beginOne 147 = .ok (.ifCond .eq 9, 3) := by decide +kernel
theorem dX12_beginOne_150 : decode cX12_beginOne 150 = .ok (.aload_n 0, 1) := by decide +kernel
theorem dX12_beginOne_151 : decode cX12_beginOne 151 = .ok (.iconst 2, 1) := by decide +kernel
theorem dX12_beginOne_152 : decode cX12_beginOne 152 = .ok (.invokevirtual 192, 3) := by decide +kernel
theorem dX12_beginOne_155 : decode cX12_beginOne 155 = .ok (.ireturn, 1) := by decide +kernel
theorem dX12_beginOne_156 : decode cX12_beginOne 156 = .ok (.aload_n 0, 1) := by decide +kernel
theorem dX12_beginOne_157 : decode cX12_beginOne 157 = .ok (.bipush 102, 2) := by decide +kernel
theorem dX12_beginOne_159 : decode cX12_beginOne 159 = .ok (.bipush 101, 2) := by decide +kernel
theorem dX12_beginOne_161 : decode cX12_beginOne 161 = .ok (.bipush 97, 2) := by decide +kernel
theorem dX12_beginOne_163 : decode cX12_beginOne 163 = .ok (.bipush 114, 2) := by decide +kernel
theorem dX12_beginOne_165 : decode cX12_beginOne 165 = .ok (.bipush 115, 2) := by decide +kernel
theorem dX12_beginOne_167 : decode cX12_beginOne 167 = .ok (.invokestatic 140, 3) := by decide +kernel
theorem dX12_beginOne_170 : decode cX12_beginOne 170 = .ok (.invokevirtual 195, 3) := by decide +kernel
theorem dX12_beginOne_173 : decode cX12_beginOne 173 = .ok (.ifCond .eq 9, 3) := by decide +kernel
theorem dX12_beginOne_176 : decode cX12_beginOne 176 = .ok (.aload_n 0, 1) := by decide +kernel
theorem dX12_beginOne_177 : decode cX12_beginOne 177 = .ok (.iconst 3, 1) := by decide +kernel
theorem dX12_beginOne_178 : decode cX12_beginOne 178 = .ok (.invokevirtual 192, 3) := by decide +kernel
theorem dX12_beginOne_181 : decode cX12_beginOne 181 = .ok (.ireturn, 1) := by decide +kernel
theorem dX12_beginOne_182 : decode cX12_beginOne 182 = .ok (.aload_n 0, 1) := by decide +kernel
theorem dX12_beginOne_183 : decode cX12_beginOne 183 = .ok (.bipush 105, 2) := by decide +kernel
theorem dX12_beginOne_185 : decode cX12_beginOne 185 = .ok (.bipush 102, 2) := by decide +kernel
theorem dX12_beginOne_187 : decode cX12_beginOne 187 = .ok (.invokestatic 128, 3) := by decide +kernel
theorem dX12_beginOne_190 : decode cX12_beginOne 190 = .ok (.invokevirtual 195, 3) := by decide +kernel
theorem dX12_beginOne_193 : decode cX12_beginOne 193 = .ok (.ifCond .eq 10, 3) := by decide +kernel
theorem dX12_beginOne_196 : decode cX12_beginOne 196 = .ok (.aload_n 0, 1) := by decide +kernel
theorem dX12_beginOne_197 : decode cX12_beginOne 197 = .ok (.bipush 41, 2) := by decide +kernel
theorem dX12_beginOne_199 : decode cX12_beginOne 199 = .ok (.invokevirtual 192, 3) := by decide +kernel
theorem dX12_beginOne_202 : decode cX12_beginOne 202 = .ok (.ireturn, 1) := by decide +kernel
theorem dX12_beginOne_203 : decode cX12_beginOne 203 = .ok (.aload_n 0, 1) := by decide +kernel
theorem dX12_beginOne_204 : decode cX12_beginOne 204 = .ok (.bipush 110, 2) := by decide +kernel
theorem dX12_beginOne_206 : decode cX12_beginOne 206 = .ok (.bipush 111, 2) := by decide +kernel
theorem dX12_beginOne_208 : decode cX12_beginOne 208 = .ok (.bipush 116, 2) := by decide +kernel
theorem dX12_beginOne_210 : decode cX12_beginOne 210 = .ok (.invokestatic 132, 3) := by decide +kernel
theorem dX12_beginOne_213 : decode cX12_beginOne 213 = .ok (.invokevirtual 195, 3) := by decide +kernel
theorem dX12_beginOne_216 : decode cX12_beginOne 216 = .ok (.ifCond .eq 19, 3) := by decide +kernel
theorem dX12_beginOne_219 : decode cX12_beginOne 219 = .ok (.aload_n 0, 1) := by decide +kernel
theorem dX12_beginOne_220 : decode cX12_beginOne 220 = .ok (.invokevirtual 199, 3) := by decide +kernel
theorem dX12_beginOne_223 : decode cX12_beginOne 223 = .ok (.ifCond .eq 12, 3) := by decide +kernel
theorem dX12_beginOne_226 : decode cX12_beginOne 226 = .ok (.aload_n 0, 1) := by decide +kernel
theorem dX12_beginOne_227 : decode cX12_beginOne 227 = .ok (.bipush 20, 2) := by decide +kernel
theorem dX12_beginOne_229 : decode cX12_beginOne 229 = .ok (.invokevirtual 192, 3) := by decide +kernel
theorem dX12_beginOne_232 : decode cX12_beginOne 232 = .ok (.goto 4, 3) := by decide +kernel
theorem dX12_beginOne_235 : decode cX12_beginOne 235 = .ok (.iconst 1, 1) := by decide +kernel
theorem dX12_beginOne_236 : decode cX12_beginOne 236 = .ok (.ireturn, 1) := by decide +kernel
def f_X12_beginOne_81 (N : Nat) (v_texts : Nat → Int32) (v_tape : Nat → Int32) (v_taped : Int32) (v_at : Int32) (v_place : Int32) (v_token : Int32) (v_number : Int32) (v_word : Int64) (v_text0 : Int32) (v_written : Int32) (v_sort0 : Int32) (v_pile : Nat → Int32) (v_piled : Int32) (v_opens : Int32) (v_isWhole : Int32) (s1 : Int32) (s2 : Int32) : Option (Int32 × (Nat → Int32) × Int32 × Int32 × Int32 × Int32 × Int64 × Int32 × (Nat → Int32) × Int32 × Int32 × Int32) := ob2 (f_X12_emit N v_texts v_text0 v_written s1 s2) fun v_texts_81 v_written_81 => ob5 (f_X12_nextToken N v_tape v_taped v_at v_place v_token v_number v_word) fun v_at_85 v_place_85 v_token_85 v_number_85 v_word_85 => ob4 (f_X12_settle N v_texts_81 v_text0 v_written_81 v_pile v_piled v_opens (7 : Int32)) fun v_texts_96 v_written_96 v_piled_96 v_opens_96 => some ((0 : Int32), v_texts_96, v_at_85, v_place_85, v_token_85, v_number_85, v_word_85, v_written_96, v_pile, v_piled_96, v_opens_96, (1 : Int32))
def f_X12_beginOne_65 (N : Nat) (v_texts : Nat → Int32) (v_tape : Nat → Int32) (v_taped : Int32) (v_at : Int32) (v_place : Int32) (v_token : Int32) (v_number : Int32) (v_word : Int64) (v_text0 : Int32) (v_written : Int32) (v_sort0 : Int32) (v_pile : Nat → Int32) (v_piled : Int32) (v_opens : Int32) (v_isWhole : Int32) (x1 : Int32) (s1 : Int32) : Option (Int32 × (Nat → Int32) × Int32 × Int32 × Int32 × Int32 × Int64 × Int32 × (Nat → Int32) × Int32 × Int32 × Int32) := if v_token = (1 : Int32) then (f_X12_beginOne_81 N v_texts v_tape v_taped v_at v_place v_token v_number v_word v_text0 v_written v_sort0 v_pile v_piled v_opens v_isWhole s1 v_number) else (f_X12_beginOne_81 N v_texts v_tape v_taped v_at v_place v_token v_number v_word v_text0 v_written v_sort0 v_pile v_piled v_opens v_isWhole s1 x1)
def f_X12_beginOne_51 (N : Nat) (v_texts : Nat → Int32) (v_tape : Nat → Int32) (v_taped : Int32) (v_at : Int32) (v_place : Int32) (v_token : Int32) (v_number : Int32) (v_word : Int64) (v_text0 : Int32) (v_written : Int32) (v_sort0 : Int32) (v_pile : Nat → Int32) (v_piled : Int32) (v_opens : Int32) (v_isWhole : Int32) (x1 : Int32) : Option (Int32 × (Nat → Int32) × Int32 × Int32 × Int32 × Int32 × Int64 × Int32 × (Nat → Int32) × Int32 × Int32 × Int32) := if v_token = (1 : Int32) then (f_X12_beginOne_65 N v_texts v_tape v_taped v_at v_place v_token v_number v_word v_text0 v_written v_sort0 v_pile v_piled v_opens v_isWhole x1 (0 : Int32)) else (f_X12_beginOne_65 N v_texts v_tape v_taped v_at v_place v_token v_number v_word v_text0 v_written v_sort0 v_pile v_piled v_opens v_isWhole x1 (1 : Int32))
def f_X12_beginOne_39 (N : Nat) (v_texts : Nat → Int32) (v_tape : Nat → Int32) (v_taped : Int32) (v_at : Int32) (v_place : Int32) (v_token : Int32) (v_number : Int32) (v_word : Int64) (v_text0 : Int32) (v_written : Int32) (v_sort0 : Int32) (v_pile : Nat → Int32) (v_piled : Int32) (v_opens : Int32) (v_isWhole : Int32) (x1 : Int32) : Option (Int32 × (Nat → Int32) × Int32 × Int32 × Int32 × Int32 × Int64 × Int32 × (Nat → Int32) × Int32 × Int32 × Int32) := if v_token = (1 : Int32) then (f_X12_beginOne_51 N v_texts v_tape v_taped v_at v_place v_token v_number v_word v_text0 v_written v_sort0 v_pile v_piled v_opens v_isWhole x1) else (if x1 < 0 then (if v_token = (40 : Int32) then (ob9 (f_X12_opened N v_tape v_taped v_at v_place v_token v_number v_word v_pile v_piled v_opens (40 : Int32)) fun r113 v_at_113 v_place_113 v_token_113 v_number_113 v_word_113 v_pile_113 v_piled_113 v_opens_113 => some (r113, v_texts, v_at_113, v_place_113, v_token_113, v_number_113, v_word_113, v_written, v_pile_113, v_piled_113, v_opens_113, v_isWhole)) else (if v_token = (45 : Int32) then (ob9 (f_X12_opened N v_tape v_taped v_at v_place v_token v_number v_word v_pile v_piled v_opens (5 : Int32)) fun r128 v_at_128 v_place_128 v_token_128 v_number_128 v_word_128 v_pile_128 v_piled_128 v_opens_128 => some (r128, v_texts, v_at_128, v_place_128, v_token_128, v_number_128, v_word_128, v_written, v_pile_128, v_piled_128, v_opens_128, v_isWhole)) else (ob1 (f_X12_w4 N (111 : Int32) (110 : Int32) (101 : Int32) (115 : Int32)) fun r141 => ob1 (f_X12_isWord N v_token v_word r141) fun r144 => if r144 = 0 then (ob1 (f_X12_w5 N (102 : Int32) (101 : Int32) (97 : Int32) (114 : Int32) (115 : Int32)) fun r167 => ob1 (f_X12_isWord N v_token v_word r167) fun r170 => if r170 = 0 then (ob1 (f_X12_w2 N (105 : Int32) (102 : Int32)) fun r187 => ob1 (f_X12_isWord N v_token v_word r187) fun r190 => if r190 = 0 then (ob1 (f_X12_w3 N (110 : Int32) (111 : Int32) (116 : Int32)) fun r210 => ob1 (f_X12_isWord N v_token v_word r210) fun r213 => if r213 = 0 then (some ((1 : Int32), v_texts, v_at, v_place, v_token, v_number, v_word, v_written, v_pile, v_piled, v_opens, v_isWhole)) else (ob1 (f_X12_isAskAhead N v_pile v_piled) fun r220 => if r220 = 0 then (some ((1 : Int32), v_texts, v_at, v_place, v_token, v_number, v_word, v_written, v_pile, v_piled, v_opens, v_isWhole)) else (ob9 (f_X12_opened N v_tape v_taped v_at v_place v_token v_number v_word v_pile v_piled v_opens (20 : Int32)) fun r229 v_at_229 v_place_229 v_token_229 v_number_229 v_word_229 v_pile_229 v_piled_229 v_opens_229 => some (r229, v_texts, v_at_229, v_place_229, v_token_229, v_number_229, v_word_229, v_written, v_pile_229, v_piled_229, v_opens_229, v_isWhole)))) else (ob9 (f_X12_opened N v_tape v_taped v_at v_place v_token v_number v_word v_pile v_piled v_opens (41 : Int32)) fun r199 v_at_199 v_place_199 v_token_199 v_number_199 v_word_199 v_pile_199 v_piled_199 v_opens_199 => some (r199, v_texts, v_at_199, v_place_199, v_token_199, v_number_199, v_word_199, v_written, v_pile_199, v_piled_199, v_opens_199, v_isWhole))) else (ob9 (f_X12_opened N v_tape v_taped v_at v_place v_token v_number v_word v_pile v_piled v_opens (3 : Int32)) fun r178 v_at_178 v_place_178 v_token_178 v_number_178 v_word_178 v_pile_178 v_piled_178 v_opens_178 => some (r178, v_texts, v_at_178, v_place_178, v_token_178, v_number_178, v_word_178, v_written, v_pile_178, v_piled_178, v_opens_178, v_isWhole))) else (ob9 (f_X12_opened N v_tape v_taped v_at v_place v_token v_number v_word v_pile v_piled v_opens (2 : Int32)) fun r152 v_at_152 v_place_152 v_token_152 v_number_152 v_word_152 v_pile_152 v_piled_152 v_opens_152 => some (r152, v_texts, v_at_152, v_place_152, v_token_152, v_number_152, v_word_152, v_written, v_pile_152, v_piled_152, v_opens_152, v_isWhole))))) else (f_X12_beginOne_51 N v_texts v_tape v_taped v_at v_place v_token v_number v_word v_text0 v_written v_sort0 v_pile v_piled v_opens v_isWhole x1))
def f_X12_beginOne_20 (N : Nat) (v_texts : Nat → Int32) (v_tape : Nat → Int32) (v_taped : Int32) (v_at : Int32) (v_place : Int32) (v_token : Int32) (v_number : Int32) (v_word : Int64) (v_text0 : Int32) (v_written : Int32) (v_sort0 : Int32) (v_pile : Nat → Int32) (v_piled : Int32) (v_opens : Int32) (v_isWhole : Int32) : Option (Int32 × (Nat → Int32) × Int32 × Int32 × Int32 × Int32 × Int64 × Int32 × (Nat → Int32) × Int32 × Int32 × Int32) := ob1 (f_X12_nameOf N v_token v_word) fun r21 => if r21 < 0 then (f_X12_beginOne_39 N v_texts v_tape v_taped v_at v_place v_token v_number v_word v_text0 v_written v_sort0 v_pile v_piled v_opens v_isWhole r21) else (ob1 (f_X12_isOf N v_sort0 r21) fun r31 => if r31 = 0 then (some ((5 : Int32), v_texts, v_at, v_place, v_token, v_number, v_word, v_written, v_pile, v_piled, v_opens, v_isWhole)) else (f_X12_beginOne_39 N v_texts v_tape v_taped v_at v_place v_token v_number v_word v_text0 v_written v_sort0 v_pile v_piled v_opens v_isWhole r21))
def f_X12_beginOne (N : Nat) (v_texts : Nat → Int32) (v_tape : Nat → Int32) (v_taped : Int32) (v_at : Int32) (v_place : Int32) (v_token : Int32) (v_number : Int32) (v_word : Int64) (v_text0 : Int32) (v_written : Int32) (v_sort0 : Int32) (v_pile : Nat → Int32) (v_piled : Int32) (v_opens : Int32) (v_isWhole : Int32) : Option (Int32 × (Nat → Int32) × Int32 × Int32 × Int32 × Int32 × Int64 × Int32 × (Nat → Int32) × Int32 × Int32 × Int32) := if v_token = (1 : Int32) then (if v_number ≤ (9999 : Int32) then (f_X12_beginOne_20 N v_texts v_tape v_taped v_at v_place v_token v_number v_word v_text0 v_written v_sort0 v_pile v_piled v_opens v_isWhole) else (some ((2 : Int32), v_texts, v_at, v_place, v_token, v_number, v_word, v_written, v_pile, v_piled, v_opens, v_isWhole))) else (f_X12_beginOne_20 N v_texts v_tape v_taped v_at v_place v_token v_number v_word v_text0 v_written v_sort0 v_pile v_piled v_opens v_isWhole)
set_option maxHeartbeats 4000000 in
set_option maxRecDepth 100000 in
theorem k_X12_beginOne (l : Launch) (N : Nat) (D : va_G) (cI cJ cZ cB cT : ClassId) (h : Nat) (q : Nat → Nat) (v_a : Nat → Int32) (v_image : Nat → Int32) (v_texts : Nat → Int32) (v_tape : Nat → Int32) (v_taped : Int32) (v_fault : Int32) (v_faultPlace : Int32) (v_at : Int32) (v_place : Int32) (v_token : Int32) (v_number : Int32) (v_word : Int64) (v_text0 : Int32) (v_written : Int32) (v_sort0 : Int32) (v_pile : Nat → Int32) (v_piled : Int32) (v_opens : Int32) (v_isWhole : Int32) (v_once : Int32) (v_named : Nat → Int32) (v_values : Nat → Int64) (v_truth : Nat → Int32) (v_isWritten : Int32) (v_died : Int32) (v_aside : Nat → Int32) (v_likely : Nat → Int32) (v_safe : Nat → Int32) (v_headOf : Nat → Int32) (o_r : Int32) (o_v_texts : Nat → Int32) (o_v_at : Int32) (o_v_place : Int32) (o_v_token : Int32) (o_v_number : Int32) (o_v_word : Int64) (o_v_written : Int32) (o_v_pile : Nat → Int32) (o_v_piled : Int32) (o_v_opens : Int32) (o_v_isWhole : Int32) (hf : f_X12_beginOne N v_texts v_tape v_taped v_at v_place v_token v_number v_word v_text0 v_written v_sort0 v_pile v_piled v_opens v_isWhole = some (o_r, o_v_texts, o_v_at, o_v_place, o_v_token, o_v_number, o_v_word, o_v_written, o_v_pile, o_v_piled, o_v_opens, o_v_isWhole)) : ∀ sz, Met l yX12_beginOne (mw yX12_beginOne cX12_beginOne 2 (some .int)) ({ frames := 6, cells := 0, slots := 0, locals := 135 } : Room) (mPre D (mT cI cJ cZ cB cT) (WM h q cI cJ cZ v_a v_image v_texts v_tape v_taped v_fault v_faultPlace v_at v_place v_token v_number v_word v_text0 v_written v_sort0 v_pile v_piled v_opens v_isWhole v_once v_named v_values v_truth v_isWritten v_died v_aside v_likely v_safe v_headOf) sz [.ref h]) ((mQi D (WM h q cI cJ cZ v_a v_image o_v_texts v_tape v_taped v_fault v_faultPlace o_v_at o_v_place o_v_token o_v_number o_v_word v_text0 o_v_written v_sort0 o_v_pile o_v_piled o_v_opens o_v_isWhole v_once v_named v_values v_truth v_isWritten v_died v_aside v_likely v_safe v_headOf) o_r True) (va_A (WM h q cI cJ cZ v_a v_image v_texts v_tape v_taped v_fault v_faultPlace v_at v_place v_token v_number v_word v_text0 v_written v_sort0 v_pile v_piled v_opens v_isWhole v_once v_named v_values v_truth v_isWritten v_died v_aside v_likely v_safe v_headOf) sz)) 0 0 (va_A (WM h q cI cJ cZ v_a v_image v_texts v_tape v_taped v_fault v_faultPlace v_at v_place v_token v_number v_word v_text0 v_written v_sort0 v_pile v_piled v_opens v_isWhole v_once v_named v_values v_truth v_isWritten v_died v_aside v_likely v_safe v_headOf) sz) := by
  refine mMet (Qc := (mQi D (WM h q cI cJ cZ v_a v_image o_v_texts v_tape v_taped v_fault v_faultPlace o_v_at o_v_place o_v_token o_v_number o_v_word v_text0 o_v_written v_sort0 o_v_pile o_v_piled o_v_opens o_v_isWhole v_once v_named v_values v_truth v_isWritten v_died v_aside v_likely v_safe v_headOf) o_r True)) (by decide) (Nat.le_of_ble_eq_true rfl) (fun p e s m below meth c A ls hx hb hr hml hts hown hlocks hK hA hP hD hl => ?_)
  have hown : s.vm.findClass RX12 = some m.cls := hown
  have hl : lv_has ls 2 [(0, .ref h)] := hl
  have hS : va_S A s.heap s.heap [] := va_S.rf
  have b81 : ∀ (v_texts : Nat → Int32) (v_at : Int32) (v_place : Int32) (v_token : Int32) (v_number : Int32) (v_word : Int64) (v_written : Int32) (v_pile : Nat → Int32) (v_piled : Int32) (v_opens : Int32) (v_isWhole : Int32) (s1 : Int32) (s2 : Int32) (H : Heap) (locs : List Loc) (ls : Array Slot), f_X12_beginOne_81 N v_texts v_tape v_taped v_at v_place v_token v_number v_word v_text0 v_written v_sort0 v_pile v_piled v_opens v_isWhole s1 s2 = some (o_r, o_v_texts, o_v_at, o_v_place, o_v_token, o_v_number, o_v_word, o_v_written, o_v_pile, o_v_piled, o_v_opens, o_v_isWhole) → va_P D vwCl (WM h q cI cJ cZ v_a v_image v_texts v_tape v_taped v_fault v_faultPlace v_at v_place v_token v_number v_word v_text0 v_written v_sort0 v_pile v_piled v_opens v_isWhole v_once v_named v_values v_truth v_isWritten v_died v_aside v_likely v_safe v_headOf) H → va_D A (WM h q cI cJ cZ v_a v_image v_texts v_tape v_taped v_fault v_faultPlace v_at v_place v_token v_number v_word v_text0 v_written v_sort0 v_pile v_piled v_opens v_isWhole v_once v_named v_values v_truth v_isWritten v_died v_aside v_likely v_safe v_headOf) → va_S A s.heap H locs → lv_has ls 2 [(0, .ref h)] → W p l e ({ frames := 6, cells := 0, slots := 0, locals := 135 } : Room) s m ([.ref h] : List Value).toArray below meth c H locs 0 0 (MQ below ((mQi D (WM h q cI cJ cZ v_a v_image o_v_texts v_tape v_taped v_fault v_faultPlace o_v_at o_v_place o_v_token o_v_number o_v_word v_text0 o_v_written v_sort0 o_v_pile o_v_piled o_v_opens o_v_isWhole v_once v_named v_values v_truth v_isWritten v_died v_aside v_likely v_safe v_headOf) o_r True) A) ([.ref h] : List Value).toArray s 0 0 A) (F0 m 81 ls [.int s2, .int s1, .ref h]) := by
    intro v_texts v_at v_place v_token v_number v_word v_written v_pile v_piled v_opens v_isWhole s1 s2 H locs ls hf hP hD hS hl
    unfold f_X12_beginOne_81 at hf
    obtain ⟨v_texts_81, v_written_81, hg81, hf⟩ := ob2_some hf
    refine mcV1_v (As := [.int s1, .int s2]) (rest := []) hx hb hml hown hts hK hP hD hS hA (k_X12_emit l N D cI cJ cZ cB cT h q v_a v_image v_texts v_tape v_taped v_fault v_faultPlace v_at v_place v_token v_number v_word v_text0 v_written v_sort0 v_pile v_piled v_opens v_isWhole v_once v_named v_values v_truth v_isWritten v_died v_aside v_likely v_safe v_headOf s1 s2 v_texts_81 v_written_81 hg81) (kwX12_163 hts rfl rfl ⟨Nat.le_of_ble_eq_true rfl, Nat.le_of_ble_eq_true rfl⟩) 0 rfl rfl rfl rfl hl.1 rfl (Nat.le_of_ble_eq_true rfl) dX12_beginOne_81 ⟨Nat.zero_le _, Nat.zero_le _⟩ (fun H locs hP hD hS => ?_)
    have hP : va_P D vwCl (WM h q cI cJ cZ v_a v_image v_texts_81 v_tape v_taped v_fault v_faultPlace v_at v_place v_token v_number v_word v_text0 v_written_81 v_sort0 v_pile v_piled v_opens v_isWhole v_once v_named v_values v_truth v_isWritten v_died v_aside v_likely v_safe v_headOf) H := hP
    have hD : va_D A (WM h q cI cJ cZ v_a v_image v_texts_81 v_tape v_taped v_fault v_faultPlace v_at v_place v_token v_number v_word v_text0 v_written_81 v_sort0 v_pile v_piled v_opens v_isWhole v_once v_named v_values v_truth v_isWritten v_died v_aside v_likely v_safe v_headOf) := hD
    refine lv_aload_n hx hb dX12_beginOne_84 rfl (lv_at hl 0 rfl) ?_
    obtain ⟨v_at_85, v_place_85, v_token_85, v_number_85, v_word_85, hg85, hf⟩ := ob5_some hf
    refine mcV1_v (As := []) (rest := []) hx hb hml hown hts hK hP hD hS hA (k_X12_nextToken l N D cI cJ cZ cB cT h q v_a v_image v_texts_81 v_tape v_taped v_fault v_faultPlace v_at v_place v_token v_number v_word v_text0 v_written_81 v_sort0 v_pile v_piled v_opens v_isWhole v_once v_named v_values v_truth v_isWritten v_died v_aside v_likely v_safe v_headOf v_at_85 v_place_85 v_token_85 v_number_85 v_word_85 hg85) (kwX12_177 hts rfl rfl ⟨Nat.le_of_ble_eq_true rfl, Nat.le_of_ble_eq_true rfl⟩) 0 rfl rfl rfl rfl hl.1 rfl (Nat.le_of_ble_eq_true rfl) dX12_beginOne_85 ⟨Nat.zero_le _, Nat.zero_le _⟩ (fun H locs hP hD hS => ?_)
    have hP : va_P D vwCl (WM h q cI cJ cZ v_a v_image v_texts_81 v_tape v_taped v_fault v_faultPlace v_at_85 v_place_85 v_token_85 v_number_85 v_word_85 v_text0 v_written_81 v_sort0 v_pile v_piled v_opens v_isWhole v_once v_named v_values v_truth v_isWritten v_died v_aside v_likely v_safe v_headOf) H := hP
    have hD : va_D A (WM h q cI cJ cZ v_a v_image v_texts_81 v_tape v_taped v_fault v_faultPlace v_at_85 v_place_85 v_token_85 v_number_85 v_word_85 v_text0 v_written_81 v_sort0 v_pile v_piled v_opens v_isWhole v_once v_named v_values v_truth v_isWritten v_died v_aside v_likely v_safe v_headOf) := hD
    refine lv_aload_n hx hb dX12_beginOne_88 rfl (lv_at hl 0 rfl) ?_
    refine lv_iconst (v := (1 : Int32)) hx hb dX12_beginOne_89 (by decide) ?_
    refine pfX12_186 hx hb hts hown hK hP hD hS 0 rfl rfl rfl (Nat.le_of_ble_eq_true rfl) dX12_beginOne_90 (fun H locs hP hD hS => ?_)
    have hP : va_P D vwCl (WM h q cI cJ cZ v_a v_image v_texts_81 v_tape v_taped v_fault v_faultPlace v_at_85 v_place_85 v_token_85 v_number_85 v_word_85 v_text0 v_written_81 v_sort0 v_pile v_piled v_opens (1 : Int32) v_once v_named v_values v_truth v_isWritten v_died v_aside v_likely v_safe v_headOf) H := hP
    have hD : va_D A (WM h q cI cJ cZ v_a v_image v_texts_81 v_tape v_taped v_fault v_faultPlace v_at_85 v_place_85 v_token_85 v_number_85 v_word_85 v_text0 v_written_81 v_sort0 v_pile v_piled v_opens (1 : Int32) v_once v_named v_values v_truth v_isWritten v_died v_aside v_likely v_safe v_headOf) := hD
    refine lv_aload_n hx hb dX12_beginOne_93 rfl (lv_at hl 0 rfl) ?_
    refine lv_bipush (v := (7 : Int32)) hx hb dX12_beginOne_94 (by decide) ?_
    obtain ⟨v_texts_96, v_written_96, v_piled_96, v_opens_96, hg96, hf⟩ := ob4_some hf
    refine mcV1_v (As := [.int (7 : Int32)]) (rest := []) hx hb hml hown hts hK hP hD hS hA (k_X12_settle l N D cI cJ cZ cB cT h q v_a v_image v_texts_81 v_tape v_taped v_fault v_faultPlace v_at_85 v_place_85 v_token_85 v_number_85 v_word_85 v_text0 v_written_81 v_sort0 v_pile v_piled v_opens (1 : Int32) v_once v_named v_values v_truth v_isWritten v_died v_aside v_likely v_safe v_headOf (7 : Int32) v_texts_96 v_written_96 v_piled_96 v_opens_96 hg96) (kwX12_189 hts rfl rfl ⟨Nat.le_of_ble_eq_true rfl, Nat.le_of_ble_eq_true rfl⟩) 0 rfl rfl rfl rfl hl.1 rfl (Nat.le_of_ble_eq_true rfl) dX12_beginOne_96 ⟨Nat.zero_le _, Nat.zero_le _⟩ (fun H locs hP hD hS => ?_)
    have hP : va_P D vwCl (WM h q cI cJ cZ v_a v_image v_texts_96 v_tape v_taped v_fault v_faultPlace v_at_85 v_place_85 v_token_85 v_number_85 v_word_85 v_text0 v_written_96 v_sort0 v_pile v_piled_96 v_opens_96 (1 : Int32) v_once v_named v_values v_truth v_isWritten v_died v_aside v_likely v_safe v_headOf) H := hP
    have hD : va_D A (WM h q cI cJ cZ v_a v_image v_texts_96 v_tape v_taped v_fault v_faultPlace v_at_85 v_place_85 v_token_85 v_number_85 v_word_85 v_text0 v_written_96 v_sort0 v_pile v_piled_96 v_opens_96 (1 : Int32) v_once v_named v_values v_truth v_isWritten v_died v_aside v_likely v_safe v_headOf) := hD
    refine lv_iconst (v := (0 : Int32)) hx hb dX12_beginOne_99 (by decide) ?_
    cases hf
    exact mret_i hx hb hr hlocks hP hD hS dX12_beginOne_100 rfl trivial
  have b65 : ∀ (v_texts : Nat → Int32) (v_at : Int32) (v_place : Int32) (v_token : Int32) (v_number : Int32) (v_word : Int64) (v_written : Int32) (v_pile : Nat → Int32) (v_piled : Int32) (v_opens : Int32) (v_isWhole : Int32) (x1 : Int32) (s1 : Int32) (H : Heap) (locs : List Loc) (ls : Array Slot), f_X12_beginOne_65 N v_texts v_tape v_taped v_at v_place v_token v_number v_word v_text0 v_written v_sort0 v_pile v_piled v_opens v_isWhole x1 s1 = some (o_r, o_v_texts, o_v_at, o_v_place, o_v_token, o_v_number, o_v_word, o_v_written, o_v_pile, o_v_piled, o_v_opens, o_v_isWhole) → va_P D vwCl (WM h q cI cJ cZ v_a v_image v_texts v_tape v_taped v_fault v_faultPlace v_at v_place v_token v_number v_word v_text0 v_written v_sort0 v_pile v_piled v_opens v_isWhole v_once v_named v_values v_truth v_isWritten v_died v_aside v_likely v_safe v_headOf) H → va_D A (WM h q cI cJ cZ v_a v_image v_texts v_tape v_taped v_fault v_faultPlace v_at v_place v_token v_number v_word v_text0 v_written v_sort0 v_pile v_piled v_opens v_isWhole v_once v_named v_values v_truth v_isWritten v_died v_aside v_likely v_safe v_headOf) → va_S A s.heap H locs → lv_has ls 2 [(0, .ref h), (1, .int x1)] → W p l e ({ frames := 6, cells := 0, slots := 0, locals := 135 } : Room) s m ([.ref h] : List Value).toArray below meth c H locs 0 0 (MQ below ((mQi D (WM h q cI cJ cZ v_a v_image o_v_texts v_tape v_taped v_fault v_faultPlace o_v_at o_v_place o_v_token o_v_number o_v_word v_text0 o_v_written v_sort0 o_v_pile o_v_piled o_v_opens o_v_isWhole v_once v_named v_values v_truth v_isWritten v_died v_aside v_likely v_safe v_headOf) o_r True) A) ([.ref h] : List Value).toArray s 0 0 A) (F0 m 65 ls [.int s1, .ref h]) := by
    intro v_texts v_at v_place v_token v_number v_word v_written v_pile v_piled v_opens v_isWhole x1 s1 H locs ls hf hP hD hS hl
    unfold f_X12_beginOne_65 at hf
    refine lv_aload_n hx hb dX12_beginOne_65 rfl (lv_at hl 0 rfl) ?_
    refine gfX12_106 hx hb hts hown hK hP 0 rfl rfl dX12_beginOne_66 ?_
    refine lv_iconst (v := (1 : Int32)) hx hb dX12_beginOne_69 (by decide) ?_
    refine xicmp_ne hx hb 80 dX12_beginOne_70 (by decide) hf (fun hf => ?_) (fun hf => ?_)
    · refine lv_aload_n hx hb dX12_beginOne_73 rfl (lv_at hl 0 rfl) ?_
      refine gfX12_112 hx hb hts hown hK hP 0 rfl rfl dX12_beginOne_74 ?_
      refine lv_goto (tgt := 81) hx hb dX12_beginOne_77 (by decide) ?_
      exact b81 v_texts v_at v_place v_token v_number v_word v_written v_pile v_piled v_opens v_isWhole s1 v_number _ _ _ hf hP hD hS (lv_sub hl [0] rfl)
    · refine lv_iload_n hx hb dX12_beginOne_80 rfl (lv_at hl 1 rfl) ?_
      exact b81 v_texts v_at v_place v_token v_number v_word v_written v_pile v_piled v_opens v_isWhole s1 x1 _ _ _ hf hP hD hS (lv_sub hl [0] rfl)
  have b51 : ∀ (v_texts : Nat → Int32) (v_at : Int32) (v_place : Int32) (v_token : Int32) (v_number : Int32) (v_word : Int64) (v_written : Int32) (v_pile : Nat → Int32) (v_piled : Int32) (v_opens : Int32) (v_isWhole : Int32) (x1 : Int32) (H : Heap) (locs : List Loc) (ls : Array Slot), f_X12_beginOne_51 N v_texts v_tape v_taped v_at v_place v_token v_number v_word v_text0 v_written v_sort0 v_pile v_piled v_opens v_isWhole x1 = some (o_r, o_v_texts, o_v_at, o_v_place, o_v_token, o_v_number, o_v_word, o_v_written, o_v_pile, o_v_piled, o_v_opens, o_v_isWhole) → va_P D vwCl (WM h q cI cJ cZ v_a v_image v_texts v_tape v_taped v_fault v_faultPlace v_at v_place v_token v_number v_word v_text0 v_written v_sort0 v_pile v_piled v_opens v_isWhole v_once v_named v_values v_truth v_isWritten v_died v_aside v_likely v_safe v_headOf) H → va_D A (WM h q cI cJ cZ v_a v_image v_texts v_tape v_taped v_fault v_faultPlace v_at v_place v_token v_number v_word v_text0 v_written v_sort0 v_pile v_piled v_opens v_isWhole v_once v_named v_values v_truth v_isWritten v_died v_aside v_likely v_safe v_headOf) → va_S A s.heap H locs → lv_has ls 2 [(0, .ref h), (1, .int x1)] → W p l e ({ frames := 6, cells := 0, slots := 0, locals := 135 } : Room) s m ([.ref h] : List Value).toArray below meth c H locs 0 0 (MQ below ((mQi D (WM h q cI cJ cZ v_a v_image o_v_texts v_tape v_taped v_fault v_faultPlace o_v_at o_v_place o_v_token o_v_number o_v_word v_text0 o_v_written v_sort0 o_v_pile o_v_piled o_v_opens o_v_isWhole v_once v_named v_values v_truth v_isWritten v_died v_aside v_likely v_safe v_headOf) o_r True) A) ([.ref h] : List Value).toArray s 0 0 A) (F0 m 51 ls []) := by
    intro v_texts v_at v_place v_token v_number v_word v_written v_pile v_piled v_opens v_isWhole x1 H locs ls hf hP hD hS hl
    unfold f_X12_beginOne_51 at hf
    refine lv_aload_n hx hb dX12_beginOne_51 rfl (lv_at hl 0 rfl) ?_
    refine lv_aload_n hx hb dX12_beginOne_52 rfl (lv_at hl 0 rfl) ?_
    refine gfX12_106 hx hb hts hown hK hP 0 rfl rfl dX12_beginOne_53 ?_
    refine lv_iconst (v := (1 : Int32)) hx hb dX12_beginOne_56 (by decide) ?_
    refine xicmp_ne hx hb 64 dX12_beginOne_57 (by decide) hf (fun hf => ?_) (fun hf => ?_)
    · refine lv_iconst (v := (0 : Int32)) hx hb dX12_beginOne_60 (by decide) ?_
      refine lv_goto (tgt := 65) hx hb dX12_beginOne_61 (by decide) ?_
      exact b65 v_texts v_at v_place v_token v_number v_word v_written v_pile v_piled v_opens v_isWhole x1 (0 : Int32) _ _ _ hf hP hD hS (lv_sub hl [0, 1] rfl)
    · refine lv_iconst (v := (1 : Int32)) hx hb dX12_beginOne_64 (by decide) ?_
      exact b65 v_texts v_at v_place v_token v_number v_word v_written v_pile v_piled v_opens v_isWhole x1 (1 : Int32) _ _ _ hf hP hD hS (lv_sub hl [0, 1] rfl)
  have b39 : ∀ (v_texts : Nat → Int32) (v_at : Int32) (v_place : Int32) (v_token : Int32) (v_number : Int32) (v_word : Int64) (v_written : Int32) (v_pile : Nat → Int32) (v_piled : Int32) (v_opens : Int32) (v_isWhole : Int32) (x1 : Int32) (H : Heap) (locs : List Loc) (ls : Array Slot), f_X12_beginOne_39 N v_texts v_tape v_taped v_at v_place v_token v_number v_word v_text0 v_written v_sort0 v_pile v_piled v_opens v_isWhole x1 = some (o_r, o_v_texts, o_v_at, o_v_place, o_v_token, o_v_number, o_v_word, o_v_written, o_v_pile, o_v_piled, o_v_opens, o_v_isWhole) → va_P D vwCl (WM h q cI cJ cZ v_a v_image v_texts v_tape v_taped v_fault v_faultPlace v_at v_place v_token v_number v_word v_text0 v_written v_sort0 v_pile v_piled v_opens v_isWhole v_once v_named v_values v_truth v_isWritten v_died v_aside v_likely v_safe v_headOf) H → va_D A (WM h q cI cJ cZ v_a v_image v_texts v_tape v_taped v_fault v_faultPlace v_at v_place v_token v_number v_word v_text0 v_written v_sort0 v_pile v_piled v_opens v_isWhole v_once v_named v_values v_truth v_isWritten v_died v_aside v_likely v_safe v_headOf) → va_S A s.heap H locs → lv_has ls 2 [(0, .ref h), (1, .int x1)] → W p l e ({ frames := 6, cells := 0, slots := 0, locals := 135 } : Room) s m ([.ref h] : List Value).toArray below meth c H locs 0 0 (MQ below ((mQi D (WM h q cI cJ cZ v_a v_image o_v_texts v_tape v_taped v_fault v_faultPlace o_v_at o_v_place o_v_token o_v_number o_v_word v_text0 o_v_written v_sort0 o_v_pile o_v_piled o_v_opens o_v_isWhole v_once v_named v_values v_truth v_isWritten v_died v_aside v_likely v_safe v_headOf) o_r True) A) ([.ref h] : List Value).toArray s 0 0 A) (F0 m 39 ls []) := by
    intro v_texts v_at v_place v_token v_number v_word v_written v_pile v_piled v_opens v_isWhole x1 H locs ls hf hP hD hS hl
    unfold f_X12_beginOne_39 at hf
    refine lv_aload_n hx hb dX12_beginOne_39 rfl (lv_at hl 0 rfl) ?_
    refine gfX12_106 hx hb hts hown hK hP 0 rfl rfl dX12_beginOne_40 ?_
    refine lv_iconst (v := (1 : Int32)) hx hb dX12_beginOne_43 (by decide) ?_
    refine xicmp_eq hx hb 51 dX12_beginOne_44 (by decide) hf (fun hf => ?_) (fun hf => ?_)
    · exact b51 v_texts v_at v_place v_token v_number v_word v_written v_pile v_piled v_opens v_isWhole x1 _ _ _ hf hP hD hS (lv_sub hl [0, 1] rfl)
    · refine lv_iload_n hx hb dX12_beginOne_47 rfl (lv_at hl 1 rfl) ?_
      refine xif_lt hx hb 101 dX12_beginOne_48 (by decide) hf (fun hf => ?_) (fun hf => ?_)
      · refine lv_aload_n hx hb dX12_beginOne_101 rfl (lv_at hl 0 rfl) ?_
        refine gfX12_106 hx hb hts hown hK hP 0 rfl rfl dX12_beginOne_102 ?_
        refine lv_bipush (v := (40 : Int32)) hx hb dX12_beginOne_105 (by decide) ?_
        refine xicmp_ne hx hb 117 dX12_beginOne_107 (by decide) hf (fun hf => ?_) (fun hf => ?_)
        · refine lv_aload_n hx hb dX12_beginOne_110 rfl (lv_at hl 0 rfl) ?_
          refine lv_bipush (v := (40 : Int32)) hx hb dX12_beginOne_111 (by decide) ?_
          obtain ⟨r113, v_at_113, v_place_113, v_token_113, v_number_113, v_word_113, v_pile_113, v_piled_113, v_opens_113, hg113, hf⟩ := ob9_some hf
          refine mcV1_i (As := [.int (40 : Int32)]) (rest := []) hx hb hml hown hts hK hP hD hS hA (k_X12_opened l N D cI cJ cZ cB cT h q v_a v_image v_texts v_tape v_taped v_fault v_faultPlace v_at v_place v_token v_number v_word v_text0 v_written v_sort0 v_pile v_piled v_opens v_isWhole v_once v_named v_values v_truth v_isWritten v_died v_aside v_likely v_safe v_headOf (40 : Int32) r113 v_at_113 v_place_113 v_token_113 v_number_113 v_word_113 v_pile_113 v_piled_113 v_opens_113 hg113) (kwX12_192 hts rfl rfl ⟨Nat.le_of_ble_eq_true rfl, Nat.le_of_ble_eq_true rfl⟩) 0 rfl rfl rfl rfl hl.1 rfl (Nat.le_of_ble_eq_true rfl) dX12_beginOne_113 ⟨Nat.zero_le _, Nat.zero_le _⟩ (fun hB113 H locs hP hD hS => ?_)
          have hP : va_P D vwCl (WM h q cI cJ cZ v_a v_image v_texts v_tape v_taped v_fault v_faultPlace v_at_113 v_place_113 v_token_113 v_number_113 v_word_113 v_text0 v_written v_sort0 v_pile_113 v_piled_113 v_opens_113 v_isWhole v_once v_named v_values v_truth v_isWritten v_died v_aside v_likely v_safe v_headOf) H := hP
          have hD : va_D A (WM h q cI cJ cZ v_a v_image v_texts v_tape v_taped v_fault v_faultPlace v_at_113 v_place_113 v_token_113 v_number_113 v_word_113 v_text0 v_written v_sort0 v_pile_113 v_piled_113 v_opens_113 v_isWhole v_once v_named v_values v_truth v_isWritten v_died v_aside v_likely v_safe v_headOf) := hD
          cases hf
          exact mret_i hx hb hr hlocks hP hD hS dX12_beginOne_116 rfl trivial
        · refine lv_aload_n hx hb dX12_beginOne_117 rfl (lv_at hl 0 rfl) ?_
          refine gfX12_106 hx hb hts hown hK hP 0 rfl rfl dX12_beginOne_118 ?_
          refine lv_bipush (v := (45 : Int32)) hx hb dX12_beginOne_121 (by decide) ?_
          refine xicmp_ne hx hb 132 dX12_beginOne_123 (by decide) hf (fun hf => ?_) (fun hf => ?_)
          · refine lv_aload_n hx hb dX12_beginOne_126 rfl (lv_at hl 0 rfl) ?_
            refine lv_iconst (v := (5 : Int32)) hx hb dX12_beginOne_127 (by decide) ?_
            obtain ⟨r128, v_at_128, v_place_128, v_token_128, v_number_128, v_word_128, v_pile_128, v_piled_128, v_opens_128, hg128, hf⟩ := ob9_some hf
            refine mcV1_i (As := [.int (5 : Int32)]) (rest := []) hx hb hml hown hts hK hP hD hS hA (k_X12_opened l N D cI cJ cZ cB cT h q v_a v_image v_texts v_tape v_taped v_fault v_faultPlace v_at v_place v_token v_number v_word v_text0 v_written v_sort0 v_pile v_piled v_opens v_isWhole v_once v_named v_values v_truth v_isWritten v_died v_aside v_likely v_safe v_headOf (5 : Int32) r128 v_at_128 v_place_128 v_token_128 v_number_128 v_word_128 v_pile_128 v_piled_128 v_opens_128 hg128) (kwX12_192 hts rfl rfl ⟨Nat.le_of_ble_eq_true rfl, Nat.le_of_ble_eq_true rfl⟩) 0 rfl rfl rfl rfl hl.1 rfl (Nat.le_of_ble_eq_true rfl) dX12_beginOne_128 ⟨Nat.zero_le _, Nat.zero_le _⟩ (fun hB128 H locs hP hD hS => ?_)
            have hP : va_P D vwCl (WM h q cI cJ cZ v_a v_image v_texts v_tape v_taped v_fault v_faultPlace v_at_128 v_place_128 v_token_128 v_number_128 v_word_128 v_text0 v_written v_sort0 v_pile_128 v_piled_128 v_opens_128 v_isWhole v_once v_named v_values v_truth v_isWritten v_died v_aside v_likely v_safe v_headOf) H := hP
            have hD : va_D A (WM h q cI cJ cZ v_a v_image v_texts v_tape v_taped v_fault v_faultPlace v_at_128 v_place_128 v_token_128 v_number_128 v_word_128 v_text0 v_written v_sort0 v_pile_128 v_piled_128 v_opens_128 v_isWhole v_once v_named v_values v_truth v_isWritten v_died v_aside v_likely v_safe v_headOf) := hD
            cases hf
            exact mret_i hx hb hr hlocks hP hD hS dX12_beginOne_131 rfl trivial
          · refine lv_aload_n hx hb dX12_beginOne_132 rfl (lv_at hl 0 rfl) ?_
            refine lv_bipush (v := (111 : Int32)) hx hb dX12_beginOne_133 (by decide) ?_
            refine lv_bipush (v := (110 : Int32)) hx hb dX12_beginOne_135 (by decide) ?_
            refine lv_bipush (v := (101 : Int32)) hx hb dX12_beginOne_137 (by decide) ?_
            refine lv_bipush (v := (115 : Int32)) hx hb dX12_beginOne_139 (by decide) ?_
            obtain ⟨r141, hg141, hf⟩ := ob1_some hf
            refine mcS0_l (As := [.int (111 : Int32), .int (110 : Int32), .int (101 : Int32), .int (115 : Int32)]) (rest := [.ref h]) hx hb hml hown hts hK hP hD hS hA (k_X12_w4 l N D cI cJ cZ cB cT (111 : Int32) (110 : Int32) (101 : Int32) (115 : Int32) r141 hg141) (kwX12_136 hts rfl rfl ⟨Nat.le_of_ble_eq_true rfl, Nat.le_of_ble_eq_true rfl⟩) rfl hl.1 rfl (Nat.le_of_ble_eq_true rfl) dX12_beginOne_141 ⟨Nat.zero_le _, Nat.zero_le _⟩ (fun H locs hP hD hS => ?_)
            obtain ⟨r144, hg144, hf⟩ := ob1_some hf
            refine mcV1_i (As := [.long r141]) (rest := []) hx hb hml hown hts hK hP hD hS hA (k_X12_isWord l N D cI cJ cZ cB cT h q v_a v_image v_texts v_tape v_taped v_fault v_faultPlace v_at v_place v_token v_number v_word v_text0 v_written v_sort0 v_pile v_piled v_opens v_isWhole v_once v_named v_values v_truth v_isWritten v_died v_aside v_likely v_safe v_headOf r141 r144 hg144) (kwX12_195 hts rfl rfl ⟨Nat.le_of_ble_eq_true rfl, Nat.le_of_ble_eq_true rfl⟩) 0 rfl rfl rfl rfl hl.1 rfl (Nat.le_of_ble_eq_true rfl) dX12_beginOne_144 ⟨Nat.zero_le _, Nat.zero_le _⟩ (fun hB144 H locs hP hD hS => ?_)
            have hP : va_P D vwCl (WM h q cI cJ cZ v_a v_image v_texts v_tape v_taped v_fault v_faultPlace v_at v_place v_token v_number v_word v_text0 v_written v_sort0 v_pile v_piled v_opens v_isWhole v_once v_named v_values v_truth v_isWritten v_died v_aside v_likely v_safe v_headOf) H := hP
            have hD : va_D A (WM h q cI cJ cZ v_a v_image v_texts v_tape v_taped v_fault v_faultPlace v_at v_place v_token v_number v_word v_text0 v_written v_sort0 v_pile v_piled v_opens v_isWhole v_once v_named v_values v_truth v_isWritten v_died v_aside v_likely v_safe v_headOf) := hD
            refine xif_eq hx hb 156 dX12_beginOne_147 (by decide) hf (fun hf => ?_) (fun hf => ?_)
            · refine lv_aload_n hx hb dX12_beginOne_156 rfl (lv_at hl 0 rfl) ?_
              refine lv_bipush (v := (102 : Int32)) hx hb dX12_beginOne_157 (by decide) ?_
              refine lv_bipush (v := (101 : Int32)) hx hb dX12_beginOne_159 (by decide) ?_
              refine lv_bipush (v := (97 : Int32)) hx hb dX12_beginOne_161 (by decide) ?_
              refine lv_bipush (v := (114 : Int32)) hx hb dX12_beginOne_163 (by decide) ?_
              refine lv_bipush (v := (115 : Int32)) hx hb dX12_beginOne_165 (by decide) ?_
              obtain ⟨r167, hg167, hf⟩ := ob1_some hf
              refine mcS0_l (As := [.int (102 : Int32), .int (101 : Int32), .int (97 : Int32), .int (114 : Int32), .int (115 : Int32)]) (rest := [.ref h]) hx hb hml hown hts hK hP hD hS hA (k_X12_w5 l N D cI cJ cZ cB cT (102 : Int32) (101 : Int32) (97 : Int32) (114 : Int32) (115 : Int32) r167 hg167) (kwX12_140 hts rfl rfl ⟨Nat.le_of_ble_eq_true rfl, Nat.le_of_ble_eq_true rfl⟩) rfl hl.1 rfl (Nat.le_of_ble_eq_true rfl) dX12_beginOne_167 ⟨Nat.zero_le _, Nat.zero_le _⟩ (fun H locs hP hD hS => ?_)
              obtain ⟨r170, hg170, hf⟩ := ob1_some hf
              refine mcV1_i (As := [.long r167]) (rest := []) hx hb hml hown hts hK hP hD hS hA (k_X12_isWord l N D cI cJ cZ cB cT h q v_a v_image v_texts v_tape v_taped v_fault v_faultPlace v_at v_place v_token v_number v_word v_text0 v_written v_sort0 v_pile v_piled v_opens v_isWhole v_once v_named v_values v_truth v_isWritten v_died v_aside v_likely v_safe v_headOf r167 r170 hg170) (kwX12_195 hts rfl rfl ⟨Nat.le_of_ble_eq_true rfl, Nat.le_of_ble_eq_true rfl⟩) 0 rfl rfl rfl rfl hl.1 rfl (Nat.le_of_ble_eq_true rfl) dX12_beginOne_170 ⟨Nat.zero_le _, Nat.zero_le _⟩ (fun hB170 H locs hP hD hS => ?_)
              have hP : va_P D vwCl (WM h q cI cJ cZ v_a v_image v_texts v_tape v_taped v_fault v_faultPlace v_at v_place v_token v_number v_word v_text0 v_written v_sort0 v_pile v_piled v_opens v_isWhole v_once v_named v_values v_truth v_isWritten v_died v_aside v_likely v_safe v_headOf) H := hP
              have hD : va_D A (WM h q cI cJ cZ v_a v_image v_texts v_tape v_taped v_fault v_faultPlace v_at v_place v_token v_number v_word v_text0 v_written v_sort0 v_pile v_piled v_opens v_isWhole v_once v_named v_values v_truth v_isWritten v_died v_aside v_likely v_safe v_headOf) := hD
              refine xif_eq hx hb 182 dX12_beginOne_173 (by decide) hf (fun hf => ?_) (fun hf => ?_)
              · refine lv_aload_n hx hb dX12_beginOne_182 rfl (lv_at hl 0 rfl) ?_
                refine lv_bipush (v := (105 : Int32)) hx hb dX12_beginOne_183 (by decide) ?_
                refine lv_bipush (v := (102 : Int32)) hx hb dX12_beginOne_185 (by decide) ?_
                obtain ⟨r187, hg187, hf⟩ := ob1_some hf
                refine mcS0_l (As := [.int (105 : Int32), .int (102 : Int32)]) (rest := [.ref h]) hx hb hml hown hts hK hP hD hS hA (k_X12_w2 l N D cI cJ cZ cB cT (105 : Int32) (102 : Int32) r187 hg187) (kwX12_128 hts rfl rfl ⟨Nat.le_of_ble_eq_true rfl, Nat.le_of_ble_eq_true rfl⟩) rfl hl.1 rfl (Nat.le_of_ble_eq_true rfl) dX12_beginOne_187 ⟨Nat.zero_le _, Nat.zero_le _⟩ (fun H locs hP hD hS => ?_)
                obtain ⟨r190, hg190, hf⟩ := ob1_some hf
                refine mcV1_i (As := [.long r187]) (rest := []) hx hb hml hown hts hK hP hD hS hA (k_X12_isWord l N D cI cJ cZ cB cT h q v_a v_image v_texts v_tape v_taped v_fault v_faultPlace v_at v_place v_token v_number v_word v_text0 v_written v_sort0 v_pile v_piled v_opens v_isWhole v_once v_named v_values v_truth v_isWritten v_died v_aside v_likely v_safe v_headOf r187 r190 hg190) (kwX12_195 hts rfl rfl ⟨Nat.le_of_ble_eq_true rfl, Nat.le_of_ble_eq_true rfl⟩) 0 rfl rfl rfl rfl hl.1 rfl (Nat.le_of_ble_eq_true rfl) dX12_beginOne_190 ⟨Nat.zero_le _, Nat.zero_le _⟩ (fun hB190 H locs hP hD hS => ?_)
                have hP : va_P D vwCl (WM h q cI cJ cZ v_a v_image v_texts v_tape v_taped v_fault v_faultPlace v_at v_place v_token v_number v_word v_text0 v_written v_sort0 v_pile v_piled v_opens v_isWhole v_once v_named v_values v_truth v_isWritten v_died v_aside v_likely v_safe v_headOf) H := hP
                have hD : va_D A (WM h q cI cJ cZ v_a v_image v_texts v_tape v_taped v_fault v_faultPlace v_at v_place v_token v_number v_word v_text0 v_written v_sort0 v_pile v_piled v_opens v_isWhole v_once v_named v_values v_truth v_isWritten v_died v_aside v_likely v_safe v_headOf) := hD
                refine xif_eq hx hb 203 dX12_beginOne_193 (by decide) hf (fun hf => ?_) (fun hf => ?_)
                · refine lv_aload_n hx hb dX12_beginOne_203 rfl (lv_at hl 0 rfl) ?_
                  refine lv_bipush (v := (110 : Int32)) hx hb dX12_beginOne_204 (by decide) ?_
                  refine lv_bipush (v := (111 : Int32)) hx hb dX12_beginOne_206 (by decide) ?_
                  refine lv_bipush (v := (116 : Int32)) hx hb dX12_beginOne_208 (by decide) ?_
                  obtain ⟨r210, hg210, hf⟩ := ob1_some hf
                  refine mcS0_l (As := [.int (110 : Int32), .int (111 : Int32), .int (116 : Int32)]) (rest := [.ref h]) hx hb hml hown hts hK hP hD hS hA (k_X12_w3 l N D cI cJ cZ cB cT (110 : Int32) (111 : Int32) (116 : Int32) r210 hg210) (kwX12_132 hts rfl rfl ⟨Nat.le_of_ble_eq_true rfl, Nat.le_of_ble_eq_true rfl⟩) rfl hl.1 rfl (Nat.le_of_ble_eq_true rfl) dX12_beginOne_210 ⟨Nat.zero_le _, Nat.zero_le _⟩ (fun H locs hP hD hS => ?_)
                  obtain ⟨r213, hg213, hf⟩ := ob1_some hf
                  refine mcV1_i (As := [.long r210]) (rest := []) hx hb hml hown hts hK hP hD hS hA (k_X12_isWord l N D cI cJ cZ cB cT h q v_a v_image v_texts v_tape v_taped v_fault v_faultPlace v_at v_place v_token v_number v_word v_text0 v_written v_sort0 v_pile v_piled v_opens v_isWhole v_once v_named v_values v_truth v_isWritten v_died v_aside v_likely v_safe v_headOf r210 r213 hg213) (kwX12_195 hts rfl rfl ⟨Nat.le_of_ble_eq_true rfl, Nat.le_of_ble_eq_true rfl⟩) 0 rfl rfl rfl rfl hl.1 rfl (Nat.le_of_ble_eq_true rfl) dX12_beginOne_213 ⟨Nat.zero_le _, Nat.zero_le _⟩ (fun hB213 H locs hP hD hS => ?_)
                  have hP : va_P D vwCl (WM h q cI cJ cZ v_a v_image v_texts v_tape v_taped v_fault v_faultPlace v_at v_place v_token v_number v_word v_text0 v_written v_sort0 v_pile v_piled v_opens v_isWhole v_once v_named v_values v_truth v_isWritten v_died v_aside v_likely v_safe v_headOf) H := hP
                  have hD : va_D A (WM h q cI cJ cZ v_a v_image v_texts v_tape v_taped v_fault v_faultPlace v_at v_place v_token v_number v_word v_text0 v_written v_sort0 v_pile v_piled v_opens v_isWhole v_once v_named v_values v_truth v_isWritten v_died v_aside v_likely v_safe v_headOf) := hD
                  refine xif_eq hx hb 235 dX12_beginOne_216 (by decide) hf (fun hf => ?_) (fun hf => ?_)
                  · refine lv_iconst (v := (1 : Int32)) hx hb dX12_beginOne_235 (by decide) ?_
                    cases hf
                    exact mret_i hx hb hr hlocks hP hD hS dX12_beginOne_236 rfl trivial
                  · refine lv_aload_n hx hb dX12_beginOne_219 rfl (lv_at hl 0 rfl) ?_
                    obtain ⟨r220, hg220, hf⟩ := ob1_some hf
                    refine mcV1_i (As := []) (rest := []) hx hb hml hown hts hK hP hD hS hA (k_X12_isAskAhead l N D cI cJ cZ cB cT h q v_a v_image v_texts v_tape v_taped v_fault v_faultPlace v_at v_place v_token v_number v_word v_text0 v_written v_sort0 v_pile v_piled v_opens v_isWhole v_once v_named v_values v_truth v_isWritten v_died v_aside v_likely v_safe v_headOf r220 hg220) (kwX12_199 hts rfl rfl ⟨Nat.le_of_ble_eq_true rfl, Nat.le_of_ble_eq_true rfl⟩) 0 rfl rfl rfl rfl hl.1 rfl (Nat.le_of_ble_eq_true rfl) dX12_beginOne_220 ⟨Nat.zero_le _, Nat.zero_le _⟩ (fun hB220 H locs hP hD hS => ?_)
                    have hP : va_P D vwCl (WM h q cI cJ cZ v_a v_image v_texts v_tape v_taped v_fault v_faultPlace v_at v_place v_token v_number v_word v_text0 v_written v_sort0 v_pile v_piled v_opens v_isWhole v_once v_named v_values v_truth v_isWritten v_died v_aside v_likely v_safe v_headOf) H := hP
                    have hD : va_D A (WM h q cI cJ cZ v_a v_image v_texts v_tape v_taped v_fault v_faultPlace v_at v_place v_token v_number v_word v_text0 v_written v_sort0 v_pile v_piled v_opens v_isWhole v_once v_named v_values v_truth v_isWritten v_died v_aside v_likely v_safe v_headOf) := hD
                    refine xif_eq hx hb 235 dX12_beginOne_223 (by decide) hf (fun hf => ?_) (fun hf => ?_)
                    · refine lv_iconst (v := (1 : Int32)) hx hb dX12_beginOne_235 (by decide) ?_
                      cases hf
                      exact mret_i hx hb hr hlocks hP hD hS dX12_beginOne_236 rfl trivial
                    · refine lv_aload_n hx hb dX12_beginOne_226 rfl (lv_at hl 0 rfl) ?_
                      refine lv_bipush (v := (20 : Int32)) hx hb dX12_beginOne_227 (by decide) ?_
                      obtain ⟨r229, v_at_229, v_place_229, v_token_229, v_number_229, v_word_229, v_pile_229, v_piled_229, v_opens_229, hg229, hf⟩ := ob9_some hf
                      refine mcV1_i (As := [.int (20 : Int32)]) (rest := []) hx hb hml hown hts hK hP hD hS hA (k_X12_opened l N D cI cJ cZ cB cT h q v_a v_image v_texts v_tape v_taped v_fault v_faultPlace v_at v_place v_token v_number v_word v_text0 v_written v_sort0 v_pile v_piled v_opens v_isWhole v_once v_named v_values v_truth v_isWritten v_died v_aside v_likely v_safe v_headOf (20 : Int32) r229 v_at_229 v_place_229 v_token_229 v_number_229 v_word_229 v_pile_229 v_piled_229 v_opens_229 hg229) (kwX12_192 hts rfl rfl ⟨Nat.le_of_ble_eq_true rfl, Nat.le_of_ble_eq_true rfl⟩) 0 rfl rfl rfl rfl hl.1 rfl (Nat.le_of_ble_eq_true rfl) dX12_beginOne_229 ⟨Nat.zero_le _, Nat.zero_le _⟩ (fun hB229 H locs hP hD hS => ?_)
                      have hP : va_P D vwCl (WM h q cI cJ cZ v_a v_image v_texts v_tape v_taped v_fault v_faultPlace v_at_229 v_place_229 v_token_229 v_number_229 v_word_229 v_text0 v_written v_sort0 v_pile_229 v_piled_229 v_opens_229 v_isWhole v_once v_named v_values v_truth v_isWritten v_died v_aside v_likely v_safe v_headOf) H := hP
                      have hD : va_D A (WM h q cI cJ cZ v_a v_image v_texts v_tape v_taped v_fault v_faultPlace v_at_229 v_place_229 v_token_229 v_number_229 v_word_229 v_text0 v_written v_sort0 v_pile_229 v_piled_229 v_opens_229 v_isWhole v_once v_named v_values v_truth v_isWritten v_died v_aside v_likely v_safe v_headOf) := hD
                      refine lv_goto (tgt := 236) hx hb dX12_beginOne_232 (by decide) ?_
                      cases hf
                      exact mret_i hx hb hr hlocks hP hD hS dX12_beginOne_236 rfl trivial
                · refine lv_aload_n hx hb dX12_beginOne_196 rfl (lv_at hl 0 rfl) ?_
                  refine lv_bipush (v := (41 : Int32)) hx hb dX12_beginOne_197 (by decide) ?_
                  obtain ⟨r199, v_at_199, v_place_199, v_token_199, v_number_199, v_word_199, v_pile_199, v_piled_199, v_opens_199, hg199, hf⟩ := ob9_some hf
                  refine mcV1_i (As := [.int (41 : Int32)]) (rest := []) hx hb hml hown hts hK hP hD hS hA (k_X12_opened l N D cI cJ cZ cB cT h q v_a v_image v_texts v_tape v_taped v_fault v_faultPlace v_at v_place v_token v_number v_word v_text0 v_written v_sort0 v_pile v_piled v_opens v_isWhole v_once v_named v_values v_truth v_isWritten v_died v_aside v_likely v_safe v_headOf (41 : Int32) r199 v_at_199 v_place_199 v_token_199 v_number_199 v_word_199 v_pile_199 v_piled_199 v_opens_199 hg199) (kwX12_192 hts rfl rfl ⟨Nat.le_of_ble_eq_true rfl, Nat.le_of_ble_eq_true rfl⟩) 0 rfl rfl rfl rfl hl.1 rfl (Nat.le_of_ble_eq_true rfl) dX12_beginOne_199 ⟨Nat.zero_le _, Nat.zero_le _⟩ (fun hB199 H locs hP hD hS => ?_)
                  have hP : va_P D vwCl (WM h q cI cJ cZ v_a v_image v_texts v_tape v_taped v_fault v_faultPlace v_at_199 v_place_199 v_token_199 v_number_199 v_word_199 v_text0 v_written v_sort0 v_pile_199 v_piled_199 v_opens_199 v_isWhole v_once v_named v_values v_truth v_isWritten v_died v_aside v_likely v_safe v_headOf) H := hP
                  have hD : va_D A (WM h q cI cJ cZ v_a v_image v_texts v_tape v_taped v_fault v_faultPlace v_at_199 v_place_199 v_token_199 v_number_199 v_word_199 v_text0 v_written v_sort0 v_pile_199 v_piled_199 v_opens_199 v_isWhole v_once v_named v_values v_truth v_isWritten v_died v_aside v_likely v_safe v_headOf) := hD
                  cases hf
                  exact mret_i hx hb hr hlocks hP hD hS dX12_beginOne_202 rfl trivial
              · refine lv_aload_n hx hb dX12_beginOne_176 rfl (lv_at hl 0 rfl) ?_
                refine lv_iconst (v := (3 : Int32)) hx hb dX12_beginOne_177 (by decide) ?_
                obtain ⟨r178, v_at_178, v_place_178, v_token_178, v_number_178, v_word_178, v_pile_178, v_piled_178, v_opens_178, hg178, hf⟩ := ob9_some hf
                refine mcV1_i (As := [.int (3 : Int32)]) (rest := []) hx hb hml hown hts hK hP hD hS hA (k_X12_opened l N D cI cJ cZ cB cT h q v_a v_image v_texts v_tape v_taped v_fault v_faultPlace v_at v_place v_token v_number v_word v_text0 v_written v_sort0 v_pile v_piled v_opens v_isWhole v_once v_named v_values v_truth v_isWritten v_died v_aside v_likely v_safe v_headOf (3 : Int32) r178 v_at_178 v_place_178 v_token_178 v_number_178 v_word_178 v_pile_178 v_piled_178 v_opens_178 hg178) (kwX12_192 hts rfl rfl ⟨Nat.le_of_ble_eq_true rfl, Nat.le_of_ble_eq_true rfl⟩) 0 rfl rfl rfl rfl hl.1 rfl (Nat.le_of_ble_eq_true rfl) dX12_beginOne_178 ⟨Nat.zero_le _, Nat.zero_le _⟩ (fun hB178 H locs hP hD hS => ?_)
                have hP : va_P D vwCl (WM h q cI cJ cZ v_a v_image v_texts v_tape v_taped v_fault v_faultPlace v_at_178 v_place_178 v_token_178 v_number_178 v_word_178 v_text0 v_written v_sort0 v_pile_178 v_piled_178 v_opens_178 v_isWhole v_once v_named v_values v_truth v_isWritten v_died v_aside v_likely v_safe v_headOf) H := hP
                have hD : va_D A (WM h q cI cJ cZ v_a v_image v_texts v_tape v_taped v_fault v_faultPlace v_at_178 v_place_178 v_token_178 v_number_178 v_word_178 v_text0 v_written v_sort0 v_pile_178 v_piled_178 v_opens_178 v_isWhole v_once v_named v_values v_truth v_isWritten v_died v_aside v_likely v_safe v_headOf) := hD
                cases hf
                exact mret_i hx hb hr hlocks hP hD hS dX12_beginOne_181 rfl trivial
            · refine lv_aload_n hx hb dX12_beginOne_150 rfl (lv_at hl 0 rfl) ?_
              refine lv_iconst (v := (2 : Int32)) hx hb dX12_beginOne_151 (by decide) ?_
              obtain ⟨r152, v_at_152, v_place_152, v_token_152, v_number_152, v_word_152, v_pile_152, v_piled_152, v_opens_152, hg152, hf⟩ := ob9_some hf
              refine mcV1_i (As := [.int (2 : Int32)]) (rest := []) hx hb hml hown hts hK hP hD hS hA (k_X12_opened l N D cI cJ cZ cB cT h q v_a v_image v_texts v_tape v_taped v_fault v_faultPlace v_at v_place v_token v_number v_word v_text0 v_written v_sort0 v_pile v_piled v_opens v_isWhole v_once v_named v_values v_truth v_isWritten v_died v_aside v_likely v_safe v_headOf (2 : Int32) r152 v_at_152 v_place_152 v_token_152 v_number_152 v_word_152 v_pile_152 v_piled_152 v_opens_152 hg152) (kwX12_192 hts rfl rfl ⟨Nat.le_of_ble_eq_true rfl, Nat.le_of_ble_eq_true rfl⟩) 0 rfl rfl rfl rfl hl.1 rfl (Nat.le_of_ble_eq_true rfl) dX12_beginOne_152 ⟨Nat.zero_le _, Nat.zero_le _⟩ (fun hB152 H locs hP hD hS => ?_)
              have hP : va_P D vwCl (WM h q cI cJ cZ v_a v_image v_texts v_tape v_taped v_fault v_faultPlace v_at_152 v_place_152 v_token_152 v_number_152 v_word_152 v_text0 v_written v_sort0 v_pile_152 v_piled_152 v_opens_152 v_isWhole v_once v_named v_values v_truth v_isWritten v_died v_aside v_likely v_safe v_headOf) H := hP
              have hD : va_D A (WM h q cI cJ cZ v_a v_image v_texts v_tape v_taped v_fault v_faultPlace v_at_152 v_place_152 v_token_152 v_number_152 v_word_152 v_text0 v_written v_sort0 v_pile_152 v_piled_152 v_opens_152 v_isWhole v_once v_named v_values v_truth v_isWritten v_died v_aside v_likely v_safe v_headOf) := hD
              cases hf
              exact mret_i hx hb hr hlocks hP hD hS dX12_beginOne_155 rfl trivial
      · exact b51 v_texts v_at v_place v_token v_number v_word v_written v_pile v_piled v_opens v_isWhole x1 _ _ _ hf hP hD hS (lv_sub hl [0, 1] rfl)
  have b20 : ∀ (v_texts : Nat → Int32) (v_at : Int32) (v_place : Int32) (v_token : Int32) (v_number : Int32) (v_word : Int64) (v_written : Int32) (v_pile : Nat → Int32) (v_piled : Int32) (v_opens : Int32) (v_isWhole : Int32) (H : Heap) (locs : List Loc) (ls : Array Slot), f_X12_beginOne_20 N v_texts v_tape v_taped v_at v_place v_token v_number v_word v_text0 v_written v_sort0 v_pile v_piled v_opens v_isWhole = some (o_r, o_v_texts, o_v_at, o_v_place, o_v_token, o_v_number, o_v_word, o_v_written, o_v_pile, o_v_piled, o_v_opens, o_v_isWhole) → va_P D vwCl (WM h q cI cJ cZ v_a v_image v_texts v_tape v_taped v_fault v_faultPlace v_at v_place v_token v_number v_word v_text0 v_written v_sort0 v_pile v_piled v_opens v_isWhole v_once v_named v_values v_truth v_isWritten v_died v_aside v_likely v_safe v_headOf) H → va_D A (WM h q cI cJ cZ v_a v_image v_texts v_tape v_taped v_fault v_faultPlace v_at v_place v_token v_number v_word v_text0 v_written v_sort0 v_pile v_piled v_opens v_isWhole v_once v_named v_values v_truth v_isWritten v_died v_aside v_likely v_safe v_headOf) → va_S A s.heap H locs → lv_has ls 2 [(0, .ref h)] → W p l e ({ frames := 6, cells := 0, slots := 0, locals := 135 } : Room) s m ([.ref h] : List Value).toArray below meth c H locs 0 0 (MQ below ((mQi D (WM h q cI cJ cZ v_a v_image o_v_texts v_tape v_taped v_fault v_faultPlace o_v_at o_v_place o_v_token o_v_number o_v_word v_text0 o_v_written v_sort0 o_v_pile o_v_piled o_v_opens o_v_isWhole v_once v_named v_values v_truth v_isWritten v_died v_aside v_likely v_safe v_headOf) o_r True) A) ([.ref h] : List Value).toArray s 0 0 A) (F0 m 20 ls []) := by
    intro v_texts v_at v_place v_token v_number v_word v_written v_pile v_piled v_opens v_isWhole H locs ls hf hP hD hS hl
    unfold f_X12_beginOne_20 at hf
    refine lv_aload_n hx hb dX12_beginOne_20 rfl (lv_at hl 0 rfl) ?_
    obtain ⟨r21, hg21, hf⟩ := ob1_some hf
    refine mcV1_i (As := []) (rest := []) hx hb hml hown hts hK hP hD hS hA (k_X12_nameOf l N D cI cJ cZ cB cT h q v_a v_image v_texts v_tape v_taped v_fault v_faultPlace v_at v_place v_token v_number v_word v_text0 v_written v_sort0 v_pile v_piled v_opens v_isWhole v_once v_named v_values v_truth v_isWritten v_died v_aside v_likely v_safe v_headOf r21 hg21) (kwX12_180 hts rfl rfl ⟨Nat.le_of_ble_eq_true rfl, Nat.le_of_ble_eq_true rfl⟩) 0 rfl rfl rfl rfl hl.1 rfl (Nat.le_of_ble_eq_true rfl) dX12_beginOne_21 ⟨Nat.zero_le _, Nat.zero_le _⟩ (fun hB21 H locs hP hD hS => ?_)
    have hP : va_P D vwCl (WM h q cI cJ cZ v_a v_image v_texts v_tape v_taped v_fault v_faultPlace v_at v_place v_token v_number v_word v_text0 v_written v_sort0 v_pile v_piled v_opens v_isWhole v_once v_named v_values v_truth v_isWritten v_died v_aside v_likely v_safe v_headOf) H := hP
    have hD : va_D A (WM h q cI cJ cZ v_a v_image v_texts v_tape v_taped v_fault v_faultPlace v_at v_place v_token v_number v_word v_text0 v_written v_sort0 v_pile v_piled v_opens v_isWhole v_once v_named v_values v_truth v_isWritten v_died v_aside v_likely v_safe v_headOf) := hD
    refine lv_istore_n (lv' := [(1, .int r21), (0, .ref h)]) hx hb dX12_beginOne_24 rfl hl (by decide) rfl (fun ls hl => ?_)
    refine lv_iload_n hx hb dX12_beginOne_25 rfl (lv_at hl 0 rfl) ?_
    refine xif_lt hx hb 39 dX12_beginOne_26 (by decide) hf (fun hf => ?_) (fun hf => ?_)
    · exact b39 v_texts v_at v_place v_token v_number v_word v_written v_pile v_piled v_opens v_isWhole r21 _ _ _ hf hP hD hS (lv_sub hl [1, 0] rfl)
    · refine lv_aload_n hx hb dX12_beginOne_29 rfl (lv_at hl 1 rfl) ?_
      refine lv_iload_n hx hb dX12_beginOne_30 rfl (lv_at hl 0 rfl) ?_
      obtain ⟨r31, hg31, hf⟩ := ob1_some hf
      refine mcV1_i (As := [.int r21]) (rest := []) hx hb hml hown hts hK hP hD hS hA (k_X12_isOf l N D cI cJ cZ cB cT h q v_a v_image v_texts v_tape v_taped v_fault v_faultPlace v_at v_place v_token v_number v_word v_text0 v_written v_sort0 v_pile v_piled v_opens v_isWhole v_once v_named v_values v_truth v_isWritten v_died v_aside v_likely v_safe v_headOf r21 r31 hg31) (kwX12_183 hts rfl rfl ⟨Nat.le_of_ble_eq_true rfl, Nat.le_of_ble_eq_true rfl⟩) 0 rfl rfl rfl rfl hl.1 rfl (Nat.le_of_ble_eq_true rfl) dX12_beginOne_31 ⟨Nat.zero_le _, Nat.zero_le _⟩ (fun hB31 H locs hP hD hS => ?_)
      have hP : va_P D vwCl (WM h q cI cJ cZ v_a v_image v_texts v_tape v_taped v_fault v_faultPlace v_at v_place v_token v_number v_word v_text0 v_written v_sort0 v_pile v_piled v_opens v_isWhole v_once v_named v_values v_truth v_isWritten v_died v_aside v_likely v_safe v_headOf) H := hP
      have hD : va_D A (WM h q cI cJ cZ v_a v_image v_texts v_tape v_taped v_fault v_faultPlace v_at v_place v_token v_number v_word v_text0 v_written v_sort0 v_pile v_piled v_opens v_isWhole v_once v_named v_values v_truth v_isWritten v_died v_aside v_likely v_safe v_headOf) := hD
      refine xif_ne hx hb 39 dX12_beginOne_34 (by decide) hf (fun hf => ?_) (fun hf => ?_)
      · refine lv_iconst (v := (5 : Int32)) hx hb dX12_beginOne_37 (by decide) ?_
        cases hf
        exact mret_i hx hb hr hlocks hP hD hS dX12_beginOne_38 rfl trivial
      · exact b39 v_texts v_at v_place v_token v_number v_word v_written v_pile v_piled v_opens v_isWhole r21 _ _ _ hf hP hD hS (lv_sub hl [1, 0] rfl)
  unfold f_X12_beginOne at hf
  refine lv_aload_n hx hb dX12_beginOne_0 rfl (lv_at hl 0 rfl) ?_
  refine gfX12_106 hx hb hts hown hK hP 0 rfl rfl dX12_beginOne_1 ?_
  refine lv_iconst (v := (1 : Int32)) hx hb dX12_beginOne_4 (by decide) ?_
  refine xicmp_ne hx hb 20 dX12_beginOne_5 (by decide) hf (fun hf => ?_) (fun hf => ?_)
  · refine lv_aload_n hx hb dX12_beginOne_8 rfl (lv_at hl 0 rfl) ?_
    refine gfX12_112 hx hb hts hown hK hP 0 rfl rfl dX12_beginOne_9 ?_
    refine lv_sipush (v := (9999 : Int32)) hx hb dX12_beginOne_12 (by decide) ?_
    refine xicmp_le hx hb 20 dX12_beginOne_15 (by decide) hf (fun hf => ?_) (fun hf => ?_)
    · exact b20 v_texts v_at v_place v_token v_number v_word v_written v_pile v_piled v_opens v_isWhole _ _ _ hf hP hD hS (lv_sub hl [0] rfl)
    · refine lv_iconst (v := (2 : Int32)) hx hb dX12_beginOne_18 (by decide) ?_
      cases hf
      exact mret_i hx hb hr hlocks hP hD hS dX12_beginOne_19 rfl trivial
  · exact b20 v_texts v_at v_place v_token v_number v_word v_written v_pile v_piled v_opens v_isWhole _ _ _ hf hP hD hS (lv_sub hl [0] rfl)
theorem dX12_compareOf_0 : decode cX12_compareOf 0 = .ok (.aload_n 0, 1) := by decide +kernel
theorem dX12_compareOf_1 : decode cX12_compareOf 1 = .ok (.getfield 106, 3) := by decide +kernel
theorem dX12_compareOf_4 : decode cX12_compareOf 4 = .ok (.bipush 60, 2) := by decide +kernel
theorem dX12_compareOf_6 : decode cX12_compareOf 6 = .ok (.if_icmp .ne 8, 3) := by decide +kernel
theorem dX12_compareOf_9 : decode cX12_compareOf 9 = .ok (.bipush 10, 2) := by decide +kernel
theorem dX12_compareOf_11 : decode cX12_compareOf 11 = .ok (.goto 72, 3) := by decide +kernel
theorem dX12_compareOf_14 : decode cX12_compareOf 14 = .ok (.aload_n 0, 1) := by decide +kernel
theorem dX12_compareOf_15 : decode cX12_compareOf 15 = .ok (.getfield 106, 3) := by decide +kernel
theorem dX12_compareOf_18 : decode cX12_compareOf 18 = .ok (.iconst 4, 1) := by decide +kernel
theorem dX12_compareOf_19 : decode cX12_compareOf 19 = .ok (.if_icmp .ne 8, 3) := by decide +kernel
theorem dX12_compareOf_22 : decode cX12_compareOf 22 = .ok (.bipush 11, 2) := by decide +kernel
theorem dX12_compareOf_24 : decode cX12_compareOf 24 = .ok (.goto 59, 3) := by decide +kernel
theorem dX12_compareOf_27 : decode cX12_compareOf 27 = .ok (.aload_n 0, 1) := by decide +kernel
theorem dX12_compareOf_28 : decode cX12_compareOf 28 = .ok (.getfield 106, 3) := by decide +kernel
theorem dX12_compareOf_31 : decode cX12_compareOf 31 = .ok (.bipush 62, 2) := by decide +kernel
theorem dX12_compareOf_33 : decode cX12_compareOf 33 = .ok (.if_icmp .ne 8, 3) := by decide +kernel
theorem dX12_compareOf_36 : decode cX12_compareOf 36 = .ok (.bipush 12, 2) := by decide +kernel
theorem dX12_compareOf_38 : decode cX12_compareOf 38 = .ok (.goto 45, 3) := by decide +kernel
theorem dX12_compareOf_41 : decode cX12_compareOf 41 = .ok (.aload_n 0, 1) := by decide +kernel
theorem dX12_compareOf_42 : decode cX12_compareOf 42 = .ok (.getfield 106, 3) := by decide +kernel
theorem dX12_compareOf_45 : decode cX12_compareOf 45 = .ok (.iconst 5, 1) := by decide +kernel
theorem dX12_compareOf_46 : decode cX12_compareOf 46 = .ok (.if_icmp .ne 8, 3) := by decide +kernel
theorem dX12_compareOf_49 : decode cX12_compareOf 49 = .ok (.bipush 13, 2) := by decide +kernel
theorem dX12_compareOf_51 : decode cX12_compareOf 51 = .ok (.goto 32, 3) := by decide +kernel
theorem dX12_compareOf_54 : decode cX12_compareOf 54 = .ok (.aload_n 0, 1) := by decide +kernel
theorem dX12_compareOf_55 : decode cX12_compareOf 55 = .ok (.getfield 106, 3) := by decide +kernel
theorem dX12_compareOf_58 : decode cX12_compareOf 58 = .ok (.bipush 61, 2) := by decide +kernel
theorem dX12_compareOf_60 : decode cX12_compareOf 60 = .ok (.if_icmp .ne 8, 3) := by decide +kernel
theorem dX12_compareOf_63 : decode cX12_compareOf 63 = .ok (.bipush 14, 2) := by decide +kernel
theorem dX12_compareOf_65 : decode cX12_compareOf 65 = .ok (.goto 18, 3) := by decide +kernel
theorem dX12_compareOf_68 : decode cX12_compareOf 68 = .ok (.aload_n 0, 1) := by decide +kernel
theorem dX12_compareOf_69 : decode cX12_compareOf 69 = .ok (.getfield 106, 3) := by decide +kernel
theorem dX12_compareOf_72 : decode cX12_compareOf 72 = .ok (.bipush 35, 2) := by decide +kernel
theorem dX12_compareOf_74 : decode cX12_compareOf 74 = .ok (.if_icmp .ne 8, 3) := by decide +kernel
theorem dX12_compareOf_77 : decode cX12_compareOf 77 = .ok (.bipush 15, 2) := by decide +kernel
theorem dX12_compareOf_79 : decode cX12_compareOf 79 = .ok (.goto 4, 3) := by decide +kernel
theorem dX12_compareOf_82 : decode cX12_compareOf 82 = .ok (.iconst (-1), 1) := by decide +kernel
theorem dX12_compareOf_83 : decode cX12_compareOf 83 = .ok (.ireturn, 1) := by decide +kernel
def f_X12_compareOf (N : Nat) (v_token : Int32) : Option (Int32) := if v_token = (60 : Int32) then (some (10 : Int32)) else (if v_token = (4 : Int32) then (some (11 : Int32)) else (if v_token = (62 : Int32) then (some (12 : Int32)) else (if v_token = (5 : Int32) then (some (13 : Int32)) else (if v_token = (61 : Int32) then (some (14 : Int32)) else (if v_token = (35 : Int32) then (some (15 : Int32)) else (some (-1 : Int32)))))))
set_option maxHeartbeats 4000000 in
set_option maxRecDepth 100000 in
theorem k_X12_compareOf (l : Launch) (N : Nat) (D : va_G) (cI cJ cZ cB cT : ClassId) (h : Nat) (q : Nat → Nat) (v_a : Nat → Int32) (v_image : Nat → Int32) (v_texts : Nat → Int32) (v_tape : Nat → Int32) (v_taped : Int32) (v_fault : Int32) (v_faultPlace : Int32) (v_at : Int32) (v_place : Int32) (v_token : Int32) (v_number : Int32) (v_word : Int64) (v_text0 : Int32) (v_written : Int32) (v_sort0 : Int32) (v_pile : Nat → Int32) (v_piled : Int32) (v_opens : Int32) (v_isWhole : Int32) (v_once : Int32) (v_named : Nat → Int32) (v_values : Nat → Int64) (v_truth : Nat → Int32) (v_isWritten : Int32) (v_died : Int32) (v_aside : Nat → Int32) (v_likely : Nat → Int32) (v_safe : Nat → Int32) (v_headOf : Nat → Int32) (o_r : Int32) (hf : f_X12_compareOf N v_token = some o_r) : ∀ sz, Met l yX12_compareOf (mw yX12_compareOf cX12_compareOf 1 (some .int)) ({ frames := 0, cells := 0, slots := 0, locals := 0 } : Room) (mPre D (mT cI cJ cZ cB cT) (WM h q cI cJ cZ v_a v_image v_texts v_tape v_taped v_fault v_faultPlace v_at v_place v_token v_number v_word v_text0 v_written v_sort0 v_pile v_piled v_opens v_isWhole v_once v_named v_values v_truth v_isWritten v_died v_aside v_likely v_safe v_headOf) sz [.ref h]) ((mQi D (WM h q cI cJ cZ v_a v_image v_texts v_tape v_taped v_fault v_faultPlace v_at v_place v_token v_number v_word v_text0 v_written v_sort0 v_pile v_piled v_opens v_isWhole v_once v_named v_values v_truth v_isWritten v_died v_aside v_likely v_safe v_headOf) o_r True) (va_A (WM h q cI cJ cZ v_a v_image v_texts v_tape v_taped v_fault v_faultPlace v_at v_place v_token v_number v_word v_text0 v_written v_sort0 v_pile v_piled v_opens v_isWhole v_once v_named v_values v_truth v_isWritten v_died v_aside v_likely v_safe v_headOf) sz)) 0 0 (va_A (WM h q cI cJ cZ v_a v_image v_texts v_tape v_taped v_fault v_faultPlace v_at v_place v_token v_number v_word v_text0 v_written v_sort0 v_pile v_piled v_opens v_isWhole v_once v_named v_values v_truth v_isWritten v_died v_aside v_likely v_safe v_headOf) sz) := by
  refine mMet (Qc := (mQi D (WM h q cI cJ cZ v_a v_image v_texts v_tape v_taped v_fault v_faultPlace v_at v_place v_token v_number v_word v_text0 v_written v_sort0 v_pile v_piled v_opens v_isWhole v_once v_named v_values v_truth v_isWritten v_died v_aside v_likely v_safe v_headOf) o_r True)) (by decide) (Nat.le_of_ble_eq_true rfl) (fun p e s m below meth c A ls hx hb hr hml hts hown hlocks hK hA hP hD hl => ?_)
  have hown : s.vm.findClass RX12 = some m.cls := hown
  have hl : lv_has ls 1 [(0, .ref h)] := hl
  have hS : va_S A s.heap s.heap [] := va_S.rf
  unfold f_X12_compareOf at hf
  refine lv_aload_n hx hb dX12_compareOf_0 rfl (lv_at hl 0 rfl) ?_
  refine gfX12_106 hx hb hts hown hK hP 0 rfl rfl dX12_compareOf_1 ?_
  refine lv_bipush (v := (60 : Int32)) hx hb dX12_compareOf_4 (by decide) ?_
  refine xicmp_ne hx hb 14 dX12_compareOf_6 (by decide) hf (fun hf => ?_) (fun hf => ?_)
  · refine lv_bipush (v := (10 : Int32)) hx hb dX12_compareOf_9 (by decide) ?_
    refine lv_goto (tgt := 83) hx hb dX12_compareOf_11 (by decide) ?_
    cases hf
    exact mret_i hx hb hr hlocks hP hD hS dX12_compareOf_83 rfl trivial
  · refine lv_aload_n hx hb dX12_compareOf_14 rfl (lv_at hl 0 rfl) ?_
    refine gfX12_106 hx hb hts hown hK hP 0 rfl rfl dX12_compareOf_15 ?_
    refine lv_iconst (v := (4 : Int32)) hx hb dX12_compareOf_18 (by decide) ?_
    refine xicmp_ne hx hb 27 dX12_compareOf_19 (by decide) hf (fun hf => ?_) (fun hf => ?_)
    · refine lv_bipush (v := (11 : Int32)) hx hb dX12_compareOf_22 (by decide) ?_
      refine lv_goto (tgt := 83) hx hb dX12_compareOf_24 (by decide) ?_
      cases hf
      exact mret_i hx hb hr hlocks hP hD hS dX12_compareOf_83 rfl trivial
    · refine lv_aload_n hx hb dX12_compareOf_27 rfl (lv_at hl 0 rfl) ?_
      refine gfX12_106 hx hb hts hown hK hP 0 rfl rfl dX12_compareOf_28 ?_
      refine lv_bipush (v := (62 : Int32)) hx hb dX12_compareOf_31 (by decide) ?_
      refine xicmp_ne hx hb 41 dX12_compareOf_33 (by decide) hf (fun hf => ?_) (fun hf => ?_)
      · refine lv_bipush (v := (12 : Int32)) hx hb dX12_compareOf_36 (by decide) ?_
        refine lv_goto (tgt := 83) hx hb dX12_compareOf_38 (by decide) ?_
        cases hf
        exact mret_i hx hb hr hlocks hP hD hS dX12_compareOf_83 rfl trivial
      · refine lv_aload_n hx hb dX12_compareOf_41 rfl (lv_at hl 0 rfl) ?_
        refine gfX12_106 hx hb hts hown hK hP 0 rfl rfl dX12_compareOf_42 ?_
        refine lv_iconst (v := (5 : Int32)) hx hb dX12_compareOf_45 (by decide) ?_
        refine xicmp_ne hx hb 54 dX12_compareOf_46 (by decide) hf (fun hf => ?_) (fun hf => ?_)
        · refine lv_bipush (v := (13 : Int32)) hx hb dX12_compareOf_49 (by decide) ?_
          refine lv_goto (tgt := 83) hx hb dX12_compareOf_51 (by decide) ?_
          cases hf
          exact mret_i hx hb hr hlocks hP hD hS dX12_compareOf_83 rfl trivial
        · refine lv_aload_n hx hb dX12_compareOf_54 rfl (lv_at hl 0 rfl) ?_
          refine gfX12_106 hx hb hts hown hK hP 0 rfl rfl dX12_compareOf_55 ?_
          refine lv_bipush (v := (61 : Int32)) hx hb dX12_compareOf_58 (by decide) ?_
          refine xicmp_ne hx hb 68 dX12_compareOf_60 (by decide) hf (fun hf => ?_) (fun hf => ?_)
          · refine lv_bipush (v := (14 : Int32)) hx hb dX12_compareOf_63 (by decide) ?_
            refine lv_goto (tgt := 83) hx hb dX12_compareOf_65 (by decide) ?_
            cases hf
            exact mret_i hx hb hr hlocks hP hD hS dX12_compareOf_83 rfl trivial
          · refine lv_aload_n hx hb dX12_compareOf_68 rfl (lv_at hl 0 rfl) ?_
            refine gfX12_106 hx hb hts hown hK hP 0 rfl rfl dX12_compareOf_69 ?_
            refine lv_bipush (v := (35 : Int32)) hx hb dX12_compareOf_72 (by decide) ?_
            refine xicmp_ne hx hb 82 dX12_compareOf_74 (by decide) hf (fun hf => ?_) (fun hf => ?_)
            · refine lv_bipush (v := (15 : Int32)) hx hb dX12_compareOf_77 (by decide) ?_
              refine lv_goto (tgt := 83) hx hb dX12_compareOf_79 (by decide) ?_
              cases hf
              exact mret_i hx hb hr hlocks hP hD hS dX12_compareOf_83 rfl trivial
            · refine lv_iconst (v := (-1 : Int32)) hx hb dX12_compareOf_82 (by decide) ?_
              cases hf
              exact mret_i hx hb hr hlocks hP hD hS dX12_compareOf_83 rfl trivial
theorem dX12_betweenOf_0 : decode cX12_betweenOf 0 = .ok (.aload_n 0, 1) := by decide +kernel
theorem dX12_betweenOf_1 : decode cX12_betweenOf 1 = .ok (.getfield 106, 3) := by decide +kernel
theorem dX12_betweenOf_4 : decode cX12_betweenOf 4 = .ok (.bipush 43, 2) := by decide +kernel
theorem dX12_betweenOf_6 : decode cX12_betweenOf 6 = .ok (.if_icmp .ne 6, 3) := by decide +kernel
theorem dX12_betweenOf_9 : decode cX12_betweenOf 9 = .ok (.bipush 6, 2) := by decide +kernel
theorem dX12_betweenOf_11 : decode cX12_betweenOf 11 = .ok (.ireturn, 1) := by decide +kernel
theorem dX12_betweenOf_12 : decode cX12_betweenOf 12 = .ok (.aload_n 0, 1) := by decide +kernel
theorem dX12_betweenOf_13 : decode cX12_betweenOf 13 = .ok (.getfield 106, 3) := by decide +kernel
theorem dX12_betweenOf_16 : decode cX12_betweenOf 16 = .ok (.bipush 45, 2) := by decide +kernel
theorem dX12_betweenOf_18 : decode cX12_betweenOf 18 = .ok (.if_icmp .ne 6, 3) := by decide +kernel
theorem dX12_betweenOf_21 : decode cX12_betweenOf 21 = .ok (.bipush 7, 2) := by decide +kernel
theorem dX12_betweenOf_23 : decode cX12_betweenOf 23 = .ok (.ireturn, 1) := by decide +kernel
theorem dX12_betweenOf_24 : decode cX12_betweenOf 24 = .ok (.aload_n 0, 1) := by decide +kernel
theorem dX12_betweenOf_25 : decode cX12_betweenOf 25 = .ok (.getfield 106, 3) := by decide +kernel
theorem dX12_betweenOf_28 : decode cX12_betweenOf 28 = .ok (.bipush 42, 2) := by decide +kernel
theorem dX12_betweenOf_30 : decode cX12_betweenOf 30 = .ok (.if_icmp .ne 6, 3) := by decide +kernel
theorem dX12_betweenOf_33 : decode cX12_betweenOf 33 = .ok (.bipush 8, 2) := by decide +kernel
theorem dX12_betweenOf_35 : decode cX12_betweenOf 35 = .ok (.ireturn, 1) := by decide +kernel
theorem dX12_betweenOf_36 : decode cX12_betweenOf 36 = .ok (.aload_n 0, 1) := by decide +kernel
theorem dX12_betweenOf_37 : decode cX12_betweenOf 37 = .ok (.getfield 106, 3) := by decide +kernel
theorem dX12_betweenOf_40 : decode cX12_betweenOf 40 = .ok (.bipush 47, 2) := by decide +kernel
theorem dX12_betweenOf_42 : decode cX12_betweenOf 42 = .ok (.if_icmp .ne 6, 3) := by decide +kernel
theorem dX12_betweenOf_45 : decode cX12_betweenOf 45 = .ok (.bipush 9, 2) := by decide +kernel
theorem dX12_betweenOf_47 : decode cX12_betweenOf 47 = .ok (.ireturn, 1) := by decide +kernel
theorem dX12_betweenOf_48 : decode cX12_betweenOf 48 = .ok (.aload_n 0, 1) := by decide +kernel
theorem dX12_betweenOf_49 : decode cX12_betweenOf 49 = .ok (.invokevirtual 174, 3) := by decide +kernel
theorem dX12_betweenOf_52 : decode cX12_betweenOf 52 = .ok (.bipush 41, 2) := by decide +kernel
theorem dX12_betweenOf_54 : decode cX12_betweenOf 54 = .ok (.if_icmp .eq 5, 3) := by decide +kernel
theorem dX12_betweenOf_57 : decode cX12_betweenOf 57 = .ok (.iconst (-1), 1) := by decide +kernel
theorem dX12_betweenOf_58 : decode cX12_betweenOf 58 = .ok (.ireturn, 1) := by decide +kernel
theorem dX12_betweenOf_59 : decode cX12_betweenOf 59 = .ok (.aload_n 0, 1) := by decide +kernel
theorem dX12_betweenOf_60 : decode cX12_betweenOf 60 = .ok (.invokevirtual 203, 3) := by decide +kernel
theorem dX12_betweenOf_63 : decode cX12_betweenOf 63 = .ok (.ifCond .ne 8, 3) := by decide +kernel
theorem dX12_betweenOf_66 : decode cX12_betweenOf 66 = .ok (.aload_n 0, 1) := by decide +kernel
theorem dX12_betweenOf_67 : decode cX12_betweenOf 67 = .ok (.invokevirtual 206, 3) := by decide +kernel
theorem dX12_betweenOf_70 : decode cX12_betweenOf 70 = .ok (.ireturn, 1) := by decide +kernel
theorem dX12_betweenOf_71 : decode cX12_betweenOf 71 = .ok (.aload_n 0, 1) := by decide +kernel
theorem dX12_betweenOf_72 : decode cX12_betweenOf 72 = .ok (.bipush 97, 2) := by decide +kernel
theorem dX12_betweenOf_74 : decode cX12_betweenOf 74 = .ok (.bipush 110, 2) := by decide +kernel
theorem dX12_betweenOf_76 : decode cX12_betweenOf 76 = .ok (.bipush 100, 2) := by decide +kernel
theorem dX12_betweenOf_78 : decode cX12_betweenOf 78 = .ok (.invokestatic 132, 3) := by decide +kernel
theorem dX12_betweenOf_81 : decode cX12_betweenOf 81 = .ok (.invokevirtual 195, 3) := by decide +kernel
theorem dX12_betweenOf_84 : decode cX12_betweenOf 84 = .ok (.ifCond .eq 8, 3) := by decide +kernel
theorem dX12_betweenOf_87 : decode cX12_betweenOf 87 = .ok (.bipush 21, 2) := by decide +kernel
theorem dX12_betweenOf_89 : decode cX12_betweenOf 89 = .ok (.goto 23, 3) := by decide +kernel
theorem dX12_betweenOf_92 : decode cX12_betweenOf 92 = .ok (.aload_n 0, 1) := by decide +kernel
theorem dX12_betweenOf_93 : decode cX12_betweenOf 93 = .ok (.bipush 111, 2) := by decide +kernel
theorem dX12_betweenOf_95 : decode cX12_betweenOf 95 = .ok (.bipush 114, 2) := by decide +kernel
theorem dX12_betweenOf_97 : decode cX12_betweenOf 97 = .ok (.invokestatic 128, 3) := by decide +kernel
theorem dX12_betweenOf_100 : decode cX12_betweenOf 100 = .ok (.invokevirtual 195, 3) := by decide +kernel
theorem dX12_betweenOf_103 : decode cX12_betweenOf 103 = .ok (.ifCond .eq 8, 3) := by decide +kernel
theorem dX12_betweenOf_106 : decode cX12_betweenOf 106 = .ok (.bipush 22, 2) := by decide +kernel
theorem dX12_betweenOf_108 : decode cX12_betweenOf 108 = .ok (.goto 4, 3) := by decide +kernel
theorem dX12_betweenOf_111 : decode cX12_betweenOf 111 = .ok (.iconst (-1), 1) := by decide +kernel
theorem dX12_betweenOf_112 : decode cX12_betweenOf 112 = .ok (.ireturn, 1) := by decide +kernel
def f_X12_betweenOf (N : Nat) (v_token : Int32) (v_word : Int64) (v_pile : Nat → Int32) (v_piled : Int32) : Option (Int32) := if v_token = (43 : Int32) then (some (6 : Int32)) else (if v_token = (45 : Int32) then (some (7 : Int32)) else (if v_token = (42 : Int32) then (some (8 : Int32)) else (if v_token = (47 : Int32) then (some (9 : Int32)) else (ob1 (f_X12_openNow N v_pile v_piled) fun r49 => if r49 = (41 : Int32) then (ob1 (f_X12_isCompared N v_pile v_piled) fun r60 => if r60 = 0 then (ob1 (f_X12_compareOf N v_token) fun r67 => some r67) else (ob1 (f_X12_w3 N (97 : Int32) (110 : Int32) (100 : Int32)) fun r78 => ob1 (f_X12_isWord N v_token v_word r78) fun r81 => if r81 = 0 then (ob1 (f_X12_w2 N (111 : Int32) (114 : Int32)) fun r97 => ob1 (f_X12_isWord N v_token v_word r97) fun r100 => if r100 = 0 then (some (-1 : Int32)) else (some (22 : Int32))) else (some (21 : Int32)))) else (some (-1 : Int32))))))
set_option maxHeartbeats 4000000 in
set_option maxRecDepth 100000 in
theorem k_X12_betweenOf (l : Launch) (N : Nat) (D : va_G) (cI cJ cZ cB cT : ClassId) (h : Nat) (q : Nat → Nat) (v_a : Nat → Int32) (v_image : Nat → Int32) (v_texts : Nat → Int32) (v_tape : Nat → Int32) (v_taped : Int32) (v_fault : Int32) (v_faultPlace : Int32) (v_at : Int32) (v_place : Int32) (v_token : Int32) (v_number : Int32) (v_word : Int64) (v_text0 : Int32) (v_written : Int32) (v_sort0 : Int32) (v_pile : Nat → Int32) (v_piled : Int32) (v_opens : Int32) (v_isWhole : Int32) (v_once : Int32) (v_named : Nat → Int32) (v_values : Nat → Int64) (v_truth : Nat → Int32) (v_isWritten : Int32) (v_died : Int32) (v_aside : Nat → Int32) (v_likely : Nat → Int32) (v_safe : Nat → Int32) (v_headOf : Nat → Int32) (o_r : Int32) (hf : f_X12_betweenOf N v_token v_word v_pile v_piled = some o_r) : ∀ sz, Met l yX12_betweenOf (mw yX12_betweenOf cX12_betweenOf 1 (some .int)) ({ frames := 2, cells := 0, slots := 0, locals := 43 } : Room) (mPre D (mT cI cJ cZ cB cT) (WM h q cI cJ cZ v_a v_image v_texts v_tape v_taped v_fault v_faultPlace v_at v_place v_token v_number v_word v_text0 v_written v_sort0 v_pile v_piled v_opens v_isWhole v_once v_named v_values v_truth v_isWritten v_died v_aside v_likely v_safe v_headOf) sz [.ref h]) ((mQi D (WM h q cI cJ cZ v_a v_image v_texts v_tape v_taped v_fault v_faultPlace v_at v_place v_token v_number v_word v_text0 v_written v_sort0 v_pile v_piled v_opens v_isWhole v_once v_named v_values v_truth v_isWritten v_died v_aside v_likely v_safe v_headOf) o_r True) (va_A (WM h q cI cJ cZ v_a v_image v_texts v_tape v_taped v_fault v_faultPlace v_at v_place v_token v_number v_word v_text0 v_written v_sort0 v_pile v_piled v_opens v_isWhole v_once v_named v_values v_truth v_isWritten v_died v_aside v_likely v_safe v_headOf) sz)) 0 0 (va_A (WM h q cI cJ cZ v_a v_image v_texts v_tape v_taped v_fault v_faultPlace v_at v_place v_token v_number v_word v_text0 v_written v_sort0 v_pile v_piled v_opens v_isWhole v_once v_named v_values v_truth v_isWritten v_died v_aside v_likely v_safe v_headOf) sz) := by
  refine mMet (Qc := (mQi D (WM h q cI cJ cZ v_a v_image v_texts v_tape v_taped v_fault v_faultPlace v_at v_place v_token v_number v_word v_text0 v_written v_sort0 v_pile v_piled v_opens v_isWhole v_once v_named v_values v_truth v_isWritten v_died v_aside v_likely v_safe v_headOf) o_r True)) (by decide) (Nat.le_of_ble_eq_true rfl) (fun p e s m below meth c A ls hx hb hr hml hts hown hlocks hK hA hP hD hl => ?_)
  have hown : s.vm.findClass RX12 = some m.cls := hown
  have hl : lv_has ls 1 [(0, .ref h)] := hl
  have hS : va_S A s.heap s.heap [] := va_S.rf
  unfold f_X12_betweenOf at hf
  refine lv_aload_n hx hb dX12_betweenOf_0 rfl (lv_at hl 0 rfl) ?_
  refine gfX12_106 hx hb hts hown hK hP 0 rfl rfl dX12_betweenOf_1 ?_
  refine lv_bipush (v := (43 : Int32)) hx hb dX12_betweenOf_4 (by decide) ?_
  refine xicmp_ne hx hb 12 dX12_betweenOf_6 (by decide) hf (fun hf => ?_) (fun hf => ?_)
  · refine lv_bipush (v := (6 : Int32)) hx hb dX12_betweenOf_9 (by decide) ?_
    cases hf
    exact mret_i hx hb hr hlocks hP hD hS dX12_betweenOf_11 rfl trivial
  · refine lv_aload_n hx hb dX12_betweenOf_12 rfl (lv_at hl 0 rfl) ?_
    refine gfX12_106 hx hb hts hown hK hP 0 rfl rfl dX12_betweenOf_13 ?_
    refine lv_bipush (v := (45 : Int32)) hx hb dX12_betweenOf_16 (by decide) ?_
    refine xicmp_ne hx hb 24 dX12_betweenOf_18 (by decide) hf (fun hf => ?_) (fun hf => ?_)
    · refine lv_bipush (v := (7 : Int32)) hx hb dX12_betweenOf_21 (by decide) ?_
      cases hf
      exact mret_i hx hb hr hlocks hP hD hS dX12_betweenOf_23 rfl trivial
    · refine lv_aload_n hx hb dX12_betweenOf_24 rfl (lv_at hl 0 rfl) ?_
      refine gfX12_106 hx hb hts hown hK hP 0 rfl rfl dX12_betweenOf_25 ?_
      refine lv_bipush (v := (42 : Int32)) hx hb dX12_betweenOf_28 (by decide) ?_
      refine xicmp_ne hx hb 36 dX12_betweenOf_30 (by decide) hf (fun hf => ?_) (fun hf => ?_)
      · refine lv_bipush (v := (8 : Int32)) hx hb dX12_betweenOf_33 (by decide) ?_
        cases hf
        exact mret_i hx hb hr hlocks hP hD hS dX12_betweenOf_35 rfl trivial
      · refine lv_aload_n hx hb dX12_betweenOf_36 rfl (lv_at hl 0 rfl) ?_
        refine gfX12_106 hx hb hts hown hK hP 0 rfl rfl dX12_betweenOf_37 ?_
        refine lv_bipush (v := (47 : Int32)) hx hb dX12_betweenOf_40 (by decide) ?_
        refine xicmp_ne hx hb 48 dX12_betweenOf_42 (by decide) hf (fun hf => ?_) (fun hf => ?_)
        · refine lv_bipush (v := (9 : Int32)) hx hb dX12_betweenOf_45 (by decide) ?_
          cases hf
          exact mret_i hx hb hr hlocks hP hD hS dX12_betweenOf_47 rfl trivial
        · refine lv_aload_n hx hb dX12_betweenOf_48 rfl (lv_at hl 0 rfl) ?_
          obtain ⟨r49, hg49, hf⟩ := ob1_some hf
          refine mcV1_i (As := []) (rest := []) hx hb hml hown hts hK hP hD hS hA (k_X12_openNow l N D cI cJ cZ cB cT h q v_a v_image v_texts v_tape v_taped v_fault v_faultPlace v_at v_place v_token v_number v_word v_text0 v_written v_sort0 v_pile v_piled v_opens v_isWhole v_once v_named v_values v_truth v_isWritten v_died v_aside v_likely v_safe v_headOf r49 hg49) (kwX12_174 hts rfl rfl ⟨Nat.le_of_ble_eq_true rfl, Nat.le_of_ble_eq_true rfl⟩) 0 rfl rfl rfl rfl hl.1 rfl (Nat.le_of_ble_eq_true rfl) dX12_betweenOf_49 ⟨Nat.zero_le _, Nat.zero_le _⟩ (fun hB49 H locs hP hD hS => ?_)
          have hP : va_P D vwCl (WM h q cI cJ cZ v_a v_image v_texts v_tape v_taped v_fault v_faultPlace v_at v_place v_token v_number v_word v_text0 v_written v_sort0 v_pile v_piled v_opens v_isWhole v_once v_named v_values v_truth v_isWritten v_died v_aside v_likely v_safe v_headOf) H := hP
          have hD : va_D A (WM h q cI cJ cZ v_a v_image v_texts v_tape v_taped v_fault v_faultPlace v_at v_place v_token v_number v_word v_text0 v_written v_sort0 v_pile v_piled v_opens v_isWhole v_once v_named v_values v_truth v_isWritten v_died v_aside v_likely v_safe v_headOf) := hD
          refine lv_bipush (v := (41 : Int32)) hx hb dX12_betweenOf_52 (by decide) ?_
          refine xicmp_eq hx hb 59 dX12_betweenOf_54 (by decide) hf (fun hf => ?_) (fun hf => ?_)
          · refine lv_aload_n hx hb dX12_betweenOf_59 rfl (lv_at hl 0 rfl) ?_
            obtain ⟨r60, hg60, hf⟩ := ob1_some hf
            refine mcV1_i (As := []) (rest := []) hx hb hml hown hts hK hP hD hS hA (k_X12_isCompared l N D cI cJ cZ cB cT h q v_a v_image v_texts v_tape v_taped v_fault v_faultPlace v_at v_place v_token v_number v_word v_text0 v_written v_sort0 v_pile v_piled v_opens v_isWhole v_once v_named v_values v_truth v_isWritten v_died v_aside v_likely v_safe v_headOf r60 hg60) (kwX12_203 hts rfl rfl ⟨Nat.le_of_ble_eq_true rfl, Nat.le_of_ble_eq_true rfl⟩) 0 rfl rfl rfl rfl hl.1 rfl (Nat.le_of_ble_eq_true rfl) dX12_betweenOf_60 ⟨Nat.zero_le _, Nat.zero_le _⟩ (fun hB60 H locs hP hD hS => ?_)
            have hP : va_P D vwCl (WM h q cI cJ cZ v_a v_image v_texts v_tape v_taped v_fault v_faultPlace v_at v_place v_token v_number v_word v_text0 v_written v_sort0 v_pile v_piled v_opens v_isWhole v_once v_named v_values v_truth v_isWritten v_died v_aside v_likely v_safe v_headOf) H := hP
            have hD : va_D A (WM h q cI cJ cZ v_a v_image v_texts v_tape v_taped v_fault v_faultPlace v_at v_place v_token v_number v_word v_text0 v_written v_sort0 v_pile v_piled v_opens v_isWhole v_once v_named v_values v_truth v_isWritten v_died v_aside v_likely v_safe v_headOf) := hD
            refine xif_ne hx hb 71 dX12_betweenOf_63 (by decide) hf (fun hf => ?_) (fun hf => ?_)
            · refine lv_aload_n hx hb dX12_betweenOf_66 rfl (lv_at hl 0 rfl) ?_
              obtain ⟨r67, hg67, hf⟩ := ob1_some hf
              refine mcV1_i (As := []) (rest := []) hx hb hml hown hts hK hP hD hS hA (k_X12_compareOf l N D cI cJ cZ cB cT h q v_a v_image v_texts v_tape v_taped v_fault v_faultPlace v_at v_place v_token v_number v_word v_text0 v_written v_sort0 v_pile v_piled v_opens v_isWhole v_once v_named v_values v_truth v_isWritten v_died v_aside v_likely v_safe v_headOf r67 hg67) (kwX12_206 hts rfl rfl ⟨Nat.le_of_ble_eq_true rfl, Nat.le_of_ble_eq_true rfl⟩) 0 rfl rfl rfl rfl hl.1 rfl (Nat.le_of_ble_eq_true rfl) dX12_betweenOf_67 ⟨Nat.zero_le _, Nat.zero_le _⟩ (fun hB67 H locs hP hD hS => ?_)
              have hP : va_P D vwCl (WM h q cI cJ cZ v_a v_image v_texts v_tape v_taped v_fault v_faultPlace v_at v_place v_token v_number v_word v_text0 v_written v_sort0 v_pile v_piled v_opens v_isWhole v_once v_named v_values v_truth v_isWritten v_died v_aside v_likely v_safe v_headOf) H := hP
              have hD : va_D A (WM h q cI cJ cZ v_a v_image v_texts v_tape v_taped v_fault v_faultPlace v_at v_place v_token v_number v_word v_text0 v_written v_sort0 v_pile v_piled v_opens v_isWhole v_once v_named v_values v_truth v_isWritten v_died v_aside v_likely v_safe v_headOf) := hD
              cases hf
              exact mret_i hx hb hr hlocks hP hD hS dX12_betweenOf_70 rfl trivial
            · refine lv_aload_n hx hb dX12_betweenOf_71 rfl (lv_at hl 0 rfl) ?_
              refine lv_bipush (v := (97 : Int32)) hx hb dX12_betweenOf_72 (by decide) ?_
              refine lv_bipush (v := (110 : Int32)) hx hb dX12_betweenOf_74 (by decide) ?_
              refine lv_bipush (v := (100 : Int32)) hx hb dX12_betweenOf_76 (by decide) ?_
              obtain ⟨r78, hg78, hf⟩ := ob1_some hf
              refine mcS0_l (As := [.int (97 : Int32), .int (110 : Int32), .int (100 : Int32)]) (rest := [.ref h]) hx hb hml hown hts hK hP hD hS hA (k_X12_w3 l N D cI cJ cZ cB cT (97 : Int32) (110 : Int32) (100 : Int32) r78 hg78) (kwX12_132 hts rfl rfl ⟨Nat.le_of_ble_eq_true rfl, Nat.le_of_ble_eq_true rfl⟩) rfl hl.1 rfl (Nat.le_of_ble_eq_true rfl) dX12_betweenOf_78 ⟨Nat.zero_le _, Nat.zero_le _⟩ (fun H locs hP hD hS => ?_)
              obtain ⟨r81, hg81, hf⟩ := ob1_some hf
              refine mcV1_i (As := [.long r78]) (rest := []) hx hb hml hown hts hK hP hD hS hA (k_X12_isWord l N D cI cJ cZ cB cT h q v_a v_image v_texts v_tape v_taped v_fault v_faultPlace v_at v_place v_token v_number v_word v_text0 v_written v_sort0 v_pile v_piled v_opens v_isWhole v_once v_named v_values v_truth v_isWritten v_died v_aside v_likely v_safe v_headOf r78 r81 hg81) (kwX12_195 hts rfl rfl ⟨Nat.le_of_ble_eq_true rfl, Nat.le_of_ble_eq_true rfl⟩) 0 rfl rfl rfl rfl hl.1 rfl (Nat.le_of_ble_eq_true rfl) dX12_betweenOf_81 ⟨Nat.zero_le _, Nat.zero_le _⟩ (fun hB81 H locs hP hD hS => ?_)
              have hP : va_P D vwCl (WM h q cI cJ cZ v_a v_image v_texts v_tape v_taped v_fault v_faultPlace v_at v_place v_token v_number v_word v_text0 v_written v_sort0 v_pile v_piled v_opens v_isWhole v_once v_named v_values v_truth v_isWritten v_died v_aside v_likely v_safe v_headOf) H := hP
              have hD : va_D A (WM h q cI cJ cZ v_a v_image v_texts v_tape v_taped v_fault v_faultPlace v_at v_place v_token v_number v_word v_text0 v_written v_sort0 v_pile v_piled v_opens v_isWhole v_once v_named v_values v_truth v_isWritten v_died v_aside v_likely v_safe v_headOf) := hD
              refine xif_eq hx hb 92 dX12_betweenOf_84 (by decide) hf (fun hf => ?_) (fun hf => ?_)
              · refine lv_aload_n hx hb dX12_betweenOf_92 rfl (lv_at hl 0 rfl) ?_
                refine lv_bipush (v := (111 : Int32)) hx hb dX12_betweenOf_93 (by decide) ?_
                refine lv_bipush (v := (114 : Int32)) hx hb dX12_betweenOf_95 (by decide) ?_
                obtain ⟨r97, hg97, hf⟩ := ob1_some hf
                refine mcS0_l (As := [.int (111 : Int32), .int (114 : Int32)]) (rest := [.ref h]) hx hb hml hown hts hK hP hD hS hA (k_X12_w2 l N D cI cJ cZ cB cT (111 : Int32) (114 : Int32) r97 hg97) (kwX12_128 hts rfl rfl ⟨Nat.le_of_ble_eq_true rfl, Nat.le_of_ble_eq_true rfl⟩) rfl hl.1 rfl (Nat.le_of_ble_eq_true rfl) dX12_betweenOf_97 ⟨Nat.zero_le _, Nat.zero_le _⟩ (fun H locs hP hD hS => ?_)
                obtain ⟨r100, hg100, hf⟩ := ob1_some hf
                refine mcV1_i (As := [.long r97]) (rest := []) hx hb hml hown hts hK hP hD hS hA (k_X12_isWord l N D cI cJ cZ cB cT h q v_a v_image v_texts v_tape v_taped v_fault v_faultPlace v_at v_place v_token v_number v_word v_text0 v_written v_sort0 v_pile v_piled v_opens v_isWhole v_once v_named v_values v_truth v_isWritten v_died v_aside v_likely v_safe v_headOf r97 r100 hg100) (kwX12_195 hts rfl rfl ⟨Nat.le_of_ble_eq_true rfl, Nat.le_of_ble_eq_true rfl⟩) 0 rfl rfl rfl rfl hl.1 rfl (Nat.le_of_ble_eq_true rfl) dX12_betweenOf_100 ⟨Nat.zero_le _, Nat.zero_le _⟩ (fun hB100 H locs hP hD hS => ?_)
                have hP : va_P D vwCl (WM h q cI cJ cZ v_a v_image v_texts v_tape v_taped v_fault v_faultPlace v_at v_place v_token v_number v_word v_text0 v_written v_sort0 v_pile v_piled v_opens v_isWhole v_once v_named v_values v_truth v_isWritten v_died v_aside v_likely v_safe v_headOf) H := hP
                have hD : va_D A (WM h q cI cJ cZ v_a v_image v_texts v_tape v_taped v_fault v_faultPlace v_at v_place v_token v_number v_word v_text0 v_written v_sort0 v_pile v_piled v_opens v_isWhole v_once v_named v_values v_truth v_isWritten v_died v_aside v_likely v_safe v_headOf) := hD
                refine xif_eq hx hb 111 dX12_betweenOf_103 (by decide) hf (fun hf => ?_) (fun hf => ?_)
                · refine lv_iconst (v := (-1 : Int32)) hx hb dX12_betweenOf_111 (by decide) ?_
                  cases hf
                  exact mret_i hx hb hr hlocks hP hD hS dX12_betweenOf_112 rfl trivial
                · refine lv_bipush (v := (22 : Int32)) hx hb dX12_betweenOf_106 (by decide) ?_
                  refine lv_goto (tgt := 112) hx hb dX12_betweenOf_108 (by decide) ?_
                  cases hf
                  exact mret_i hx hb hr hlocks hP hD hS dX12_betweenOf_112 rfl trivial
              · refine lv_bipush (v := (21 : Int32)) hx hb dX12_betweenOf_87 (by decide) ?_
                refine lv_goto (tgt := 112) hx hb dX12_betweenOf_89 (by decide) ?_
                cases hf
                exact mret_i hx hb hr hlocks hP hD hS dX12_betweenOf_112 rfl trivial
          · refine lv_iconst (v := (-1 : Int32)) hx hb dX12_betweenOf_57 (by decide) ?_
            cases hf
            exact mret_i hx hb hr hlocks hP hD hS dX12_betweenOf_58 rfl trivial
theorem dX12_partOf_0 : decode cX12_partOf 0 = .ok (.iload_n 1, 1) := by decide +kernel
theorem dX12_partOf_1 : decode cX12_partOf 1 = .ok (.tableswitch 125 40 43 #[31, 46, 78, 103], 31) := by decide +kernel
theorem dX12_partOf_32 : decode cX12_partOf 32 = .ok (.aload_n 0, 1) := by decide +kernel
theorem dX12_partOf_33 : decode cX12_partOf 33 = .ok (.getfield 106, 3) := by decide +kernel
theorem dX12_partOf_36 : decode cX12_partOf 36 = .ok (.bipush 41, 2) := by decide +kernel
theorem dX12_partOf_38 : decode cX12_partOf 38 = .ok (.if_icmp .ne 7, 3) := by decide +kernel
theorem dX12_partOf_41 : decode cX12_partOf 41 = .ok (.iconst 0, 1) := by decide +kernel
theorem dX12_partOf_42 : decode cX12_partOf 42 = .ok (.goto 4, 3) := by decide +kernel
theorem dX12_partOf_45 : decode cX12_partOf 45 = .ok (.iconst (-1), 1) := by decide +kernel
theorem dX12_partOf_46 : decode cX12_partOf 46 = .ok (.ireturn, 1) := by decide +kernel
theorem dX12_partOf_47 : decode cX12_partOf 47 = .ok (.aload_n 0, 1) := by decide +kernel
theorem dX12_partOf_48 : decode cX12_partOf 48 = .ok (.bipush 116, 2) := by decide +kernel
theorem dX12_partOf_50 : decode cX12_partOf 50 = .ok (.bipush 104, 2) := by decide +kernel
theorem dX12_partOf_52 : decode cX12_partOf 52 = .ok (.bipush 101, 2) := by decide +kernel
theorem dX12_partOf_54 : decode cX12_partOf 54 = .ok (.bipush 110, 2) := by decide +kernel
theorem dX12_partOf_56 : decode cX12_partOf 56 = .ok (.invokestatic 136, 3) := by decide +kernel
theorem dX12_partOf_59 : decode cX12_partOf 59 = .ok (.invokevirtual 195, 3) := by decide +kernel
theorem dX12_partOf_62 : decode cX12_partOf 62 = .ok (.ifCond .eq 15, 3) := by decide +kernel
theorem dX12_partOf_65 : decode cX12_partOf 65 = .ok (.aload_n 0, 1) := by decide +kernel
theorem dX12_partOf_66 : decode cX12_partOf 66 = .ok (.invokevirtual 203, 3) := by decide +kernel
theorem dX12_partOf_69 : decode cX12_partOf 69 = .ok (.ifCond .eq 8, 3) := by decide +kernel
theorem dX12_partOf_72 : decode cX12_partOf 72 = .ok (.bipush 42, 2) := by decide +kernel
theorem dX12_partOf_74 : decode cX12_partOf 74 = .ok (.goto 4, 3) := by decide +kernel
theorem dX12_partOf_77 : decode cX12_partOf 77 = .ok (.iconst (-1), 1) := by decide +kernel
theorem dX12_partOf_78 : decode cX12_partOf 78 = .ok (.ireturn, 1) := by decide +kernel
theorem dX12_partOf_79 : decode cX12_partOf 79 = .ok (.aload_n 0, 1) := by decide +kernel
theorem dX12_partOf_80 : decode cX12_partOf 80 = .ok (.bipush 101, 2) := by decide +kernel
theorem dX12_partOf_82 : decode cX12_partOf 82 = .ok (.bipush 108, 2) := by decide +kernel
theorem dX12_partOf_84 : decode cX12_partOf 84 = .ok (.bipush 115, 2) := by decide +kernel
theorem dX12_partOf_86 : decode cX12_partOf 86 = .ok (.bipush 101, 2) := by decide +kernel
theorem dX12_partOf_88 : decode cX12_partOf 88 = .ok (.invokestatic 136, 3) := by decide +kernel
theorem dX12_partOf_91 : decode cX12_partOf 91 = .ok (.invokevirtual 195, 3) := by decide +kernel
theorem dX12_partOf_94 : decode cX12_partOf 94 = .ok (.ifCond .eq 8, 3) := by decide +kernel
theorem dX12_partOf_97 : decode cX12_partOf 97 = .ok (.bipush 43, 2) := by decide +kernel
theorem dX12_partOf_99 : decode cX12_partOf 99 = .ok (.goto 4, 3) := by decide +kernel
theorem dX12_partOf_102 : decode cX12_partOf 102 = .ok (.iconst (-1), 1) := by decide +kernel
theorem dX12_partOf_103 : decode cX12_partOf 103 = .ok (.ireturn, 1) := by decide +kernel
theorem dX12_partOf_104 : decode cX12_partOf 104 = .ok (.aload_n 0, 1) := by decide +kernel
theorem dX12_partOf_105 : decode cX12_partOf 105 = .ok (.bipush 101, 2) := by decide +kernel
theorem dX12_partOf_107 : decode cX12_partOf 107 = .ok (.bipush 110, 2) := by decide +kernel
theorem dX12_partOf_109 : decode cX12_partOf 109 = .ok (.bipush 100, 2) := by decide +kernel
theorem dX12_partOf_111 : decode cX12_partOf 111 = .ok (.invokestatic 132, 3) := by decide +kernel
theorem dX12_partOf_114 : decode cX12_partOf 114 = .ok (.invokevirtual 195, 3) := by decide +kernel
theorem dX12_partOf_117 : decode cX12_partOf 117 = .ok (.ifCond .eq 7, 3) := by decide +kernel
theorem dX12_partOf_120 : decode cX12_partOf 120 = .ok (.iconst 0, 1) := by decide +kernel
theorem dX12_partOf_121 : decode cX12_partOf 121 = .ok (.goto 4, 3) := by decide +kernel
theorem dX12_partOf_124 : decode cX12_partOf 124 = .ok (.iconst (-1), 1) := by decide +kernel
theorem dX12_partOf_125 : decode cX12_partOf 125 = .ok (.ireturn, 1) := by decide +kernel
theorem dX12_partOf_126 : decode cX12_partOf 126 = .ok (.iconst (-1), 1) := by decide +kernel
theorem dX12_partOf_127 : decode cX12_partOf 127 = .ok (.ireturn, 1) := by decide +kernel
def f_X12_partOf (N : Nat) (v_token : Int32) (v_word : Int64) (v_pile : Nat → Int32) (v_piled : Int32) (p1 : Int32) : Option (Int32) := if p1 = (40 : Int32) then (if v_token = (41 : Int32) then (some (0 : Int32)) else (some (-1 : Int32))) else if p1 = (41 : Int32) then (ob1 (f_X12_w4 N (116 : Int32) (104 : Int32) (101 : Int32) (110 : Int32)) fun r56 => ob1 (f_X12_isWord N v_token v_word r56) fun r59 => if r59 = 0 then (some (-1 : Int32)) else (ob1 (f_X12_isCompared N v_pile v_piled) fun r66 => if r66 = 0 then (some (-1 : Int32)) else (some (42 : Int32)))) else if p1 = (42 : Int32) then (ob1 (f_X12_w4 N (101 : Int32) (108 : Int32) (115 : Int32) (101 : Int32)) fun r88 => ob1 (f_X12_isWord N v_token v_word r88) fun r91 => if r91 = 0 then (some (-1 : Int32)) else (some (43 : Int32))) else if p1 = (43 : Int32) then (ob1 (f_X12_w3 N (101 : Int32) (110 : Int32) (100 : Int32)) fun r111 => ob1 (f_X12_isWord N v_token v_word r111) fun r114 => if r114 = 0 then (some (-1 : Int32)) else (some (0 : Int32))) else (some (-1 : Int32))
set_option maxHeartbeats 4000000 in
set_option maxRecDepth 100000 in
theorem k_X12_partOf (l : Launch) (N : Nat) (D : va_G) (cI cJ cZ cB cT : ClassId) (h : Nat) (q : Nat → Nat) (v_a : Nat → Int32) (v_image : Nat → Int32) (v_texts : Nat → Int32) (v_tape : Nat → Int32) (v_taped : Int32) (v_fault : Int32) (v_faultPlace : Int32) (v_at : Int32) (v_place : Int32) (v_token : Int32) (v_number : Int32) (v_word : Int64) (v_text0 : Int32) (v_written : Int32) (v_sort0 : Int32) (v_pile : Nat → Int32) (v_piled : Int32) (v_opens : Int32) (v_isWhole : Int32) (v_once : Int32) (v_named : Nat → Int32) (v_values : Nat → Int64) (v_truth : Nat → Int32) (v_isWritten : Int32) (v_died : Int32) (v_aside : Nat → Int32) (v_likely : Nat → Int32) (v_safe : Nat → Int32) (v_headOf : Nat → Int32) (p1 : Int32) (o_r : Int32) (hf : f_X12_partOf N v_token v_word v_pile v_piled p1 = some o_r) : ∀ sz, Met l yX12_partOf (mw yX12_partOf cX12_partOf 2 (some .int)) ({ frames := 3, cells := 0, slots := 0, locals := 66 } : Room) (mPre D (mT cI cJ cZ cB cT) (WM h q cI cJ cZ v_a v_image v_texts v_tape v_taped v_fault v_faultPlace v_at v_place v_token v_number v_word v_text0 v_written v_sort0 v_pile v_piled v_opens v_isWhole v_once v_named v_values v_truth v_isWritten v_died v_aside v_likely v_safe v_headOf) sz [.ref h, .int p1]) ((mQi D (WM h q cI cJ cZ v_a v_image v_texts v_tape v_taped v_fault v_faultPlace v_at v_place v_token v_number v_word v_text0 v_written v_sort0 v_pile v_piled v_opens v_isWhole v_once v_named v_values v_truth v_isWritten v_died v_aside v_likely v_safe v_headOf) o_r True) (va_A (WM h q cI cJ cZ v_a v_image v_texts v_tape v_taped v_fault v_faultPlace v_at v_place v_token v_number v_word v_text0 v_written v_sort0 v_pile v_piled v_opens v_isWhole v_once v_named v_values v_truth v_isWritten v_died v_aside v_likely v_safe v_headOf) sz)) 0 0 (va_A (WM h q cI cJ cZ v_a v_image v_texts v_tape v_taped v_fault v_faultPlace v_at v_place v_token v_number v_word v_text0 v_written v_sort0 v_pile v_piled v_opens v_isWhole v_once v_named v_values v_truth v_isWritten v_died v_aside v_likely v_safe v_headOf) sz) := by
  refine mMet (Qc := (mQi D (WM h q cI cJ cZ v_a v_image v_texts v_tape v_taped v_fault v_faultPlace v_at v_place v_token v_number v_word v_text0 v_written v_sort0 v_pile v_piled v_opens v_isWhole v_once v_named v_values v_truth v_isWritten v_died v_aside v_likely v_safe v_headOf) o_r True)) (by decide) (Nat.le_of_ble_eq_true rfl) (fun p e s m below meth c A ls hx hb hr hml hts hown hlocks hK hA hP hD hl => ?_)
  have hown : s.vm.findClass RX12 = some m.cls := hown
  have hl : lv_has ls 2 [(0, .ref h), (1, .int p1)] := hl
  have hS : va_S A s.heap s.heap [] := va_S.rf
  unfold f_X12_partOf at hf
  refine lv_iload_n hx hb dX12_partOf_0 rfl (lv_at hl 1 rfl) ?_
  by_cases e1_40 : p1 = (40 : Int32)
  · replace hf := (if_pos e1_40).symm.trans hf
    refine lv_tableIn (off := 31) (tgt := 32) hx hb dX12_partOf_1 (by rw [e1_40]; decide) (by rw [e1_40]; decide) (by rw [e1_40]; rfl) (by decide) ?_
    refine lv_aload_n hx hb dX12_partOf_32 rfl (lv_at hl 0 rfl) ?_
    refine gfX12_106 hx hb hts hown hK hP 0 rfl rfl dX12_partOf_33 ?_
    refine lv_bipush (v := (41 : Int32)) hx hb dX12_partOf_36 (by decide) ?_
    refine xicmp_ne hx hb 45 dX12_partOf_38 (by decide) hf (fun hf => ?_) (fun hf => ?_)
    · refine lv_iconst (v := (0 : Int32)) hx hb dX12_partOf_41 (by decide) ?_
      refine lv_goto (tgt := 46) hx hb dX12_partOf_42 (by decide) ?_
      cases hf
      exact mret_i hx hb hr hlocks hP hD hS dX12_partOf_46 rfl trivial
    · refine lv_iconst (v := (-1 : Int32)) hx hb dX12_partOf_45 (by decide) ?_
      cases hf
      exact mret_i hx hb hr hlocks hP hD hS dX12_partOf_46 rfl trivial
  replace hf := (if_neg e1_40).symm.trans hf
  by_cases e1_41 : p1 = (41 : Int32)
  · replace hf := (if_pos e1_41).symm.trans hf
    refine lv_tableIn (off := 46) (tgt := 47) hx hb dX12_partOf_1 (by rw [e1_41]; decide) (by rw [e1_41]; decide) (by rw [e1_41]; rfl) (by decide) ?_
    refine lv_aload_n hx hb dX12_partOf_47 rfl (lv_at hl 0 rfl) ?_
    refine lv_bipush (v := (116 : Int32)) hx hb dX12_partOf_48 (by decide) ?_
    refine lv_bipush (v := (104 : Int32)) hx hb dX12_partOf_50 (by decide) ?_
    refine lv_bipush (v := (101 : Int32)) hx hb dX12_partOf_52 (by decide) ?_
    refine lv_bipush (v := (110 : Int32)) hx hb dX12_partOf_54 (by decide) ?_
    obtain ⟨r56, hg56, hf⟩ := ob1_some hf
    refine mcS0_l (As := [.int (116 : Int32), .int (104 : Int32), .int (101 : Int32), .int (110 : Int32)]) (rest := [.ref h]) hx hb hml hown hts hK hP hD hS hA (k_X12_w4 l N D cI cJ cZ cB cT (116 : Int32) (104 : Int32) (101 : Int32) (110 : Int32) r56 hg56) (kwX12_136 hts rfl rfl ⟨Nat.le_of_ble_eq_true rfl, Nat.le_of_ble_eq_true rfl⟩) rfl hl.1 rfl (Nat.le_of_ble_eq_true rfl) dX12_partOf_56 ⟨Nat.zero_le _, Nat.zero_le _⟩ (fun H locs hP hD hS => ?_)
    obtain ⟨r59, hg59, hf⟩ := ob1_some hf
    refine mcV1_i (As := [.long r56]) (rest := []) hx hb hml hown hts hK hP hD hS hA (k_X12_isWord l N D cI cJ cZ cB cT h q v_a v_image v_texts v_tape v_taped v_fault v_faultPlace v_at v_place v_token v_number v_word v_text0 v_written v_sort0 v_pile v_piled v_opens v_isWhole v_once v_named v_values v_truth v_isWritten v_died v_aside v_likely v_safe v_headOf r56 r59 hg59) (kwX12_195 hts rfl rfl ⟨Nat.le_of_ble_eq_true rfl, Nat.le_of_ble_eq_true rfl⟩) 0 rfl rfl rfl rfl hl.1 rfl (Nat.le_of_ble_eq_true rfl) dX12_partOf_59 ⟨Nat.zero_le _, Nat.zero_le _⟩ (fun hB59 H locs hP hD hS => ?_)
    have hP : va_P D vwCl (WM h q cI cJ cZ v_a v_image v_texts v_tape v_taped v_fault v_faultPlace v_at v_place v_token v_number v_word v_text0 v_written v_sort0 v_pile v_piled v_opens v_isWhole v_once v_named v_values v_truth v_isWritten v_died v_aside v_likely v_safe v_headOf) H := hP
    have hD : va_D A (WM h q cI cJ cZ v_a v_image v_texts v_tape v_taped v_fault v_faultPlace v_at v_place v_token v_number v_word v_text0 v_written v_sort0 v_pile v_piled v_opens v_isWhole v_once v_named v_values v_truth v_isWritten v_died v_aside v_likely v_safe v_headOf) := hD
    refine xif_eq hx hb 77 dX12_partOf_62 (by decide) hf (fun hf => ?_) (fun hf => ?_)
    · refine lv_iconst (v := (-1 : Int32)) hx hb dX12_partOf_77 (by decide) ?_
      cases hf
      exact mret_i hx hb hr hlocks hP hD hS dX12_partOf_78 rfl trivial
    · refine lv_aload_n hx hb dX12_partOf_65 rfl (lv_at hl 0 rfl) ?_
      obtain ⟨r66, hg66, hf⟩ := ob1_some hf
      refine mcV1_i (As := []) (rest := []) hx hb hml hown hts hK hP hD hS hA (k_X12_isCompared l N D cI cJ cZ cB cT h q v_a v_image v_texts v_tape v_taped v_fault v_faultPlace v_at v_place v_token v_number v_word v_text0 v_written v_sort0 v_pile v_piled v_opens v_isWhole v_once v_named v_values v_truth v_isWritten v_died v_aside v_likely v_safe v_headOf r66 hg66) (kwX12_203 hts rfl rfl ⟨Nat.le_of_ble_eq_true rfl, Nat.le_of_ble_eq_true rfl⟩) 0 rfl rfl rfl rfl hl.1 rfl (Nat.le_of_ble_eq_true rfl) dX12_partOf_66 ⟨Nat.zero_le _, Nat.zero_le _⟩ (fun hB66 H locs hP hD hS => ?_)
      have hP : va_P D vwCl (WM h q cI cJ cZ v_a v_image v_texts v_tape v_taped v_fault v_faultPlace v_at v_place v_token v_number v_word v_text0 v_written v_sort0 v_pile v_piled v_opens v_isWhole v_once v_named v_values v_truth v_isWritten v_died v_aside v_likely v_safe v_headOf) H := hP
      have hD : va_D A (WM h q cI cJ cZ v_a v_image v_texts v_tape v_taped v_fault v_faultPlace v_at v_place v_token v_number v_word v_text0 v_written v_sort0 v_pile v_piled v_opens v_isWhole v_once v_named v_values v_truth v_isWritten v_died v_aside v_likely v_safe v_headOf) := hD
      refine xif_eq hx hb 77 dX12_partOf_69 (by decide) hf (fun hf => ?_) (fun hf => ?_)
      · refine lv_iconst (v := (-1 : Int32)) hx hb dX12_partOf_77 (by decide) ?_
        cases hf
        exact mret_i hx hb hr hlocks hP hD hS dX12_partOf_78 rfl trivial
      · refine lv_bipush (v := (42 : Int32)) hx hb dX12_partOf_72 (by decide) ?_
        refine lv_goto (tgt := 78) hx hb dX12_partOf_74 (by decide) ?_
        cases hf
        exact mret_i hx hb hr hlocks hP hD hS dX12_partOf_78 rfl trivial
  replace hf := (if_neg e1_41).symm.trans hf
  by_cases e1_42 : p1 = (42 : Int32)
  · replace hf := (if_pos e1_42).symm.trans hf
    refine lv_tableIn (off := 78) (tgt := 79) hx hb dX12_partOf_1 (by rw [e1_42]; decide) (by rw [e1_42]; decide) (by rw [e1_42]; rfl) (by decide) ?_
    refine lv_aload_n hx hb dX12_partOf_79 rfl (lv_at hl 0 rfl) ?_
    refine lv_bipush (v := (101 : Int32)) hx hb dX12_partOf_80 (by decide) ?_
    refine lv_bipush (v := (108 : Int32)) hx hb dX12_partOf_82 (by decide) ?_
    refine lv_bipush (v := (115 : Int32)) hx hb dX12_partOf_84 (by decide) ?_
    refine lv_bipush (v := (101 : Int32)) hx hb dX12_partOf_86 (by decide) ?_
    obtain ⟨r88, hg88, hf⟩ := ob1_some hf
    refine mcS0_l (As := [.int (101 : Int32), .int (108 : Int32), .int (115 : Int32), .int (101 : Int32)]) (rest := [.ref h]) hx hb hml hown hts hK hP hD hS hA (k_X12_w4 l N D cI cJ cZ cB cT (101 : Int32) (108 : Int32) (115 : Int32) (101 : Int32) r88 hg88) (kwX12_136 hts rfl rfl ⟨Nat.le_of_ble_eq_true rfl, Nat.le_of_ble_eq_true rfl⟩) rfl hl.1 rfl (Nat.le_of_ble_eq_true rfl) dX12_partOf_88 ⟨Nat.zero_le _, Nat.zero_le _⟩ (fun H locs hP hD hS => ?_)
    obtain ⟨r91, hg91, hf⟩ := ob1_some hf
    refine mcV1_i (As := [.long r88]) (rest := []) hx hb hml hown hts hK hP hD hS hA (k_X12_isWord l N D cI cJ cZ cB cT h q v_a v_image v_texts v_tape v_taped v_fault v_faultPlace v_at v_place v_token v_number v_word v_text0 v_written v_sort0 v_pile v_piled v_opens v_isWhole v_once v_named v_values v_truth v_isWritten v_died v_aside v_likely v_safe v_headOf r88 r91 hg91) (kwX12_195 hts rfl rfl ⟨Nat.le_of_ble_eq_true rfl, Nat.le_of_ble_eq_true rfl⟩) 0 rfl rfl rfl rfl hl.1 rfl (Nat.le_of_ble_eq_true rfl) dX12_partOf_91 ⟨Nat.zero_le _, Nat.zero_le _⟩ (fun hB91 H locs hP hD hS => ?_)
    have hP : va_P D vwCl (WM h q cI cJ cZ v_a v_image v_texts v_tape v_taped v_fault v_faultPlace v_at v_place v_token v_number v_word v_text0 v_written v_sort0 v_pile v_piled v_opens v_isWhole v_once v_named v_values v_truth v_isWritten v_died v_aside v_likely v_safe v_headOf) H := hP
    have hD : va_D A (WM h q cI cJ cZ v_a v_image v_texts v_tape v_taped v_fault v_faultPlace v_at v_place v_token v_number v_word v_text0 v_written v_sort0 v_pile v_piled v_opens v_isWhole v_once v_named v_values v_truth v_isWritten v_died v_aside v_likely v_safe v_headOf) := hD
    refine xif_eq hx hb 102 dX12_partOf_94 (by decide) hf (fun hf => ?_) (fun hf => ?_)
    · refine lv_iconst (v := (-1 : Int32)) hx hb dX12_partOf_102 (by decide) ?_
      cases hf
      exact mret_i hx hb hr hlocks hP hD hS dX12_partOf_103 rfl trivial
    · refine lv_bipush (v := (43 : Int32)) hx hb dX12_partOf_97 (by decide) ?_
      refine lv_goto (tgt := 103) hx hb dX12_partOf_99 (by decide) ?_
      cases hf
      exact mret_i hx hb hr hlocks hP hD hS dX12_partOf_103 rfl trivial
  replace hf := (if_neg e1_42).symm.trans hf
  by_cases e1_43 : p1 = (43 : Int32)
  · replace hf := (if_pos e1_43).symm.trans hf
    refine lv_tableIn (off := 103) (tgt := 104) hx hb dX12_partOf_1 (by rw [e1_43]; decide) (by rw [e1_43]; decide) (by rw [e1_43]; rfl) (by decide) ?_
    refine lv_aload_n hx hb dX12_partOf_104 rfl (lv_at hl 0 rfl) ?_
    refine lv_bipush (v := (101 : Int32)) hx hb dX12_partOf_105 (by decide) ?_
    refine lv_bipush (v := (110 : Int32)) hx hb dX12_partOf_107 (by decide) ?_
    refine lv_bipush (v := (100 : Int32)) hx hb dX12_partOf_109 (by decide) ?_
    obtain ⟨r111, hg111, hf⟩ := ob1_some hf
    refine mcS0_l (As := [.int (101 : Int32), .int (110 : Int32), .int (100 : Int32)]) (rest := [.ref h]) hx hb hml hown hts hK hP hD hS hA (k_X12_w3 l N D cI cJ cZ cB cT (101 : Int32) (110 : Int32) (100 : Int32) r111 hg111) (kwX12_132 hts rfl rfl ⟨Nat.le_of_ble_eq_true rfl, Nat.le_of_ble_eq_true rfl⟩) rfl hl.1 rfl (Nat.le_of_ble_eq_true rfl) dX12_partOf_111 ⟨Nat.zero_le _, Nat.zero_le _⟩ (fun H locs hP hD hS => ?_)
    obtain ⟨r114, hg114, hf⟩ := ob1_some hf
    refine mcV1_i (As := [.long r111]) (rest := []) hx hb hml hown hts hK hP hD hS hA (k_X12_isWord l N D cI cJ cZ cB cT h q v_a v_image v_texts v_tape v_taped v_fault v_faultPlace v_at v_place v_token v_number v_word v_text0 v_written v_sort0 v_pile v_piled v_opens v_isWhole v_once v_named v_values v_truth v_isWritten v_died v_aside v_likely v_safe v_headOf r111 r114 hg114) (kwX12_195 hts rfl rfl ⟨Nat.le_of_ble_eq_true rfl, Nat.le_of_ble_eq_true rfl⟩) 0 rfl rfl rfl rfl hl.1 rfl (Nat.le_of_ble_eq_true rfl) dX12_partOf_114 ⟨Nat.zero_le _, Nat.zero_le _⟩ (fun hB114 H locs hP hD hS => ?_)
    have hP : va_P D vwCl (WM h q cI cJ cZ v_a v_image v_texts v_tape v_taped v_fault v_faultPlace v_at v_place v_token v_number v_word v_text0 v_written v_sort0 v_pile v_piled v_opens v_isWhole v_once v_named v_values v_truth v_isWritten v_died v_aside v_likely v_safe v_headOf) H := hP
    have hD : va_D A (WM h q cI cJ cZ v_a v_image v_texts v_tape v_taped v_fault v_faultPlace v_at v_place v_token v_number v_word v_text0 v_written v_sort0 v_pile v_piled v_opens v_isWhole v_once v_named v_values v_truth v_isWritten v_died v_aside v_likely v_safe v_headOf) := hD
    refine xif_eq hx hb 124 dX12_partOf_117 (by decide) hf (fun hf => ?_) (fun hf => ?_)
    · refine lv_iconst (v := (-1 : Int32)) hx hb dX12_partOf_124 (by decide) ?_
      cases hf
      exact mret_i hx hb hr hlocks hP hD hS dX12_partOf_125 rfl trivial
    · refine lv_iconst (v := (0 : Int32)) hx hb dX12_partOf_120 (by decide) ?_
      refine lv_goto (tgt := 125) hx hb dX12_partOf_121 (by decide) ?_
      cases hf
      exact mret_i hx hb hr hlocks hP hD hS dX12_partOf_125 rfl trivial
  replace hf := (if_neg e1_43).symm.trans hf
  have ne1_40 : p1.toInt ≠ (40 : Int) := sw_ne e1_40
  have ne1_41 : p1.toInt ≠ (41 : Int) := sw_ne e1_41
  have ne1_42 : p1.toInt ≠ (42 : Int) := sw_ne e1_42
  have ne1_43 : p1.toInt ≠ (43 : Int) := sw_ne e1_43
  refine lv_tableOut (tgt := 126) hx hb dX12_partOf_1 (by omega) (by decide) ?_
  refine lv_iconst (v := (-1 : Int32)) hx hb dX12_partOf_126 (by decide) ?_
  cases hf
  exact mret_i hx hb hr hlocks hP hD hS dX12_partOf_127 rfl trivial
theorem dX12_behindOne_0 : decode cX12_behindOne 0 = .ok (.aload_n 0, 1) := by decide +kernel
theorem dX12_behindOne_1 : decode cX12_behindOne 1 = .ok (.invokevirtual 209, 3) := by decide +kernel
theorem dX12_behindOne_4 : decode cX12_behindOne 4 = .ok (.istore_n 1, 1) := by decide +kernel
theorem dX12_behindOne_5 : decode cX12_behindOne 5 = .ok (.iload_n 1, 1) := by decide +kernel
theorem dX12_behindOne_6 : decode cX12_behindOne 6 = .ok (.ifCond .lt 54, 3) := by decide +kernel
theorem dX12_behindOne_9 : decode cX12_behindOne 9 = .ok (.aload_n 0, 1) := by decide +kernel
theorem dX12_behindOne_10 : decode cX12_behindOne 10 = .ok (.iload_n 1, 1) := by decide +kernel
theorem dX12_behindOne_11 : decode cX12_behindOne 11 = .ok (.invokestatic 160, 3) := by decide +kernel
theorem dX12_behindOne_14 : decode cX12_behindOne 14 = .ok (.iconst 4, 1) := by decide +kernel
theorem dX12_behindOne_15 : decode cX12_behindOne 15 = .ok (.if_icmp .ne 7, 3) := by decide +kernel
theorem dX12_behindOne_18 : decode cX12_behindOne 18 = .ok (.iconst 5, 1) := by decide +kernel
theorem dX12_behindOne_19 : decode cX12_behindOne 19 = .ok (.goto 7, 3) := by decide +kernel
theorem dX12_behindOne_22 : decode cX12_behindOne 22 = .ok (.iload_n 1, 1) := by decide +kernel
theorem dX12_behindOne_23 : decode cX12_behindOne 23 = .ok (.invokestatic 160, 3) := by decide +kernel
theorem dX12_behindOne_26 : decode cX12_behindOne 26 = .ok (.invokevirtual 189, 3) := by decide +kernel
theorem dX12_behindOne_29 : decode cX12_behindOne 29 = .ok (.aload_n 0, 1) := by decide +kernel
theorem dX12_behindOne_30 : decode cX12_behindOne 30 = .ok (.getfield 29, 3) := by decide +kernel
theorem dX12_behindOne_33 : decode cX12_behindOne 33 = .ok (.aload_n 0, 1) := by decide +kernel
theorem dX12_behindOne_34 : decode cX12_behindOne 34 = .ok (.getfield 157, 3) := by decide +kernel
theorem dX12_behindOne_37 : decode cX12_behindOne 37 = .ok (.iload_n 1, 1) := by decide +kernel
theorem dX12_behindOne_38 : decode cX12_behindOne 38 = .ok (.iastore, 1) := by decide +kernel
theorem dX12_behindOne_39 : decode cX12_behindOne 39 = .ok (.aload_n 0, 1) := by decide +kernel
theorem dX12_behindOne_40 : decode cX12_behindOne 40 = .ok (.dup, 1) := by decide +kernel
theorem dX12_behindOne_41 : decode cX12_behindOne 41 = .ok (.getfield 157, 3) := by decide +kernel
theorem dX12_behindOne_44 : decode cX12_behindOne 44 = .ok (.iconst 1, 1) := by decide +kernel
theorem dX12_behindOne_45 : decode cX12_behindOne 45 = .ok (.iadd, 1) := by decide +kernel
theorem dX12_behindOne_46 : decode cX12_behindOne 46 = .ok (.putfield 157, 3) := by decide +kernel
theorem dX12_behindOne_49 : decode cX12_behindOne 49 = .ok (.aload_n 0, 1) := by decide +kernel
theorem dX12_behindOne_50 : decode cX12_behindOne 50 = .ok (.iconst 0, 1) := by decide +kernel
theorem dX12_behindOne_51 : decode cX12_behindOne 51 = .ok (.putfield 186, 3) := by decide +kernel
theorem dX12_behindOne_54 : decode cX12_behindOne 54 = .ok (.aload_n 0, 1) := by decide +kernel
theorem dX12_behindOne_55 : decode cX12_behindOne 55 = .ok (.invokevirtual 177, 3) := by decide +kernel
theorem dX12_behindOne_58 : decode cX12_behindOne 58 = .ok (.iconst 1, 1) := by decide +kernel
theorem dX12_behindOne_59 : decode cX12_behindOne 59 = .ok (.ireturn, 1) := by decide +kernel
theorem dX12_behindOne_60 : decode cX12_behindOne 60 = .ok (.aload_n 0, 1) := by decide +kernel
theorem dX12_behindOne_61 : decode cX12_behindOne 61 = .ok (.invokevirtual 174, 3) := by decide +kernel
theorem dX12_behindOne_64 : decode cX12_behindOne 64 = .ok (.istore_n 2, 1) := by decide +kernel
theorem dX12_behindOne_65 : decode cX12_behindOne 65 = .ok (.aload_n 0, 1) := by decide +kernel
theorem dX12_behindOne_66 : decode cX12_behindOne 66 = .ok (.iload_n 2, 1) := by decide +kernel
theorem dX12_behindOne_67 : decode cX12_behindOne 67 = .ok (.invokevirtual 212, 3) := by decide +kernel
theorem dX12_behindOne_70 : decode cX12_behindOne 70 = .ok (.istore_n 3, 1) := by decide +kernel
theorem dX12_behindOne_71 : decode cX12_behindOne 71 = .ok (.iload_n 3, 1) := by decide +kernel
theorem dX12_behindOne_72 : decode cX12_behindOne 72 = .ok (.ifCond .ge 5, 3) := by decide +kernel
theorem dX12_behindOne_75 : decode cX12_behindOne 75 = .ok (.iconst 0, 1) := by decide +kernel
theorem dX12_behindOne_76 : decode cX12_behindOne 76 = .ok (.ireturn, 1) := by decide +kernel
theorem dX12_behindOne_77 : decode cX12_behindOne 77 = .ok (.aload_n 0, 1) := by decide +kernel
theorem dX12_behindOne_78 : decode cX12_behindOne 78 = .ok (.iconst 1, 1) := by decide +kernel
theorem dX12_behindOne_79 : decode cX12_behindOne 79 = .ok (.invokevirtual 189, 3) := by decide +kernel
theorem dX12_behindOne_82 : decode cX12_behindOne 82 = .ok (.aload_n 0, 1) := by decide +kernel
theorem dX12_behindOne_83 : decode cX12_behindOne 83 = .ok (.invokevirtual 177, 3) := by decide +kernel
theorem dX12_behindOne_86 : decode cX12_behindOne 86 = .ok (.iload_n 3, 1) := by decide +kernel
theorem dX12_behindOne_87 : decode cX12_behindOne 87 = .ok (.ifCond .le 20, 3) := by decide +kernel
theorem dX12_behindOne_90 : decode cX12_behindOne 90 = .ok (.aload_n 0, 1) := by decide +kernel
theorem dX12_behindOne_91 : decode cX12_behindOne 91 = .ok (.getfield 29, 3) := by decide +kernel
theorem dX12_behindOne_94 : decode cX12_behindOne 94 = .ok (.aload_n 0, 1) := by decide +kernel
theorem dX12_behindOne_95 : decode cX12_behindOne 95 = .ok (.invokevirtual 170, 3) := by decide +kernel
theorem dX12_behindOne_98 : decode cX12_behindOne 98 = .ok (.iload_n 3, 1) := by decide +kernel
theorem dX12_behindOne_99 : decode cX12_behindOne 99 = .ok (.iastore, 1) := by decide +kernel
theorem dX12_behindOne_100 : decode cX12_behindOne 100 = .ok (.aload_n 0, 1) := by decide +kernel
theorem dX12_behindOne_101 : decode cX12_behindOne 101 = .ok (.iconst 0, 1) := by decide +kernel
theorem dX12_behindOne_102 : decode cX12_behindOne 102 = .ok (.putfield 186, 3) := by decide +kernel
theorem dX12_behindOne_105 : decode cX12_behindOne 105 = .ok (.iconst 1, 1) := by decide +kernel
theorem dX12_behindOne_106 : decode cX12_behindOne 106 = .ok (.ireturn, 1) := by decide +kernel
theorem dX12_behindOne_107 : decode cX12_behindOne 107 = .ok (.aload_n 0, 1) := by decide +kernel
theorem dX12_behindOne_108 : decode cX12_behindOne 108 = .ok (.dup, 1) := by decide +kernel
theorem dX12_behindOne_109 : decode cX12_behindOne 109 = .ok (.getfield 167, 3) := by decide +kernel
theorem dX12_behindOne_112 : decode cX12_behindOne 112 = .ok (.iconst 1, 1) := by decide +kernel
theorem dX12_behindOne_113 : decode cX12_behindOne 113 = .ok (.isub, 1) := by decide +kernel
theorem dX12_behindOne_114 : decode cX12_behindOne 114 = .ok (.putfield 167, 3) := by decide +kernel
theorem dX12_behindOne_117 : decode cX12_behindOne 117 = .ok (.aload_n 0, 1) := by decide +kernel
theorem dX12_behindOne_118 : decode cX12_behindOne 118 = .ok (.dup, 1) := by decide +kernel
theorem dX12_behindOne_119 : decode cX12_behindOne 119 = .ok (.getfield 157, 3) := by decide +kernel
theorem dX12_behindOne_122 : decode cX12_behindOne 122 = .ok (.iconst 1, 1) := by decide +kernel
theorem dX12_behindOne_123 : decode cX12_behindOne 123 = .ok (.isub, 1) := by decide +kernel
theorem dX12_behindOne_124 : decode cX12_behindOne 124 = .ok (.putfield 157, 3) := by decide +kernel
theorem dX12_behindOne_127 : decode cX12_behindOne 127 = .ok (.iload_n 2, 1) := by decide +kernel
theorem dX12_behindOne_128 : decode cX12_behindOne 128 = .ok (.bipush 43, 2) := by decide +kernel
theorem dX12_behindOne_130 : decode cX12_behindOne 130 = .ok (.if_icmp .ne 9, 3) := by decide +kernel
theorem dX12_behindOne_133 : decode cX12_behindOne 133 = .ok (.aload_n 0, 1) := by decide +kernel
theorem dX12_behindOne_134 : decode cX12_behindOne 134 = .ok (.iconst 4, 1) := by decide +kernel
theorem dX12_behindOne_135 : decode cX12_behindOne 135 = .ok (.iconst 0, 1) := by decide +kernel
theorem dX12_behindOne_136 : decode cX12_behindOne 136 = .ok (.invokevirtual 163, 3) := by decide +kernel
theorem dX12_behindOne_139 : decode cX12_behindOne 139 = .ok (.aload_n 0, 1) := by decide +kernel
theorem dX12_behindOne_140 : decode cX12_behindOne 140 = .ok (.bipush 7, 2) := by decide +kernel
theorem dX12_behindOne_142 : decode cX12_behindOne 142 = .ok (.invokevirtual 189, 3) := by decide +kernel
theorem dX12_behindOne_145 : decode cX12_behindOne 145 = .ok (.iconst 1, 1) := by decide +kernel
theorem dX12_behindOne_146 : decode cX12_behindOne 146 = .ok (.ireturn, 1) := by decide +kernel
def f_X12_behindOne_139 (N : Nat) (v_texts : Nat → Int32) (v_tape : Nat → Int32) (v_taped : Int32) (v_at : Int32) (v_place : Int32) (v_token : Int32) (v_number : Int32) (v_word : Int64) (v_text0 : Int32) (v_written : Int32) (v_pile : Nat → Int32) (v_piled : Int32) (v_opens : Int32) (v_isWhole : Int32) : Option (Int32 × (Nat → Int32) × Int32 × Int32 × Int32 × Int32 × Int64 × Int32 × (Nat → Int32) × Int32 × Int32 × Int32) := ob4 (f_X12_settle N v_texts v_text0 v_written v_pile v_piled v_opens (7 : Int32)) fun v_texts_142 v_written_142 v_piled_142 v_opens_142 => some ((1 : Int32), v_texts_142, v_at, v_place, v_token, v_number, v_word, v_written_142, v_pile, v_piled_142, v_opens_142, v_isWhole)
def f_X12_behindOne_26 (N : Nat) (v_texts : Nat → Int32) (v_tape : Nat → Int32) (v_taped : Int32) (v_at : Int32) (v_place : Int32) (v_token : Int32) (v_number : Int32) (v_word : Int64) (v_text0 : Int32) (v_written : Int32) (v_pile : Nat → Int32) (v_piled : Int32) (v_opens : Int32) (v_isWhole : Int32) (x1 : Int32) (s1 : Int32) : Option (Int32 × (Nat → Int32) × Int32 × Int32 × Int32 × Int32 × Int64 × Int32 × (Nat → Int32) × Int32 × Int32 × Int32) := ob4 (f_X12_settle N v_texts v_text0 v_written v_pile v_piled v_opens s1) fun v_texts_26 v_written_26 v_piled_26 v_opens_26 => sA v_pile 160 v_piled_26 x1 fun v_pile_38 => ob5 (f_X12_nextToken N v_tape v_taped v_at v_place v_token v_number v_word) fun v_at_55 v_place_55 v_token_55 v_number_55 v_word_55 => some ((1 : Int32), v_texts_26, v_at_55, v_place_55, v_token_55, v_number_55, v_word_55, v_written_26, v_pile_38, (v_piled_26 + (1 : Int32)), v_opens_26, (0 : Int32))
def f_X12_behindOne (N : Nat) (v_texts : Nat → Int32) (v_tape : Nat → Int32) (v_taped : Int32) (v_at : Int32) (v_place : Int32) (v_token : Int32) (v_number : Int32) (v_word : Int64) (v_text0 : Int32) (v_written : Int32) (v_pile : Nat → Int32) (v_piled : Int32) (v_opens : Int32) (v_isWhole : Int32) : Option (Int32 × (Nat → Int32) × Int32 × Int32 × Int32 × Int32 × Int64 × Int32 × (Nat → Int32) × Int32 × Int32 × Int32) := ob1 (f_X12_betweenOf N v_token v_word v_pile v_piled) fun r1 => if r1 < 0 then (ob1 (f_X12_openNow N v_pile v_piled) fun r61 => ob1 (f_X12_partOf N v_token v_word v_pile v_piled r61) fun r67 => if 0 ≤ r67 then (ob4 (f_X12_settle N v_texts v_text0 v_written v_pile v_piled v_opens (1 : Int32)) fun v_texts_79 v_written_79 v_piled_79 v_opens_79 => ob5 (f_X12_nextToken N v_tape v_taped v_at v_place v_token v_number v_word) fun v_at_83 v_place_83 v_token_83 v_number_83 v_word_83 => if r67 ≤ 0 then (if r61 = (43 : Int32) then (ob2 (f_X12_emit N v_texts_79 v_text0 v_written_79 (4 : Int32) (0 : Int32)) fun v_texts_136 v_written_136 => f_X12_behindOne_139 N v_texts_136 v_tape v_taped v_at_83 v_place_83 v_token_83 v_number_83 v_word_83 v_text0 v_written_136 v_pile (v_piled_79 - (1 : Int32)) (v_opens_79 - (1 : Int32)) v_isWhole) else (f_X12_behindOne_139 N v_texts_79 v_tape v_taped v_at_83 v_place_83 v_token_83 v_number_83 v_word_83 v_text0 v_written_79 v_pile (v_piled_79 - (1 : Int32)) (v_opens_79 - (1 : Int32)) v_isWhole)) else (ob1 (f_X12_openAt N v_pile v_piled_79) fun r95 => sA v_pile 160 r95 r67 fun v_pile_99 => some ((1 : Int32), v_texts_79, v_at_83, v_place_83, v_token_83, v_number_83, v_word_83, v_written_79, v_pile_99, v_piled_79, v_opens_79, (0 : Int32)))) else (some ((0 : Int32), v_texts, v_at, v_place, v_token, v_number, v_word, v_written, v_pile, v_piled, v_opens, v_isWhole))) else (ob1 (f_X12_rank N r1) fun r11 => if r11 = (4 : Int32) then (f_X12_behindOne_26 N v_texts v_tape v_taped v_at v_place v_token v_number v_word v_text0 v_written v_pile v_piled v_opens v_isWhole r1 (5 : Int32)) else (ob1 (f_X12_rank N r1) fun r23 => f_X12_behindOne_26 N v_texts v_tape v_taped v_at v_place v_token v_number v_word v_text0 v_written v_pile v_piled v_opens v_isWhole r1 r23))
set_option maxHeartbeats 4000000 in
set_option maxRecDepth 100000 in
theorem k_X12_behindOne (l : Launch) (N : Nat) (D : va_G) (cI cJ cZ cB cT : ClassId) (h : Nat) (q : Nat → Nat) (v_a : Nat → Int32) (v_image : Nat → Int32) (v_texts : Nat → Int32) (v_tape : Nat → Int32) (v_taped : Int32) (v_fault : Int32) (v_faultPlace : Int32) (v_at : Int32) (v_place : Int32) (v_token : Int32) (v_number : Int32) (v_word : Int64) (v_text0 : Int32) (v_written : Int32) (v_sort0 : Int32) (v_pile : Nat → Int32) (v_piled : Int32) (v_opens : Int32) (v_isWhole : Int32) (v_once : Int32) (v_named : Nat → Int32) (v_values : Nat → Int64) (v_truth : Nat → Int32) (v_isWritten : Int32) (v_died : Int32) (v_aside : Nat → Int32) (v_likely : Nat → Int32) (v_safe : Nat → Int32) (v_headOf : Nat → Int32) (o_r : Int32) (o_v_texts : Nat → Int32) (o_v_at : Int32) (o_v_place : Int32) (o_v_token : Int32) (o_v_number : Int32) (o_v_word : Int64) (o_v_written : Int32) (o_v_pile : Nat → Int32) (o_v_piled : Int32) (o_v_opens : Int32) (o_v_isWhole : Int32) (hf : f_X12_behindOne N v_texts v_tape v_taped v_at v_place v_token v_number v_word v_text0 v_written v_pile v_piled v_opens v_isWhole = some (o_r, o_v_texts, o_v_at, o_v_place, o_v_token, o_v_number, o_v_word, o_v_written, o_v_pile, o_v_piled, o_v_opens, o_v_isWhole)) : ∀ sz, Met l yX12_behindOne (mw yX12_behindOne cX12_behindOne 4 (some .boolean)) ({ frames := 4, cells := 0, slots := 0, locals := 87 } : Room) (mPre D (mT cI cJ cZ cB cT) (WM h q cI cJ cZ v_a v_image v_texts v_tape v_taped v_fault v_faultPlace v_at v_place v_token v_number v_word v_text0 v_written v_sort0 v_pile v_piled v_opens v_isWhole v_once v_named v_values v_truth v_isWritten v_died v_aside v_likely v_safe v_headOf) sz [.ref h]) ((mQi D (WM h q cI cJ cZ v_a v_image o_v_texts v_tape v_taped v_fault v_faultPlace o_v_at o_v_place o_v_token o_v_number o_v_word v_text0 o_v_written v_sort0 o_v_pile o_v_piled o_v_opens o_v_isWhole v_once v_named v_values v_truth v_isWritten v_died v_aside v_likely v_safe v_headOf) o_r (mB o_r)) (va_A (WM h q cI cJ cZ v_a v_image v_texts v_tape v_taped v_fault v_faultPlace v_at v_place v_token v_number v_word v_text0 v_written v_sort0 v_pile v_piled v_opens v_isWhole v_once v_named v_values v_truth v_isWritten v_died v_aside v_likely v_safe v_headOf) sz)) 0 0 (va_A (WM h q cI cJ cZ v_a v_image v_texts v_tape v_taped v_fault v_faultPlace v_at v_place v_token v_number v_word v_text0 v_written v_sort0 v_pile v_piled v_opens v_isWhole v_once v_named v_values v_truth v_isWritten v_died v_aside v_likely v_safe v_headOf) sz) := by
  refine mMet (Qc := (mQi D (WM h q cI cJ cZ v_a v_image o_v_texts v_tape v_taped v_fault v_faultPlace o_v_at o_v_place o_v_token o_v_number o_v_word v_text0 o_v_written v_sort0 o_v_pile o_v_piled o_v_opens o_v_isWhole v_once v_named v_values v_truth v_isWritten v_died v_aside v_likely v_safe v_headOf) o_r (mB o_r))) (by decide) (Nat.le_of_ble_eq_true rfl) (fun p e s m below meth c A ls hx hb hr hml hts hown hlocks hK hA hP hD hl => ?_)
  have hown : s.vm.findClass RX12 = some m.cls := hown
  have hl : lv_has ls 4 [(0, .ref h)] := hl
  have hS : va_S A s.heap s.heap [] := va_S.rf
  have b139 : ∀ (v_texts : Nat → Int32) (v_at : Int32) (v_place : Int32) (v_token : Int32) (v_number : Int32) (v_word : Int64) (v_written : Int32) (v_pile : Nat → Int32) (v_piled : Int32) (v_opens : Int32) (v_isWhole : Int32) (H : Heap) (locs : List Loc) (ls : Array Slot), f_X12_behindOne_139 N v_texts v_tape v_taped v_at v_place v_token v_number v_word v_text0 v_written v_pile v_piled v_opens v_isWhole = some (o_r, o_v_texts, o_v_at, o_v_place, o_v_token, o_v_number, o_v_word, o_v_written, o_v_pile, o_v_piled, o_v_opens, o_v_isWhole) → va_P D vwCl (WM h q cI cJ cZ v_a v_image v_texts v_tape v_taped v_fault v_faultPlace v_at v_place v_token v_number v_word v_text0 v_written v_sort0 v_pile v_piled v_opens v_isWhole v_once v_named v_values v_truth v_isWritten v_died v_aside v_likely v_safe v_headOf) H → va_D A (WM h q cI cJ cZ v_a v_image v_texts v_tape v_taped v_fault v_faultPlace v_at v_place v_token v_number v_word v_text0 v_written v_sort0 v_pile v_piled v_opens v_isWhole v_once v_named v_values v_truth v_isWritten v_died v_aside v_likely v_safe v_headOf) → va_S A s.heap H locs → lv_has ls 4 [(0, .ref h)] → W p l e ({ frames := 4, cells := 0, slots := 0, locals := 87 } : Room) s m ([.ref h] : List Value).toArray below meth c H locs 0 0 (MQ below ((mQi D (WM h q cI cJ cZ v_a v_image o_v_texts v_tape v_taped v_fault v_faultPlace o_v_at o_v_place o_v_token o_v_number o_v_word v_text0 o_v_written v_sort0 o_v_pile o_v_piled o_v_opens o_v_isWhole v_once v_named v_values v_truth v_isWritten v_died v_aside v_likely v_safe v_headOf) o_r (mB o_r)) A) ([.ref h] : List Value).toArray s 0 0 A) (F0 m 139 ls []) := by
    intro v_texts v_at v_place v_token v_number v_word v_written v_pile v_piled v_opens v_isWhole H locs ls hf hP hD hS hl
    unfold f_X12_behindOne_139 at hf
    refine lv_aload_n hx hb dX12_behindOne_139 rfl (lv_at hl 0 rfl) ?_
    refine lv_bipush (v := (7 : Int32)) hx hb dX12_behindOne_140 (by decide) ?_
    obtain ⟨v_texts_142, v_written_142, v_piled_142, v_opens_142, hg142, hf⟩ := ob4_some hf
    refine mcV1_v (As := [.int (7 : Int32)]) (rest := []) hx hb hml hown hts hK hP hD hS hA (k_X12_settle l N D cI cJ cZ cB cT h q v_a v_image v_texts v_tape v_taped v_fault v_faultPlace v_at v_place v_token v_number v_word v_text0 v_written v_sort0 v_pile v_piled v_opens v_isWhole v_once v_named v_values v_truth v_isWritten v_died v_aside v_likely v_safe v_headOf (7 : Int32) v_texts_142 v_written_142 v_piled_142 v_opens_142 hg142) (kwX12_189 hts rfl rfl ⟨Nat.le_of_ble_eq_true rfl, Nat.le_of_ble_eq_true rfl⟩) 0 rfl rfl rfl rfl hl.1 rfl (Nat.le_of_ble_eq_true rfl) dX12_behindOne_142 ⟨Nat.zero_le _, Nat.zero_le _⟩ (fun H locs hP hD hS => ?_)
    have hP : va_P D vwCl (WM h q cI cJ cZ v_a v_image v_texts_142 v_tape v_taped v_fault v_faultPlace v_at v_place v_token v_number v_word v_text0 v_written_142 v_sort0 v_pile v_piled_142 v_opens_142 v_isWhole v_once v_named v_values v_truth v_isWritten v_died v_aside v_likely v_safe v_headOf) H := hP
    have hD : va_D A (WM h q cI cJ cZ v_a v_image v_texts_142 v_tape v_taped v_fault v_faultPlace v_at v_place v_token v_number v_word v_text0 v_written_142 v_sort0 v_pile v_piled_142 v_opens_142 v_isWhole v_once v_named v_values v_truth v_isWritten v_died v_aside v_likely v_safe v_headOf) := hD
    refine lv_iconst (v := (1 : Int32)) hx hb dX12_behindOne_145 (by decide) ?_
    cases hf
    exact mret_z hx hb hr hlocks hP hD hS dX12_behindOne_146 rfl rfl
  have b26 : ∀ (v_texts : Nat → Int32) (v_at : Int32) (v_place : Int32) (v_token : Int32) (v_number : Int32) (v_word : Int64) (v_written : Int32) (v_pile : Nat → Int32) (v_piled : Int32) (v_opens : Int32) (v_isWhole : Int32) (x1 : Int32) (s1 : Int32) (H : Heap) (locs : List Loc) (ls : Array Slot), f_X12_behindOne_26 N v_texts v_tape v_taped v_at v_place v_token v_number v_word v_text0 v_written v_pile v_piled v_opens v_isWhole x1 s1 = some (o_r, o_v_texts, o_v_at, o_v_place, o_v_token, o_v_number, o_v_word, o_v_written, o_v_pile, o_v_piled, o_v_opens, o_v_isWhole) → va_P D vwCl (WM h q cI cJ cZ v_a v_image v_texts v_tape v_taped v_fault v_faultPlace v_at v_place v_token v_number v_word v_text0 v_written v_sort0 v_pile v_piled v_opens v_isWhole v_once v_named v_values v_truth v_isWritten v_died v_aside v_likely v_safe v_headOf) H → va_D A (WM h q cI cJ cZ v_a v_image v_texts v_tape v_taped v_fault v_faultPlace v_at v_place v_token v_number v_word v_text0 v_written v_sort0 v_pile v_piled v_opens v_isWhole v_once v_named v_values v_truth v_isWritten v_died v_aside v_likely v_safe v_headOf) → va_S A s.heap H locs → lv_has ls 4 [(0, .ref h), (1, .int x1)] → W p l e ({ frames := 4, cells := 0, slots := 0, locals := 87 } : Room) s m ([.ref h] : List Value).toArray below meth c H locs 0 0 (MQ below ((mQi D (WM h q cI cJ cZ v_a v_image o_v_texts v_tape v_taped v_fault v_faultPlace o_v_at o_v_place o_v_token o_v_number o_v_word v_text0 o_v_written v_sort0 o_v_pile o_v_piled o_v_opens o_v_isWhole v_once v_named v_values v_truth v_isWritten v_died v_aside v_likely v_safe v_headOf) o_r (mB o_r)) A) ([.ref h] : List Value).toArray s 0 0 A) (F0 m 26 ls [.int s1, .ref h]) := by
    intro v_texts v_at v_place v_token v_number v_word v_written v_pile v_piled v_opens v_isWhole x1 s1 H locs ls hf hP hD hS hl
    unfold f_X12_behindOne_26 at hf
    obtain ⟨v_texts_26, v_written_26, v_piled_26, v_opens_26, hg26, hf⟩ := ob4_some hf
    refine mcV1_v (As := [.int s1]) (rest := []) hx hb hml hown hts hK hP hD hS hA (k_X12_settle l N D cI cJ cZ cB cT h q v_a v_image v_texts v_tape v_taped v_fault v_faultPlace v_at v_place v_token v_number v_word v_text0 v_written v_sort0 v_pile v_piled v_opens v_isWhole v_once v_named v_values v_truth v_isWritten v_died v_aside v_likely v_safe v_headOf s1 v_texts_26 v_written_26 v_piled_26 v_opens_26 hg26) (kwX12_189 hts rfl rfl ⟨Nat.le_of_ble_eq_true rfl, Nat.le_of_ble_eq_true rfl⟩) 0 rfl rfl rfl rfl hl.1 rfl (Nat.le_of_ble_eq_true rfl) dX12_behindOne_26 ⟨Nat.zero_le _, Nat.zero_le _⟩ (fun H locs hP hD hS => ?_)
    have hP : va_P D vwCl (WM h q cI cJ cZ v_a v_image v_texts_26 v_tape v_taped v_fault v_faultPlace v_at v_place v_token v_number v_word v_text0 v_written_26 v_sort0 v_pile v_piled_26 v_opens_26 v_isWhole v_once v_named v_values v_truth v_isWritten v_died v_aside v_likely v_safe v_headOf) H := hP
    have hD : va_D A (WM h q cI cJ cZ v_a v_image v_texts_26 v_tape v_taped v_fault v_faultPlace v_at v_place v_token v_number v_word v_text0 v_written_26 v_sort0 v_pile v_piled_26 v_opens_26 v_isWhole v_once v_named v_values v_truth v_isWritten v_died v_aside v_likely v_safe v_headOf) := hD
    refine lv_aload_n hx hb dX12_behindOne_29 rfl (lv_at hl 0 rfl) ?_
    refine gfX12_29 hx hb hts hown hK hP 0 rfl rfl dX12_behindOne_30 ?_
    refine lv_aload_n hx hb dX12_behindOne_33 rfl (lv_at hl 0 rfl) ?_
    refine gfX12_157 hx hb hts hown hK hP 0 rfl rfl dX12_behindOne_34 ?_
    refine lv_iload_n hx hb dX12_behindOne_37 rfl (lv_at hl 1 rfl) ?_
    refine xiast hx hb hK hP hD hS 5 0 rfl rfl dX12_behindOne_38 hf (fun v_pile_38 hf H locs hP hD hS => ?_)
    have hP : va_P D vwCl (WM h q cI cJ cZ v_a v_image v_texts_26 v_tape v_taped v_fault v_faultPlace v_at v_place v_token v_number v_word v_text0 v_written_26 v_sort0 v_pile_38 v_piled_26 v_opens_26 v_isWhole v_once v_named v_values v_truth v_isWritten v_died v_aside v_likely v_safe v_headOf) H := hP
    have hD : va_D A (WM h q cI cJ cZ v_a v_image v_texts_26 v_tape v_taped v_fault v_faultPlace v_at v_place v_token v_number v_word v_text0 v_written_26 v_sort0 v_pile_38 v_piled_26 v_opens_26 v_isWhole v_once v_named v_values v_truth v_isWritten v_died v_aside v_likely v_safe v_headOf) := hD
    refine lv_aload_n hx hb dX12_behindOne_39 rfl (lv_at hl 0 rfl) ?_
    refine lv_dup hx hb dX12_behindOne_40 rfl ?_
    refine gfX12_157 hx hb hts hown hK hP 0 rfl rfl dX12_behindOne_41 ?_
    refine lv_iconst (v := (1 : Int32)) hx hb dX12_behindOne_44 (by decide) ?_
    refine lv_iadd hx hb dX12_behindOne_45 ?_
    refine pfX12_157 hx hb hts hown hK hP hD hS 0 rfl (Nat.le_of_ble_eq_true rfl) dX12_behindOne_46 (fun H locs hP hD hS => ?_)
    have hP : va_P D vwCl (WM h q cI cJ cZ v_a v_image v_texts_26 v_tape v_taped v_fault v_faultPlace v_at v_place v_token v_number v_word v_text0 v_written_26 v_sort0 v_pile_38 (v_piled_26 + (1 : Int32)) v_opens_26 v_isWhole v_once v_named v_values v_truth v_isWritten v_died v_aside v_likely v_safe v_headOf) H := hP
    have hD : va_D A (WM h q cI cJ cZ v_a v_image v_texts_26 v_tape v_taped v_fault v_faultPlace v_at v_place v_token v_number v_word v_text0 v_written_26 v_sort0 v_pile_38 (v_piled_26 + (1 : Int32)) v_opens_26 v_isWhole v_once v_named v_values v_truth v_isWritten v_died v_aside v_likely v_safe v_headOf) := hD
    refine lv_aload_n hx hb dX12_behindOne_49 rfl (lv_at hl 0 rfl) ?_
    refine lv_iconst (v := (0 : Int32)) hx hb dX12_behindOne_50 (by decide) ?_
    refine pfX12_186 hx hb hts hown hK hP hD hS 0 rfl rfl rfl (Nat.le_of_ble_eq_true rfl) dX12_behindOne_51 (fun H locs hP hD hS => ?_)
    have hP : va_P D vwCl (WM h q cI cJ cZ v_a v_image v_texts_26 v_tape v_taped v_fault v_faultPlace v_at v_place v_token v_number v_word v_text0 v_written_26 v_sort0 v_pile_38 (v_piled_26 + (1 : Int32)) v_opens_26 (0 : Int32) v_once v_named v_values v_truth v_isWritten v_died v_aside v_likely v_safe v_headOf) H := hP
    have hD : va_D A (WM h q cI cJ cZ v_a v_image v_texts_26 v_tape v_taped v_fault v_faultPlace v_at v_place v_token v_number v_word v_text0 v_written_26 v_sort0 v_pile_38 (v_piled_26 + (1 : Int32)) v_opens_26 (0 : Int32) v_once v_named v_values v_truth v_isWritten v_died v_aside v_likely v_safe v_headOf) := hD
    refine lv_aload_n hx hb dX12_behindOne_54 rfl (lv_at hl 0 rfl) ?_
    obtain ⟨v_at_55, v_place_55, v_token_55, v_number_55, v_word_55, hg55, hf⟩ := ob5_some hf
    refine mcV1_v (As := []) (rest := []) hx hb hml hown hts hK hP hD hS hA (k_X12_nextToken l N D cI cJ cZ cB cT h q v_a v_image v_texts_26 v_tape v_taped v_fault v_faultPlace v_at v_place v_token v_number v_word v_text0 v_written_26 v_sort0 v_pile_38 (v_piled_26 + (1 : Int32)) v_opens_26 (0 : Int32) v_once v_named v_values v_truth v_isWritten v_died v_aside v_likely v_safe v_headOf v_at_55 v_place_55 v_token_55 v_number_55 v_word_55 hg55) (kwX12_177 hts rfl rfl ⟨Nat.le_of_ble_eq_true rfl, Nat.le_of_ble_eq_true rfl⟩) 0 rfl rfl rfl rfl hl.1 rfl (Nat.le_of_ble_eq_true rfl) dX12_behindOne_55 ⟨Nat.zero_le _, Nat.zero_le _⟩ (fun H locs hP hD hS => ?_)
    have hP : va_P D vwCl (WM h q cI cJ cZ v_a v_image v_texts_26 v_tape v_taped v_fault v_faultPlace v_at_55 v_place_55 v_token_55 v_number_55 v_word_55 v_text0 v_written_26 v_sort0 v_pile_38 (v_piled_26 + (1 : Int32)) v_opens_26 (0 : Int32) v_once v_named v_values v_truth v_isWritten v_died v_aside v_likely v_safe v_headOf) H := hP
    have hD : va_D A (WM h q cI cJ cZ v_a v_image v_texts_26 v_tape v_taped v_fault v_faultPlace v_at_55 v_place_55 v_token_55 v_number_55 v_word_55 v_text0 v_written_26 v_sort0 v_pile_38 (v_piled_26 + (1 : Int32)) v_opens_26 (0 : Int32) v_once v_named v_values v_truth v_isWritten v_died v_aside v_likely v_safe v_headOf) := hD
    refine lv_iconst (v := (1 : Int32)) hx hb dX12_behindOne_58 (by decide) ?_
    cases hf
    exact mret_z hx hb hr hlocks hP hD hS dX12_behindOne_59 rfl rfl
  unfold f_X12_behindOne at hf
  refine lv_aload_n hx hb dX12_behindOne_0 rfl (lv_at hl 0 rfl) ?_
  obtain ⟨r1, hg1, hf⟩ := ob1_some hf
  refine mcV1_i (As := []) (rest := []) hx hb hml hown hts hK hP hD hS hA (k_X12_betweenOf l N D cI cJ cZ cB cT h q v_a v_image v_texts v_tape v_taped v_fault v_faultPlace v_at v_place v_token v_number v_word v_text0 v_written v_sort0 v_pile v_piled v_opens v_isWhole v_once v_named v_values v_truth v_isWritten v_died v_aside v_likely v_safe v_headOf r1 hg1) (kwX12_209 hts rfl rfl ⟨Nat.le_of_ble_eq_true rfl, Nat.le_of_ble_eq_true rfl⟩) 0 rfl rfl rfl rfl hl.1 rfl (Nat.le_of_ble_eq_true rfl) dX12_behindOne_1 ⟨Nat.zero_le _, Nat.zero_le _⟩ (fun hB1 H locs hP hD hS => ?_)
  have hP : va_P D vwCl (WM h q cI cJ cZ v_a v_image v_texts v_tape v_taped v_fault v_faultPlace v_at v_place v_token v_number v_word v_text0 v_written v_sort0 v_pile v_piled v_opens v_isWhole v_once v_named v_values v_truth v_isWritten v_died v_aside v_likely v_safe v_headOf) H := hP
  have hD : va_D A (WM h q cI cJ cZ v_a v_image v_texts v_tape v_taped v_fault v_faultPlace v_at v_place v_token v_number v_word v_text0 v_written v_sort0 v_pile v_piled v_opens v_isWhole v_once v_named v_values v_truth v_isWritten v_died v_aside v_likely v_safe v_headOf) := hD
  refine lv_istore_n (lv' := [(1, .int r1), (0, .ref h)]) hx hb dX12_behindOne_4 rfl hl (by decide) rfl (fun ls hl => ?_)
  refine lv_iload_n hx hb dX12_behindOne_5 rfl (lv_at hl 0 rfl) ?_
  refine xif_lt hx hb 60 dX12_behindOne_6 (by decide) hf (fun hf => ?_) (fun hf => ?_)
  · refine lv_aload_n hx hb dX12_behindOne_60 rfl (lv_at hl 1 rfl) ?_
    obtain ⟨r61, hg61, hf⟩ := ob1_some hf
    refine mcV1_i (As := []) (rest := []) hx hb hml hown hts hK hP hD hS hA (k_X12_openNow l N D cI cJ cZ cB cT h q v_a v_image v_texts v_tape v_taped v_fault v_faultPlace v_at v_place v_token v_number v_word v_text0 v_written v_sort0 v_pile v_piled v_opens v_isWhole v_once v_named v_values v_truth v_isWritten v_died v_aside v_likely v_safe v_headOf r61 hg61) (kwX12_174 hts rfl rfl ⟨Nat.le_of_ble_eq_true rfl, Nat.le_of_ble_eq_true rfl⟩) 0 rfl rfl rfl rfl hl.1 rfl (Nat.le_of_ble_eq_true rfl) dX12_behindOne_61 ⟨Nat.zero_le _, Nat.zero_le _⟩ (fun hB61 H locs hP hD hS => ?_)
    have hP : va_P D vwCl (WM h q cI cJ cZ v_a v_image v_texts v_tape v_taped v_fault v_faultPlace v_at v_place v_token v_number v_word v_text0 v_written v_sort0 v_pile v_piled v_opens v_isWhole v_once v_named v_values v_truth v_isWritten v_died v_aside v_likely v_safe v_headOf) H := hP
    have hD : va_D A (WM h q cI cJ cZ v_a v_image v_texts v_tape v_taped v_fault v_faultPlace v_at v_place v_token v_number v_word v_text0 v_written v_sort0 v_pile v_piled v_opens v_isWhole v_once v_named v_values v_truth v_isWritten v_died v_aside v_likely v_safe v_headOf) := hD
    refine lv_istore_n (lv' := [(2, .int r61), (1, .int r1), (0, .ref h)]) hx hb dX12_behindOne_64 rfl hl (by decide) rfl (fun ls hl => ?_)
    refine lv_aload_n hx hb dX12_behindOne_65 rfl (lv_at hl 2 rfl) ?_
    refine lv_iload_n hx hb dX12_behindOne_66 rfl (lv_at hl 0 rfl) ?_
    obtain ⟨r67, hg67, hf⟩ := ob1_some hf
    refine mcV1_i (As := [.int r61]) (rest := []) hx hb hml hown hts hK hP hD hS hA (k_X12_partOf l N D cI cJ cZ cB cT h q v_a v_image v_texts v_tape v_taped v_fault v_faultPlace v_at v_place v_token v_number v_word v_text0 v_written v_sort0 v_pile v_piled v_opens v_isWhole v_once v_named v_values v_truth v_isWritten v_died v_aside v_likely v_safe v_headOf r61 r67 hg67) (kwX12_212 hts rfl rfl ⟨Nat.le_of_ble_eq_true rfl, Nat.le_of_ble_eq_true rfl⟩) 0 rfl rfl rfl rfl hl.1 rfl (Nat.le_of_ble_eq_true rfl) dX12_behindOne_67 ⟨Nat.zero_le _, Nat.zero_le _⟩ (fun hB67 H locs hP hD hS => ?_)
    have hP : va_P D vwCl (WM h q cI cJ cZ v_a v_image v_texts v_tape v_taped v_fault v_faultPlace v_at v_place v_token v_number v_word v_text0 v_written v_sort0 v_pile v_piled v_opens v_isWhole v_once v_named v_values v_truth v_isWritten v_died v_aside v_likely v_safe v_headOf) H := hP
    have hD : va_D A (WM h q cI cJ cZ v_a v_image v_texts v_tape v_taped v_fault v_faultPlace v_at v_place v_token v_number v_word v_text0 v_written v_sort0 v_pile v_piled v_opens v_isWhole v_once v_named v_values v_truth v_isWritten v_died v_aside v_likely v_safe v_headOf) := hD
    refine lv_istore_n (lv' := [(3, .int r67), (2, .int r61), (1, .int r1), (0, .ref h)]) hx hb dX12_behindOne_70 rfl hl (by decide) rfl (fun ls hl => ?_)
    refine lv_iload_n hx hb dX12_behindOne_71 rfl (lv_at hl 0 rfl) ?_
    refine xif_ge hx hb 77 dX12_behindOne_72 (by decide) hf (fun hf => ?_) (fun hf => ?_)
    · refine lv_aload_n hx hb dX12_behindOne_77 rfl (lv_at hl 3 rfl) ?_
      refine lv_iconst (v := (1 : Int32)) hx hb dX12_behindOne_78 (by decide) ?_
      obtain ⟨v_texts_79, v_written_79, v_piled_79, v_opens_79, hg79, hf⟩ := ob4_some hf
      refine mcV1_v (As := [.int (1 : Int32)]) (rest := []) hx hb hml hown hts hK hP hD hS hA (k_X12_settle l N D cI cJ cZ cB cT h q v_a v_image v_texts v_tape v_taped v_fault v_faultPlace v_at v_place v_token v_number v_word v_text0 v_written v_sort0 v_pile v_piled v_opens v_isWhole v_once v_named v_values v_truth v_isWritten v_died v_aside v_likely v_safe v_headOf (1 : Int32) v_texts_79 v_written_79 v_piled_79 v_opens_79 hg79) (kwX12_189 hts rfl rfl ⟨Nat.le_of_ble_eq_true rfl, Nat.le_of_ble_eq_true rfl⟩) 0 rfl rfl rfl rfl hl.1 rfl (Nat.le_of_ble_eq_true rfl) dX12_behindOne_79 ⟨Nat.zero_le _, Nat.zero_le _⟩ (fun H locs hP hD hS => ?_)
      have hP : va_P D vwCl (WM h q cI cJ cZ v_a v_image v_texts_79 v_tape v_taped v_fault v_faultPlace v_at v_place v_token v_number v_word v_text0 v_written_79 v_sort0 v_pile v_piled_79 v_opens_79 v_isWhole v_once v_named v_values v_truth v_isWritten v_died v_aside v_likely v_safe v_headOf) H := hP
      have hD : va_D A (WM h q cI cJ cZ v_a v_image v_texts_79 v_tape v_taped v_fault v_faultPlace v_at v_place v_token v_number v_word v_text0 v_written_79 v_sort0 v_pile v_piled_79 v_opens_79 v_isWhole v_once v_named v_values v_truth v_isWritten v_died v_aside v_likely v_safe v_headOf) := hD
      refine lv_aload_n hx hb dX12_behindOne_82 rfl (lv_at hl 3 rfl) ?_
      obtain ⟨v_at_83, v_place_83, v_token_83, v_number_83, v_word_83, hg83, hf⟩ := ob5_some hf
      refine mcV1_v (As := []) (rest := []) hx hb hml hown hts hK hP hD hS hA (k_X12_nextToken l N D cI cJ cZ cB cT h q v_a v_image v_texts_79 v_tape v_taped v_fault v_faultPlace v_at v_place v_token v_number v_word v_text0 v_written_79 v_sort0 v_pile v_piled_79 v_opens_79 v_isWhole v_once v_named v_values v_truth v_isWritten v_died v_aside v_likely v_safe v_headOf v_at_83 v_place_83 v_token_83 v_number_83 v_word_83 hg83) (kwX12_177 hts rfl rfl ⟨Nat.le_of_ble_eq_true rfl, Nat.le_of_ble_eq_true rfl⟩) 0 rfl rfl rfl rfl hl.1 rfl (Nat.le_of_ble_eq_true rfl) dX12_behindOne_83 ⟨Nat.zero_le _, Nat.zero_le _⟩ (fun H locs hP hD hS => ?_)
      have hP : va_P D vwCl (WM h q cI cJ cZ v_a v_image v_texts_79 v_tape v_taped v_fault v_faultPlace v_at_83 v_place_83 v_token_83 v_number_83 v_word_83 v_text0 v_written_79 v_sort0 v_pile v_piled_79 v_opens_79 v_isWhole v_once v_named v_values v_truth v_isWritten v_died v_aside v_likely v_safe v_headOf) H := hP
      have hD : va_D A (WM h q cI cJ cZ v_a v_image v_texts_79 v_tape v_taped v_fault v_faultPlace v_at_83 v_place_83 v_token_83 v_number_83 v_word_83 v_text0 v_written_79 v_sort0 v_pile v_piled_79 v_opens_79 v_isWhole v_once v_named v_values v_truth v_isWritten v_died v_aside v_likely v_safe v_headOf) := hD
      refine lv_iload_n hx hb dX12_behindOne_86 rfl (lv_at hl 0 rfl) ?_
      refine xif_le hx hb 107 dX12_behindOne_87 (by decide) hf (fun hf => ?_) (fun hf => ?_)
      · refine lv_aload_n hx hb dX12_behindOne_107 rfl (lv_at hl 3 rfl) ?_
        refine lv_dup hx hb dX12_behindOne_108 rfl ?_
        refine gfX12_167 hx hb hts hown hK hP 0 rfl rfl dX12_behindOne_109 ?_
        refine lv_iconst (v := (1 : Int32)) hx hb dX12_behindOne_112 (by decide) ?_
        refine lv_isub hx hb dX12_behindOne_113 ?_
        refine pfX12_167 hx hb hts hown hK hP hD hS 0 rfl (Nat.le_of_ble_eq_true rfl) dX12_behindOne_114 (fun H locs hP hD hS => ?_)
        have hP : va_P D vwCl (WM h q cI cJ cZ v_a v_image v_texts_79 v_tape v_taped v_fault v_faultPlace v_at_83 v_place_83 v_token_83 v_number_83 v_word_83 v_text0 v_written_79 v_sort0 v_pile v_piled_79 (v_opens_79 - (1 : Int32)) v_isWhole v_once v_named v_values v_truth v_isWritten v_died v_aside v_likely v_safe v_headOf) H := hP
        have hD : va_D A (WM h q cI cJ cZ v_a v_image v_texts_79 v_tape v_taped v_fault v_faultPlace v_at_83 v_place_83 v_token_83 v_number_83 v_word_83 v_text0 v_written_79 v_sort0 v_pile v_piled_79 (v_opens_79 - (1 : Int32)) v_isWhole v_once v_named v_values v_truth v_isWritten v_died v_aside v_likely v_safe v_headOf) := hD
        refine lv_aload_n hx hb dX12_behindOne_117 rfl (lv_at hl 3 rfl) ?_
        refine lv_dup hx hb dX12_behindOne_118 rfl ?_
        refine gfX12_157 hx hb hts hown hK hP 0 rfl rfl dX12_behindOne_119 ?_
        refine lv_iconst (v := (1 : Int32)) hx hb dX12_behindOne_122 (by decide) ?_
        refine lv_isub hx hb dX12_behindOne_123 ?_
        refine pfX12_157 hx hb hts hown hK hP hD hS 0 rfl (Nat.le_of_ble_eq_true rfl) dX12_behindOne_124 (fun H locs hP hD hS => ?_)
        have hP : va_P D vwCl (WM h q cI cJ cZ v_a v_image v_texts_79 v_tape v_taped v_fault v_faultPlace v_at_83 v_place_83 v_token_83 v_number_83 v_word_83 v_text0 v_written_79 v_sort0 v_pile (v_piled_79 - (1 : Int32)) (v_opens_79 - (1 : Int32)) v_isWhole v_once v_named v_values v_truth v_isWritten v_died v_aside v_likely v_safe v_headOf) H := hP
        have hD : va_D A (WM h q cI cJ cZ v_a v_image v_texts_79 v_tape v_taped v_fault v_faultPlace v_at_83 v_place_83 v_token_83 v_number_83 v_word_83 v_text0 v_written_79 v_sort0 v_pile (v_piled_79 - (1 : Int32)) (v_opens_79 - (1 : Int32)) v_isWhole v_once v_named v_values v_truth v_isWritten v_died v_aside v_likely v_safe v_headOf) := hD
        refine lv_iload_n hx hb dX12_behindOne_127 rfl (lv_at hl 1 rfl) ?_
        refine lv_bipush (v := (43 : Int32)) hx hb dX12_behindOne_128 (by decide) ?_
        refine xicmp_ne hx hb 139 dX12_behindOne_130 (by decide) hf (fun hf => ?_) (fun hf => ?_)
        · refine lv_aload_n hx hb dX12_behindOne_133 rfl (lv_at hl 3 rfl) ?_
          refine lv_iconst (v := (4 : Int32)) hx hb dX12_behindOne_134 (by decide) ?_
          refine lv_iconst (v := (0 : Int32)) hx hb dX12_behindOne_135 (by decide) ?_
          obtain ⟨v_texts_136, v_written_136, hg136, hf⟩ := ob2_some hf
          refine mcV1_v (As := [.int (4 : Int32), .int (0 : Int32)]) (rest := []) hx hb hml hown hts hK hP hD hS hA (k_X12_emit l N D cI cJ cZ cB cT h q v_a v_image v_texts_79 v_tape v_taped v_fault v_faultPlace v_at_83 v_place_83 v_token_83 v_number_83 v_word_83 v_text0 v_written_79 v_sort0 v_pile (v_piled_79 - (1 : Int32)) (v_opens_79 - (1 : Int32)) v_isWhole v_once v_named v_values v_truth v_isWritten v_died v_aside v_likely v_safe v_headOf (4 : Int32) (0 : Int32) v_texts_136 v_written_136 hg136) (kwX12_163 hts rfl rfl ⟨Nat.le_of_ble_eq_true rfl, Nat.le_of_ble_eq_true rfl⟩) 0 rfl rfl rfl rfl hl.1 rfl (Nat.le_of_ble_eq_true rfl) dX12_behindOne_136 ⟨Nat.zero_le _, Nat.zero_le _⟩ (fun H locs hP hD hS => ?_)
          have hP : va_P D vwCl (WM h q cI cJ cZ v_a v_image v_texts_136 v_tape v_taped v_fault v_faultPlace v_at_83 v_place_83 v_token_83 v_number_83 v_word_83 v_text0 v_written_136 v_sort0 v_pile (v_piled_79 - (1 : Int32)) (v_opens_79 - (1 : Int32)) v_isWhole v_once v_named v_values v_truth v_isWritten v_died v_aside v_likely v_safe v_headOf) H := hP
          have hD : va_D A (WM h q cI cJ cZ v_a v_image v_texts_136 v_tape v_taped v_fault v_faultPlace v_at_83 v_place_83 v_token_83 v_number_83 v_word_83 v_text0 v_written_136 v_sort0 v_pile (v_piled_79 - (1 : Int32)) (v_opens_79 - (1 : Int32)) v_isWhole v_once v_named v_values v_truth v_isWritten v_died v_aside v_likely v_safe v_headOf) := hD
          exact b139 v_texts_136 v_at_83 v_place_83 v_token_83 v_number_83 v_word_83 v_written_136 v_pile (v_piled_79 - (1 : Int32)) (v_opens_79 - (1 : Int32)) v_isWhole _ _ _ hf hP hD hS (lv_sub hl [3] rfl)
        · exact b139 v_texts_79 v_at_83 v_place_83 v_token_83 v_number_83 v_word_83 v_written_79 v_pile (v_piled_79 - (1 : Int32)) (v_opens_79 - (1 : Int32)) v_isWhole _ _ _ hf hP hD hS (lv_sub hl [3] rfl)
      · refine lv_aload_n hx hb dX12_behindOne_90 rfl (lv_at hl 3 rfl) ?_
        refine gfX12_29 hx hb hts hown hK hP 0 rfl rfl dX12_behindOne_91 ?_
        refine lv_aload_n hx hb dX12_behindOne_94 rfl (lv_at hl 3 rfl) ?_
        obtain ⟨r95, hg95, hf⟩ := ob1_some hf
        refine mcV1_i (As := []) (rest := [.ref (q 4)]) hx hb hml hown hts hK hP hD hS hA (k_X12_openAt l N D cI cJ cZ cB cT h q v_a v_image v_texts_79 v_tape v_taped v_fault v_faultPlace v_at_83 v_place_83 v_token_83 v_number_83 v_word_83 v_text0 v_written_79 v_sort0 v_pile v_piled_79 v_opens_79 v_isWhole v_once v_named v_values v_truth v_isWritten v_died v_aside v_likely v_safe v_headOf r95 hg95) (kwX12_170 hts rfl rfl ⟨Nat.le_of_ble_eq_true rfl, Nat.le_of_ble_eq_true rfl⟩) 0 rfl rfl rfl rfl hl.1 rfl (Nat.le_of_ble_eq_true rfl) dX12_behindOne_95 ⟨Nat.zero_le _, Nat.zero_le _⟩ (fun hB95 H locs hP hD hS => ?_)
        have hP : va_P D vwCl (WM h q cI cJ cZ v_a v_image v_texts_79 v_tape v_taped v_fault v_faultPlace v_at_83 v_place_83 v_token_83 v_number_83 v_word_83 v_text0 v_written_79 v_sort0 v_pile v_piled_79 v_opens_79 v_isWhole v_once v_named v_values v_truth v_isWritten v_died v_aside v_likely v_safe v_headOf) H := hP
        have hD : va_D A (WM h q cI cJ cZ v_a v_image v_texts_79 v_tape v_taped v_fault v_faultPlace v_at_83 v_place_83 v_token_83 v_number_83 v_word_83 v_text0 v_written_79 v_sort0 v_pile v_piled_79 v_opens_79 v_isWhole v_once v_named v_values v_truth v_isWritten v_died v_aside v_likely v_safe v_headOf) := hD
        refine lv_iload_n hx hb dX12_behindOne_98 rfl (lv_at hl 0 rfl) ?_
        refine xiast hx hb hK hP hD hS 5 0 rfl rfl dX12_behindOne_99 hf (fun v_pile_99 hf H locs hP hD hS => ?_)
        have hP : va_P D vwCl (WM h q cI cJ cZ v_a v_image v_texts_79 v_tape v_taped v_fault v_faultPlace v_at_83 v_place_83 v_token_83 v_number_83 v_word_83 v_text0 v_written_79 v_sort0 v_pile_99 v_piled_79 v_opens_79 v_isWhole v_once v_named v_values v_truth v_isWritten v_died v_aside v_likely v_safe v_headOf) H := hP
        have hD : va_D A (WM h q cI cJ cZ v_a v_image v_texts_79 v_tape v_taped v_fault v_faultPlace v_at_83 v_place_83 v_token_83 v_number_83 v_word_83 v_text0 v_written_79 v_sort0 v_pile_99 v_piled_79 v_opens_79 v_isWhole v_once v_named v_values v_truth v_isWritten v_died v_aside v_likely v_safe v_headOf) := hD
        refine lv_aload_n hx hb dX12_behindOne_100 rfl (lv_at hl 3 rfl) ?_
        refine lv_iconst (v := (0 : Int32)) hx hb dX12_behindOne_101 (by decide) ?_
        refine pfX12_186 hx hb hts hown hK hP hD hS 0 rfl rfl rfl (Nat.le_of_ble_eq_true rfl) dX12_behindOne_102 (fun H locs hP hD hS => ?_)
        have hP : va_P D vwCl (WM h q cI cJ cZ v_a v_image v_texts_79 v_tape v_taped v_fault v_faultPlace v_at_83 v_place_83 v_token_83 v_number_83 v_word_83 v_text0 v_written_79 v_sort0 v_pile_99 v_piled_79 v_opens_79 (0 : Int32) v_once v_named v_values v_truth v_isWritten v_died v_aside v_likely v_safe v_headOf) H := hP
        have hD : va_D A (WM h q cI cJ cZ v_a v_image v_texts_79 v_tape v_taped v_fault v_faultPlace v_at_83 v_place_83 v_token_83 v_number_83 v_word_83 v_text0 v_written_79 v_sort0 v_pile_99 v_piled_79 v_opens_79 (0 : Int32) v_once v_named v_values v_truth v_isWritten v_died v_aside v_likely v_safe v_headOf) := hD
        refine lv_iconst (v := (1 : Int32)) hx hb dX12_behindOne_105 (by decide) ?_
        cases hf
        exact mret_z hx hb hr hlocks hP hD hS dX12_behindOne_106 rfl rfl
    · refine lv_iconst (v := (0 : Int32)) hx hb dX12_behindOne_75 (by decide) ?_
      cases hf
      exact mret_z hx hb hr hlocks hP hD hS dX12_behindOne_76 rfl rfl
  · refine lv_aload_n hx hb dX12_behindOne_9 rfl (lv_at hl 1 rfl) ?_
    refine lv_iload_n hx hb dX12_behindOne_10 rfl (lv_at hl 0 rfl) ?_
    obtain ⟨r11, hg11, hf⟩ := ob1_some hf
    refine mcS0_i (As := [.int r1]) (rest := [.ref h]) hx hb hml hown hts hK hP hD hS hA (k_X12_rank l N D cI cJ cZ cB cT r1 r11 hg11) (kwX12_160 hts rfl rfl ⟨Nat.le_of_ble_eq_true rfl, Nat.le_of_ble_eq_true rfl⟩) rfl hl.1 rfl (Nat.le_of_ble_eq_true rfl) dX12_behindOne_11 ⟨Nat.zero_le _, Nat.zero_le _⟩ (fun hB11 H locs hP hD hS => ?_)
    refine lv_iconst (v := (4 : Int32)) hx hb dX12_behindOne_14 (by decide) ?_
    refine xicmp_ne hx hb 22 dX12_behindOne_15 (by decide) hf (fun hf => ?_) (fun hf => ?_)
    · refine lv_iconst (v := (5 : Int32)) hx hb dX12_behindOne_18 (by decide) ?_
      refine lv_goto (tgt := 26) hx hb dX12_behindOne_19 (by decide) ?_
      exact b26 v_texts v_at v_place v_token v_number v_word v_written v_pile v_piled v_opens v_isWhole r1 (5 : Int32) _ _ _ hf hP hD hS (lv_sub hl [1, 0] rfl)
    · refine lv_iload_n hx hb dX12_behindOne_22 rfl (lv_at hl 0 rfl) ?_
      obtain ⟨r23, hg23, hf⟩ := ob1_some hf
      refine mcS0_i (As := [.int r1]) (rest := [.ref h]) hx hb hml hown hts hK hP hD hS hA (k_X12_rank l N D cI cJ cZ cB cT r1 r23 hg23) (kwX12_160 hts rfl rfl ⟨Nat.le_of_ble_eq_true rfl, Nat.le_of_ble_eq_true rfl⟩) rfl hl.1 rfl (Nat.le_of_ble_eq_true rfl) dX12_behindOne_23 ⟨Nat.zero_le _, Nat.zero_le _⟩ (fun hB23 H locs hP hD hS => ?_)
      exact b26 v_texts v_at v_place v_token v_number v_word v_written v_pile v_piled v_opens v_isWhole r1 r23 _ _ _ hf hP hD hS (lv_sub hl [1, 0] rfl)
theorem dX12_summed_0 : decode cX12_summed 0 = .ok (.aload_n 0, 1) := by decide +kernel
theorem dX12_summed_1 : decode cX12_summed 1 = .ok (.iconst 0, 1) := by decide +kernel
theorem dX12_summed_2 : decode cX12_summed 2 = .ok (.putfield 157, 3) := by decide +kernel
theorem dX12_summed_5 : decode cX12_summed 5 = .ok (.aload_n 0, 1) := by decide +kernel
theorem dX12_summed_6 : decode cX12_summed 6 = .ok (.iconst 0, 1) := by decide +kernel
theorem dX12_summed_7 : decode cX12_summed 7 = .ok (.putfield 167, 3) := by decide +kernel
theorem dX12_summed_10 : decode cX12_summed 10 = .ok (.aload_n 0, 1) := by decide +kernel
theorem dX12_summed_11 : decode cX12_summed 11 = .ok (.iconst 0, 1) := by decide +kernel
theorem dX12_summed_12 : decode cX12_summed 12 = .ok (.putfield 186, 3) := by decide +kernel
theorem dX12_summed_15 : decode cX12_summed 15 = .ok (.aload_n 0, 1) := by decide +kernel
theorem dX12_summed_16 : decode cX12_summed 16 = .ok (.getfield 186, 3) := by decide +kernel
theorem dX12_summed_19 : decode cX12_summed 19 = .ok (.ifCond .eq 29, 3) := by decide +kernel
theorem dX12_summed_22 : decode cX12_summed 22 = .ok (.aload_n 0, 1) := by decide +kernel
theorem dX12_summed_23 : decode cX12_summed 23 = .ok (.invokevirtual 215, 3) := by decide +kernel
theorem dX12_summed_26 : decode cX12_summed 26 = .ok (.ifCond .eq 6, 3) := by decide +kernel
theorem dX12_summed_29 : decode cX12_summed 29 = .ok (.goto (-14), 3) := by decide +kernel
theorem dX12_summed_32 : decode cX12_summed 32 = .ok (.aload_n 0, 1) := by decide +kernel
theorem dX12_summed_33 : decode cX12_summed 33 = .ok (.invokevirtual 174, 3) := by decide +kernel
theorem dX12_summed_36 : decode cX12_summed 36 = .ok (.ifCond .lt 5, 3) := by decide +kernel
theorem dX12_summed_39 : decode cX12_summed 39 = .ok (.iconst 1, 1) := by decide +kernel
theorem dX12_summed_40 : decode cX12_summed 40 = .ok (.ireturn, 1) := by decide +kernel
theorem dX12_summed_41 : decode cX12_summed 41 = .ok (.aload_n 0, 1) := by decide +kernel
theorem dX12_summed_42 : decode cX12_summed 42 = .ok (.iconst 1, 1) := by decide +kernel
theorem dX12_summed_43 : decode cX12_summed 43 = .ok (.invokevirtual 189, 3) := by decide +kernel
theorem dX12_summed_46 : decode cX12_summed 46 = .ok (.iconst 0, 1) := by decide +kernel
theorem dX12_summed_47 : decode cX12_summed 47 = .ok (.ireturn, 1) := by decide +kernel
theorem dX12_summed_48 : decode cX12_summed 48 = .ok (.aload_n 0, 1) := by decide +kernel
theorem dX12_summed_49 : decode cX12_summed 49 = .ok (.invokevirtual 218, 3) := by decide +kernel
theorem dX12_summed_52 : decode cX12_summed 52 = .ok (.istore_n 1, 1) := by decide +kernel
theorem dX12_summed_53 : decode cX12_summed 53 = .ok (.iload_n 1, 1) := by decide +kernel
theorem dX12_summed_54 : decode cX12_summed 54 = .ok (.ifCond .eq 5, 3) := by decide +kernel
theorem dX12_summed_57 : decode cX12_summed 57 = .ok (.iload_n 1, 1) := by decide +kernel
theorem dX12_summed_58 : decode cX12_summed 58 = .ok (.ireturn, 1) := by decide +kernel
theorem dX12_summed_59 : decode cX12_summed 59 = .ok (.goto (-44), 3) := by decide +kernel
def f_X12_summed_15 (N : Nat) : Nat → (Nat → Int32) → (Nat → Int32) → Int32 → Int32 → Int32 → Int32 → Int32 → Int64 → Int32 → Int32 → Int32 → (Nat → Int32) → Int32 → Int32 → Int32 → Option (Int32 × (Nat → Int32) × Int32 × Int32 × Int32 × Int32 × Int64 × Int32 × (Nat → Int32) × Int32 × Int32 × Int32)
  | 0, _, _, _, _, _, _, _, _, _, _, _, _, _, _, _ => none
  | n + 1, v_texts, v_tape, v_taped, v_at, v_place, v_token, v_number, v_word, v_text0, v_written, v_sort0, v_pile, v_piled, v_opens, v_isWhole => if v_isWhole = 0 then (ob12 (f_X12_beginOne N v_texts v_tape v_taped v_at v_place v_token v_number v_word v_text0 v_written v_sort0 v_pile v_piled v_opens v_isWhole) fun r49 v_texts_49 v_at_49 v_place_49 v_token_49 v_number_49 v_word_49 v_written_49 v_pile_49 v_piled_49 v_opens_49 v_isWhole_49 => if r49 = 0 then ((f_X12_summed_15 N n) v_texts_49 v_tape v_taped v_at_49 v_place_49 v_token_49 v_number_49 v_word_49 v_text0 v_written_49 v_sort0 v_pile_49 v_piled_49 v_opens_49 v_isWhole_49) else (some (r49, v_texts_49, v_at_49, v_place_49, v_token_49, v_number_49, v_word_49, v_written_49, v_pile_49, v_piled_49, v_opens_49, v_isWhole_49))) else (ob12 (f_X12_behindOne N v_texts v_tape v_taped v_at v_place v_token v_number v_word v_text0 v_written v_pile v_piled v_opens v_isWhole) fun r23 v_texts_23 v_at_23 v_place_23 v_token_23 v_number_23 v_word_23 v_written_23 v_pile_23 v_piled_23 v_opens_23 v_isWhole_23 => if r23 = 0 then (ob1 (f_X12_openNow N v_pile_23 v_piled_23) fun r33 => if r33 < 0 then (ob4 (f_X12_settle N v_texts_23 v_text0 v_written_23 v_pile_23 v_piled_23 v_opens_23 (1 : Int32)) fun v_texts_43 v_written_43 v_piled_43 v_opens_43 => some ((0 : Int32), v_texts_43, v_at_23, v_place_23, v_token_23, v_number_23, v_word_23, v_written_43, v_pile_23, v_piled_43, v_opens_43, v_isWhole_23)) else (some ((1 : Int32), v_texts_23, v_at_23, v_place_23, v_token_23, v_number_23, v_word_23, v_written_23, v_pile_23, v_piled_23, v_opens_23, v_isWhole_23))) else ((f_X12_summed_15 N n) v_texts_23 v_tape v_taped v_at_23 v_place_23 v_token_23 v_number_23 v_word_23 v_text0 v_written_23 v_sort0 v_pile_23 v_piled_23 v_opens_23 v_isWhole_23))
def f_X12_summed (N : Nat) (v_texts : Nat → Int32) (v_tape : Nat → Int32) (v_taped : Int32) (v_at : Int32) (v_place : Int32) (v_token : Int32) (v_number : Int32) (v_word : Int64) (v_text0 : Int32) (v_written : Int32) (v_sort0 : Int32) (v_pile : Nat → Int32) (v_piled : Int32) (v_opens : Int32) (v_isWhole : Int32) : Option (Int32 × (Nat → Int32) × Int32 × Int32 × Int32 × Int32 × Int64 × Int32 × (Nat → Int32) × Int32 × Int32 × Int32) := f_X12_summed_15 N N v_texts v_tape v_taped v_at v_place v_token v_number v_word v_text0 v_written v_sort0 v_pile (0 : Int32) (0 : Int32) (0 : Int32)
set_option maxHeartbeats 4000000 in
set_option maxRecDepth 100000 in
theorem k_X12_summed (l : Launch) (N : Nat) (D : va_G) (cI cJ cZ cB cT : ClassId) (h : Nat) (q : Nat → Nat) (v_a : Nat → Int32) (v_image : Nat → Int32) (v_texts : Nat → Int32) (v_tape : Nat → Int32) (v_taped : Int32) (v_fault : Int32) (v_faultPlace : Int32) (v_at : Int32) (v_place : Int32) (v_token : Int32) (v_number : Int32) (v_word : Int64) (v_text0 : Int32) (v_written : Int32) (v_sort0 : Int32) (v_pile : Nat → Int32) (v_piled : Int32) (v_opens : Int32) (v_isWhole : Int32) (v_once : Int32) (v_named : Nat → Int32) (v_values : Nat → Int64) (v_truth : Nat → Int32) (v_isWritten : Int32) (v_died : Int32) (v_aside : Nat → Int32) (v_likely : Nat → Int32) (v_safe : Nat → Int32) (v_headOf : Nat → Int32) (o_r : Int32) (o_v_texts : Nat → Int32) (o_v_at : Int32) (o_v_place : Int32) (o_v_token : Int32) (o_v_number : Int32) (o_v_word : Int64) (o_v_written : Int32) (o_v_pile : Nat → Int32) (o_v_piled : Int32) (o_v_opens : Int32) (o_v_isWhole : Int32) (hf : f_X12_summed N v_texts v_tape v_taped v_at v_place v_token v_number v_word v_text0 v_written v_sort0 v_pile v_piled v_opens v_isWhole = some (o_r, o_v_texts, o_v_at, o_v_place, o_v_token, o_v_number, o_v_word, o_v_written, o_v_pile, o_v_piled, o_v_opens, o_v_isWhole)) : ∀ sz, Met l yX12_summed (mw yX12_summed cX12_summed 2 (some .int)) ({ frames := 7, cells := 0, slots := 0, locals := 156 } : Room) (mPre D (mT cI cJ cZ cB cT) (WM h q cI cJ cZ v_a v_image v_texts v_tape v_taped v_fault v_faultPlace v_at v_place v_token v_number v_word v_text0 v_written v_sort0 v_pile v_piled v_opens v_isWhole v_once v_named v_values v_truth v_isWritten v_died v_aside v_likely v_safe v_headOf) sz [.ref h]) ((mQi D (WM h q cI cJ cZ v_a v_image o_v_texts v_tape v_taped v_fault v_faultPlace o_v_at o_v_place o_v_token o_v_number o_v_word v_text0 o_v_written v_sort0 o_v_pile o_v_piled o_v_opens o_v_isWhole v_once v_named v_values v_truth v_isWritten v_died v_aside v_likely v_safe v_headOf) o_r True) (va_A (WM h q cI cJ cZ v_a v_image v_texts v_tape v_taped v_fault v_faultPlace v_at v_place v_token v_number v_word v_text0 v_written v_sort0 v_pile v_piled v_opens v_isWhole v_once v_named v_values v_truth v_isWritten v_died v_aside v_likely v_safe v_headOf) sz)) 0 0 (va_A (WM h q cI cJ cZ v_a v_image v_texts v_tape v_taped v_fault v_faultPlace v_at v_place v_token v_number v_word v_text0 v_written v_sort0 v_pile v_piled v_opens v_isWhole v_once v_named v_values v_truth v_isWritten v_died v_aside v_likely v_safe v_headOf) sz) := by
  refine mMet (Qc := (mQi D (WM h q cI cJ cZ v_a v_image o_v_texts v_tape v_taped v_fault v_faultPlace o_v_at o_v_place o_v_token o_v_number o_v_word v_text0 o_v_written v_sort0 o_v_pile o_v_piled o_v_opens o_v_isWhole v_once v_named v_values v_truth v_isWritten v_died v_aside v_likely v_safe v_headOf) o_r True)) (by decide) (Nat.le_of_ble_eq_true rfl) (fun p e s m below meth c A ls hx hb hr hml hts hown hlocks hK hA hP hD hl => ?_)
  have hown : s.vm.findClass RX12 = some m.cls := hown
  have hl : lv_has ls 2 [(0, .ref h)] := hl
  have hS : va_S A s.heap s.heap [] := va_S.rf
  have b15 : ∀ n15 : Nat, ∀ (v_texts : Nat → Int32) (v_at : Int32) (v_place : Int32) (v_token : Int32) (v_number : Int32) (v_word : Int64) (v_written : Int32) (v_pile : Nat → Int32) (v_piled : Int32) (v_opens : Int32) (v_isWhole : Int32) (H : Heap) (locs : List Loc) (ls : Array Slot), f_X12_summed_15 N n15 v_texts v_tape v_taped v_at v_place v_token v_number v_word v_text0 v_written v_sort0 v_pile v_piled v_opens v_isWhole = some (o_r, o_v_texts, o_v_at, o_v_place, o_v_token, o_v_number, o_v_word, o_v_written, o_v_pile, o_v_piled, o_v_opens, o_v_isWhole) → va_P D vwCl (WM h q cI cJ cZ v_a v_image v_texts v_tape v_taped v_fault v_faultPlace v_at v_place v_token v_number v_word v_text0 v_written v_sort0 v_pile v_piled v_opens v_isWhole v_once v_named v_values v_truth v_isWritten v_died v_aside v_likely v_safe v_headOf) H → va_D A (WM h q cI cJ cZ v_a v_image v_texts v_tape v_taped v_fault v_faultPlace v_at v_place v_token v_number v_word v_text0 v_written v_sort0 v_pile v_piled v_opens v_isWhole v_once v_named v_values v_truth v_isWritten v_died v_aside v_likely v_safe v_headOf) → va_S A s.heap H locs → lv_has ls 2 [(0, .ref h)] → W p l e ({ frames := 7, cells := 0, slots := 0, locals := 156 } : Room) s m ([.ref h] : List Value).toArray below meth c H locs 0 0 (MQ below ((mQi D (WM h q cI cJ cZ v_a v_image o_v_texts v_tape v_taped v_fault v_faultPlace o_v_at o_v_place o_v_token o_v_number o_v_word v_text0 o_v_written v_sort0 o_v_pile o_v_piled o_v_opens o_v_isWhole v_once v_named v_values v_truth v_isWritten v_died v_aside v_likely v_safe v_headOf) o_r True) A) ([.ref h] : List Value).toArray s 0 0 A) (F0 m 15 ls []) := by
    intro n15
    induction n15 with
    | zero =>
      intro v_texts v_at v_place v_token v_number v_word v_written v_pile v_piled v_opens v_isWhole H locs ls hf hP hD hS hl
      simp [f_X12_summed_15] at hf
    | succ n15 ih15 =>
      intro v_texts v_at v_place v_token v_number v_word v_written v_pile v_piled v_opens v_isWhole H locs ls hf hP hD hS hl
      rw [f_X12_summed_15.eq_2] at hf
      refine lv_aload_n hx hb dX12_summed_15 rfl (lv_at hl 0 rfl) ?_
      refine gfX12_186 hx hb hts hown hK hP 0 rfl rfl dX12_summed_16 ?_
      refine xif_eq hx hb 48 dX12_summed_19 (by decide) hf (fun hf => ?_) (fun hf => ?_)
      · refine lv_aload_n hx hb dX12_summed_48 rfl (lv_at hl 0 rfl) ?_
        obtain ⟨r49, v_texts_49, v_at_49, v_place_49, v_token_49, v_number_49, v_word_49, v_written_49, v_pile_49, v_piled_49, v_opens_49, v_isWhole_49, hg49, hf⟩ := ob12_some hf
        refine mcV1_i (As := []) (rest := []) hx hb hml hown hts hK hP hD hS hA (k_X12_beginOne l N D cI cJ cZ cB cT h q v_a v_image v_texts v_tape v_taped v_fault v_faultPlace v_at v_place v_token v_number v_word v_text0 v_written v_sort0 v_pile v_piled v_opens v_isWhole v_once v_named v_values v_truth v_isWritten v_died v_aside v_likely v_safe v_headOf r49 v_texts_49 v_at_49 v_place_49 v_token_49 v_number_49 v_word_49 v_written_49 v_pile_49 v_piled_49 v_opens_49 v_isWhole_49 hg49) (kwX12_218 hts rfl rfl ⟨Nat.le_of_ble_eq_true rfl, Nat.le_of_ble_eq_true rfl⟩) 0 rfl rfl rfl rfl hl.1 rfl (Nat.le_of_ble_eq_true rfl) dX12_summed_49 ⟨Nat.zero_le _, Nat.zero_le _⟩ (fun hB49 H locs hP hD hS => ?_)
        have hP : va_P D vwCl (WM h q cI cJ cZ v_a v_image v_texts_49 v_tape v_taped v_fault v_faultPlace v_at_49 v_place_49 v_token_49 v_number_49 v_word_49 v_text0 v_written_49 v_sort0 v_pile_49 v_piled_49 v_opens_49 v_isWhole_49 v_once v_named v_values v_truth v_isWritten v_died v_aside v_likely v_safe v_headOf) H := hP
        have hD : va_D A (WM h q cI cJ cZ v_a v_image v_texts_49 v_tape v_taped v_fault v_faultPlace v_at_49 v_place_49 v_token_49 v_number_49 v_word_49 v_text0 v_written_49 v_sort0 v_pile_49 v_piled_49 v_opens_49 v_isWhole_49 v_once v_named v_values v_truth v_isWritten v_died v_aside v_likely v_safe v_headOf) := hD
        refine lv_istore_n (lv' := [(1, .int r49), (0, .ref h)]) hx hb dX12_summed_52 rfl hl (by decide) rfl (fun ls hl => ?_)
        refine lv_iload_n hx hb dX12_summed_53 rfl (lv_at hl 0 rfl) ?_
        refine xif_eq hx hb 59 dX12_summed_54 (by decide) hf (fun hf => ?_) (fun hf => ?_)
        · refine lv_goto (tgt := 15) hx hb dX12_summed_59 (by decide) ?_
          exact ih15 v_texts_49 v_at_49 v_place_49 v_token_49 v_number_49 v_word_49 v_written_49 v_pile_49 v_piled_49 v_opens_49 v_isWhole_49 _ _ _ hf hP hD hS (lv_sub hl [1] rfl)
        · refine lv_iload_n hx hb dX12_summed_57 rfl (lv_at hl 0 rfl) ?_
          cases hf
          exact mret_i hx hb hr hlocks hP hD hS dX12_summed_58 rfl trivial
      · refine lv_aload_n hx hb dX12_summed_22 rfl (lv_at hl 0 rfl) ?_
        obtain ⟨r23, v_texts_23, v_at_23, v_place_23, v_token_23, v_number_23, v_word_23, v_written_23, v_pile_23, v_piled_23, v_opens_23, v_isWhole_23, hg23, hf⟩ := ob12_some hf
        refine mcV1_i (As := []) (rest := []) hx hb hml hown hts hK hP hD hS hA (k_X12_behindOne l N D cI cJ cZ cB cT h q v_a v_image v_texts v_tape v_taped v_fault v_faultPlace v_at v_place v_token v_number v_word v_text0 v_written v_sort0 v_pile v_piled v_opens v_isWhole v_once v_named v_values v_truth v_isWritten v_died v_aside v_likely v_safe v_headOf r23 v_texts_23 v_at_23 v_place_23 v_token_23 v_number_23 v_word_23 v_written_23 v_pile_23 v_piled_23 v_opens_23 v_isWhole_23 hg23) (kwX12_215 hts rfl rfl ⟨Nat.le_of_ble_eq_true rfl, Nat.le_of_ble_eq_true rfl⟩) 0 rfl rfl rfl rfl hl.1 rfl (Nat.le_of_ble_eq_true rfl) dX12_summed_23 ⟨Nat.zero_le _, Nat.zero_le _⟩ (fun hB23 H locs hP hD hS => ?_)
        have hP : va_P D vwCl (WM h q cI cJ cZ v_a v_image v_texts_23 v_tape v_taped v_fault v_faultPlace v_at_23 v_place_23 v_token_23 v_number_23 v_word_23 v_text0 v_written_23 v_sort0 v_pile_23 v_piled_23 v_opens_23 v_isWhole_23 v_once v_named v_values v_truth v_isWritten v_died v_aside v_likely v_safe v_headOf) H := hP
        have hD : va_D A (WM h q cI cJ cZ v_a v_image v_texts_23 v_tape v_taped v_fault v_faultPlace v_at_23 v_place_23 v_token_23 v_number_23 v_word_23 v_text0 v_written_23 v_sort0 v_pile_23 v_piled_23 v_opens_23 v_isWhole_23 v_once v_named v_values v_truth v_isWritten v_died v_aside v_likely v_safe v_headOf) := hD
        refine xif_eq hx hb 32 dX12_summed_26 (by decide) hf (fun hf => ?_) (fun hf => ?_)
        · refine lv_aload_n hx hb dX12_summed_32 rfl (lv_at hl 0 rfl) ?_
          obtain ⟨r33, hg33, hf⟩ := ob1_some hf
          refine mcV1_i (As := []) (rest := []) hx hb hml hown hts hK hP hD hS hA (k_X12_openNow l N D cI cJ cZ cB cT h q v_a v_image v_texts_23 v_tape v_taped v_fault v_faultPlace v_at_23 v_place_23 v_token_23 v_number_23 v_word_23 v_text0 v_written_23 v_sort0 v_pile_23 v_piled_23 v_opens_23 v_isWhole_23 v_once v_named v_values v_truth v_isWritten v_died v_aside v_likely v_safe v_headOf r33 hg33) (kwX12_174 hts rfl rfl ⟨Nat.le_of_ble_eq_true rfl, Nat.le_of_ble_eq_true rfl⟩) 0 rfl rfl rfl rfl hl.1 rfl (Nat.le_of_ble_eq_true rfl) dX12_summed_33 ⟨Nat.zero_le _, Nat.zero_le _⟩ (fun hB33 H locs hP hD hS => ?_)
          have hP : va_P D vwCl (WM h q cI cJ cZ v_a v_image v_texts_23 v_tape v_taped v_fault v_faultPlace v_at_23 v_place_23 v_token_23 v_number_23 v_word_23 v_text0 v_written_23 v_sort0 v_pile_23 v_piled_23 v_opens_23 v_isWhole_23 v_once v_named v_values v_truth v_isWritten v_died v_aside v_likely v_safe v_headOf) H := hP
          have hD : va_D A (WM h q cI cJ cZ v_a v_image v_texts_23 v_tape v_taped v_fault v_faultPlace v_at_23 v_place_23 v_token_23 v_number_23 v_word_23 v_text0 v_written_23 v_sort0 v_pile_23 v_piled_23 v_opens_23 v_isWhole_23 v_once v_named v_values v_truth v_isWritten v_died v_aside v_likely v_safe v_headOf) := hD
          refine xif_lt hx hb 41 dX12_summed_36 (by decide) hf (fun hf => ?_) (fun hf => ?_)
          · refine lv_aload_n hx hb dX12_summed_41 rfl (lv_at hl 0 rfl) ?_
            refine lv_iconst (v := (1 : Int32)) hx hb dX12_summed_42 (by decide) ?_
            obtain ⟨v_texts_43, v_written_43, v_piled_43, v_opens_43, hg43, hf⟩ := ob4_some hf
            refine mcV1_v (As := [.int (1 : Int32)]) (rest := []) hx hb hml hown hts hK hP hD hS hA (k_X12_settle l N D cI cJ cZ cB cT h q v_a v_image v_texts_23 v_tape v_taped v_fault v_faultPlace v_at_23 v_place_23 v_token_23 v_number_23 v_word_23 v_text0 v_written_23 v_sort0 v_pile_23 v_piled_23 v_opens_23 v_isWhole_23 v_once v_named v_values v_truth v_isWritten v_died v_aside v_likely v_safe v_headOf (1 : Int32) v_texts_43 v_written_43 v_piled_43 v_opens_43 hg43) (kwX12_189 hts rfl rfl ⟨Nat.le_of_ble_eq_true rfl, Nat.le_of_ble_eq_true rfl⟩) 0 rfl rfl rfl rfl hl.1 rfl (Nat.le_of_ble_eq_true rfl) dX12_summed_43 ⟨Nat.zero_le _, Nat.zero_le _⟩ (fun H locs hP hD hS => ?_)
            have hP : va_P D vwCl (WM h q cI cJ cZ v_a v_image v_texts_43 v_tape v_taped v_fault v_faultPlace v_at_23 v_place_23 v_token_23 v_number_23 v_word_23 v_text0 v_written_43 v_sort0 v_pile_23 v_piled_43 v_opens_43 v_isWhole_23 v_once v_named v_values v_truth v_isWritten v_died v_aside v_likely v_safe v_headOf) H := hP
            have hD : va_D A (WM h q cI cJ cZ v_a v_image v_texts_43 v_tape v_taped v_fault v_faultPlace v_at_23 v_place_23 v_token_23 v_number_23 v_word_23 v_text0 v_written_43 v_sort0 v_pile_23 v_piled_43 v_opens_43 v_isWhole_23 v_once v_named v_values v_truth v_isWritten v_died v_aside v_likely v_safe v_headOf) := hD
            refine lv_iconst (v := (0 : Int32)) hx hb dX12_summed_46 (by decide) ?_
            cases hf
            exact mret_i hx hb hr hlocks hP hD hS dX12_summed_47 rfl trivial
          · refine lv_iconst (v := (1 : Int32)) hx hb dX12_summed_39 (by decide) ?_
            cases hf
            exact mret_i hx hb hr hlocks hP hD hS dX12_summed_40 rfl trivial
        · refine lv_goto (tgt := 15) hx hb dX12_summed_29 (by decide) ?_
          exact ih15 v_texts_23 v_at_23 v_place_23 v_token_23 v_number_23 v_word_23 v_written_23 v_pile_23 v_piled_23 v_opens_23 v_isWhole_23 _ _ _ hf hP hD hS (lv_sub hl [0] rfl)
  unfold f_X12_summed at hf
  refine lv_aload_n hx hb dX12_summed_0 rfl (lv_at hl 0 rfl) ?_
  refine lv_iconst (v := (0 : Int32)) hx hb dX12_summed_1 (by decide) ?_
  refine pfX12_157 hx hb hts hown hK hP hD hS 0 rfl (Nat.le_of_ble_eq_true rfl) dX12_summed_2 (fun H locs hP hD hS => ?_)
  have hP : va_P D vwCl (WM h q cI cJ cZ v_a v_image v_texts v_tape v_taped v_fault v_faultPlace v_at v_place v_token v_number v_word v_text0 v_written v_sort0 v_pile (0 : Int32) v_opens v_isWhole v_once v_named v_values v_truth v_isWritten v_died v_aside v_likely v_safe v_headOf) H := hP
  have hD : va_D A (WM h q cI cJ cZ v_a v_image v_texts v_tape v_taped v_fault v_faultPlace v_at v_place v_token v_number v_word v_text0 v_written v_sort0 v_pile (0 : Int32) v_opens v_isWhole v_once v_named v_values v_truth v_isWritten v_died v_aside v_likely v_safe v_headOf) := hD
  refine lv_aload_n hx hb dX12_summed_5 rfl (lv_at hl 0 rfl) ?_
  refine lv_iconst (v := (0 : Int32)) hx hb dX12_summed_6 (by decide) ?_
  refine pfX12_167 hx hb hts hown hK hP hD hS 0 rfl (Nat.le_of_ble_eq_true rfl) dX12_summed_7 (fun H locs hP hD hS => ?_)
  have hP : va_P D vwCl (WM h q cI cJ cZ v_a v_image v_texts v_tape v_taped v_fault v_faultPlace v_at v_place v_token v_number v_word v_text0 v_written v_sort0 v_pile (0 : Int32) (0 : Int32) v_isWhole v_once v_named v_values v_truth v_isWritten v_died v_aside v_likely v_safe v_headOf) H := hP
  have hD : va_D A (WM h q cI cJ cZ v_a v_image v_texts v_tape v_taped v_fault v_faultPlace v_at v_place v_token v_number v_word v_text0 v_written v_sort0 v_pile (0 : Int32) (0 : Int32) v_isWhole v_once v_named v_values v_truth v_isWritten v_died v_aside v_likely v_safe v_headOf) := hD
  refine lv_aload_n hx hb dX12_summed_10 rfl (lv_at hl 0 rfl) ?_
  refine lv_iconst (v := (0 : Int32)) hx hb dX12_summed_11 (by decide) ?_
  refine pfX12_186 hx hb hts hown hK hP hD hS 0 rfl rfl rfl (Nat.le_of_ble_eq_true rfl) dX12_summed_12 (fun H locs hP hD hS => ?_)
  have hP : va_P D vwCl (WM h q cI cJ cZ v_a v_image v_texts v_tape v_taped v_fault v_faultPlace v_at v_place v_token v_number v_word v_text0 v_written v_sort0 v_pile (0 : Int32) (0 : Int32) (0 : Int32) v_once v_named v_values v_truth v_isWritten v_died v_aside v_likely v_safe v_headOf) H := hP
  have hD : va_D A (WM h q cI cJ cZ v_a v_image v_texts v_tape v_taped v_fault v_faultPlace v_at v_place v_token v_number v_word v_text0 v_written v_sort0 v_pile (0 : Int32) (0 : Int32) (0 : Int32) v_once v_named v_values v_truth v_isWritten v_died v_aside v_likely v_safe v_headOf) := hD
  exact b15 N v_texts v_at v_place v_token v_number v_word v_written v_pile (0 : Int32) (0 : Int32) (0 : Int32) _ _ _ hf hP hD hS (lv_sub hl [0] rfl)
theorem dX12_figure_0 : decode cX12_figure 0 = .ok (.aload_n 0, 1) := by decide +kernel
theorem dX12_figure_1 : decode cX12_figure 1 = .ok (.getfield 106, 3) := by decide +kernel
theorem dX12_figure_4 : decode cX12_figure 4 = .ok (.iconst 1, 1) := by decide +kernel
theorem dX12_figure_5 : decode cX12_figure 5 = .ok (.if_icmp .eq 5, 3) := by decide +kernel
theorem dX12_figure_8 : decode cX12_figure 8 = .ok (.iconst 1, 1) := by decide +kernel
theorem dX12_figure_9 : decode cX12_figure 9 = .ok (.ireturn, 1) := by decide +kernel
theorem dX12_figure_10 : decode cX12_figure 10 = .ok (.aload_n 0, 1) := by decide +kernel
theorem dX12_figure_11 : decode cX12_figure 11 = .ok (.getfield 112, 3) := by decide +kernel
theorem dX12_figure_14 : decode cX12_figure 14 = .ok (.iload_n 2, 1) := by decide +kernel
theorem dX12_figure_15 : decode cX12_figure 15 = .ok (.iload_n 3, 1) := by decide +kernel
theorem dX12_figure_16 : decode cX12_figure 16 = .ok (.invokestatic 63, 3) := by decide +kernel
theorem dX12_figure_19 : decode cX12_figure 19 = .ok (.ifCond .ne 5, 3) := by decide +kernel
theorem dX12_figure_22 : decode cX12_figure 22 = .ok (.iconst 2, 1) := by decide +kernel
theorem dX12_figure_23 : decode cX12_figure 23 = .ok (.ireturn, 1) := by decide +kernel
theorem dX12_figure_24 : decode cX12_figure 24 = .ok (.aload_n 0, 1) := by decide +kernel
theorem dX12_figure_25 : decode cX12_figure 25 = .ok (.getfield 16, 3) := by decide +kernel
theorem dX12_figure_28 : decode cX12_figure 28 = .ok (.iload_n 1, 1) := by decide +kernel
theorem dX12_figure_29 : decode cX12_figure 29 = .ok (.aload_n 0, 1) := by decide +kernel
theorem dX12_figure_30 : decode cX12_figure 30 = .ok (.getfield 112, 3) := by decide +kernel
theorem dX12_figure_33 : decode cX12_figure 33 = .ok (.iastore, 1) := by decide +kernel
theorem dX12_figure_34 : decode cX12_figure 34 = .ok (.aload_n 0, 1) := by decide +kernel
theorem dX12_figure_35 : decode cX12_figure 35 = .ok (.invokevirtual 177, 3) := by decide +kernel
theorem dX12_figure_38 : decode cX12_figure 38 = .ok (.iconst 0, 1) := by decide +kernel
theorem dX12_figure_39 : decode cX12_figure 39 = .ok (.ireturn, 1) := by decide +kernel
def f_X12_figure (N : Nat) (v_texts : Nat → Int32) (v_tape : Nat → Int32) (v_taped : Int32) (v_at : Int32) (v_place : Int32) (v_token : Int32) (v_number : Int32) (v_word : Int64) (p1 : Int32) (p2 : Int32) (p3 : Int32) : Option (Int32 × (Nat → Int32) × Int32 × Int32 × Int32 × Int32 × Int64) := if v_token = (1 : Int32) then (ob1 (f_X12_isIn N v_number p2 p3) fun r16 => if r16 = 0 then (some ((2 : Int32), v_texts, v_at, v_place, v_token, v_number, v_word)) else (sA v_texts 2916 p1 v_number fun v_texts_33 => ob5 (f_X12_nextToken N v_tape v_taped v_at v_place v_token v_number v_word) fun v_at_35 v_place_35 v_token_35 v_number_35 v_word_35 => some ((0 : Int32), v_texts_33, v_at_35, v_place_35, v_token_35, v_number_35, v_word_35))) else (some ((1 : Int32), v_texts, v_at, v_place, v_token, v_number, v_word))
set_option maxHeartbeats 4000000 in
set_option maxRecDepth 100000 in
theorem k_X12_figure (l : Launch) (N : Nat) (D : va_G) (cI cJ cZ cB cT : ClassId) (h : Nat) (q : Nat → Nat) (v_a : Nat → Int32) (v_image : Nat → Int32) (v_texts : Nat → Int32) (v_tape : Nat → Int32) (v_taped : Int32) (v_fault : Int32) (v_faultPlace : Int32) (v_at : Int32) (v_place : Int32) (v_token : Int32) (v_number : Int32) (v_word : Int64) (v_text0 : Int32) (v_written : Int32) (v_sort0 : Int32) (v_pile : Nat → Int32) (v_piled : Int32) (v_opens : Int32) (v_isWhole : Int32) (v_once : Int32) (v_named : Nat → Int32) (v_values : Nat → Int64) (v_truth : Nat → Int32) (v_isWritten : Int32) (v_died : Int32) (v_aside : Nat → Int32) (v_likely : Nat → Int32) (v_safe : Nat → Int32) (v_headOf : Nat → Int32) (p1 : Int32) (p2 : Int32) (p3 : Int32) (o_r : Int32) (o_v_texts : Nat → Int32) (o_v_at : Int32) (o_v_place : Int32) (o_v_token : Int32) (o_v_number : Int32) (o_v_word : Int64) (hf : f_X12_figure N v_texts v_tape v_taped v_at v_place v_token v_number v_word p1 p2 p3 = some (o_r, o_v_texts, o_v_at, o_v_place, o_v_token, o_v_number, o_v_word)) : ∀ sz, Met l yX12_figure (mw yX12_figure cX12_figure 4 (some .int)) ({ frames := 2, cells := 0, slots := 0, locals := 42 } : Room) (mPre D (mT cI cJ cZ cB cT) (WM h q cI cJ cZ v_a v_image v_texts v_tape v_taped v_fault v_faultPlace v_at v_place v_token v_number v_word v_text0 v_written v_sort0 v_pile v_piled v_opens v_isWhole v_once v_named v_values v_truth v_isWritten v_died v_aside v_likely v_safe v_headOf) sz [.ref h, .int p1, .int p2, .int p3]) ((mQi D (WM h q cI cJ cZ v_a v_image o_v_texts v_tape v_taped v_fault v_faultPlace o_v_at o_v_place o_v_token o_v_number o_v_word v_text0 v_written v_sort0 v_pile v_piled v_opens v_isWhole v_once v_named v_values v_truth v_isWritten v_died v_aside v_likely v_safe v_headOf) o_r True) (va_A (WM h q cI cJ cZ v_a v_image v_texts v_tape v_taped v_fault v_faultPlace v_at v_place v_token v_number v_word v_text0 v_written v_sort0 v_pile v_piled v_opens v_isWhole v_once v_named v_values v_truth v_isWritten v_died v_aside v_likely v_safe v_headOf) sz)) 0 0 (va_A (WM h q cI cJ cZ v_a v_image v_texts v_tape v_taped v_fault v_faultPlace v_at v_place v_token v_number v_word v_text0 v_written v_sort0 v_pile v_piled v_opens v_isWhole v_once v_named v_values v_truth v_isWritten v_died v_aside v_likely v_safe v_headOf) sz) := by
  refine mMet (Qc := (mQi D (WM h q cI cJ cZ v_a v_image o_v_texts v_tape v_taped v_fault v_faultPlace o_v_at o_v_place o_v_token o_v_number o_v_word v_text0 v_written v_sort0 v_pile v_piled v_opens v_isWhole v_once v_named v_values v_truth v_isWritten v_died v_aside v_likely v_safe v_headOf) o_r True)) (by decide) (Nat.le_of_ble_eq_true rfl) (fun p e s m below meth c A ls hx hb hr hml hts hown hlocks hK hA hP hD hl => ?_)
  have hown : s.vm.findClass RX12 = some m.cls := hown
  have hl : lv_has ls 4 [(0, .ref h), (1, .int p1), (2, .int p2), (3, .int p3)] := hl
  have hS : va_S A s.heap s.heap [] := va_S.rf
  unfold f_X12_figure at hf
  refine lv_aload_n hx hb dX12_figure_0 rfl (lv_at hl 0 rfl) ?_
  refine gfX12_106 hx hb hts hown hK hP 0 rfl rfl dX12_figure_1 ?_
  refine lv_iconst (v := (1 : Int32)) hx hb dX12_figure_4 (by decide) ?_
  refine xicmp_eq hx hb 10 dX12_figure_5 (by decide) hf (fun hf => ?_) (fun hf => ?_)
  · refine lv_aload_n hx hb dX12_figure_10 rfl (lv_at hl 0 rfl) ?_
    refine gfX12_112 hx hb hts hown hK hP 0 rfl rfl dX12_figure_11 ?_
    refine lv_iload_n hx hb dX12_figure_14 rfl (lv_at hl 2 rfl) ?_
    refine lv_iload_n hx hb dX12_figure_15 rfl (lv_at hl 3 rfl) ?_
    obtain ⟨r16, hg16, hf⟩ := ob1_some hf
    refine mcS0_i (As := [.int v_number, .int p2, .int p3]) (rest := []) hx hb hml hown hts hK hP hD hS hA (k_X12_isIn l N D cI cJ cZ cB cT v_number p2 p3 r16 hg16) (kwX12_63 hts rfl rfl ⟨Nat.le_of_ble_eq_true rfl, Nat.le_of_ble_eq_true rfl⟩) rfl hl.1 rfl (Nat.le_of_ble_eq_true rfl) dX12_figure_16 ⟨Nat.zero_le _, Nat.zero_le _⟩ (fun hB16 H locs hP hD hS => ?_)
    refine xif_ne hx hb 24 dX12_figure_19 (by decide) hf (fun hf => ?_) (fun hf => ?_)
    · refine lv_iconst (v := (2 : Int32)) hx hb dX12_figure_22 (by decide) ?_
      cases hf
      exact mret_i hx hb hr hlocks hP hD hS dX12_figure_23 rfl trivial
    · refine lv_aload_n hx hb dX12_figure_24 rfl (lv_at hl 0 rfl) ?_
      refine gfX12_16 hx hb hts hown hK hP 0 rfl rfl dX12_figure_25 ?_
      refine lv_iload_n hx hb dX12_figure_28 rfl (lv_at hl 1 rfl) ?_
      refine lv_aload_n hx hb dX12_figure_29 rfl (lv_at hl 0 rfl) ?_
      refine gfX12_112 hx hb hts hown hK hP 0 rfl rfl dX12_figure_30 ?_
      refine xiast hx hb hK hP hD hS 3 0 rfl rfl dX12_figure_33 hf (fun v_texts_33 hf H locs hP hD hS => ?_)
      have hP : va_P D vwCl (WM h q cI cJ cZ v_a v_image v_texts_33 v_tape v_taped v_fault v_faultPlace v_at v_place v_token v_number v_word v_text0 v_written v_sort0 v_pile v_piled v_opens v_isWhole v_once v_named v_values v_truth v_isWritten v_died v_aside v_likely v_safe v_headOf) H := hP
      have hD : va_D A (WM h q cI cJ cZ v_a v_image v_texts_33 v_tape v_taped v_fault v_faultPlace v_at v_place v_token v_number v_word v_text0 v_written v_sort0 v_pile v_piled v_opens v_isWhole v_once v_named v_values v_truth v_isWritten v_died v_aside v_likely v_safe v_headOf) := hD
      refine lv_aload_n hx hb dX12_figure_34 rfl (lv_at hl 0 rfl) ?_
      obtain ⟨v_at_35, v_place_35, v_token_35, v_number_35, v_word_35, hg35, hf⟩ := ob5_some hf
      refine mcV1_v (As := []) (rest := []) hx hb hml hown hts hK hP hD hS hA (k_X12_nextToken l N D cI cJ cZ cB cT h q v_a v_image v_texts_33 v_tape v_taped v_fault v_faultPlace v_at v_place v_token v_number v_word v_text0 v_written v_sort0 v_pile v_piled v_opens v_isWhole v_once v_named v_values v_truth v_isWritten v_died v_aside v_likely v_safe v_headOf v_at_35 v_place_35 v_token_35 v_number_35 v_word_35 hg35) (kwX12_177 hts rfl rfl ⟨Nat.le_of_ble_eq_true rfl, Nat.le_of_ble_eq_true rfl⟩) 0 rfl rfl rfl rfl hl.1 rfl (Nat.le_of_ble_eq_true rfl) dX12_figure_35 ⟨Nat.zero_le _, Nat.zero_le _⟩ (fun H locs hP hD hS => ?_)
      have hP : va_P D vwCl (WM h q cI cJ cZ v_a v_image v_texts_33 v_tape v_taped v_fault v_faultPlace v_at_35 v_place_35 v_token_35 v_number_35 v_word_35 v_text0 v_written v_sort0 v_pile v_piled v_opens v_isWhole v_once v_named v_values v_truth v_isWritten v_died v_aside v_likely v_safe v_headOf) H := hP
      have hD : va_D A (WM h q cI cJ cZ v_a v_image v_texts_33 v_tape v_taped v_fault v_faultPlace v_at_35 v_place_35 v_token_35 v_number_35 v_word_35 v_text0 v_written v_sort0 v_pile v_piled v_opens v_isWhole v_once v_named v_values v_truth v_isWritten v_died v_aside v_likely v_safe v_headOf) := hD
      refine lv_iconst (v := (0 : Int32)) hx hb dX12_figure_38 (by decide) ?_
      cases hf
      exact mret_i hx hb hr hlocks hP hD hS dX12_figure_39 rfl trivial
  · refine lv_iconst (v := (1 : Int32)) hx hb dX12_figure_8 (by decide) ?_
    cases hf
    exact mret_i hx hb hr hlocks hP hD hS dX12_figure_9 rfl trivial
theorem dX12_worded_0 : decode cX12_worded 0 = .ok (.aload_n 0, 1) := by decide +kernel
theorem dX12_worded_1 : decode cX12_worded 1 = .ok (.lload_n 1, 1) := by decide +kernel
theorem dX12_worded_2 : decode cX12_worded 2 = .ok (.invokevirtual 195, 3) := by decide +kernel
theorem dX12_worded_5 : decode cX12_worded 5 = .ok (.ifCond .ne 5, 3) := by decide +kernel
theorem dX12_worded_8 : decode cX12_worded 8 = .ok (.iconst 1, 1) := by decide +kernel
theorem dX12_worded_9 : decode cX12_worded 9 = .ok (.ireturn, 1) := by decide +kernel
theorem dX12_worded_10 : decode cX12_worded 10 = .ok (.aload_n 0, 1) := by decide +kernel
theorem dX12_worded_11 : decode cX12_worded 11 = .ok (.invokevirtual 177, 3) := by decide +kernel
theorem dX12_worded_14 : decode cX12_worded 14 = .ok (.aload_n 0, 1) := by decide +kernel
theorem dX12_worded_15 : decode cX12_worded 15 = .ok (.iload_n 3, 1) := by decide +kernel
theorem dX12_worded_16 : decode cX12_worded 16 = .ok (.iconst 0, 1) := by decide +kernel
theorem dX12_worded_17 : decode cX12_worded 17 = .ok (.iload 4, 2) := by decide +kernel
theorem dX12_worded_19 : decode cX12_worded 19 = .ok (.invokevirtual 221, 3) := by decide +kernel
theorem dX12_worded_22 : decode cX12_worded 22 = .ok (.ireturn, 1) := by decide +kernel
def f_X12_worded (N : Nat) (v_texts : Nat → Int32) (v_tape : Nat → Int32) (v_taped : Int32) (v_at : Int32) (v_place : Int32) (v_token : Int32) (v_number : Int32) (v_word : Int64) (p1 : Int64) (p3 : Int32) (p4 : Int32) : Option (Int32 × (Nat → Int32) × Int32 × Int32 × Int32 × Int32 × Int64) := ob1 (f_X12_isWord N v_token v_word p1) fun r2 => if r2 = 0 then (some ((1 : Int32), v_texts, v_at, v_place, v_token, v_number, v_word)) else (ob5 (f_X12_nextToken N v_tape v_taped v_at v_place v_token v_number v_word) fun v_at_11 v_place_11 v_token_11 v_number_11 v_word_11 => ob7 (f_X12_figure N v_texts v_tape v_taped v_at_11 v_place_11 v_token_11 v_number_11 v_word_11 p3 (0 : Int32) p4) fun r19 v_texts_19 v_at_19 v_place_19 v_token_19 v_number_19 v_word_19 => some (r19, v_texts_19, v_at_19, v_place_19, v_token_19, v_number_19, v_word_19))
set_option maxHeartbeats 4000000 in
set_option maxRecDepth 100000 in
theorem k_X12_worded (l : Launch) (N : Nat) (D : va_G) (cI cJ cZ cB cT : ClassId) (h : Nat) (q : Nat → Nat) (v_a : Nat → Int32) (v_image : Nat → Int32) (v_texts : Nat → Int32) (v_tape : Nat → Int32) (v_taped : Int32) (v_fault : Int32) (v_faultPlace : Int32) (v_at : Int32) (v_place : Int32) (v_token : Int32) (v_number : Int32) (v_word : Int64) (v_text0 : Int32) (v_written : Int32) (v_sort0 : Int32) (v_pile : Nat → Int32) (v_piled : Int32) (v_opens : Int32) (v_isWhole : Int32) (v_once : Int32) (v_named : Nat → Int32) (v_values : Nat → Int64) (v_truth : Nat → Int32) (v_isWritten : Int32) (v_died : Int32) (v_aside : Nat → Int32) (v_likely : Nat → Int32) (v_safe : Nat → Int32) (v_headOf : Nat → Int32) (p1 : Int64) (p3 : Int32) (p4 : Int32) (o_r : Int32) (o_v_texts : Nat → Int32) (o_v_at : Int32) (o_v_place : Int32) (o_v_token : Int32) (o_v_number : Int32) (o_v_word : Int64) (hf : f_X12_worded N v_texts v_tape v_taped v_at v_place v_token v_number v_word p1 p3 p4 = some (o_r, o_v_texts, o_v_at, o_v_place, o_v_token, o_v_number, o_v_word)) : ∀ sz, Met l yX12_worded (mw yX12_worded cX12_worded 5 (some .int)) ({ frames := 3, cells := 0, slots := 0, locals := 65 } : Room) (mPre D (mT cI cJ cZ cB cT) (WM h q cI cJ cZ v_a v_image v_texts v_tape v_taped v_fault v_faultPlace v_at v_place v_token v_number v_word v_text0 v_written v_sort0 v_pile v_piled v_opens v_isWhole v_once v_named v_values v_truth v_isWritten v_died v_aside v_likely v_safe v_headOf) sz [.ref h, .long p1, .int p3, .int p4]) ((mQi D (WM h q cI cJ cZ v_a v_image o_v_texts v_tape v_taped v_fault v_faultPlace o_v_at o_v_place o_v_token o_v_number o_v_word v_text0 v_written v_sort0 v_pile v_piled v_opens v_isWhole v_once v_named v_values v_truth v_isWritten v_died v_aside v_likely v_safe v_headOf) o_r True) (va_A (WM h q cI cJ cZ v_a v_image v_texts v_tape v_taped v_fault v_faultPlace v_at v_place v_token v_number v_word v_text0 v_written v_sort0 v_pile v_piled v_opens v_isWhole v_once v_named v_values v_truth v_isWritten v_died v_aside v_likely v_safe v_headOf) sz)) 0 0 (va_A (WM h q cI cJ cZ v_a v_image v_texts v_tape v_taped v_fault v_faultPlace v_at v_place v_token v_number v_word v_text0 v_written v_sort0 v_pile v_piled v_opens v_isWhole v_once v_named v_values v_truth v_isWritten v_died v_aside v_likely v_safe v_headOf) sz) := by
  refine mMet (Qc := (mQi D (WM h q cI cJ cZ v_a v_image o_v_texts v_tape v_taped v_fault v_faultPlace o_v_at o_v_place o_v_token o_v_number o_v_word v_text0 v_written v_sort0 v_pile v_piled v_opens v_isWhole v_once v_named v_values v_truth v_isWritten v_died v_aside v_likely v_safe v_headOf) o_r True)) (by decide) (Nat.le_of_ble_eq_true rfl) (fun p e s m below meth c A ls hx hb hr hml hts hown hlocks hK hA hP hD hl => ?_)
  have hown : s.vm.findClass RX12 = some m.cls := hown
  have hl : lv_has ls 5 [(0, .ref h), (1, .long p1), (3, .int p3), (4, .int p4)] := hl
  have hS : va_S A s.heap s.heap [] := va_S.rf
  unfold f_X12_worded at hf
  refine lv_aload_n hx hb dX12_worded_0 rfl (lv_at hl 0 rfl) ?_
  refine lv_lload_n hx hb dX12_worded_1 rfl (lv_at hl 1 rfl) ?_
  obtain ⟨r2, hg2, hf⟩ := ob1_some hf
  refine mcV1_i (As := [.long p1]) (rest := []) hx hb hml hown hts hK hP hD hS hA (k_X12_isWord l N D cI cJ cZ cB cT h q v_a v_image v_texts v_tape v_taped v_fault v_faultPlace v_at v_place v_token v_number v_word v_text0 v_written v_sort0 v_pile v_piled v_opens v_isWhole v_once v_named v_values v_truth v_isWritten v_died v_aside v_likely v_safe v_headOf p1 r2 hg2) (kwX12_195 hts rfl rfl ⟨Nat.le_of_ble_eq_true rfl, Nat.le_of_ble_eq_true rfl⟩) 0 rfl rfl rfl rfl hl.1 rfl (Nat.le_of_ble_eq_true rfl) dX12_worded_2 ⟨Nat.zero_le _, Nat.zero_le _⟩ (fun hB2 H locs hP hD hS => ?_)
  have hP : va_P D vwCl (WM h q cI cJ cZ v_a v_image v_texts v_tape v_taped v_fault v_faultPlace v_at v_place v_token v_number v_word v_text0 v_written v_sort0 v_pile v_piled v_opens v_isWhole v_once v_named v_values v_truth v_isWritten v_died v_aside v_likely v_safe v_headOf) H := hP
  have hD : va_D A (WM h q cI cJ cZ v_a v_image v_texts v_tape v_taped v_fault v_faultPlace v_at v_place v_token v_number v_word v_text0 v_written v_sort0 v_pile v_piled v_opens v_isWhole v_once v_named v_values v_truth v_isWritten v_died v_aside v_likely v_safe v_headOf) := hD
  refine xif_ne hx hb 10 dX12_worded_5 (by decide) hf (fun hf => ?_) (fun hf => ?_)
  · refine lv_iconst (v := (1 : Int32)) hx hb dX12_worded_8 (by decide) ?_
    cases hf
    exact mret_i hx hb hr hlocks hP hD hS dX12_worded_9 rfl trivial
  · refine lv_aload_n hx hb dX12_worded_10 rfl (lv_at hl 0 rfl) ?_
    obtain ⟨v_at_11, v_place_11, v_token_11, v_number_11, v_word_11, hg11, hf⟩ := ob5_some hf
    refine mcV1_v (As := []) (rest := []) hx hb hml hown hts hK hP hD hS hA (k_X12_nextToken l N D cI cJ cZ cB cT h q v_a v_image v_texts v_tape v_taped v_fault v_faultPlace v_at v_place v_token v_number v_word v_text0 v_written v_sort0 v_pile v_piled v_opens v_isWhole v_once v_named v_values v_truth v_isWritten v_died v_aside v_likely v_safe v_headOf v_at_11 v_place_11 v_token_11 v_number_11 v_word_11 hg11) (kwX12_177 hts rfl rfl ⟨Nat.le_of_ble_eq_true rfl, Nat.le_of_ble_eq_true rfl⟩) 0 rfl rfl rfl rfl hl.1 rfl (Nat.le_of_ble_eq_true rfl) dX12_worded_11 ⟨Nat.zero_le _, Nat.zero_le _⟩ (fun H locs hP hD hS => ?_)
    have hP : va_P D vwCl (WM h q cI cJ cZ v_a v_image v_texts v_tape v_taped v_fault v_faultPlace v_at_11 v_place_11 v_token_11 v_number_11 v_word_11 v_text0 v_written v_sort0 v_pile v_piled v_opens v_isWhole v_once v_named v_values v_truth v_isWritten v_died v_aside v_likely v_safe v_headOf) H := hP
    have hD : va_D A (WM h q cI cJ cZ v_a v_image v_texts v_tape v_taped v_fault v_faultPlace v_at_11 v_place_11 v_token_11 v_number_11 v_word_11 v_text0 v_written v_sort0 v_pile v_piled v_opens v_isWhole v_once v_named v_values v_truth v_isWritten v_died v_aside v_likely v_safe v_headOf) := hD
    refine lv_aload_n hx hb dX12_worded_14 rfl (lv_at hl 0 rfl) ?_
    refine lv_iload_n hx hb dX12_worded_15 rfl (lv_at hl 2 rfl) ?_
    refine lv_iconst (v := (0 : Int32)) hx hb dX12_worded_16 (by decide) ?_
    refine lv_iload hx hb dX12_worded_17 (lv_at hl 3 rfl) ?_
    obtain ⟨r19, v_texts_19, v_at_19, v_place_19, v_token_19, v_number_19, v_word_19, hg19, hf⟩ := ob7_some hf
    refine mcV1_i (As := [.int p3, .int (0 : Int32), .int p4]) (rest := []) hx hb hml hown hts hK hP hD hS hA (k_X12_figure l N D cI cJ cZ cB cT h q v_a v_image v_texts v_tape v_taped v_fault v_faultPlace v_at_11 v_place_11 v_token_11 v_number_11 v_word_11 v_text0 v_written v_sort0 v_pile v_piled v_opens v_isWhole v_once v_named v_values v_truth v_isWritten v_died v_aside v_likely v_safe v_headOf p3 (0 : Int32) p4 r19 v_texts_19 v_at_19 v_place_19 v_token_19 v_number_19 v_word_19 hg19) (kwX12_221 hts rfl rfl ⟨Nat.le_of_ble_eq_true rfl, Nat.le_of_ble_eq_true rfl⟩) 0 rfl rfl rfl rfl hl.1 rfl (Nat.le_of_ble_eq_true rfl) dX12_worded_19 ⟨Nat.zero_le _, Nat.zero_le _⟩ (fun hB19 H locs hP hD hS => ?_)
    have hP : va_P D vwCl (WM h q cI cJ cZ v_a v_image v_texts_19 v_tape v_taped v_fault v_faultPlace v_at_19 v_place_19 v_token_19 v_number_19 v_word_19 v_text0 v_written v_sort0 v_pile v_piled v_opens v_isWhole v_once v_named v_values v_truth v_isWritten v_died v_aside v_likely v_safe v_headOf) H := hP
    have hD : va_D A (WM h q cI cJ cZ v_a v_image v_texts_19 v_tape v_taped v_fault v_faultPlace v_at_19 v_place_19 v_token_19 v_number_19 v_word_19 v_text0 v_written v_sort0 v_pile v_piled v_opens v_isWhole v_once v_named v_values v_truth v_isWritten v_died v_aside v_likely v_safe v_headOf) := hD
    cases hf
    exact mret_i hx hb hr hlocks hP hD hS dX12_worded_22 rfl trivial
theorem dX12_lawClause_0 : decode cX12_lawClause 0 = .ok (.aload_n 0, 1) := by decide +kernel
theorem dX12_lawClause_1 : decode cX12_lawClause 1 = .ok (.getfield 16, 3) := by decide +kernel
theorem dX12_lawClause_4 : decode cX12_lawClause 4 = .ok (.iload_n 1, 1) := by decide +kernel
theorem dX12_lawClause_5 : decode cX12_lawClause 5 = .ok (.iconst 1, 1) := by decide +kernel
theorem dX12_lawClause_6 : decode cX12_lawClause 6 = .ok (.iadd, 1) := by decide +kernel
theorem dX12_lawClause_7 : decode cX12_lawClause 7 = .ok (.aload_n 0, 1) := by decide +kernel
theorem dX12_lawClause_8 : decode cX12_lawClause 8 = .ok (.getfield 147, 3) := by decide +kernel
theorem dX12_lawClause_11 : decode cX12_lawClause 11 = .ok (.iastore, 1) := by decide +kernel
theorem dX12_lawClause_12 : decode cX12_lawClause 12 = .ok (.aload_n 0, 1) := by decide +kernel
theorem dX12_lawClause_13 : decode cX12_lawClause 13 = .ok (.invokevirtual 225, 3) := by decide +kernel
theorem dX12_lawClause_16 : decode cX12_lawClause 16 = .ok (.istore_n 2, 1) := by decide +kernel
theorem dX12_lawClause_17 : decode cX12_lawClause 17 = .ok (.aload_n 0, 1) := by decide +kernel
theorem dX12_lawClause_18 : decode cX12_lawClause 18 = .ok (.getfield 16, 3) := by decide +kernel
theorem dX12_lawClause_21 : decode cX12_lawClause 21 = .ok (.iload_n 1, 1) := by decide +kernel
theorem dX12_lawClause_22 : decode cX12_lawClause 22 = .ok (.iconst 2, 1) := by decide +kernel
theorem dX12_lawClause_23 : decode cX12_lawClause 23 = .ok (.iadd, 1) := by decide +kernel
theorem dX12_lawClause_24 : decode cX12_lawClause 24 = .ok (.aload_n 0, 1) := by decide +kernel
theorem dX12_lawClause_25 : decode cX12_lawClause 25 = .ok (.getfield 147, 3) := by decide +kernel
theorem dX12_lawClause_28 : decode cX12_lawClause 28 = .ok (.iastore, 1) := by decide +kernel
theorem dX12_lawClause_29 : decode cX12_lawClause 29 = .ok (.iload_n 2, 1) := by decide +kernel
theorem dX12_lawClause_30 : decode cX12_lawClause 30 = .ok (.ireturn, 1) := by decide +kernel
def f_X12_lawClause (N : Nat) (v_texts : Nat → Int32) (v_tape : Nat → Int32) (v_taped : Int32) (v_at : Int32) (v_place : Int32) (v_token : Int32) (v_number : Int32) (v_word : Int64) (v_text0 : Int32) (v_written : Int32) (v_sort0 : Int32) (v_pile : Nat → Int32) (v_piled : Int32) (v_opens : Int32) (v_isWhole : Int32) (p1 : Int32) : Option (Int32 × (Nat → Int32) × Int32 × Int32 × Int32 × Int32 × Int64 × Int32 × (Nat → Int32) × Int32 × Int32 × Int32) := sA v_texts 2916 (p1 + (1 : Int32)) v_written fun v_texts_11 => ob12 (f_X12_summed N v_texts_11 v_tape v_taped v_at v_place v_token v_number v_word v_text0 v_written v_sort0 v_pile v_piled v_opens v_isWhole) fun r13 v_texts_13 v_at_13 v_place_13 v_token_13 v_number_13 v_word_13 v_written_13 v_pile_13 v_piled_13 v_opens_13 v_isWhole_13 => sA v_texts_13 2916 (p1 + (2 : Int32)) v_written_13 fun v_texts_28 => some (r13, v_texts_28, v_at_13, v_place_13, v_token_13, v_number_13, v_word_13, v_written_13, v_pile_13, v_piled_13, v_opens_13, v_isWhole_13)
set_option maxHeartbeats 4000000 in
set_option maxRecDepth 100000 in
theorem k_X12_lawClause (l : Launch) (N : Nat) (D : va_G) (cI cJ cZ cB cT : ClassId) (h : Nat) (q : Nat → Nat) (v_a : Nat → Int32) (v_image : Nat → Int32) (v_texts : Nat → Int32) (v_tape : Nat → Int32) (v_taped : Int32) (v_fault : Int32) (v_faultPlace : Int32) (v_at : Int32) (v_place : Int32) (v_token : Int32) (v_number : Int32) (v_word : Int64) (v_text0 : Int32) (v_written : Int32) (v_sort0 : Int32) (v_pile : Nat → Int32) (v_piled : Int32) (v_opens : Int32) (v_isWhole : Int32) (v_once : Int32) (v_named : Nat → Int32) (v_values : Nat → Int64) (v_truth : Nat → Int32) (v_isWritten : Int32) (v_died : Int32) (v_aside : Nat → Int32) (v_likely : Nat → Int32) (v_safe : Nat → Int32) (v_headOf : Nat → Int32) (p1 : Int32) (o_r : Int32) (o_v_texts : Nat → Int32) (o_v_at : Int32) (o_v_place : Int32) (o_v_token : Int32) (o_v_number : Int32) (o_v_word : Int64) (o_v_written : Int32) (o_v_pile : Nat → Int32) (o_v_piled : Int32) (o_v_opens : Int32) (o_v_isWhole : Int32) (hf : f_X12_lawClause N v_texts v_tape v_taped v_at v_place v_token v_number v_word v_text0 v_written v_sort0 v_pile v_piled v_opens v_isWhole p1 = some (o_r, o_v_texts, o_v_at, o_v_place, o_v_token, o_v_number, o_v_word, o_v_written, o_v_pile, o_v_piled, o_v_opens, o_v_isWhole)) : ∀ sz, Met l yX12_lawClause (mw yX12_lawClause cX12_lawClause 3 (some .int)) ({ frames := 8, cells := 0, slots := 0, locals := 177 } : Room) (mPre D (mT cI cJ cZ cB cT) (WM h q cI cJ cZ v_a v_image v_texts v_tape v_taped v_fault v_faultPlace v_at v_place v_token v_number v_word v_text0 v_written v_sort0 v_pile v_piled v_opens v_isWhole v_once v_named v_values v_truth v_isWritten v_died v_aside v_likely v_safe v_headOf) sz [.ref h, .int p1]) ((mQi D (WM h q cI cJ cZ v_a v_image o_v_texts v_tape v_taped v_fault v_faultPlace o_v_at o_v_place o_v_token o_v_number o_v_word v_text0 o_v_written v_sort0 o_v_pile o_v_piled o_v_opens o_v_isWhole v_once v_named v_values v_truth v_isWritten v_died v_aside v_likely v_safe v_headOf) o_r True) (va_A (WM h q cI cJ cZ v_a v_image v_texts v_tape v_taped v_fault v_faultPlace v_at v_place v_token v_number v_word v_text0 v_written v_sort0 v_pile v_piled v_opens v_isWhole v_once v_named v_values v_truth v_isWritten v_died v_aside v_likely v_safe v_headOf) sz)) 0 0 (va_A (WM h q cI cJ cZ v_a v_image v_texts v_tape v_taped v_fault v_faultPlace v_at v_place v_token v_number v_word v_text0 v_written v_sort0 v_pile v_piled v_opens v_isWhole v_once v_named v_values v_truth v_isWritten v_died v_aside v_likely v_safe v_headOf) sz) := by
  refine mMet (Qc := (mQi D (WM h q cI cJ cZ v_a v_image o_v_texts v_tape v_taped v_fault v_faultPlace o_v_at o_v_place o_v_token o_v_number o_v_word v_text0 o_v_written v_sort0 o_v_pile o_v_piled o_v_opens o_v_isWhole v_once v_named v_values v_truth v_isWritten v_died v_aside v_likely v_safe v_headOf) o_r True)) (by decide) (Nat.le_of_ble_eq_true rfl) (fun p e s m below meth c A ls hx hb hr hml hts hown hlocks hK hA hP hD hl => ?_)
  have hown : s.vm.findClass RX12 = some m.cls := hown
  have hl : lv_has ls 3 [(0, .ref h), (1, .int p1)] := hl
  have hS : va_S A s.heap s.heap [] := va_S.rf
  unfold f_X12_lawClause at hf
  refine lv_aload_n hx hb dX12_lawClause_0 rfl (lv_at hl 0 rfl) ?_
  refine gfX12_16 hx hb hts hown hK hP 0 rfl rfl dX12_lawClause_1 ?_
  refine lv_iload_n hx hb dX12_lawClause_4 rfl (lv_at hl 1 rfl) ?_
  refine lv_iconst (v := (1 : Int32)) hx hb dX12_lawClause_5 (by decide) ?_
  refine lv_iadd hx hb dX12_lawClause_6 ?_
  refine lv_aload_n hx hb dX12_lawClause_7 rfl (lv_at hl 0 rfl) ?_
  refine gfX12_147 hx hb hts hown hK hP 0 rfl rfl dX12_lawClause_8 ?_
  refine xiast hx hb hK hP hD hS 3 0 rfl rfl dX12_lawClause_11 hf (fun v_texts_11 hf H locs hP hD hS => ?_)
  have hP : va_P D vwCl (WM h q cI cJ cZ v_a v_image v_texts_11 v_tape v_taped v_fault v_faultPlace v_at v_place v_token v_number v_word v_text0 v_written v_sort0 v_pile v_piled v_opens v_isWhole v_once v_named v_values v_truth v_isWritten v_died v_aside v_likely v_safe v_headOf) H := hP
  have hD : va_D A (WM h q cI cJ cZ v_a v_image v_texts_11 v_tape v_taped v_fault v_faultPlace v_at v_place v_token v_number v_word v_text0 v_written v_sort0 v_pile v_piled v_opens v_isWhole v_once v_named v_values v_truth v_isWritten v_died v_aside v_likely v_safe v_headOf) := hD
  refine lv_aload_n hx hb dX12_lawClause_12 rfl (lv_at hl 0 rfl) ?_
  obtain ⟨r13, v_texts_13, v_at_13, v_place_13, v_token_13, v_number_13, v_word_13, v_written_13, v_pile_13, v_piled_13, v_opens_13, v_isWhole_13, hg13, hf⟩ := ob12_some hf
  refine mcV1_i (As := []) (rest := []) hx hb hml hown hts hK hP hD hS hA (k_X12_summed l N D cI cJ cZ cB cT h q v_a v_image v_texts_11 v_tape v_taped v_fault v_faultPlace v_at v_place v_token v_number v_word v_text0 v_written v_sort0 v_pile v_piled v_opens v_isWhole v_once v_named v_values v_truth v_isWritten v_died v_aside v_likely v_safe v_headOf r13 v_texts_13 v_at_13 v_place_13 v_token_13 v_number_13 v_word_13 v_written_13 v_pile_13 v_piled_13 v_opens_13 v_isWhole_13 hg13) (kwX12_225 hts rfl rfl ⟨Nat.le_of_ble_eq_true rfl, Nat.le_of_ble_eq_true rfl⟩) 0 rfl rfl rfl rfl hl.1 rfl (Nat.le_of_ble_eq_true rfl) dX12_lawClause_13 ⟨Nat.zero_le _, Nat.zero_le _⟩ (fun hB13 H locs hP hD hS => ?_)
  have hP : va_P D vwCl (WM h q cI cJ cZ v_a v_image v_texts_13 v_tape v_taped v_fault v_faultPlace v_at_13 v_place_13 v_token_13 v_number_13 v_word_13 v_text0 v_written_13 v_sort0 v_pile_13 v_piled_13 v_opens_13 v_isWhole_13 v_once v_named v_values v_truth v_isWritten v_died v_aside v_likely v_safe v_headOf) H := hP
  have hD : va_D A (WM h q cI cJ cZ v_a v_image v_texts_13 v_tape v_taped v_fault v_faultPlace v_at_13 v_place_13 v_token_13 v_number_13 v_word_13 v_text0 v_written_13 v_sort0 v_pile_13 v_piled_13 v_opens_13 v_isWhole_13 v_once v_named v_values v_truth v_isWritten v_died v_aside v_likely v_safe v_headOf) := hD
  refine lv_istore_n (lv' := [(2, .int r13), (0, .ref h), (1, .int p1)]) hx hb dX12_lawClause_16 rfl hl (by decide) rfl (fun ls hl => ?_)
  refine lv_aload_n hx hb dX12_lawClause_17 rfl (lv_at hl 1 rfl) ?_
  refine gfX12_16 hx hb hts hown hK hP 0 rfl rfl dX12_lawClause_18 ?_
  refine lv_iload_n hx hb dX12_lawClause_21 rfl (lv_at hl 2 rfl) ?_
  refine lv_iconst (v := (2 : Int32)) hx hb dX12_lawClause_22 (by decide) ?_
  refine lv_iadd hx hb dX12_lawClause_23 ?_
  refine lv_aload_n hx hb dX12_lawClause_24 rfl (lv_at hl 1 rfl) ?_
  refine gfX12_147 hx hb hts hown hK hP 0 rfl rfl dX12_lawClause_25 ?_
  refine xiast hx hb hK hP hD hS 3 0 rfl rfl dX12_lawClause_28 hf (fun v_texts_28 hf H locs hP hD hS => ?_)
  have hP : va_P D vwCl (WM h q cI cJ cZ v_a v_image v_texts_28 v_tape v_taped v_fault v_faultPlace v_at_13 v_place_13 v_token_13 v_number_13 v_word_13 v_text0 v_written_13 v_sort0 v_pile_13 v_piled_13 v_opens_13 v_isWhole_13 v_once v_named v_values v_truth v_isWritten v_died v_aside v_likely v_safe v_headOf) H := hP
  have hD : va_D A (WM h q cI cJ cZ v_a v_image v_texts_28 v_tape v_taped v_fault v_faultPlace v_at_13 v_place_13 v_token_13 v_number_13 v_word_13 v_text0 v_written_13 v_sort0 v_pile_13 v_piled_13 v_opens_13 v_isWhole_13 v_once v_named v_values v_truth v_isWritten v_died v_aside v_likely v_safe v_headOf) := hD
  refine lv_iload_n hx hb dX12_lawClause_29 rfl (lv_at hl 0 rfl) ?_
  cases hf
  exact mret_i hx hb hr hlocks hP hD hS dX12_lawClause_30 rfl trivial
theorem dX12_personClause_0 : decode cX12_personClause 0 = .ok (.aload_n 0, 1) := by decide +kernel
theorem dX12_personClause_1 : decode cX12_personClause 1 = .ok (.iload_n 1, 1) := by decide +kernel
theorem dX12_personClause_2 : decode cX12_personClause 2 = .ok (.iconst 1, 1) := by decide +kernel
theorem dX12_personClause_3 : decode cX12_personClause 3 = .ok (.iadd, 1) := by decide +kernel
theorem dX12_personClause_4 : decode cX12_personClause 4 = .ok (.iconst 0, 1) := by decide +kernel
theorem dX12_personClause_5 : decode cX12_personClause 5 = .ok (.bipush 7, 2) := by decide +kernel
theorem dX12_personClause_7 : decode cX12_personClause 7 = .ok (.invokevirtual 221, 3) := by decide +kernel
theorem dX12_personClause_10 : decode cX12_personClause 10 = .ok (.istore_n 2, 1) := by decide +kernel
theorem dX12_personClause_11 : decode cX12_personClause 11 = .ok (.iload_n 2, 1) := by decide +kernel
theorem dX12_personClause_12 : decode cX12_personClause 12 = .ok (.ifCond .ne 24, 3) := by decide +kernel
theorem dX12_personClause_15 : decode cX12_personClause 15 = .ok (.aload_n 0, 1) := by decide +kernel
theorem dX12_personClause_16 : decode cX12_personClause 16 = .ok (.bipush 102, 2) := by decide +kernel
theorem dX12_personClause_18 : decode cX12_personClause 18 = .ok (.bipush 101, 2) := by decide +kernel
theorem dX12_personClause_20 : decode cX12_personClause 20 = .ok (.bipush 97, 2) := by decide +kernel
theorem dX12_personClause_22 : decode cX12_personClause 22 = .ok (.bipush 114, 2) := by decide +kernel
theorem dX12_personClause_24 : decode cX12_personClause 24 = .ok (.invokestatic 136, 3) := by decide +kernel
theorem dX12_personClause_27 : decode cX12_personClause 27 = .ok (.iload_n 1, 1) := by decide +kernel
theorem dX12_personClause_28 : decode cX12_personClause 28 = .ok (.iconst 2, 1) := by decide +kernel
theorem dX12_personClause_29 : decode cX12_personClause 29 = .ok (.iadd, 1) := by decide +kernel
theorem dX12_personClause_30 : decode cX12_personClause 30 = .ok (.bipush 9, 2) := by decide +kernel
theorem dX12_personClause_32 : decode cX12_personClause 32 = .ok (.invokevirtual 228, 3) := by decide +kernel
theorem dX12_personClause_35 : decode cX12_personClause 35 = .ok (.istore_n 2, 1) := by decide +kernel
theorem dX12_personClause_36 : decode cX12_personClause 36 = .ok (.iload_n 2, 1) := by decide +kernel
theorem dX12_personClause_37 : decode cX12_personClause 37 = .ok (.ifCond .ne 27, 3) := by decide +kernel
theorem dX12_personClause_40 : decode cX12_personClause 40 = .ok (.aload_n 0, 1) := by decide +kernel
theorem dX12_personClause_41 : decode cX12_personClause 41 = .ok (.bipush 103, 2) := by decide +kernel
theorem dX12_personClause_43 : decode cX12_personClause 43 = .ok (.bipush 111, 2) := by decide +kernel
theorem dX12_personClause_45 : decode cX12_personClause 45 = .ok (.bipush 111, 2) := by decide +kernel
theorem dX12_personClause_47 : decode cX12_personClause 47 = .ok (.bipush 100, 2) := by decide +kernel
theorem dX12_personClause_49 : decode cX12_personClause 49 = .ok (.bipush 115, 2) := by decide +kernel
theorem dX12_personClause_51 : decode cX12_personClause 51 = .ok (.invokestatic 140, 3) := by decide +kernel
theorem dX12_personClause_54 : decode cX12_personClause 54 = .ok (.iload_n 1, 1) := by decide +kernel
theorem dX12_personClause_55 : decode cX12_personClause 55 = .ok (.iconst 3, 1) := by decide +kernel
theorem dX12_personClause_56 : decode cX12_personClause 56 = .ok (.iadd, 1) := by decide +kernel
theorem dX12_personClause_57 : decode cX12_personClause 57 = .ok (.sipush 9999, 3) := by decide +kernel
theorem dX12_personClause_60 : decode cX12_personClause 60 = .ok (.invokevirtual 228, 3) := by decide +kernel
theorem dX12_personClause_63 : decode cX12_personClause 63 = .ok (.istore_n 2, 1) := by decide +kernel
theorem dX12_personClause_64 : decode cX12_personClause 64 = .ok (.iload_n 2, 1) := by decide +kernel
theorem dX12_personClause_65 : decode cX12_personClause 65 = .ok (.ifCond .eq 7, 3) := by decide +kernel
theorem dX12_personClause_68 : decode cX12_personClause 68 = .ok (.iload_n 2, 1) := by decide +kernel
theorem dX12_personClause_69 : decode cX12_personClause 69 = .ok (.goto 26, 3) := by decide +kernel
theorem dX12_personClause_72 : decode cX12_personClause 72 = .ok (.aload_n 0, 1) := by decide +kernel
theorem dX12_personClause_73 : decode cX12_personClause 73 = .ok (.bipush 100, 2) := by decide +kernel
theorem dX12_personClause_75 : decode cX12_personClause 75 = .ok (.bipush 101, 2) := by decide +kernel
theorem dX12_personClause_77 : decode cX12_personClause 77 = .ok (.bipush 98, 2) := by decide +kernel
theorem dX12_personClause_79 : decode cX12_personClause 79 = .ok (.bipush 116, 2) := by decide +kernel
theorem dX12_personClause_81 : decode cX12_personClause 81 = .ok (.bipush 115, 2) := by decide +kernel
theorem dX12_personClause_83 : decode cX12_personClause 83 = .ok (.invokestatic 140, 3) := by decide +kernel
theorem dX12_personClause_86 : decode cX12_personClause 86 = .ok (.iload_n 1, 1) := by decide +kernel
theorem dX12_personClause_87 : decode cX12_personClause 87 = .ok (.iconst 4, 1) := by decide +kernel
theorem dX12_personClause_88 : decode cX12_personClause 88 = .ok (.iadd, 1) := by decide +kernel
theorem dX12_personClause_89 : decode cX12_personClause 89 = .ok (.sipush 9999, 3) := by decide +kernel
theorem dX12_personClause_92 : decode cX12_personClause 92 = .ok (.invokevirtual 228, 3) := by decide +kernel
theorem dX12_personClause_95 : decode cX12_personClause 95 = .ok (.ireturn, 1) := by decide +kernel
def f_X12_personClause_64 (N : Nat) (v_texts : Nat → Int32) (v_tape : Nat → Int32) (v_taped : Int32) (v_at : Int32) (v_place : Int32) (v_token : Int32) (v_number : Int32) (v_word : Int64) (x1 : Int32) (x2 : Int32) : Option (Int32 × (Nat → Int32) × Int32 × Int32 × Int32 × Int32 × Int64) := if x2 = 0 then (ob1 (f_X12_w5 N (100 : Int32) (101 : Int32) (98 : Int32) (116 : Int32) (115 : Int32)) fun r83 => ob7 (f_X12_worded N v_texts v_tape v_taped v_at v_place v_token v_number v_word r83 (x1 + (4 : Int32)) (9999 : Int32)) fun r92 v_texts_92 v_at_92 v_place_92 v_token_92 v_number_92 v_word_92 => some (r92, v_texts_92, v_at_92, v_place_92, v_token_92, v_number_92, v_word_92)) else (some (x2, v_texts, v_at, v_place, v_token, v_number, v_word))
def f_X12_personClause_36 (N : Nat) (v_texts : Nat → Int32) (v_tape : Nat → Int32) (v_taped : Int32) (v_at : Int32) (v_place : Int32) (v_token : Int32) (v_number : Int32) (v_word : Int64) (x1 : Int32) (x2 : Int32) : Option (Int32 × (Nat → Int32) × Int32 × Int32 × Int32 × Int32 × Int64) := if x2 = 0 then (ob1 (f_X12_w5 N (103 : Int32) (111 : Int32) (111 : Int32) (100 : Int32) (115 : Int32)) fun r51 => ob7 (f_X12_worded N v_texts v_tape v_taped v_at v_place v_token v_number v_word r51 (x1 + (3 : Int32)) (9999 : Int32)) fun r60 v_texts_60 v_at_60 v_place_60 v_token_60 v_number_60 v_word_60 => f_X12_personClause_64 N v_texts_60 v_tape v_taped v_at_60 v_place_60 v_token_60 v_number_60 v_word_60 x1 r60) else (f_X12_personClause_64 N v_texts v_tape v_taped v_at v_place v_token v_number v_word x1 x2)
def f_X12_personClause (N : Nat) (v_texts : Nat → Int32) (v_tape : Nat → Int32) (v_taped : Int32) (v_at : Int32) (v_place : Int32) (v_token : Int32) (v_number : Int32) (v_word : Int64) (p1 : Int32) : Option (Int32 × (Nat → Int32) × Int32 × Int32 × Int32 × Int32 × Int64) := ob7 (f_X12_figure N v_texts v_tape v_taped v_at v_place v_token v_number v_word (p1 + (1 : Int32)) (0 : Int32) (7 : Int32)) fun r7 v_texts_7 v_at_7 v_place_7 v_token_7 v_number_7 v_word_7 => if r7 = 0 then (ob1 (f_X12_w4 N (102 : Int32) (101 : Int32) (97 : Int32) (114 : Int32)) fun r24 => ob7 (f_X12_worded N v_texts_7 v_tape v_taped v_at_7 v_place_7 v_token_7 v_number_7 v_word_7 r24 (p1 + (2 : Int32)) (9 : Int32)) fun r32 v_texts_32 v_at_32 v_place_32 v_token_32 v_number_32 v_word_32 => f_X12_personClause_36 N v_texts_32 v_tape v_taped v_at_32 v_place_32 v_token_32 v_number_32 v_word_32 p1 r32) else (f_X12_personClause_36 N v_texts_7 v_tape v_taped v_at_7 v_place_7 v_token_7 v_number_7 v_word_7 p1 r7)
set_option maxHeartbeats 4000000 in
set_option maxRecDepth 100000 in
theorem k_X12_personClause (l : Launch) (N : Nat) (D : va_G) (cI cJ cZ cB cT : ClassId) (h : Nat) (q : Nat → Nat) (v_a : Nat → Int32) (v_image : Nat → Int32) (v_texts : Nat → Int32) (v_tape : Nat → Int32) (v_taped : Int32) (v_fault : Int32) (v_faultPlace : Int32) (v_at : Int32) (v_place : Int32) (v_token : Int32) (v_number : Int32) (v_word : Int64) (v_text0 : Int32) (v_written : Int32) (v_sort0 : Int32) (v_pile : Nat → Int32) (v_piled : Int32) (v_opens : Int32) (v_isWhole : Int32) (v_once : Int32) (v_named : Nat → Int32) (v_values : Nat → Int64) (v_truth : Nat → Int32) (v_isWritten : Int32) (v_died : Int32) (v_aside : Nat → Int32) (v_likely : Nat → Int32) (v_safe : Nat → Int32) (v_headOf : Nat → Int32) (p1 : Int32) (o_r : Int32) (o_v_texts : Nat → Int32) (o_v_at : Int32) (o_v_place : Int32) (o_v_token : Int32) (o_v_number : Int32) (o_v_word : Int64) (hf : f_X12_personClause N v_texts v_tape v_taped v_at v_place v_token v_number v_word p1 = some (o_r, o_v_texts, o_v_at, o_v_place, o_v_token, o_v_number, o_v_word)) : ∀ sz, Met l yX12_personClause (mw yX12_personClause cX12_personClause 3 (some .int)) ({ frames := 4, cells := 0, slots := 0, locals := 90 } : Room) (mPre D (mT cI cJ cZ cB cT) (WM h q cI cJ cZ v_a v_image v_texts v_tape v_taped v_fault v_faultPlace v_at v_place v_token v_number v_word v_text0 v_written v_sort0 v_pile v_piled v_opens v_isWhole v_once v_named v_values v_truth v_isWritten v_died v_aside v_likely v_safe v_headOf) sz [.ref h, .int p1]) ((mQi D (WM h q cI cJ cZ v_a v_image o_v_texts v_tape v_taped v_fault v_faultPlace o_v_at o_v_place o_v_token o_v_number o_v_word v_text0 v_written v_sort0 v_pile v_piled v_opens v_isWhole v_once v_named v_values v_truth v_isWritten v_died v_aside v_likely v_safe v_headOf) o_r True) (va_A (WM h q cI cJ cZ v_a v_image v_texts v_tape v_taped v_fault v_faultPlace v_at v_place v_token v_number v_word v_text0 v_written v_sort0 v_pile v_piled v_opens v_isWhole v_once v_named v_values v_truth v_isWritten v_died v_aside v_likely v_safe v_headOf) sz)) 0 0 (va_A (WM h q cI cJ cZ v_a v_image v_texts v_tape v_taped v_fault v_faultPlace v_at v_place v_token v_number v_word v_text0 v_written v_sort0 v_pile v_piled v_opens v_isWhole v_once v_named v_values v_truth v_isWritten v_died v_aside v_likely v_safe v_headOf) sz) := by
  refine mMet (Qc := (mQi D (WM h q cI cJ cZ v_a v_image o_v_texts v_tape v_taped v_fault v_faultPlace o_v_at o_v_place o_v_token o_v_number o_v_word v_text0 v_written v_sort0 v_pile v_piled v_opens v_isWhole v_once v_named v_values v_truth v_isWritten v_died v_aside v_likely v_safe v_headOf) o_r True)) (by decide) (Nat.le_of_ble_eq_true rfl) (fun p e s m below meth c A ls hx hb hr hml hts hown hlocks hK hA hP hD hl => ?_)
  have hown : s.vm.findClass RX12 = some m.cls := hown
  have hl : lv_has ls 3 [(0, .ref h), (1, .int p1)] := hl
  have hS : va_S A s.heap s.heap [] := va_S.rf
  have b64 : ∀ (v_texts : Nat → Int32) (v_at : Int32) (v_place : Int32) (v_token : Int32) (v_number : Int32) (v_word : Int64) (x1 : Int32) (x2 : Int32) (H : Heap) (locs : List Loc) (ls : Array Slot), f_X12_personClause_64 N v_texts v_tape v_taped v_at v_place v_token v_number v_word x1 x2 = some (o_r, o_v_texts, o_v_at, o_v_place, o_v_token, o_v_number, o_v_word) → va_P D vwCl (WM h q cI cJ cZ v_a v_image v_texts v_tape v_taped v_fault v_faultPlace v_at v_place v_token v_number v_word v_text0 v_written v_sort0 v_pile v_piled v_opens v_isWhole v_once v_named v_values v_truth v_isWritten v_died v_aside v_likely v_safe v_headOf) H → va_D A (WM h q cI cJ cZ v_a v_image v_texts v_tape v_taped v_fault v_faultPlace v_at v_place v_token v_number v_word v_text0 v_written v_sort0 v_pile v_piled v_opens v_isWhole v_once v_named v_values v_truth v_isWritten v_died v_aside v_likely v_safe v_headOf) → va_S A s.heap H locs → lv_has ls 3 [(0, .ref h), (1, .int x1), (2, .int x2)] → W p l e ({ frames := 4, cells := 0, slots := 0, locals := 90 } : Room) s m ([.ref h, .int p1] : List Value).toArray below meth c H locs 0 0 (MQ below ((mQi D (WM h q cI cJ cZ v_a v_image o_v_texts v_tape v_taped v_fault v_faultPlace o_v_at o_v_place o_v_token o_v_number o_v_word v_text0 v_written v_sort0 v_pile v_piled v_opens v_isWhole v_once v_named v_values v_truth v_isWritten v_died v_aside v_likely v_safe v_headOf) o_r True) A) ([.ref h, .int p1] : List Value).toArray s 0 0 A) (F0 m 64 ls []) := by
    intro v_texts v_at v_place v_token v_number v_word x1 x2 H locs ls hf hP hD hS hl
    unfold f_X12_personClause_64 at hf
    refine lv_iload_n hx hb dX12_personClause_64 rfl (lv_at hl 2 rfl) ?_
    refine xif_eq hx hb 72 dX12_personClause_65 (by decide) hf (fun hf => ?_) (fun hf => ?_)
    · refine lv_aload_n hx hb dX12_personClause_72 rfl (lv_at hl 0 rfl) ?_
      refine lv_bipush (v := (100 : Int32)) hx hb dX12_personClause_73 (by decide) ?_
      refine lv_bipush (v := (101 : Int32)) hx hb dX12_personClause_75 (by decide) ?_
      refine lv_bipush (v := (98 : Int32)) hx hb dX12_personClause_77 (by decide) ?_
      refine lv_bipush (v := (116 : Int32)) hx hb dX12_personClause_79 (by decide) ?_
      refine lv_bipush (v := (115 : Int32)) hx hb dX12_personClause_81 (by decide) ?_
      obtain ⟨r83, hg83, hf⟩ := ob1_some hf
      refine mcS0_l (As := [.int (100 : Int32), .int (101 : Int32), .int (98 : Int32), .int (116 : Int32), .int (115 : Int32)]) (rest := [.ref h]) hx hb hml hown hts hK hP hD hS hA (k_X12_w5 l N D cI cJ cZ cB cT (100 : Int32) (101 : Int32) (98 : Int32) (116 : Int32) (115 : Int32) r83 hg83) (kwX12_140 hts rfl rfl ⟨Nat.le_of_ble_eq_true rfl, Nat.le_of_ble_eq_true rfl⟩) rfl hl.1 rfl (Nat.le_of_ble_eq_true rfl) dX12_personClause_83 ⟨Nat.zero_le _, Nat.zero_le _⟩ (fun H locs hP hD hS => ?_)
      refine lv_iload_n hx hb dX12_personClause_86 rfl (lv_at hl 1 rfl) ?_
      refine lv_iconst (v := (4 : Int32)) hx hb dX12_personClause_87 (by decide) ?_
      refine lv_iadd hx hb dX12_personClause_88 ?_
      refine lv_sipush (v := (9999 : Int32)) hx hb dX12_personClause_89 (by decide) ?_
      obtain ⟨r92, v_texts_92, v_at_92, v_place_92, v_token_92, v_number_92, v_word_92, hg92, hf⟩ := ob7_some hf
      refine mcV1_i (As := [.long r83, .int (x1 + (4 : Int32)), .int (9999 : Int32)]) (rest := []) hx hb hml hown hts hK hP hD hS hA (k_X12_worded l N D cI cJ cZ cB cT h q v_a v_image v_texts v_tape v_taped v_fault v_faultPlace v_at v_place v_token v_number v_word v_text0 v_written v_sort0 v_pile v_piled v_opens v_isWhole v_once v_named v_values v_truth v_isWritten v_died v_aside v_likely v_safe v_headOf r83 (x1 + (4 : Int32)) (9999 : Int32) r92 v_texts_92 v_at_92 v_place_92 v_token_92 v_number_92 v_word_92 hg92) (kwX12_228 hts rfl rfl ⟨Nat.le_of_ble_eq_true rfl, Nat.le_of_ble_eq_true rfl⟩) 0 rfl rfl rfl rfl hl.1 rfl (Nat.le_of_ble_eq_true rfl) dX12_personClause_92 ⟨Nat.zero_le _, Nat.zero_le _⟩ (fun hB92 H locs hP hD hS => ?_)
      have hP : va_P D vwCl (WM h q cI cJ cZ v_a v_image v_texts_92 v_tape v_taped v_fault v_faultPlace v_at_92 v_place_92 v_token_92 v_number_92 v_word_92 v_text0 v_written v_sort0 v_pile v_piled v_opens v_isWhole v_once v_named v_values v_truth v_isWritten v_died v_aside v_likely v_safe v_headOf) H := hP
      have hD : va_D A (WM h q cI cJ cZ v_a v_image v_texts_92 v_tape v_taped v_fault v_faultPlace v_at_92 v_place_92 v_token_92 v_number_92 v_word_92 v_text0 v_written v_sort0 v_pile v_piled v_opens v_isWhole v_once v_named v_values v_truth v_isWritten v_died v_aside v_likely v_safe v_headOf) := hD
      cases hf
      exact mret_i hx hb hr hlocks hP hD hS dX12_personClause_95 rfl trivial
    · refine lv_iload_n hx hb dX12_personClause_68 rfl (lv_at hl 2 rfl) ?_
      refine lv_goto (tgt := 95) hx hb dX12_personClause_69 (by decide) ?_
      cases hf
      exact mret_i hx hb hr hlocks hP hD hS dX12_personClause_95 rfl trivial
  have b36 : ∀ (v_texts : Nat → Int32) (v_at : Int32) (v_place : Int32) (v_token : Int32) (v_number : Int32) (v_word : Int64) (x1 : Int32) (x2 : Int32) (H : Heap) (locs : List Loc) (ls : Array Slot), f_X12_personClause_36 N v_texts v_tape v_taped v_at v_place v_token v_number v_word x1 x2 = some (o_r, o_v_texts, o_v_at, o_v_place, o_v_token, o_v_number, o_v_word) → va_P D vwCl (WM h q cI cJ cZ v_a v_image v_texts v_tape v_taped v_fault v_faultPlace v_at v_place v_token v_number v_word v_text0 v_written v_sort0 v_pile v_piled v_opens v_isWhole v_once v_named v_values v_truth v_isWritten v_died v_aside v_likely v_safe v_headOf) H → va_D A (WM h q cI cJ cZ v_a v_image v_texts v_tape v_taped v_fault v_faultPlace v_at v_place v_token v_number v_word v_text0 v_written v_sort0 v_pile v_piled v_opens v_isWhole v_once v_named v_values v_truth v_isWritten v_died v_aside v_likely v_safe v_headOf) → va_S A s.heap H locs → lv_has ls 3 [(0, .ref h), (1, .int x1), (2, .int x2)] → W p l e ({ frames := 4, cells := 0, slots := 0, locals := 90 } : Room) s m ([.ref h, .int p1] : List Value).toArray below meth c H locs 0 0 (MQ below ((mQi D (WM h q cI cJ cZ v_a v_image o_v_texts v_tape v_taped v_fault v_faultPlace o_v_at o_v_place o_v_token o_v_number o_v_word v_text0 v_written v_sort0 v_pile v_piled v_opens v_isWhole v_once v_named v_values v_truth v_isWritten v_died v_aside v_likely v_safe v_headOf) o_r True) A) ([.ref h, .int p1] : List Value).toArray s 0 0 A) (F0 m 36 ls []) := by
    intro v_texts v_at v_place v_token v_number v_word x1 x2 H locs ls hf hP hD hS hl
    unfold f_X12_personClause_36 at hf
    refine lv_iload_n hx hb dX12_personClause_36 rfl (lv_at hl 2 rfl) ?_
    refine xif_ne hx hb 64 dX12_personClause_37 (by decide) hf (fun hf => ?_) (fun hf => ?_)
    · refine lv_aload_n hx hb dX12_personClause_40 rfl (lv_at hl 0 rfl) ?_
      refine lv_bipush (v := (103 : Int32)) hx hb dX12_personClause_41 (by decide) ?_
      refine lv_bipush (v := (111 : Int32)) hx hb dX12_personClause_43 (by decide) ?_
      refine lv_bipush (v := (111 : Int32)) hx hb dX12_personClause_45 (by decide) ?_
      refine lv_bipush (v := (100 : Int32)) hx hb dX12_personClause_47 (by decide) ?_
      refine lv_bipush (v := (115 : Int32)) hx hb dX12_personClause_49 (by decide) ?_
      obtain ⟨r51, hg51, hf⟩ := ob1_some hf
      refine mcS0_l (As := [.int (103 : Int32), .int (111 : Int32), .int (111 : Int32), .int (100 : Int32), .int (115 : Int32)]) (rest := [.ref h]) hx hb hml hown hts hK hP hD hS hA (k_X12_w5 l N D cI cJ cZ cB cT (103 : Int32) (111 : Int32) (111 : Int32) (100 : Int32) (115 : Int32) r51 hg51) (kwX12_140 hts rfl rfl ⟨Nat.le_of_ble_eq_true rfl, Nat.le_of_ble_eq_true rfl⟩) rfl hl.1 rfl (Nat.le_of_ble_eq_true rfl) dX12_personClause_51 ⟨Nat.zero_le _, Nat.zero_le _⟩ (fun H locs hP hD hS => ?_)
      refine lv_iload_n hx hb dX12_personClause_54 rfl (lv_at hl 1 rfl) ?_
      refine lv_iconst (v := (3 : Int32)) hx hb dX12_personClause_55 (by decide) ?_
      refine lv_iadd hx hb dX12_personClause_56 ?_
      refine lv_sipush (v := (9999 : Int32)) hx hb dX12_personClause_57 (by decide) ?_
      obtain ⟨r60, v_texts_60, v_at_60, v_place_60, v_token_60, v_number_60, v_word_60, hg60, hf⟩ := ob7_some hf
      refine mcV1_i (As := [.long r51, .int (x1 + (3 : Int32)), .int (9999 : Int32)]) (rest := []) hx hb hml hown hts hK hP hD hS hA (k_X12_worded l N D cI cJ cZ cB cT h q v_a v_image v_texts v_tape v_taped v_fault v_faultPlace v_at v_place v_token v_number v_word v_text0 v_written v_sort0 v_pile v_piled v_opens v_isWhole v_once v_named v_values v_truth v_isWritten v_died v_aside v_likely v_safe v_headOf r51 (x1 + (3 : Int32)) (9999 : Int32) r60 v_texts_60 v_at_60 v_place_60 v_token_60 v_number_60 v_word_60 hg60) (kwX12_228 hts rfl rfl ⟨Nat.le_of_ble_eq_true rfl, Nat.le_of_ble_eq_true rfl⟩) 0 rfl rfl rfl rfl hl.1 rfl (Nat.le_of_ble_eq_true rfl) dX12_personClause_60 ⟨Nat.zero_le _, Nat.zero_le _⟩ (fun hB60 H locs hP hD hS => ?_)
      have hP : va_P D vwCl (WM h q cI cJ cZ v_a v_image v_texts_60 v_tape v_taped v_fault v_faultPlace v_at_60 v_place_60 v_token_60 v_number_60 v_word_60 v_text0 v_written v_sort0 v_pile v_piled v_opens v_isWhole v_once v_named v_values v_truth v_isWritten v_died v_aside v_likely v_safe v_headOf) H := hP
      have hD : va_D A (WM h q cI cJ cZ v_a v_image v_texts_60 v_tape v_taped v_fault v_faultPlace v_at_60 v_place_60 v_token_60 v_number_60 v_word_60 v_text0 v_written v_sort0 v_pile v_piled v_opens v_isWhole v_once v_named v_values v_truth v_isWritten v_died v_aside v_likely v_safe v_headOf) := hD
      refine lv_istore_n (lv' := [(2, .int r60), (0, .ref h), (1, .int x1)]) hx hb dX12_personClause_63 rfl hl (by decide) rfl (fun ls hl => ?_)
      exact b64 v_texts_60 v_at_60 v_place_60 v_token_60 v_number_60 v_word_60 x1 r60 _ _ _ hf hP hD hS (lv_sub hl [1, 2, 0] rfl)
    · exact b64 v_texts v_at v_place v_token v_number v_word x1 x2 _ _ _ hf hP hD hS (lv_sub hl [0, 1, 2] rfl)
  unfold f_X12_personClause at hf
  refine lv_aload_n hx hb dX12_personClause_0 rfl (lv_at hl 0 rfl) ?_
  refine lv_iload_n hx hb dX12_personClause_1 rfl (lv_at hl 1 rfl) ?_
  refine lv_iconst (v := (1 : Int32)) hx hb dX12_personClause_2 (by decide) ?_
  refine lv_iadd hx hb dX12_personClause_3 ?_
  refine lv_iconst (v := (0 : Int32)) hx hb dX12_personClause_4 (by decide) ?_
  refine lv_bipush (v := (7 : Int32)) hx hb dX12_personClause_5 (by decide) ?_
  obtain ⟨r7, v_texts_7, v_at_7, v_place_7, v_token_7, v_number_7, v_word_7, hg7, hf⟩ := ob7_some hf
  refine mcV1_i (As := [.int (p1 + (1 : Int32)), .int (0 : Int32), .int (7 : Int32)]) (rest := []) hx hb hml hown hts hK hP hD hS hA (k_X12_figure l N D cI cJ cZ cB cT h q v_a v_image v_texts v_tape v_taped v_fault v_faultPlace v_at v_place v_token v_number v_word v_text0 v_written v_sort0 v_pile v_piled v_opens v_isWhole v_once v_named v_values v_truth v_isWritten v_died v_aside v_likely v_safe v_headOf (p1 + (1 : Int32)) (0 : Int32) (7 : Int32) r7 v_texts_7 v_at_7 v_place_7 v_token_7 v_number_7 v_word_7 hg7) (kwX12_221 hts rfl rfl ⟨Nat.le_of_ble_eq_true rfl, Nat.le_of_ble_eq_true rfl⟩) 0 rfl rfl rfl rfl hl.1 rfl (Nat.le_of_ble_eq_true rfl) dX12_personClause_7 ⟨Nat.zero_le _, Nat.zero_le _⟩ (fun hB7 H locs hP hD hS => ?_)
  have hP : va_P D vwCl (WM h q cI cJ cZ v_a v_image v_texts_7 v_tape v_taped v_fault v_faultPlace v_at_7 v_place_7 v_token_7 v_number_7 v_word_7 v_text0 v_written v_sort0 v_pile v_piled v_opens v_isWhole v_once v_named v_values v_truth v_isWritten v_died v_aside v_likely v_safe v_headOf) H := hP
  have hD : va_D A (WM h q cI cJ cZ v_a v_image v_texts_7 v_tape v_taped v_fault v_faultPlace v_at_7 v_place_7 v_token_7 v_number_7 v_word_7 v_text0 v_written v_sort0 v_pile v_piled v_opens v_isWhole v_once v_named v_values v_truth v_isWritten v_died v_aside v_likely v_safe v_headOf) := hD
  refine lv_istore_n (lv' := [(2, .int r7), (0, .ref h), (1, .int p1)]) hx hb dX12_personClause_10 rfl hl (by decide) rfl (fun ls hl => ?_)
  refine lv_iload_n hx hb dX12_personClause_11 rfl (lv_at hl 0 rfl) ?_
  refine xif_ne hx hb 36 dX12_personClause_12 (by decide) hf (fun hf => ?_) (fun hf => ?_)
  · refine lv_aload_n hx hb dX12_personClause_15 rfl (lv_at hl 1 rfl) ?_
    refine lv_bipush (v := (102 : Int32)) hx hb dX12_personClause_16 (by decide) ?_
    refine lv_bipush (v := (101 : Int32)) hx hb dX12_personClause_18 (by decide) ?_
    refine lv_bipush (v := (97 : Int32)) hx hb dX12_personClause_20 (by decide) ?_
    refine lv_bipush (v := (114 : Int32)) hx hb dX12_personClause_22 (by decide) ?_
    obtain ⟨r24, hg24, hf⟩ := ob1_some hf
    refine mcS0_l (As := [.int (102 : Int32), .int (101 : Int32), .int (97 : Int32), .int (114 : Int32)]) (rest := [.ref h]) hx hb hml hown hts hK hP hD hS hA (k_X12_w4 l N D cI cJ cZ cB cT (102 : Int32) (101 : Int32) (97 : Int32) (114 : Int32) r24 hg24) (kwX12_136 hts rfl rfl ⟨Nat.le_of_ble_eq_true rfl, Nat.le_of_ble_eq_true rfl⟩) rfl hl.1 rfl (Nat.le_of_ble_eq_true rfl) dX12_personClause_24 ⟨Nat.zero_le _, Nat.zero_le _⟩ (fun H locs hP hD hS => ?_)
    refine lv_iload_n hx hb dX12_personClause_27 rfl (lv_at hl 2 rfl) ?_
    refine lv_iconst (v := (2 : Int32)) hx hb dX12_personClause_28 (by decide) ?_
    refine lv_iadd hx hb dX12_personClause_29 ?_
    refine lv_bipush (v := (9 : Int32)) hx hb dX12_personClause_30 (by decide) ?_
    obtain ⟨r32, v_texts_32, v_at_32, v_place_32, v_token_32, v_number_32, v_word_32, hg32, hf⟩ := ob7_some hf
    refine mcV1_i (As := [.long r24, .int (p1 + (2 : Int32)), .int (9 : Int32)]) (rest := []) hx hb hml hown hts hK hP hD hS hA (k_X12_worded l N D cI cJ cZ cB cT h q v_a v_image v_texts_7 v_tape v_taped v_fault v_faultPlace v_at_7 v_place_7 v_token_7 v_number_7 v_word_7 v_text0 v_written v_sort0 v_pile v_piled v_opens v_isWhole v_once v_named v_values v_truth v_isWritten v_died v_aside v_likely v_safe v_headOf r24 (p1 + (2 : Int32)) (9 : Int32) r32 v_texts_32 v_at_32 v_place_32 v_token_32 v_number_32 v_word_32 hg32) (kwX12_228 hts rfl rfl ⟨Nat.le_of_ble_eq_true rfl, Nat.le_of_ble_eq_true rfl⟩) 0 rfl rfl rfl rfl hl.1 rfl (Nat.le_of_ble_eq_true rfl) dX12_personClause_32 ⟨Nat.zero_le _, Nat.zero_le _⟩ (fun hB32 H locs hP hD hS => ?_)
    have hP : va_P D vwCl (WM h q cI cJ cZ v_a v_image v_texts_32 v_tape v_taped v_fault v_faultPlace v_at_32 v_place_32 v_token_32 v_number_32 v_word_32 v_text0 v_written v_sort0 v_pile v_piled v_opens v_isWhole v_once v_named v_values v_truth v_isWritten v_died v_aside v_likely v_safe v_headOf) H := hP
    have hD : va_D A (WM h q cI cJ cZ v_a v_image v_texts_32 v_tape v_taped v_fault v_faultPlace v_at_32 v_place_32 v_token_32 v_number_32 v_word_32 v_text0 v_written v_sort0 v_pile v_piled v_opens v_isWhole v_once v_named v_values v_truth v_isWritten v_died v_aside v_likely v_safe v_headOf) := hD
    refine lv_istore_n (lv' := [(2, .int r32), (0, .ref h), (1, .int p1)]) hx hb dX12_personClause_35 rfl hl (by decide) rfl (fun ls hl => ?_)
    exact b36 v_texts_32 v_at_32 v_place_32 v_token_32 v_number_32 v_word_32 p1 r32 _ _ _ hf hP hD hS (lv_sub hl [1, 2, 0] rfl)
  · exact b36 v_texts_7 v_at_7 v_place_7 v_token_7 v_number_7 v_word_7 p1 r7 _ _ _ hf hP hD hS (lv_sub hl [1, 2, 0] rfl)
theorem dX12_pair_0 : decode cX12_pair 0 = .ok (.aload_n 0, 1) := by decide +kernel
theorem dX12_pair_1 : decode cX12_pair 1 = .ok (.iload_n 1, 1) := by decide +kernel
theorem dX12_pair_2 : decode cX12_pair 2 = .ok (.iconst 1, 1) := by decide +kernel
theorem dX12_pair_3 : decode cX12_pair 3 = .ok (.iadd, 1) := by decide +kernel
theorem dX12_pair_4 : decode cX12_pair 4 = .ok (.iconst 0, 1) := by decide +kernel
theorem dX12_pair_5 : decode cX12_pair 5 = .ok (.iload_n 2, 1) := by decide +kernel
theorem dX12_pair_6 : decode cX12_pair 6 = .ok (.invokevirtual 221, 3) := by decide +kernel
theorem dX12_pair_9 : decode cX12_pair 9 = .ok (.istore 6, 2) := by decide +kernel
theorem dX12_pair_11 : decode cX12_pair 11 = .ok (.iload 6, 2) := by decide +kernel
theorem dX12_pair_13 : decode cX12_pair 13 = .ok (.ifCond .eq 8, 3) := by decide +kernel
theorem dX12_pair_16 : decode cX12_pair 16 = .ok (.iload 6, 2) := by decide +kernel
theorem dX12_pair_18 : decode cX12_pair 18 = .ok (.goto 13, 3) := by decide +kernel
theorem dX12_pair_21 : decode cX12_pair 21 = .ok (.aload_n 0, 1) := by decide +kernel
theorem dX12_pair_22 : decode cX12_pair 22 = .ok (.lload_n 3, 1) := by decide +kernel
theorem dX12_pair_23 : decode cX12_pair 23 = .ok (.iload_n 1, 1) := by decide +kernel
theorem dX12_pair_24 : decode cX12_pair 24 = .ok (.iconst 2, 1) := by decide +kernel
theorem dX12_pair_25 : decode cX12_pair 25 = .ok (.iadd, 1) := by decide +kernel
theorem dX12_pair_26 : decode cX12_pair 26 = .ok (.iload 5, 2) := by decide +kernel
theorem dX12_pair_28 : decode cX12_pair 28 = .ok (.invokevirtual 228, 3) := by decide +kernel
theorem dX12_pair_31 : decode cX12_pair 31 = .ok (.ireturn, 1) := by decide +kernel
def f_X12_pair (N : Nat) (v_texts : Nat → Int32) (v_tape : Nat → Int32) (v_taped : Int32) (v_at : Int32) (v_place : Int32) (v_token : Int32) (v_number : Int32) (v_word : Int64) (p1 : Int32) (p2 : Int32) (p3 : Int64) (p5 : Int32) : Option (Int32 × (Nat → Int32) × Int32 × Int32 × Int32 × Int32 × Int64) := ob7 (f_X12_figure N v_texts v_tape v_taped v_at v_place v_token v_number v_word (p1 + (1 : Int32)) (0 : Int32) p2) fun r6 v_texts_6 v_at_6 v_place_6 v_token_6 v_number_6 v_word_6 => if r6 = 0 then (ob7 (f_X12_worded N v_texts_6 v_tape v_taped v_at_6 v_place_6 v_token_6 v_number_6 v_word_6 p3 (p1 + (2 : Int32)) p5) fun r28 v_texts_28 v_at_28 v_place_28 v_token_28 v_number_28 v_word_28 => some (r28, v_texts_28, v_at_28, v_place_28, v_token_28, v_number_28, v_word_28)) else (some (r6, v_texts_6, v_at_6, v_place_6, v_token_6, v_number_6, v_word_6))
set_option maxHeartbeats 4000000 in
set_option maxRecDepth 100000 in
theorem k_X12_pair (l : Launch) (N : Nat) (D : va_G) (cI cJ cZ cB cT : ClassId) (h : Nat) (q : Nat → Nat) (v_a : Nat → Int32) (v_image : Nat → Int32) (v_texts : Nat → Int32) (v_tape : Nat → Int32) (v_taped : Int32) (v_fault : Int32) (v_faultPlace : Int32) (v_at : Int32) (v_place : Int32) (v_token : Int32) (v_number : Int32) (v_word : Int64) (v_text0 : Int32) (v_written : Int32) (v_sort0 : Int32) (v_pile : Nat → Int32) (v_piled : Int32) (v_opens : Int32) (v_isWhole : Int32) (v_once : Int32) (v_named : Nat → Int32) (v_values : Nat → Int64) (v_truth : Nat → Int32) (v_isWritten : Int32) (v_died : Int32) (v_aside : Nat → Int32) (v_likely : Nat → Int32) (v_safe : Nat → Int32) (v_headOf : Nat → Int32) (p1 : Int32) (p2 : Int32) (p3 : Int64) (p5 : Int32) (o_r : Int32) (o_v_texts : Nat → Int32) (o_v_at : Int32) (o_v_place : Int32) (o_v_token : Int32) (o_v_number : Int32) (o_v_word : Int64) (hf : f_X12_pair N v_texts v_tape v_taped v_at v_place v_token v_number v_word p1 p2 p3 p5 = some (o_r, o_v_texts, o_v_at, o_v_place, o_v_token, o_v_number, o_v_word)) : ∀ sz, Met l yX12_pair (mw yX12_pair cX12_pair 7 (some .int)) ({ frames := 4, cells := 0, slots := 0, locals := 89 } : Room) (mPre D (mT cI cJ cZ cB cT) (WM h q cI cJ cZ v_a v_image v_texts v_tape v_taped v_fault v_faultPlace v_at v_place v_token v_number v_word v_text0 v_written v_sort0 v_pile v_piled v_opens v_isWhole v_once v_named v_values v_truth v_isWritten v_died v_aside v_likely v_safe v_headOf) sz [.ref h, .int p1, .int p2, .long p3, .int p5]) ((mQi D (WM h q cI cJ cZ v_a v_image o_v_texts v_tape v_taped v_fault v_faultPlace o_v_at o_v_place o_v_token o_v_number o_v_word v_text0 v_written v_sort0 v_pile v_piled v_opens v_isWhole v_once v_named v_values v_truth v_isWritten v_died v_aside v_likely v_safe v_headOf) o_r True) (va_A (WM h q cI cJ cZ v_a v_image v_texts v_tape v_taped v_fault v_faultPlace v_at v_place v_token v_number v_word v_text0 v_written v_sort0 v_pile v_piled v_opens v_isWhole v_once v_named v_values v_truth v_isWritten v_died v_aside v_likely v_safe v_headOf) sz)) 0 0 (va_A (WM h q cI cJ cZ v_a v_image v_texts v_tape v_taped v_fault v_faultPlace v_at v_place v_token v_number v_word v_text0 v_written v_sort0 v_pile v_piled v_opens v_isWhole v_once v_named v_values v_truth v_isWritten v_died v_aside v_likely v_safe v_headOf) sz) := by
  refine mMet (Qc := (mQi D (WM h q cI cJ cZ v_a v_image o_v_texts v_tape v_taped v_fault v_faultPlace o_v_at o_v_place o_v_token o_v_number o_v_word v_text0 v_written v_sort0 v_pile v_piled v_opens v_isWhole v_once v_named v_values v_truth v_isWritten v_died v_aside v_likely v_safe v_headOf) o_r True)) (by decide) (Nat.le_of_ble_eq_true rfl) (fun p e s m below meth c A ls hx hb hr hml hts hown hlocks hK hA hP hD hl => ?_)
  have hown : s.vm.findClass RX12 = some m.cls := hown
  have hl : lv_has ls 7 [(0, .ref h), (1, .int p1), (2, .int p2), (3, .long p3), (5, .int p5)] := hl
  have hS : va_S A s.heap s.heap [] := va_S.rf
  unfold f_X12_pair at hf
  refine lv_aload_n hx hb dX12_pair_0 rfl (lv_at hl 0 rfl) ?_
  refine lv_iload_n hx hb dX12_pair_1 rfl (lv_at hl 1 rfl) ?_
  refine lv_iconst (v := (1 : Int32)) hx hb dX12_pair_2 (by decide) ?_
  refine lv_iadd hx hb dX12_pair_3 ?_
  refine lv_iconst (v := (0 : Int32)) hx hb dX12_pair_4 (by decide) ?_
  refine lv_iload_n hx hb dX12_pair_5 rfl (lv_at hl 2 rfl) ?_
  obtain ⟨r6, v_texts_6, v_at_6, v_place_6, v_token_6, v_number_6, v_word_6, hg6, hf⟩ := ob7_some hf
  refine mcV1_i (As := [.int (p1 + (1 : Int32)), .int (0 : Int32), .int p2]) (rest := []) hx hb hml hown hts hK hP hD hS hA (k_X12_figure l N D cI cJ cZ cB cT h q v_a v_image v_texts v_tape v_taped v_fault v_faultPlace v_at v_place v_token v_number v_word v_text0 v_written v_sort0 v_pile v_piled v_opens v_isWhole v_once v_named v_values v_truth v_isWritten v_died v_aside v_likely v_safe v_headOf (p1 + (1 : Int32)) (0 : Int32) p2 r6 v_texts_6 v_at_6 v_place_6 v_token_6 v_number_6 v_word_6 hg6) (kwX12_221 hts rfl rfl ⟨Nat.le_of_ble_eq_true rfl, Nat.le_of_ble_eq_true rfl⟩) 0 rfl rfl rfl rfl hl.1 rfl (Nat.le_of_ble_eq_true rfl) dX12_pair_6 ⟨Nat.zero_le _, Nat.zero_le _⟩ (fun hB6 H locs hP hD hS => ?_)
  have hP : va_P D vwCl (WM h q cI cJ cZ v_a v_image v_texts_6 v_tape v_taped v_fault v_faultPlace v_at_6 v_place_6 v_token_6 v_number_6 v_word_6 v_text0 v_written v_sort0 v_pile v_piled v_opens v_isWhole v_once v_named v_values v_truth v_isWritten v_died v_aside v_likely v_safe v_headOf) H := hP
  have hD : va_D A (WM h q cI cJ cZ v_a v_image v_texts_6 v_tape v_taped v_fault v_faultPlace v_at_6 v_place_6 v_token_6 v_number_6 v_word_6 v_text0 v_written v_sort0 v_pile v_piled v_opens v_isWhole v_once v_named v_values v_truth v_isWritten v_died v_aside v_likely v_safe v_headOf) := hD
  refine lv_istore (lv' := [(6, .int r6), (0, .ref h), (1, .int p1), (2, .int p2), (3, .long p3), (5, .int p5)]) hx hb dX12_pair_9 hl (by decide) rfl (fun ls hl => ?_)
  refine lv_iload hx hb dX12_pair_11 (lv_at hl 0 rfl) ?_
  refine xif_eq hx hb 21 dX12_pair_13 (by decide) hf (fun hf => ?_) (fun hf => ?_)
  · refine lv_aload_n hx hb dX12_pair_21 rfl (lv_at hl 1 rfl) ?_
    refine lv_lload_n hx hb dX12_pair_22 rfl (lv_at hl 4 rfl) ?_
    refine lv_iload_n hx hb dX12_pair_23 rfl (lv_at hl 2 rfl) ?_
    refine lv_iconst (v := (2 : Int32)) hx hb dX12_pair_24 (by decide) ?_
    refine lv_iadd hx hb dX12_pair_25 ?_
    refine lv_iload hx hb dX12_pair_26 (lv_at hl 5 rfl) ?_
    obtain ⟨r28, v_texts_28, v_at_28, v_place_28, v_token_28, v_number_28, v_word_28, hg28, hf⟩ := ob7_some hf
    refine mcV1_i (As := [.long p3, .int (p1 + (2 : Int32)), .int p5]) (rest := []) hx hb hml hown hts hK hP hD hS hA (k_X12_worded l N D cI cJ cZ cB cT h q v_a v_image v_texts_6 v_tape v_taped v_fault v_faultPlace v_at_6 v_place_6 v_token_6 v_number_6 v_word_6 v_text0 v_written v_sort0 v_pile v_piled v_opens v_isWhole v_once v_named v_values v_truth v_isWritten v_died v_aside v_likely v_safe v_headOf p3 (p1 + (2 : Int32)) p5 r28 v_texts_28 v_at_28 v_place_28 v_token_28 v_number_28 v_word_28 hg28) (kwX12_228 hts rfl rfl ⟨Nat.le_of_ble_eq_true rfl, Nat.le_of_ble_eq_true rfl⟩) 0 rfl rfl rfl rfl hl.1 rfl (Nat.le_of_ble_eq_true rfl) dX12_pair_28 ⟨Nat.zero_le _, Nat.zero_le _⟩ (fun hB28 H locs hP hD hS => ?_)
    have hP : va_P D vwCl (WM h q cI cJ cZ v_a v_image v_texts_28 v_tape v_taped v_fault v_faultPlace v_at_28 v_place_28 v_token_28 v_number_28 v_word_28 v_text0 v_written v_sort0 v_pile v_piled v_opens v_isWhole v_once v_named v_values v_truth v_isWritten v_died v_aside v_likely v_safe v_headOf) H := hP
    have hD : va_D A (WM h q cI cJ cZ v_a v_image v_texts_28 v_tape v_taped v_fault v_faultPlace v_at_28 v_place_28 v_token_28 v_number_28 v_word_28 v_text0 v_written v_sort0 v_pile v_piled v_opens v_isWhole v_once v_named v_values v_truth v_isWritten v_died v_aside v_likely v_safe v_headOf) := hD
    cases hf
    exact mret_i hx hb hr hlocks hP hD hS dX12_pair_31 rfl trivial
  · refine lv_iload hx hb dX12_pair_16 (lv_at hl 0 rfl) ?_
    refine lv_goto (tgt := 31) hx hb dX12_pair_18 (by decide) ?_
    cases hf
    exact mret_i hx hb hr hlocks hP hD hS dX12_pair_31 rfl trivial
theorem dX12_body_0 : decode cX12_body 0 = .ok (.iload_n 1, 1) := by decide +kernel
theorem dX12_body_1 : decode cX12_body 1 = .ok (.tableswitch 128 4 12 #[51, 62, 79, 85, 101, 128, 128, 128, 117], 51) := by decide +kernel
theorem dX12_body_52 : decode cX12_body 52 = .ok (.aload_n 0, 1) := by decide +kernel
theorem dX12_body_53 : decode cX12_body 53 = .ok (.iload_n 2, 1) := by decide +kernel
theorem dX12_body_54 : decode cX12_body 54 = .ok (.iconst 1, 1) := by decide +kernel
theorem dX12_body_55 : decode cX12_body 55 = .ok (.iadd, 1) := by decide +kernel
theorem dX12_body_56 : decode cX12_body 56 = .ok (.iconst 0, 1) := by decide +kernel
theorem dX12_body_57 : decode cX12_body 57 = .ok (.bipush 9, 2) := by decide +kernel
theorem dX12_body_59 : decode cX12_body 59 = .ok (.invokevirtual 221, 3) := by decide +kernel
theorem dX12_body_62 : decode cX12_body 62 = .ok (.ireturn, 1) := by decide +kernel
theorem dX12_body_63 : decode cX12_body 63 = .ok (.aload_n 0, 1) := by decide +kernel
theorem dX12_body_64 : decode cX12_body 64 = .ok (.iload_n 2, 1) := by decide +kernel
theorem dX12_body_65 : decode cX12_body 65 = .ok (.bipush 7, 2) := by decide +kernel
theorem dX12_body_67 : decode cX12_body 67 = .ok (.bipush 116, 2) := by decide +kernel
theorem dX12_body_69 : decode cX12_body 69 = .ok (.bipush 111, 2) := by decide +kernel
theorem dX12_body_71 : decode cX12_body 71 = .ok (.invokestatic 128, 3) := by decide +kernel
theorem dX12_body_74 : decode cX12_body 74 = .ok (.bipush 7, 2) := by decide +kernel
theorem dX12_body_76 : decode cX12_body 76 = .ok (.invokevirtual 232, 3) := by decide +kernel
theorem dX12_body_79 : decode cX12_body 79 = .ok (.ireturn, 1) := by decide +kernel
theorem dX12_body_80 : decode cX12_body 80 = .ok (.aload_n 0, 1) := by decide +kernel
theorem dX12_body_81 : decode cX12_body 81 = .ok (.iload_n 2, 1) := by decide +kernel
theorem dX12_body_82 : decode cX12_body 82 = .ok (.invokevirtual 236, 3) := by decide +kernel
theorem dX12_body_85 : decode cX12_body 85 = .ok (.ireturn, 1) := by decide +kernel
theorem dX12_body_86 : decode cX12_body 86 = .ok (.aload_n 0, 1) := by decide +kernel
theorem dX12_body_87 : decode cX12_body 87 = .ok (.iload_n 2, 1) := by decide +kernel
theorem dX12_body_88 : decode cX12_body 88 = .ok (.iconst 5, 1) := by decide +kernel
theorem dX12_body_89 : decode cX12_body 89 = .ok (.bipush 105, 2) := by decide +kernel
theorem dX12_body_91 : decode cX12_body 91 = .ok (.bipush 110, 2) := by decide +kernel
theorem dX12_body_93 : decode cX12_body 93 = .ok (.invokestatic 128, 3) := by decide +kernel
theorem dX12_body_96 : decode cX12_body 96 = .ok (.bipush 7, 2) := by decide +kernel
theorem dX12_body_98 : decode cX12_body 98 = .ok (.invokevirtual 232, 3) := by decide +kernel
theorem dX12_body_101 : decode cX12_body 101 = .ok (.ireturn, 1) := by decide +kernel
theorem dX12_body_102 : decode cX12_body 102 = .ok (.aload_n 0, 1) := by decide +kernel
theorem dX12_body_103 : decode cX12_body 103 = .ok (.iload_n 2, 1) := by decide +kernel
theorem dX12_body_104 : decode cX12_body 104 = .ok (.iconst 5, 1) := by decide +kernel
theorem dX12_body_105 : decode cX12_body 105 = .ok (.bipush 116, 2) := by decide +kernel
theorem dX12_body_107 : decode cX12_body 107 = .ok (.bipush 111, 2) := by decide +kernel
theorem dX12_body_109 : decode cX12_body 109 = .ok (.invokestatic 128, 3) := by decide +kernel
theorem dX12_body_112 : decode cX12_body 112 = .ok (.bipush 7, 2) := by decide +kernel
theorem dX12_body_114 : decode cX12_body 114 = .ok (.invokevirtual 232, 3) := by decide +kernel
theorem dX12_body_117 : decode cX12_body 117 = .ok (.ireturn, 1) := by decide +kernel
theorem dX12_body_118 : decode cX12_body 118 = .ok (.aload_n 0, 1) := by decide +kernel
theorem dX12_body_119 : decode cX12_body 119 = .ok (.iload_n 2, 1) := by decide +kernel
theorem dX12_body_120 : decode cX12_body 120 = .ok (.iconst 1, 1) := by decide +kernel
theorem dX12_body_121 : decode cX12_body 121 = .ok (.iadd, 1) := by decide +kernel
theorem dX12_body_122 : decode cX12_body 122 = .ok (.iconst 1, 1) := by decide +kernel
theorem dX12_body_123 : decode cX12_body 123 = .ok (.bipush 60, 2) := by decide +kernel
theorem dX12_body_125 : decode cX12_body 125 = .ok (.invokevirtual 221, 3) := by decide +kernel
theorem dX12_body_128 : decode cX12_body 128 = .ok (.ireturn, 1) := by decide +kernel
theorem dX12_body_129 : decode cX12_body 129 = .ok (.iload_n 1, 1) := by decide +kernel
theorem dX12_body_130 : decode cX12_body 130 = .ok (.iconst 3, 1) := by decide +kernel
theorem dX12_body_131 : decode cX12_body 131 = .ok (.if_icmp .gt 11, 3) := by decide +kernel
theorem dX12_body_134 : decode cX12_body 134 = .ok (.aload_n 0, 1) := by decide +kernel
theorem dX12_body_135 : decode cX12_body 135 = .ok (.iload_n 2, 1) := by decide +kernel
theorem dX12_body_136 : decode cX12_body 136 = .ok (.invokevirtual 239, 3) := by decide +kernel
theorem dX12_body_139 : decode cX12_body 139 = .ok (.goto 17, 3) := by decide +kernel
theorem dX12_body_142 : decode cX12_body 142 = .ok (.aload_n 0, 1) := by decide +kernel
theorem dX12_body_143 : decode cX12_body 143 = .ok (.iload_n 2, 1) := by decide +kernel
theorem dX12_body_144 : decode cX12_body 144 = .ok (.iconst 5, 1) := by decide +kernel
theorem dX12_body_145 : decode cX12_body 145 = .ok (.bipush 98, 2) := by decide +kernel
theorem dX12_body_147 : decode cX12_body 147 = .ok (.bipush 121, 2) := by decide +kernel
theorem dX12_body_149 : decode cX12_body 149 = .ok (.invokestatic 128, 3) := by decide +kernel
theorem dX12_body_152 : decode cX12_body 152 = .ok (.iconst 5, 1) := by decide +kernel
theorem dX12_body_153 : decode cX12_body 153 = .ok (.invokevirtual 232, 3) := by decide +kernel
theorem dX12_body_156 : decode cX12_body 156 = .ok (.ireturn, 1) := by decide +kernel
def f_X12_body_129 (N : Nat) (v_texts : Nat → Int32) (v_tape : Nat → Int32) (v_taped : Int32) (v_at : Int32) (v_place : Int32) (v_token : Int32) (v_number : Int32) (v_word : Int64) (v_text0 : Int32) (v_written : Int32) (v_sort0 : Int32) (v_pile : Nat → Int32) (v_piled : Int32) (v_opens : Int32) (v_isWhole : Int32) (x1 : Int32) (x2 : Int32) : Option (Int32 × (Nat → Int32) × Int32 × Int32 × Int32 × Int32 × Int64 × Int32 × (Nat → Int32) × Int32 × Int32 × Int32) := if (3 : Int32) < x1 then (ob1 (f_X12_w2 N (98 : Int32) (121 : Int32)) fun r149 => ob7 (f_X12_pair N v_texts v_tape v_taped v_at v_place v_token v_number v_word x2 (5 : Int32) r149 (5 : Int32)) fun r153 v_texts_153 v_at_153 v_place_153 v_token_153 v_number_153 v_word_153 => some (r153, v_texts_153, v_at_153, v_place_153, v_token_153, v_number_153, v_word_153, v_written, v_pile, v_piled, v_opens, v_isWhole)) else (ob12 (f_X12_lawClause N v_texts v_tape v_taped v_at v_place v_token v_number v_word v_text0 v_written v_sort0 v_pile v_piled v_opens v_isWhole x2) fun r136 v_texts_136 v_at_136 v_place_136 v_token_136 v_number_136 v_word_136 v_written_136 v_pile_136 v_piled_136 v_opens_136 v_isWhole_136 => some (r136, v_texts_136, v_at_136, v_place_136, v_token_136, v_number_136, v_word_136, v_written_136, v_pile_136, v_piled_136, v_opens_136, v_isWhole_136))
def f_X12_body (N : Nat) (v_texts : Nat → Int32) (v_tape : Nat → Int32) (v_taped : Int32) (v_at : Int32) (v_place : Int32) (v_token : Int32) (v_number : Int32) (v_word : Int64) (v_text0 : Int32) (v_written : Int32) (v_sort0 : Int32) (v_pile : Nat → Int32) (v_piled : Int32) (v_opens : Int32) (v_isWhole : Int32) (p1 : Int32) (p2 : Int32) : Option (Int32 × (Nat → Int32) × Int32 × Int32 × Int32 × Int32 × Int64 × Int32 × (Nat → Int32) × Int32 × Int32 × Int32) := if p1 = (4 : Int32) then (ob7 (f_X12_figure N v_texts v_tape v_taped v_at v_place v_token v_number v_word (p2 + (1 : Int32)) (0 : Int32) (9 : Int32)) fun r59 v_texts_59 v_at_59 v_place_59 v_token_59 v_number_59 v_word_59 => some (r59, v_texts_59, v_at_59, v_place_59, v_token_59, v_number_59, v_word_59, v_written, v_pile, v_piled, v_opens, v_isWhole)) else if p1 = (5 : Int32) then (ob1 (f_X12_w2 N (116 : Int32) (111 : Int32)) fun r71 => ob7 (f_X12_pair N v_texts v_tape v_taped v_at v_place v_token v_number v_word p2 (7 : Int32) r71 (7 : Int32)) fun r76 v_texts_76 v_at_76 v_place_76 v_token_76 v_number_76 v_word_76 => some (r76, v_texts_76, v_at_76, v_place_76, v_token_76, v_number_76, v_word_76, v_written, v_pile, v_piled, v_opens, v_isWhole)) else if p1 = (6 : Int32) then (ob7 (f_X12_personClause N v_texts v_tape v_taped v_at v_place v_token v_number v_word p2) fun r82 v_texts_82 v_at_82 v_place_82 v_token_82 v_number_82 v_word_82 => some (r82, v_texts_82, v_at_82, v_place_82, v_token_82, v_number_82, v_word_82, v_written, v_pile, v_piled, v_opens, v_isWhole)) else if p1 = (7 : Int32) then (ob1 (f_X12_w2 N (105 : Int32) (110 : Int32)) fun r93 => ob7 (f_X12_pair N v_texts v_tape v_taped v_at v_place v_token v_number v_word p2 (5 : Int32) r93 (7 : Int32)) fun r98 v_texts_98 v_at_98 v_place_98 v_token_98 v_number_98 v_word_98 => some (r98, v_texts_98, v_at_98, v_place_98, v_token_98, v_number_98, v_word_98, v_written, v_pile, v_piled, v_opens, v_isWhole)) else if p1 = (8 : Int32) then (ob1 (f_X12_w2 N (116 : Int32) (111 : Int32)) fun r109 => ob7 (f_X12_pair N v_texts v_tape v_taped v_at v_place v_token v_number v_word p2 (5 : Int32) r109 (7 : Int32)) fun r114 v_texts_114 v_at_114 v_place_114 v_token_114 v_number_114 v_word_114 => some (r114, v_texts_114, v_at_114, v_place_114, v_token_114, v_number_114, v_word_114, v_written, v_pile, v_piled, v_opens, v_isWhole)) else if p1 = (12 : Int32) then (ob7 (f_X12_figure N v_texts v_tape v_taped v_at v_place v_token v_number v_word (p2 + (1 : Int32)) (1 : Int32) (60 : Int32)) fun r125 v_texts_125 v_at_125 v_place_125 v_token_125 v_number_125 v_word_125 => some (r125, v_texts_125, v_at_125, v_place_125, v_token_125, v_number_125, v_word_125, v_written, v_pile, v_piled, v_opens, v_isWhole)) else (f_X12_body_129 N v_texts v_tape v_taped v_at v_place v_token v_number v_word v_text0 v_written v_sort0 v_pile v_piled v_opens v_isWhole p1 p2)
set_option maxHeartbeats 4000000 in
set_option maxRecDepth 100000 in
theorem k_X12_body (l : Launch) (N : Nat) (D : va_G) (cI cJ cZ cB cT : ClassId) (h : Nat) (q : Nat → Nat) (v_a : Nat → Int32) (v_image : Nat → Int32) (v_texts : Nat → Int32) (v_tape : Nat → Int32) (v_taped : Int32) (v_fault : Int32) (v_faultPlace : Int32) (v_at : Int32) (v_place : Int32) (v_token : Int32) (v_number : Int32) (v_word : Int64) (v_text0 : Int32) (v_written : Int32) (v_sort0 : Int32) (v_pile : Nat → Int32) (v_piled : Int32) (v_opens : Int32) (v_isWhole : Int32) (v_once : Int32) (v_named : Nat → Int32) (v_values : Nat → Int64) (v_truth : Nat → Int32) (v_isWritten : Int32) (v_died : Int32) (v_aside : Nat → Int32) (v_likely : Nat → Int32) (v_safe : Nat → Int32) (v_headOf : Nat → Int32) (p1 : Int32) (p2 : Int32) (o_r : Int32) (o_v_texts : Nat → Int32) (o_v_at : Int32) (o_v_place : Int32) (o_v_token : Int32) (o_v_number : Int32) (o_v_word : Int64) (o_v_written : Int32) (o_v_pile : Nat → Int32) (o_v_piled : Int32) (o_v_opens : Int32) (o_v_isWhole : Int32) (hf : f_X12_body N v_texts v_tape v_taped v_at v_place v_token v_number v_word v_text0 v_written v_sort0 v_pile v_piled v_opens v_isWhole p1 p2 = some (o_r, o_v_texts, o_v_at, o_v_place, o_v_token, o_v_number, o_v_word, o_v_written, o_v_pile, o_v_piled, o_v_opens, o_v_isWhole)) : ∀ sz, Met l yX12_body (mw yX12_body cX12_body 3 (some .int)) ({ frames := 9, cells := 0, slots := 0, locals := 199 } : Room) (mPre D (mT cI cJ cZ cB cT) (WM h q cI cJ cZ v_a v_image v_texts v_tape v_taped v_fault v_faultPlace v_at v_place v_token v_number v_word v_text0 v_written v_sort0 v_pile v_piled v_opens v_isWhole v_once v_named v_values v_truth v_isWritten v_died v_aside v_likely v_safe v_headOf) sz [.ref h, .int p1, .int p2]) ((mQi D (WM h q cI cJ cZ v_a v_image o_v_texts v_tape v_taped v_fault v_faultPlace o_v_at o_v_place o_v_token o_v_number o_v_word v_text0 o_v_written v_sort0 o_v_pile o_v_piled o_v_opens o_v_isWhole v_once v_named v_values v_truth v_isWritten v_died v_aside v_likely v_safe v_headOf) o_r True) (va_A (WM h q cI cJ cZ v_a v_image v_texts v_tape v_taped v_fault v_faultPlace v_at v_place v_token v_number v_word v_text0 v_written v_sort0 v_pile v_piled v_opens v_isWhole v_once v_named v_values v_truth v_isWritten v_died v_aside v_likely v_safe v_headOf) sz)) 0 0 (va_A (WM h q cI cJ cZ v_a v_image v_texts v_tape v_taped v_fault v_faultPlace v_at v_place v_token v_number v_word v_text0 v_written v_sort0 v_pile v_piled v_opens v_isWhole v_once v_named v_values v_truth v_isWritten v_died v_aside v_likely v_safe v_headOf) sz) := by
  refine mMet (Qc := (mQi D (WM h q cI cJ cZ v_a v_image o_v_texts v_tape v_taped v_fault v_faultPlace o_v_at o_v_place o_v_token o_v_number o_v_word v_text0 o_v_written v_sort0 o_v_pile o_v_piled o_v_opens o_v_isWhole v_once v_named v_values v_truth v_isWritten v_died v_aside v_likely v_safe v_headOf) o_r True)) (by decide) (Nat.le_of_ble_eq_true rfl) (fun p e s m below meth c A ls hx hb hr hml hts hown hlocks hK hA hP hD hl => ?_)
  have hown : s.vm.findClass RX12 = some m.cls := hown
  have hl : lv_has ls 3 [(0, .ref h), (1, .int p1), (2, .int p2)] := hl
  have hS : va_S A s.heap s.heap [] := va_S.rf
  have b129 : ∀ (v_texts : Nat → Int32) (v_at : Int32) (v_place : Int32) (v_token : Int32) (v_number : Int32) (v_word : Int64) (v_written : Int32) (v_pile : Nat → Int32) (v_piled : Int32) (v_opens : Int32) (v_isWhole : Int32) (x1 : Int32) (x2 : Int32) (H : Heap) (locs : List Loc) (ls : Array Slot), f_X12_body_129 N v_texts v_tape v_taped v_at v_place v_token v_number v_word v_text0 v_written v_sort0 v_pile v_piled v_opens v_isWhole x1 x2 = some (o_r, o_v_texts, o_v_at, o_v_place, o_v_token, o_v_number, o_v_word, o_v_written, o_v_pile, o_v_piled, o_v_opens, o_v_isWhole) → va_P D vwCl (WM h q cI cJ cZ v_a v_image v_texts v_tape v_taped v_fault v_faultPlace v_at v_place v_token v_number v_word v_text0 v_written v_sort0 v_pile v_piled v_opens v_isWhole v_once v_named v_values v_truth v_isWritten v_died v_aside v_likely v_safe v_headOf) H → va_D A (WM h q cI cJ cZ v_a v_image v_texts v_tape v_taped v_fault v_faultPlace v_at v_place v_token v_number v_word v_text0 v_written v_sort0 v_pile v_piled v_opens v_isWhole v_once v_named v_values v_truth v_isWritten v_died v_aside v_likely v_safe v_headOf) → va_S A s.heap H locs → lv_has ls 3 [(0, .ref h), (1, .int x1), (2, .int x2)] → W p l e ({ frames := 9, cells := 0, slots := 0, locals := 199 } : Room) s m ([.ref h, .int p1, .int p2] : List Value).toArray below meth c H locs 0 0 (MQ below ((mQi D (WM h q cI cJ cZ v_a v_image o_v_texts v_tape v_taped v_fault v_faultPlace o_v_at o_v_place o_v_token o_v_number o_v_word v_text0 o_v_written v_sort0 o_v_pile o_v_piled o_v_opens o_v_isWhole v_once v_named v_values v_truth v_isWritten v_died v_aside v_likely v_safe v_headOf) o_r True) A) ([.ref h, .int p1, .int p2] : List Value).toArray s 0 0 A) (F0 m 129 ls []) := by
    intro v_texts v_at v_place v_token v_number v_word v_written v_pile v_piled v_opens v_isWhole x1 x2 H locs ls hf hP hD hS hl
    unfold f_X12_body_129 at hf
    refine lv_iload_n hx hb dX12_body_129 rfl (lv_at hl 1 rfl) ?_
    refine lv_iconst (v := (3 : Int32)) hx hb dX12_body_130 (by decide) ?_
    refine xicmp_gt hx hb 142 dX12_body_131 (by decide) hf (fun hf => ?_) (fun hf => ?_)
    · refine lv_aload_n hx hb dX12_body_142 rfl (lv_at hl 0 rfl) ?_
      refine lv_iload_n hx hb dX12_body_143 rfl (lv_at hl 2 rfl) ?_
      refine lv_iconst (v := (5 : Int32)) hx hb dX12_body_144 (by decide) ?_
      refine lv_bipush (v := (98 : Int32)) hx hb dX12_body_145 (by decide) ?_
      refine lv_bipush (v := (121 : Int32)) hx hb dX12_body_147 (by decide) ?_
      obtain ⟨r149, hg149, hf⟩ := ob1_some hf
      refine mcS0_l (As := [.int (98 : Int32), .int (121 : Int32)]) (rest := [.int (5 : Int32), .int x2, .ref h]) hx hb hml hown hts hK hP hD hS hA (k_X12_w2 l N D cI cJ cZ cB cT (98 : Int32) (121 : Int32) r149 hg149) (kwX12_128 hts rfl rfl ⟨Nat.le_of_ble_eq_true rfl, Nat.le_of_ble_eq_true rfl⟩) rfl hl.1 rfl (Nat.le_of_ble_eq_true rfl) dX12_body_149 ⟨Nat.zero_le _, Nat.zero_le _⟩ (fun H locs hP hD hS => ?_)
      refine lv_iconst (v := (5 : Int32)) hx hb dX12_body_152 (by decide) ?_
      obtain ⟨r153, v_texts_153, v_at_153, v_place_153, v_token_153, v_number_153, v_word_153, hg153, hf⟩ := ob7_some hf
      refine mcV1_i (As := [.int x2, .int (5 : Int32), .long r149, .int (5 : Int32)]) (rest := []) hx hb hml hown hts hK hP hD hS hA (k_X12_pair l N D cI cJ cZ cB cT h q v_a v_image v_texts v_tape v_taped v_fault v_faultPlace v_at v_place v_token v_number v_word v_text0 v_written v_sort0 v_pile v_piled v_opens v_isWhole v_once v_named v_values v_truth v_isWritten v_died v_aside v_likely v_safe v_headOf x2 (5 : Int32) r149 (5 : Int32) r153 v_texts_153 v_at_153 v_place_153 v_token_153 v_number_153 v_word_153 hg153) (kwX12_232 hts rfl rfl ⟨Nat.le_of_ble_eq_true rfl, Nat.le_of_ble_eq_true rfl⟩) 0 rfl rfl rfl rfl hl.1 rfl (Nat.le_of_ble_eq_true rfl) dX12_body_153 ⟨Nat.zero_le _, Nat.zero_le _⟩ (fun hB153 H locs hP hD hS => ?_)
      have hP : va_P D vwCl (WM h q cI cJ cZ v_a v_image v_texts_153 v_tape v_taped v_fault v_faultPlace v_at_153 v_place_153 v_token_153 v_number_153 v_word_153 v_text0 v_written v_sort0 v_pile v_piled v_opens v_isWhole v_once v_named v_values v_truth v_isWritten v_died v_aside v_likely v_safe v_headOf) H := hP
      have hD : va_D A (WM h q cI cJ cZ v_a v_image v_texts_153 v_tape v_taped v_fault v_faultPlace v_at_153 v_place_153 v_token_153 v_number_153 v_word_153 v_text0 v_written v_sort0 v_pile v_piled v_opens v_isWhole v_once v_named v_values v_truth v_isWritten v_died v_aside v_likely v_safe v_headOf) := hD
      cases hf
      exact mret_i hx hb hr hlocks hP hD hS dX12_body_156 rfl trivial
    · refine lv_aload_n hx hb dX12_body_134 rfl (lv_at hl 0 rfl) ?_
      refine lv_iload_n hx hb dX12_body_135 rfl (lv_at hl 2 rfl) ?_
      obtain ⟨r136, v_texts_136, v_at_136, v_place_136, v_token_136, v_number_136, v_word_136, v_written_136, v_pile_136, v_piled_136, v_opens_136, v_isWhole_136, hg136, hf⟩ := ob12_some hf
      refine mcV1_i (As := [.int x2]) (rest := []) hx hb hml hown hts hK hP hD hS hA (k_X12_lawClause l N D cI cJ cZ cB cT h q v_a v_image v_texts v_tape v_taped v_fault v_faultPlace v_at v_place v_token v_number v_word v_text0 v_written v_sort0 v_pile v_piled v_opens v_isWhole v_once v_named v_values v_truth v_isWritten v_died v_aside v_likely v_safe v_headOf x2 r136 v_texts_136 v_at_136 v_place_136 v_token_136 v_number_136 v_word_136 v_written_136 v_pile_136 v_piled_136 v_opens_136 v_isWhole_136 hg136) (kwX12_239 hts rfl rfl ⟨Nat.le_of_ble_eq_true rfl, Nat.le_of_ble_eq_true rfl⟩) 0 rfl rfl rfl rfl hl.1 rfl (Nat.le_of_ble_eq_true rfl) dX12_body_136 ⟨Nat.zero_le _, Nat.zero_le _⟩ (fun hB136 H locs hP hD hS => ?_)
      have hP : va_P D vwCl (WM h q cI cJ cZ v_a v_image v_texts_136 v_tape v_taped v_fault v_faultPlace v_at_136 v_place_136 v_token_136 v_number_136 v_word_136 v_text0 v_written_136 v_sort0 v_pile_136 v_piled_136 v_opens_136 v_isWhole_136 v_once v_named v_values v_truth v_isWritten v_died v_aside v_likely v_safe v_headOf) H := hP
      have hD : va_D A (WM h q cI cJ cZ v_a v_image v_texts_136 v_tape v_taped v_fault v_faultPlace v_at_136 v_place_136 v_token_136 v_number_136 v_word_136 v_text0 v_written_136 v_sort0 v_pile_136 v_piled_136 v_opens_136 v_isWhole_136 v_once v_named v_values v_truth v_isWritten v_died v_aside v_likely v_safe v_headOf) := hD
      refine lv_goto (tgt := 156) hx hb dX12_body_139 (by decide) ?_
      cases hf
      exact mret_i hx hb hr hlocks hP hD hS dX12_body_156 rfl trivial
  unfold f_X12_body at hf
  refine lv_iload_n hx hb dX12_body_0 rfl (lv_at hl 1 rfl) ?_
  by_cases e1_4 : p1 = (4 : Int32)
  · replace hf := (if_pos e1_4).symm.trans hf
    refine lv_tableIn (off := 51) (tgt := 52) hx hb dX12_body_1 (by rw [e1_4]; decide) (by rw [e1_4]; decide) (by rw [e1_4]; rfl) (by decide) ?_
    refine lv_aload_n hx hb dX12_body_52 rfl (lv_at hl 0 rfl) ?_
    refine lv_iload_n hx hb dX12_body_53 rfl (lv_at hl 2 rfl) ?_
    refine lv_iconst (v := (1 : Int32)) hx hb dX12_body_54 (by decide) ?_
    refine lv_iadd hx hb dX12_body_55 ?_
    refine lv_iconst (v := (0 : Int32)) hx hb dX12_body_56 (by decide) ?_
    refine lv_bipush (v := (9 : Int32)) hx hb dX12_body_57 (by decide) ?_
    obtain ⟨r59, v_texts_59, v_at_59, v_place_59, v_token_59, v_number_59, v_word_59, hg59, hf⟩ := ob7_some hf
    refine mcV1_i (As := [.int (p2 + (1 : Int32)), .int (0 : Int32), .int (9 : Int32)]) (rest := []) hx hb hml hown hts hK hP hD hS hA (k_X12_figure l N D cI cJ cZ cB cT h q v_a v_image v_texts v_tape v_taped v_fault v_faultPlace v_at v_place v_token v_number v_word v_text0 v_written v_sort0 v_pile v_piled v_opens v_isWhole v_once v_named v_values v_truth v_isWritten v_died v_aside v_likely v_safe v_headOf (p2 + (1 : Int32)) (0 : Int32) (9 : Int32) r59 v_texts_59 v_at_59 v_place_59 v_token_59 v_number_59 v_word_59 hg59) (kwX12_221 hts rfl rfl ⟨Nat.le_of_ble_eq_true rfl, Nat.le_of_ble_eq_true rfl⟩) 0 rfl rfl rfl rfl hl.1 rfl (Nat.le_of_ble_eq_true rfl) dX12_body_59 ⟨Nat.zero_le _, Nat.zero_le _⟩ (fun hB59 H locs hP hD hS => ?_)
    have hP : va_P D vwCl (WM h q cI cJ cZ v_a v_image v_texts_59 v_tape v_taped v_fault v_faultPlace v_at_59 v_place_59 v_token_59 v_number_59 v_word_59 v_text0 v_written v_sort0 v_pile v_piled v_opens v_isWhole v_once v_named v_values v_truth v_isWritten v_died v_aside v_likely v_safe v_headOf) H := hP
    have hD : va_D A (WM h q cI cJ cZ v_a v_image v_texts_59 v_tape v_taped v_fault v_faultPlace v_at_59 v_place_59 v_token_59 v_number_59 v_word_59 v_text0 v_written v_sort0 v_pile v_piled v_opens v_isWhole v_once v_named v_values v_truth v_isWritten v_died v_aside v_likely v_safe v_headOf) := hD
    cases hf
    exact mret_i hx hb hr hlocks hP hD hS dX12_body_62 rfl trivial
  replace hf := (if_neg e1_4).symm.trans hf
  by_cases e1_5 : p1 = (5 : Int32)
  · replace hf := (if_pos e1_5).symm.trans hf
    refine lv_tableIn (off := 62) (tgt := 63) hx hb dX12_body_1 (by rw [e1_5]; decide) (by rw [e1_5]; decide) (by rw [e1_5]; rfl) (by decide) ?_
    refine lv_aload_n hx hb dX12_body_63 rfl (lv_at hl 0 rfl) ?_
    refine lv_iload_n hx hb dX12_body_64 rfl (lv_at hl 2 rfl) ?_
    refine lv_bipush (v := (7 : Int32)) hx hb dX12_body_65 (by decide) ?_
    refine lv_bipush (v := (116 : Int32)) hx hb dX12_body_67 (by decide) ?_
    refine lv_bipush (v := (111 : Int32)) hx hb dX12_body_69 (by decide) ?_
    obtain ⟨r71, hg71, hf⟩ := ob1_some hf
    refine mcS0_l (As := [.int (116 : Int32), .int (111 : Int32)]) (rest := [.int (7 : Int32), .int p2, .ref h]) hx hb hml hown hts hK hP hD hS hA (k_X12_w2 l N D cI cJ cZ cB cT (116 : Int32) (111 : Int32) r71 hg71) (kwX12_128 hts rfl rfl ⟨Nat.le_of_ble_eq_true rfl, Nat.le_of_ble_eq_true rfl⟩) rfl hl.1 rfl (Nat.le_of_ble_eq_true rfl) dX12_body_71 ⟨Nat.zero_le _, Nat.zero_le _⟩ (fun H locs hP hD hS => ?_)
    refine lv_bipush (v := (7 : Int32)) hx hb dX12_body_74 (by decide) ?_
    obtain ⟨r76, v_texts_76, v_at_76, v_place_76, v_token_76, v_number_76, v_word_76, hg76, hf⟩ := ob7_some hf
    refine mcV1_i (As := [.int p2, .int (7 : Int32), .long r71, .int (7 : Int32)]) (rest := []) hx hb hml hown hts hK hP hD hS hA (k_X12_pair l N D cI cJ cZ cB cT h q v_a v_image v_texts v_tape v_taped v_fault v_faultPlace v_at v_place v_token v_number v_word v_text0 v_written v_sort0 v_pile v_piled v_opens v_isWhole v_once v_named v_values v_truth v_isWritten v_died v_aside v_likely v_safe v_headOf p2 (7 : Int32) r71 (7 : Int32) r76 v_texts_76 v_at_76 v_place_76 v_token_76 v_number_76 v_word_76 hg76) (kwX12_232 hts rfl rfl ⟨Nat.le_of_ble_eq_true rfl, Nat.le_of_ble_eq_true rfl⟩) 0 rfl rfl rfl rfl hl.1 rfl (Nat.le_of_ble_eq_true rfl) dX12_body_76 ⟨Nat.zero_le _, Nat.zero_le _⟩ (fun hB76 H locs hP hD hS => ?_)
    have hP : va_P D vwCl (WM h q cI cJ cZ v_a v_image v_texts_76 v_tape v_taped v_fault v_faultPlace v_at_76 v_place_76 v_token_76 v_number_76 v_word_76 v_text0 v_written v_sort0 v_pile v_piled v_opens v_isWhole v_once v_named v_values v_truth v_isWritten v_died v_aside v_likely v_safe v_headOf) H := hP
    have hD : va_D A (WM h q cI cJ cZ v_a v_image v_texts_76 v_tape v_taped v_fault v_faultPlace v_at_76 v_place_76 v_token_76 v_number_76 v_word_76 v_text0 v_written v_sort0 v_pile v_piled v_opens v_isWhole v_once v_named v_values v_truth v_isWritten v_died v_aside v_likely v_safe v_headOf) := hD
    cases hf
    exact mret_i hx hb hr hlocks hP hD hS dX12_body_79 rfl trivial
  replace hf := (if_neg e1_5).symm.trans hf
  by_cases e1_6 : p1 = (6 : Int32)
  · replace hf := (if_pos e1_6).symm.trans hf
    refine lv_tableIn (off := 79) (tgt := 80) hx hb dX12_body_1 (by rw [e1_6]; decide) (by rw [e1_6]; decide) (by rw [e1_6]; rfl) (by decide) ?_
    refine lv_aload_n hx hb dX12_body_80 rfl (lv_at hl 0 rfl) ?_
    refine lv_iload_n hx hb dX12_body_81 rfl (lv_at hl 2 rfl) ?_
    obtain ⟨r82, v_texts_82, v_at_82, v_place_82, v_token_82, v_number_82, v_word_82, hg82, hf⟩ := ob7_some hf
    refine mcV1_i (As := [.int p2]) (rest := []) hx hb hml hown hts hK hP hD hS hA (k_X12_personClause l N D cI cJ cZ cB cT h q v_a v_image v_texts v_tape v_taped v_fault v_faultPlace v_at v_place v_token v_number v_word v_text0 v_written v_sort0 v_pile v_piled v_opens v_isWhole v_once v_named v_values v_truth v_isWritten v_died v_aside v_likely v_safe v_headOf p2 r82 v_texts_82 v_at_82 v_place_82 v_token_82 v_number_82 v_word_82 hg82) (kwX12_236 hts rfl rfl ⟨Nat.le_of_ble_eq_true rfl, Nat.le_of_ble_eq_true rfl⟩) 0 rfl rfl rfl rfl hl.1 rfl (Nat.le_of_ble_eq_true rfl) dX12_body_82 ⟨Nat.zero_le _, Nat.zero_le _⟩ (fun hB82 H locs hP hD hS => ?_)
    have hP : va_P D vwCl (WM h q cI cJ cZ v_a v_image v_texts_82 v_tape v_taped v_fault v_faultPlace v_at_82 v_place_82 v_token_82 v_number_82 v_word_82 v_text0 v_written v_sort0 v_pile v_piled v_opens v_isWhole v_once v_named v_values v_truth v_isWritten v_died v_aside v_likely v_safe v_headOf) H := hP
    have hD : va_D A (WM h q cI cJ cZ v_a v_image v_texts_82 v_tape v_taped v_fault v_faultPlace v_at_82 v_place_82 v_token_82 v_number_82 v_word_82 v_text0 v_written v_sort0 v_pile v_piled v_opens v_isWhole v_once v_named v_values v_truth v_isWritten v_died v_aside v_likely v_safe v_headOf) := hD
    cases hf
    exact mret_i hx hb hr hlocks hP hD hS dX12_body_85 rfl trivial
  replace hf := (if_neg e1_6).symm.trans hf
  by_cases e1_7 : p1 = (7 : Int32)
  · replace hf := (if_pos e1_7).symm.trans hf
    refine lv_tableIn (off := 85) (tgt := 86) hx hb dX12_body_1 (by rw [e1_7]; decide) (by rw [e1_7]; decide) (by rw [e1_7]; rfl) (by decide) ?_
    refine lv_aload_n hx hb dX12_body_86 rfl (lv_at hl 0 rfl) ?_
    refine lv_iload_n hx hb dX12_body_87 rfl (lv_at hl 2 rfl) ?_
    refine lv_iconst (v := (5 : Int32)) hx hb dX12_body_88 (by decide) ?_
    refine lv_bipush (v := (105 : Int32)) hx hb dX12_body_89 (by decide) ?_
    refine lv_bipush (v := (110 : Int32)) hx hb dX12_body_91 (by decide) ?_
    obtain ⟨r93, hg93, hf⟩ := ob1_some hf
    refine mcS0_l (As := [.int (105 : Int32), .int (110 : Int32)]) (rest := [.int (5 : Int32), .int p2, .ref h]) hx hb hml hown hts hK hP hD hS hA (k_X12_w2 l N D cI cJ cZ cB cT (105 : Int32) (110 : Int32) r93 hg93) (kwX12_128 hts rfl rfl ⟨Nat.le_of_ble_eq_true rfl, Nat.le_of_ble_eq_true rfl⟩) rfl hl.1 rfl (Nat.le_of_ble_eq_true rfl) dX12_body_93 ⟨Nat.zero_le _, Nat.zero_le _⟩ (fun H locs hP hD hS => ?_)
    refine lv_bipush (v := (7 : Int32)) hx hb dX12_body_96 (by decide) ?_
    obtain ⟨r98, v_texts_98, v_at_98, v_place_98, v_token_98, v_number_98, v_word_98, hg98, hf⟩ := ob7_some hf
    refine mcV1_i (As := [.int p2, .int (5 : Int32), .long r93, .int (7 : Int32)]) (rest := []) hx hb hml hown hts hK hP hD hS hA (k_X12_pair l N D cI cJ cZ cB cT h q v_a v_image v_texts v_tape v_taped v_fault v_faultPlace v_at v_place v_token v_number v_word v_text0 v_written v_sort0 v_pile v_piled v_opens v_isWhole v_once v_named v_values v_truth v_isWritten v_died v_aside v_likely v_safe v_headOf p2 (5 : Int32) r93 (7 : Int32) r98 v_texts_98 v_at_98 v_place_98 v_token_98 v_number_98 v_word_98 hg98) (kwX12_232 hts rfl rfl ⟨Nat.le_of_ble_eq_true rfl, Nat.le_of_ble_eq_true rfl⟩) 0 rfl rfl rfl rfl hl.1 rfl (Nat.le_of_ble_eq_true rfl) dX12_body_98 ⟨Nat.zero_le _, Nat.zero_le _⟩ (fun hB98 H locs hP hD hS => ?_)
    have hP : va_P D vwCl (WM h q cI cJ cZ v_a v_image v_texts_98 v_tape v_taped v_fault v_faultPlace v_at_98 v_place_98 v_token_98 v_number_98 v_word_98 v_text0 v_written v_sort0 v_pile v_piled v_opens v_isWhole v_once v_named v_values v_truth v_isWritten v_died v_aside v_likely v_safe v_headOf) H := hP
    have hD : va_D A (WM h q cI cJ cZ v_a v_image v_texts_98 v_tape v_taped v_fault v_faultPlace v_at_98 v_place_98 v_token_98 v_number_98 v_word_98 v_text0 v_written v_sort0 v_pile v_piled v_opens v_isWhole v_once v_named v_values v_truth v_isWritten v_died v_aside v_likely v_safe v_headOf) := hD
    cases hf
    exact mret_i hx hb hr hlocks hP hD hS dX12_body_101 rfl trivial
  replace hf := (if_neg e1_7).symm.trans hf
  by_cases e1_8 : p1 = (8 : Int32)
  · replace hf := (if_pos e1_8).symm.trans hf
    refine lv_tableIn (off := 101) (tgt := 102) hx hb dX12_body_1 (by rw [e1_8]; decide) (by rw [e1_8]; decide) (by rw [e1_8]; rfl) (by decide) ?_
    refine lv_aload_n hx hb dX12_body_102 rfl (lv_at hl 0 rfl) ?_
    refine lv_iload_n hx hb dX12_body_103 rfl (lv_at hl 2 rfl) ?_
    refine lv_iconst (v := (5 : Int32)) hx hb dX12_body_104 (by decide) ?_
    refine lv_bipush (v := (116 : Int32)) hx hb dX12_body_105 (by decide) ?_
    refine lv_bipush (v := (111 : Int32)) hx hb dX12_body_107 (by decide) ?_
    obtain ⟨r109, hg109, hf⟩ := ob1_some hf
    refine mcS0_l (As := [.int (116 : Int32), .int (111 : Int32)]) (rest := [.int (5 : Int32), .int p2, .ref h]) hx hb hml hown hts hK hP hD hS hA (k_X12_w2 l N D cI cJ cZ cB cT (116 : Int32) (111 : Int32) r109 hg109) (kwX12_128 hts rfl rfl ⟨Nat.le_of_ble_eq_true rfl, Nat.le_of_ble_eq_true rfl⟩) rfl hl.1 rfl (Nat.le_of_ble_eq_true rfl) dX12_body_109 ⟨Nat.zero_le _, Nat.zero_le _⟩ (fun H locs hP hD hS => ?_)
    refine lv_bipush (v := (7 : Int32)) hx hb dX12_body_112 (by decide) ?_
    obtain ⟨r114, v_texts_114, v_at_114, v_place_114, v_token_114, v_number_114, v_word_114, hg114, hf⟩ := ob7_some hf
    refine mcV1_i (As := [.int p2, .int (5 : Int32), .long r109, .int (7 : Int32)]) (rest := []) hx hb hml hown hts hK hP hD hS hA (k_X12_pair l N D cI cJ cZ cB cT h q v_a v_image v_texts v_tape v_taped v_fault v_faultPlace v_at v_place v_token v_number v_word v_text0 v_written v_sort0 v_pile v_piled v_opens v_isWhole v_once v_named v_values v_truth v_isWritten v_died v_aside v_likely v_safe v_headOf p2 (5 : Int32) r109 (7 : Int32) r114 v_texts_114 v_at_114 v_place_114 v_token_114 v_number_114 v_word_114 hg114) (kwX12_232 hts rfl rfl ⟨Nat.le_of_ble_eq_true rfl, Nat.le_of_ble_eq_true rfl⟩) 0 rfl rfl rfl rfl hl.1 rfl (Nat.le_of_ble_eq_true rfl) dX12_body_114 ⟨Nat.zero_le _, Nat.zero_le _⟩ (fun hB114 H locs hP hD hS => ?_)
    have hP : va_P D vwCl (WM h q cI cJ cZ v_a v_image v_texts_114 v_tape v_taped v_fault v_faultPlace v_at_114 v_place_114 v_token_114 v_number_114 v_word_114 v_text0 v_written v_sort0 v_pile v_piled v_opens v_isWhole v_once v_named v_values v_truth v_isWritten v_died v_aside v_likely v_safe v_headOf) H := hP
    have hD : va_D A (WM h q cI cJ cZ v_a v_image v_texts_114 v_tape v_taped v_fault v_faultPlace v_at_114 v_place_114 v_token_114 v_number_114 v_word_114 v_text0 v_written v_sort0 v_pile v_piled v_opens v_isWhole v_once v_named v_values v_truth v_isWritten v_died v_aside v_likely v_safe v_headOf) := hD
    cases hf
    exact mret_i hx hb hr hlocks hP hD hS dX12_body_117 rfl trivial
  replace hf := (if_neg e1_8).symm.trans hf
  by_cases e1_12 : p1 = (12 : Int32)
  · replace hf := (if_pos e1_12).symm.trans hf
    refine lv_tableIn (off := 117) (tgt := 118) hx hb dX12_body_1 (by rw [e1_12]; decide) (by rw [e1_12]; decide) (by rw [e1_12]; rfl) (by decide) ?_
    refine lv_aload_n hx hb dX12_body_118 rfl (lv_at hl 0 rfl) ?_
    refine lv_iload_n hx hb dX12_body_119 rfl (lv_at hl 2 rfl) ?_
    refine lv_iconst (v := (1 : Int32)) hx hb dX12_body_120 (by decide) ?_
    refine lv_iadd hx hb dX12_body_121 ?_
    refine lv_iconst (v := (1 : Int32)) hx hb dX12_body_122 (by decide) ?_
    refine lv_bipush (v := (60 : Int32)) hx hb dX12_body_123 (by decide) ?_
    obtain ⟨r125, v_texts_125, v_at_125, v_place_125, v_token_125, v_number_125, v_word_125, hg125, hf⟩ := ob7_some hf
    refine mcV1_i (As := [.int (p2 + (1 : Int32)), .int (1 : Int32), .int (60 : Int32)]) (rest := []) hx hb hml hown hts hK hP hD hS hA (k_X12_figure l N D cI cJ cZ cB cT h q v_a v_image v_texts v_tape v_taped v_fault v_faultPlace v_at v_place v_token v_number v_word v_text0 v_written v_sort0 v_pile v_piled v_opens v_isWhole v_once v_named v_values v_truth v_isWritten v_died v_aside v_likely v_safe v_headOf (p2 + (1 : Int32)) (1 : Int32) (60 : Int32) r125 v_texts_125 v_at_125 v_place_125 v_token_125 v_number_125 v_word_125 hg125) (kwX12_221 hts rfl rfl ⟨Nat.le_of_ble_eq_true rfl, Nat.le_of_ble_eq_true rfl⟩) 0 rfl rfl rfl rfl hl.1 rfl (Nat.le_of_ble_eq_true rfl) dX12_body_125 ⟨Nat.zero_le _, Nat.zero_le _⟩ (fun hB125 H locs hP hD hS => ?_)
    have hP : va_P D vwCl (WM h q cI cJ cZ v_a v_image v_texts_125 v_tape v_taped v_fault v_faultPlace v_at_125 v_place_125 v_token_125 v_number_125 v_word_125 v_text0 v_written v_sort0 v_pile v_piled v_opens v_isWhole v_once v_named v_values v_truth v_isWritten v_died v_aside v_likely v_safe v_headOf) H := hP
    have hD : va_D A (WM h q cI cJ cZ v_a v_image v_texts_125 v_tape v_taped v_fault v_faultPlace v_at_125 v_place_125 v_token_125 v_number_125 v_word_125 v_text0 v_written v_sort0 v_pile v_piled v_opens v_isWhole v_once v_named v_values v_truth v_isWritten v_died v_aside v_likely v_safe v_headOf) := hD
    cases hf
    exact mret_i hx hb hr hlocks hP hD hS dX12_body_128 rfl trivial
  replace hf := (if_neg e1_12).symm.trans hf
  by_cases e1_9 : p1 = (9 : Int32)
  · refine lv_tableIn (off := 128) (tgt := 129) hx hb dX12_body_1 (by rw [e1_9]; decide) (by rw [e1_9]; decide) (by rw [e1_9]; rfl) (by decide) ?_
    exact b129 v_texts v_at v_place v_token v_number v_word v_written v_pile v_piled v_opens v_isWhole p1 p2 _ _ _ hf hP hD hS (lv_sub hl [0, 1, 2] rfl)
  by_cases e1_10 : p1 = (10 : Int32)
  · refine lv_tableIn (off := 128) (tgt := 129) hx hb dX12_body_1 (by rw [e1_10]; decide) (by rw [e1_10]; decide) (by rw [e1_10]; rfl) (by decide) ?_
    exact b129 v_texts v_at v_place v_token v_number v_word v_written v_pile v_piled v_opens v_isWhole p1 p2 _ _ _ hf hP hD hS (lv_sub hl [0, 1, 2] rfl)
  by_cases e1_11 : p1 = (11 : Int32)
  · refine lv_tableIn (off := 128) (tgt := 129) hx hb dX12_body_1 (by rw [e1_11]; decide) (by rw [e1_11]; decide) (by rw [e1_11]; rfl) (by decide) ?_
    exact b129 v_texts v_at v_place v_token v_number v_word v_written v_pile v_piled v_opens v_isWhole p1 p2 _ _ _ hf hP hD hS (lv_sub hl [0, 1, 2] rfl)
  have ne1_4 : p1.toInt ≠ (4 : Int) := sw_ne e1_4
  have ne1_5 : p1.toInt ≠ (5 : Int) := sw_ne e1_5
  have ne1_6 : p1.toInt ≠ (6 : Int) := sw_ne e1_6
  have ne1_7 : p1.toInt ≠ (7 : Int) := sw_ne e1_7
  have ne1_8 : p1.toInt ≠ (8 : Int) := sw_ne e1_8
  have ne1_9 : p1.toInt ≠ (9 : Int) := sw_ne e1_9
  have ne1_10 : p1.toInt ≠ (10 : Int) := sw_ne e1_10
  have ne1_11 : p1.toInt ≠ (11 : Int) := sw_ne e1_11
  have ne1_12 : p1.toInt ≠ (12 : Int) := sw_ne e1_12
  refine lv_tableOut (tgt := 129) hx hb dX12_body_1 (by omega) (by decide) ?_
  exact b129 v_texts v_at v_place v_token v_number v_word v_written v_pile v_piled v_opens v_isWhole p1 p2 _ _ _ hf hP hD hS (lv_sub hl [0, 1, 2] rfl)
theorem dX12_isHungers_0 : decode cX12_isHungers 0 = .ok (.aload_n 0, 1) := by decide +kernel
theorem dX12_isHungers_1 : decode cX12_isHungers 1 = .ok (.getfield 106, 3) := by decide +kernel
theorem dX12_isHungers_4 : decode cX12_isHungers 4 = .ok (.iconst 2, 1) := by decide +kernel
theorem dX12_isHungers_5 : decode cX12_isHungers 5 = .ok (.if_icmp .ne 124, 3) := by decide +kernel
theorem dX12_isHungers_8 : decode cX12_isHungers 8 = .ok (.aload_n 0, 1) := by decide +kernel
theorem dX12_isHungers_9 : decode cX12_isHungers 9 = .ok (.getfield 96, 3) := by decide +kernel
theorem dX12_isHungers_12 : decode cX12_isHungers 12 = .ok (.aload_n 0, 1) := by decide +kernel
theorem dX12_isHungers_13 : decode cX12_isHungers 13 = .ok (.getfield 103, 3) := by decide +kernel
theorem dX12_isHungers_16 : decode cX12_isHungers 16 = .ok (.isub, 1) := by decide +kernel
theorem dX12_isHungers_17 : decode cX12_isHungers 17 = .ok (.bipush 7, 2) := by decide +kernel
theorem dX12_isHungers_19 : decode cX12_isHungers 19 = .ok (.if_icmp .ne 110, 3) := by decide +kernel
theorem dX12_isHungers_22 : decode cX12_isHungers 22 = .ok (.aload_n 0, 1) := by decide +kernel
theorem dX12_isHungers_23 : decode cX12_isHungers 23 = .ok (.aload_n 0, 1) := by decide +kernel
theorem dX12_isHungers_24 : decode cX12_isHungers 24 = .ok (.getfield 103, 3) := by decide +kernel
theorem dX12_isHungers_27 : decode cX12_isHungers 27 = .ok (.invokevirtual 99, 3) := by decide +kernel
theorem dX12_isHungers_30 : decode cX12_isHungers 30 = .ok (.aload_n 0, 1) := by decide +kernel
theorem dX12_isHungers_31 : decode cX12_isHungers 31 = .ok (.aload_n 0, 1) := by decide +kernel
theorem dX12_isHungers_32 : decode cX12_isHungers 32 = .ok (.getfield 103, 3) := by decide +kernel
theorem dX12_isHungers_35 : decode cX12_isHungers 35 = .ok (.iconst 1, 1) := by decide +kernel
theorem dX12_isHungers_36 : decode cX12_isHungers 36 = .ok (.iadd, 1) := by decide +kernel
theorem dX12_isHungers_37 : decode cX12_isHungers 37 = .ok (.invokevirtual 99, 3) := by decide +kernel
theorem dX12_isHungers_40 : decode cX12_isHungers 40 = .ok (.aload_n 0, 1) := by decide +kernel
theorem dX12_isHungers_41 : decode cX12_isHungers 41 = .ok (.aload_n 0, 1) := by decide +kernel
theorem dX12_isHungers_42 : decode cX12_isHungers 42 = .ok (.getfield 103, 3) := by decide +kernel
theorem dX12_isHungers_45 : decode cX12_isHungers 45 = .ok (.iconst 2, 1) := by decide +kernel
theorem dX12_isHungers_46 : decode cX12_isHungers 46 = .ok (.iadd, 1) := by decide +kernel
theorem dX12_isHungers_47 : decode cX12_isHungers 47 = .ok (.invokevirtual 99, 3) := by decide +kernel
theorem dX12_isHungers_50 : decode cX12_isHungers 50 = .ok (.aload_n 0, 1) := by decide +kernel
theorem dX12_isHungers_51 : decode cX12_isHungers 51 = .ok (.aload_n 0, 1) := by decide +kernel
theorem dX12_isHungers_52 : decode cX12_isHungers 52 = .ok (.getfield 103, 3) := by decide +kernel
theorem dX12_isHungers_55 : decode cX12_isHungers 55 = .ok (.iconst 3, 1) := by decide +kernel
theorem dX12_isHungers_56 : decode cX12_isHungers 56 = .ok (.iadd, 1) := by decide +kernel
theorem dX12_isHungers_57 : decode cX12_isHungers 57 = .ok (.invokevirtual 99, 3) := by decide +kernel
theorem dX12_isHungers_60 : decode cX12_isHungers 60 = .ok (.invokestatic 136, 3) := by decide +kernel
theorem dX12_isHungers_63 : decode cX12_isHungers 63 = .ok (.bipush 104, 2) := by decide +kernel
theorem dX12_isHungers_65 : decode cX12_isHungers 65 = .ok (.bipush 117, 2) := by decide +kernel
theorem dX12_isHungers_67 : decode cX12_isHungers 67 = .ok (.bipush 110, 2) := by decide +kernel
theorem dX12_isHungers_69 : decode cX12_isHungers 69 = .ok (.bipush 103, 2) := by decide +kernel
theorem dX12_isHungers_71 : decode cX12_isHungers 71 = .ok (.invokestatic 136, 3) := by decide +kernel
theorem dX12_isHungers_74 : decode cX12_isHungers 74 = .ok (.lcmp, 1) := by decide +kernel
theorem dX12_isHungers_75 : decode cX12_isHungers 75 = .ok (.ifCond .ne 54, 3) := by decide +kernel
theorem dX12_isHungers_78 : decode cX12_isHungers 78 = .ok (.aload_n 0, 1) := by decide +kernel
theorem dX12_isHungers_79 : decode cX12_isHungers 79 = .ok (.aload_n 0, 1) := by decide +kernel
theorem dX12_isHungers_80 : decode cX12_isHungers 80 = .ok (.getfield 103, 3) := by decide +kernel
theorem dX12_isHungers_83 : decode cX12_isHungers 83 = .ok (.iconst 4, 1) := by decide +kernel
theorem dX12_isHungers_84 : decode cX12_isHungers 84 = .ok (.iadd, 1) := by decide +kernel
theorem dX12_isHungers_85 : decode cX12_isHungers 85 = .ok (.invokevirtual 99, 3) := by decide +kernel
theorem dX12_isHungers_88 : decode cX12_isHungers 88 = .ok (.aload_n 0, 1) := by decide +kernel
theorem dX12_isHungers_89 : decode cX12_isHungers 89 = .ok (.aload_n 0, 1) := by decide +kernel
theorem dX12_isHungers_90 : decode cX12_isHungers 90 = .ok (.getfield 103, 3) := by decide +kernel
theorem dX12_isHungers_93 : decode cX12_isHungers 93 = .ok (.iconst 5, 1) := by decide +kernel
theorem dX12_isHungers_94 : decode cX12_isHungers 94 = .ok (.iadd, 1) := by decide +kernel
theorem dX12_isHungers_95 : decode cX12_isHungers 95 = .ok (.invokevirtual 99, 3) := by decide +kernel
theorem dX12_isHungers_98 : decode cX12_isHungers 98 = .ok (.aload_n 0, 1) := by decide +kernel
theorem dX12_isHungers_99 : decode cX12_isHungers 99 = .ok (.aload_n 0, 1) := by decide +kernel
theorem dX12_isHungers_100 : decode cX12_isHungers 100 = .ok (.getfield 103, 3) := by decide +kernel
theorem dX12_isHungers_103 : decode cX12_isHungers 103 = .ok (.bipush 6, 2) := by decide +kernel
theorem dX12_isHungers_105 : decode cX12_isHungers 105 = .ok (.iadd, 1) := by decide +kernel
theorem dX12_isHungers_106 : decode cX12_isHungers 106 = .ok (.invokevirtual 99, 3) := by decide +kernel
theorem dX12_isHungers_109 : decode cX12_isHungers 109 = .ok (.invokestatic 132, 3) := by decide +kernel
theorem dX12_isHungers_112 : decode cX12_isHungers 112 = .ok (.bipush 101, 2) := by decide +kernel
theorem dX12_isHungers_114 : decode cX12_isHungers 114 = .ok (.bipush 114, 2) := by decide +kernel
theorem dX12_isHungers_116 : decode cX12_isHungers 116 = .ok (.bipush 115, 2) := by decide +kernel
theorem dX12_isHungers_118 : decode cX12_isHungers 118 = .ok (.invokestatic 132, 3) := by decide +kernel
theorem dX12_isHungers_121 : decode cX12_isHungers 121 = .ok (.lcmp, 1) := by decide +kernel
theorem dX12_isHungers_122 : decode cX12_isHungers 122 = .ok (.ifCond .ne 7, 3) := by decide +kernel
theorem dX12_isHungers_125 : decode cX12_isHungers 125 = .ok (.iconst 1, 1) := by decide +kernel
theorem dX12_isHungers_126 : decode cX12_isHungers 126 = .ok (.goto 4, 3) := by decide +kernel
theorem dX12_isHungers_129 : decode cX12_isHungers 129 = .ok (.iconst 0, 1) := by decide +kernel
theorem dX12_isHungers_130 : decode cX12_isHungers 130 = .ok (.ireturn, 1) := by decide +kernel
def f_X12_isHungers (N : Nat) (v_tape : Nat → Int32) (v_taped : Int32) (v_at : Int32) (v_place : Int32) (v_token : Int32) : Option (Int32) := if v_token = (2 : Int32) then (if (v_at - v_place) = (7 : Int32) then (ob1 (f_X12_byteAt N v_tape v_taped v_place) fun r27 => ob1 (f_X12_byteAt N v_tape v_taped (v_place + (1 : Int32))) fun r37 => ob1 (f_X12_byteAt N v_tape v_taped (v_place + (2 : Int32))) fun r47 => ob1 (f_X12_byteAt N v_tape v_taped (v_place + (3 : Int32))) fun r57 => ob1 (f_X12_w4 N r27 r37 r47 r57) fun r60 => ob1 (f_X12_w4 N (104 : Int32) (117 : Int32) (110 : Int32) (103 : Int32)) fun r71 => if (lg_cmp r60 r71) = 0 then (ob1 (f_X12_byteAt N v_tape v_taped (v_place + (4 : Int32))) fun r85 => ob1 (f_X12_byteAt N v_tape v_taped (v_place + (5 : Int32))) fun r95 => ob1 (f_X12_byteAt N v_tape v_taped (v_place + (6 : Int32))) fun r106 => ob1 (f_X12_w3 N r85 r95 r106) fun r109 => ob1 (f_X12_w3 N (101 : Int32) (114 : Int32) (115 : Int32)) fun r118 => if (lg_cmp r109 r118) = 0 then (some (1 : Int32)) else (some (0 : Int32))) else (some (0 : Int32))) else (some (0 : Int32))) else (some (0 : Int32))
set_option maxHeartbeats 4000000 in
set_option maxRecDepth 100000 in
theorem k_X12_isHungers (l : Launch) (N : Nat) (D : va_G) (cI cJ cZ cB cT : ClassId) (h : Nat) (q : Nat → Nat) (v_a : Nat → Int32) (v_image : Nat → Int32) (v_texts : Nat → Int32) (v_tape : Nat → Int32) (v_taped : Int32) (v_fault : Int32) (v_faultPlace : Int32) (v_at : Int32) (v_place : Int32) (v_token : Int32) (v_number : Int32) (v_word : Int64) (v_text0 : Int32) (v_written : Int32) (v_sort0 : Int32) (v_pile : Nat → Int32) (v_piled : Int32) (v_opens : Int32) (v_isWhole : Int32) (v_once : Int32) (v_named : Nat → Int32) (v_values : Nat → Int64) (v_truth : Nat → Int32) (v_isWritten : Int32) (v_died : Int32) (v_aside : Nat → Int32) (v_likely : Nat → Int32) (v_safe : Nat → Int32) (v_headOf : Nat → Int32) (o_r : Int32) (hf : f_X12_isHungers N v_tape v_taped v_at v_place v_token = some o_r) : ∀ sz, Met l yX12_isHungers (mw yX12_isHungers cX12_isHungers 1 (some .boolean)) ({ frames := 3, cells := 0, slots := 0, locals := 66 } : Room) (mPre D (mT cI cJ cZ cB cT) (WM h q cI cJ cZ v_a v_image v_texts v_tape v_taped v_fault v_faultPlace v_at v_place v_token v_number v_word v_text0 v_written v_sort0 v_pile v_piled v_opens v_isWhole v_once v_named v_values v_truth v_isWritten v_died v_aside v_likely v_safe v_headOf) sz [.ref h]) ((mQi D (WM h q cI cJ cZ v_a v_image v_texts v_tape v_taped v_fault v_faultPlace v_at v_place v_token v_number v_word v_text0 v_written v_sort0 v_pile v_piled v_opens v_isWhole v_once v_named v_values v_truth v_isWritten v_died v_aside v_likely v_safe v_headOf) o_r (mB o_r)) (va_A (WM h q cI cJ cZ v_a v_image v_texts v_tape v_taped v_fault v_faultPlace v_at v_place v_token v_number v_word v_text0 v_written v_sort0 v_pile v_piled v_opens v_isWhole v_once v_named v_values v_truth v_isWritten v_died v_aside v_likely v_safe v_headOf) sz)) 0 0 (va_A (WM h q cI cJ cZ v_a v_image v_texts v_tape v_taped v_fault v_faultPlace v_at v_place v_token v_number v_word v_text0 v_written v_sort0 v_pile v_piled v_opens v_isWhole v_once v_named v_values v_truth v_isWritten v_died v_aside v_likely v_safe v_headOf) sz) := by
  refine mMet (Qc := (mQi D (WM h q cI cJ cZ v_a v_image v_texts v_tape v_taped v_fault v_faultPlace v_at v_place v_token v_number v_word v_text0 v_written v_sort0 v_pile v_piled v_opens v_isWhole v_once v_named v_values v_truth v_isWritten v_died v_aside v_likely v_safe v_headOf) o_r (mB o_r))) (by decide) (Nat.le_of_ble_eq_true rfl) (fun p e s m below meth c A ls hx hb hr hml hts hown hlocks hK hA hP hD hl => ?_)
  have hown : s.vm.findClass RX12 = some m.cls := hown
  have hl : lv_has ls 1 [(0, .ref h)] := hl
  have hS : va_S A s.heap s.heap [] := va_S.rf
  unfold f_X12_isHungers at hf
  refine lv_aload_n hx hb dX12_isHungers_0 rfl (lv_at hl 0 rfl) ?_
  refine gfX12_106 hx hb hts hown hK hP 0 rfl rfl dX12_isHungers_1 ?_
  refine lv_iconst (v := (2 : Int32)) hx hb dX12_isHungers_4 (by decide) ?_
  refine xicmp_ne hx hb 129 dX12_isHungers_5 (by decide) hf (fun hf => ?_) (fun hf => ?_)
  · refine lv_aload_n hx hb dX12_isHungers_8 rfl (lv_at hl 0 rfl) ?_
    refine gfX12_96 hx hb hts hown hK hP 0 rfl rfl dX12_isHungers_9 ?_
    refine lv_aload_n hx hb dX12_isHungers_12 rfl (lv_at hl 0 rfl) ?_
    refine gfX12_103 hx hb hts hown hK hP 0 rfl rfl dX12_isHungers_13 ?_
    refine lv_isub hx hb dX12_isHungers_16 ?_
    refine lv_bipush (v := (7 : Int32)) hx hb dX12_isHungers_17 (by decide) ?_
    refine xicmp_ne hx hb 129 dX12_isHungers_19 (by decide) hf (fun hf => ?_) (fun hf => ?_)
    · refine lv_aload_n hx hb dX12_isHungers_22 rfl (lv_at hl 0 rfl) ?_
      refine lv_aload_n hx hb dX12_isHungers_23 rfl (lv_at hl 0 rfl) ?_
      refine gfX12_103 hx hb hts hown hK hP 0 rfl rfl dX12_isHungers_24 ?_
      obtain ⟨r27, hg27, hf⟩ := ob1_some hf
      refine mcV1_i (As := [.int v_place]) (rest := []) hx hb hml hown hts hK hP hD hS hA (k_X12_byteAt l N D cI cJ cZ cB cT h q v_a v_image v_texts v_tape v_taped v_fault v_faultPlace v_at v_place v_token v_number v_word v_text0 v_written v_sort0 v_pile v_piled v_opens v_isWhole v_once v_named v_values v_truth v_isWritten v_died v_aside v_likely v_safe v_headOf v_place r27 hg27) (kwX12_99 hts rfl rfl ⟨Nat.le_of_ble_eq_true rfl, Nat.le_of_ble_eq_true rfl⟩) 0 rfl rfl rfl rfl hl.1 rfl (Nat.le_of_ble_eq_true rfl) dX12_isHungers_27 ⟨Nat.zero_le _, Nat.zero_le _⟩ (fun hB27 H locs hP hD hS => ?_)
      have hP : va_P D vwCl (WM h q cI cJ cZ v_a v_image v_texts v_tape v_taped v_fault v_faultPlace v_at v_place v_token v_number v_word v_text0 v_written v_sort0 v_pile v_piled v_opens v_isWhole v_once v_named v_values v_truth v_isWritten v_died v_aside v_likely v_safe v_headOf) H := hP
      have hD : va_D A (WM h q cI cJ cZ v_a v_image v_texts v_tape v_taped v_fault v_faultPlace v_at v_place v_token v_number v_word v_text0 v_written v_sort0 v_pile v_piled v_opens v_isWhole v_once v_named v_values v_truth v_isWritten v_died v_aside v_likely v_safe v_headOf) := hD
      refine lv_aload_n hx hb dX12_isHungers_30 rfl (lv_at hl 0 rfl) ?_
      refine lv_aload_n hx hb dX12_isHungers_31 rfl (lv_at hl 0 rfl) ?_
      refine gfX12_103 hx hb hts hown hK hP 0 rfl rfl dX12_isHungers_32 ?_
      refine lv_iconst (v := (1 : Int32)) hx hb dX12_isHungers_35 (by decide) ?_
      refine lv_iadd hx hb dX12_isHungers_36 ?_
      obtain ⟨r37, hg37, hf⟩ := ob1_some hf
      refine mcV1_i (As := [.int (v_place + (1 : Int32))]) (rest := [.int r27]) hx hb hml hown hts hK hP hD hS hA (k_X12_byteAt l N D cI cJ cZ cB cT h q v_a v_image v_texts v_tape v_taped v_fault v_faultPlace v_at v_place v_token v_number v_word v_text0 v_written v_sort0 v_pile v_piled v_opens v_isWhole v_once v_named v_values v_truth v_isWritten v_died v_aside v_likely v_safe v_headOf (v_place + (1 : Int32)) r37 hg37) (kwX12_99 hts rfl rfl ⟨Nat.le_of_ble_eq_true rfl, Nat.le_of_ble_eq_true rfl⟩) 0 rfl rfl rfl rfl hl.1 rfl (Nat.le_of_ble_eq_true rfl) dX12_isHungers_37 ⟨Nat.zero_le _, Nat.zero_le _⟩ (fun hB37 H locs hP hD hS => ?_)
      have hP : va_P D vwCl (WM h q cI cJ cZ v_a v_image v_texts v_tape v_taped v_fault v_faultPlace v_at v_place v_token v_number v_word v_text0 v_written v_sort0 v_pile v_piled v_opens v_isWhole v_once v_named v_values v_truth v_isWritten v_died v_aside v_likely v_safe v_headOf) H := hP
      have hD : va_D A (WM h q cI cJ cZ v_a v_image v_texts v_tape v_taped v_fault v_faultPlace v_at v_place v_token v_number v_word v_text0 v_written v_sort0 v_pile v_piled v_opens v_isWhole v_once v_named v_values v_truth v_isWritten v_died v_aside v_likely v_safe v_headOf) := hD
      refine lv_aload_n hx hb dX12_isHungers_40 rfl (lv_at hl 0 rfl) ?_
      refine lv_aload_n hx hb dX12_isHungers_41 rfl (lv_at hl 0 rfl) ?_
      refine gfX12_103 hx hb hts hown hK hP 0 rfl rfl dX12_isHungers_42 ?_
      refine lv_iconst (v := (2 : Int32)) hx hb dX12_isHungers_45 (by decide) ?_
      refine lv_iadd hx hb dX12_isHungers_46 ?_
      obtain ⟨r47, hg47, hf⟩ := ob1_some hf
      refine mcV1_i (As := [.int (v_place + (2 : Int32))]) (rest := [.int r37, .int r27]) hx hb hml hown hts hK hP hD hS hA (k_X12_byteAt l N D cI cJ cZ cB cT h q v_a v_image v_texts v_tape v_taped v_fault v_faultPlace v_at v_place v_token v_number v_word v_text0 v_written v_sort0 v_pile v_piled v_opens v_isWhole v_once v_named v_values v_truth v_isWritten v_died v_aside v_likely v_safe v_headOf (v_place + (2 : Int32)) r47 hg47) (kwX12_99 hts rfl rfl ⟨Nat.le_of_ble_eq_true rfl, Nat.le_of_ble_eq_true rfl⟩) 0 rfl rfl rfl rfl hl.1 rfl (Nat.le_of_ble_eq_true rfl) dX12_isHungers_47 ⟨Nat.zero_le _, Nat.zero_le _⟩ (fun hB47 H locs hP hD hS => ?_)
      have hP : va_P D vwCl (WM h q cI cJ cZ v_a v_image v_texts v_tape v_taped v_fault v_faultPlace v_at v_place v_token v_number v_word v_text0 v_written v_sort0 v_pile v_piled v_opens v_isWhole v_once v_named v_values v_truth v_isWritten v_died v_aside v_likely v_safe v_headOf) H := hP
      have hD : va_D A (WM h q cI cJ cZ v_a v_image v_texts v_tape v_taped v_fault v_faultPlace v_at v_place v_token v_number v_word v_text0 v_written v_sort0 v_pile v_piled v_opens v_isWhole v_once v_named v_values v_truth v_isWritten v_died v_aside v_likely v_safe v_headOf) := hD
      refine lv_aload_n hx hb dX12_isHungers_50 rfl (lv_at hl 0 rfl) ?_
      refine lv_aload_n hx hb dX12_isHungers_51 rfl (lv_at hl 0 rfl) ?_
      refine gfX12_103 hx hb hts hown hK hP 0 rfl rfl dX12_isHungers_52 ?_
      refine lv_iconst (v := (3 : Int32)) hx hb dX12_isHungers_55 (by decide) ?_
      refine lv_iadd hx hb dX12_isHungers_56 ?_
      obtain ⟨r57, hg57, hf⟩ := ob1_some hf
      refine mcV1_i (As := [.int (v_place + (3 : Int32))]) (rest := [.int r47, .int r37, .int r27]) hx hb hml hown hts hK hP hD hS hA (k_X12_byteAt l N D cI cJ cZ cB cT h q v_a v_image v_texts v_tape v_taped v_fault v_faultPlace v_at v_place v_token v_number v_word v_text0 v_written v_sort0 v_pile v_piled v_opens v_isWhole v_once v_named v_values v_truth v_isWritten v_died v_aside v_likely v_safe v_headOf (v_place + (3 : Int32)) r57 hg57) (kwX12_99 hts rfl rfl ⟨Nat.le_of_ble_eq_true rfl, Nat.le_of_ble_eq_true rfl⟩) 0 rfl rfl rfl rfl hl.1 rfl (Nat.le_of_ble_eq_true rfl) dX12_isHungers_57 ⟨Nat.zero_le _, Nat.zero_le _⟩ (fun hB57 H locs hP hD hS => ?_)
      have hP : va_P D vwCl (WM h q cI cJ cZ v_a v_image v_texts v_tape v_taped v_fault v_faultPlace v_at v_place v_token v_number v_word v_text0 v_written v_sort0 v_pile v_piled v_opens v_isWhole v_once v_named v_values v_truth v_isWritten v_died v_aside v_likely v_safe v_headOf) H := hP
      have hD : va_D A (WM h q cI cJ cZ v_a v_image v_texts v_tape v_taped v_fault v_faultPlace v_at v_place v_token v_number v_word v_text0 v_written v_sort0 v_pile v_piled v_opens v_isWhole v_once v_named v_values v_truth v_isWritten v_died v_aside v_likely v_safe v_headOf) := hD
      obtain ⟨r60, hg60, hf⟩ := ob1_some hf
      refine mcS0_l (As := [.int r27, .int r37, .int r47, .int r57]) (rest := []) hx hb hml hown hts hK hP hD hS hA (k_X12_w4 l N D cI cJ cZ cB cT r27 r37 r47 r57 r60 hg60) (kwX12_136 hts rfl rfl ⟨Nat.le_of_ble_eq_true rfl, Nat.le_of_ble_eq_true rfl⟩) rfl hl.1 rfl (Nat.le_of_ble_eq_true rfl) dX12_isHungers_60 ⟨Nat.zero_le _, Nat.zero_le _⟩ (fun H locs hP hD hS => ?_)
      refine lv_bipush (v := (104 : Int32)) hx hb dX12_isHungers_63 (by decide) ?_
      refine lv_bipush (v := (117 : Int32)) hx hb dX12_isHungers_65 (by decide) ?_
      refine lv_bipush (v := (110 : Int32)) hx hb dX12_isHungers_67 (by decide) ?_
      refine lv_bipush (v := (103 : Int32)) hx hb dX12_isHungers_69 (by decide) ?_
      obtain ⟨r71, hg71, hf⟩ := ob1_some hf
      refine mcS0_l (As := [.int (104 : Int32), .int (117 : Int32), .int (110 : Int32), .int (103 : Int32)]) (rest := [.long r60]) hx hb hml hown hts hK hP hD hS hA (k_X12_w4 l N D cI cJ cZ cB cT (104 : Int32) (117 : Int32) (110 : Int32) (103 : Int32) r71 hg71) (kwX12_136 hts rfl rfl ⟨Nat.le_of_ble_eq_true rfl, Nat.le_of_ble_eq_true rfl⟩) rfl hl.1 rfl (Nat.le_of_ble_eq_true rfl) dX12_isHungers_71 ⟨Nat.zero_le _, Nat.zero_le _⟩ (fun H locs hP hD hS => ?_)
      refine W.lcmp hx hb dX12_isHungers_74 ?_
      refine xif_ne hx hb 129 dX12_isHungers_75 (by decide) hf (fun hf => ?_) (fun hf => ?_)
      · refine lv_aload_n hx hb dX12_isHungers_78 rfl (lv_at hl 0 rfl) ?_
        refine lv_aload_n hx hb dX12_isHungers_79 rfl (lv_at hl 0 rfl) ?_
        refine gfX12_103 hx hb hts hown hK hP 0 rfl rfl dX12_isHungers_80 ?_
        refine lv_iconst (v := (4 : Int32)) hx hb dX12_isHungers_83 (by decide) ?_
        refine lv_iadd hx hb dX12_isHungers_84 ?_
        obtain ⟨r85, hg85, hf⟩ := ob1_some hf
        refine mcV1_i (As := [.int (v_place + (4 : Int32))]) (rest := []) hx hb hml hown hts hK hP hD hS hA (k_X12_byteAt l N D cI cJ cZ cB cT h q v_a v_image v_texts v_tape v_taped v_fault v_faultPlace v_at v_place v_token v_number v_word v_text0 v_written v_sort0 v_pile v_piled v_opens v_isWhole v_once v_named v_values v_truth v_isWritten v_died v_aside v_likely v_safe v_headOf (v_place + (4 : Int32)) r85 hg85) (kwX12_99 hts rfl rfl ⟨Nat.le_of_ble_eq_true rfl, Nat.le_of_ble_eq_true rfl⟩) 0 rfl rfl rfl rfl hl.1 rfl (Nat.le_of_ble_eq_true rfl) dX12_isHungers_85 ⟨Nat.zero_le _, Nat.zero_le _⟩ (fun hB85 H locs hP hD hS => ?_)
        have hP : va_P D vwCl (WM h q cI cJ cZ v_a v_image v_texts v_tape v_taped v_fault v_faultPlace v_at v_place v_token v_number v_word v_text0 v_written v_sort0 v_pile v_piled v_opens v_isWhole v_once v_named v_values v_truth v_isWritten v_died v_aside v_likely v_safe v_headOf) H := hP
        have hD : va_D A (WM h q cI cJ cZ v_a v_image v_texts v_tape v_taped v_fault v_faultPlace v_at v_place v_token v_number v_word v_text0 v_written v_sort0 v_pile v_piled v_opens v_isWhole v_once v_named v_values v_truth v_isWritten v_died v_aside v_likely v_safe v_headOf) := hD
        refine lv_aload_n hx hb dX12_isHungers_88 rfl (lv_at hl 0 rfl) ?_
        refine lv_aload_n hx hb dX12_isHungers_89 rfl (lv_at hl 0 rfl) ?_
        refine gfX12_103 hx hb hts hown hK hP 0 rfl rfl dX12_isHungers_90 ?_
        refine lv_iconst (v := (5 : Int32)) hx hb dX12_isHungers_93 (by decide) ?_
        refine lv_iadd hx hb dX12_isHungers_94 ?_
        obtain ⟨r95, hg95, hf⟩ := ob1_some hf
        refine mcV1_i (As := [.int (v_place + (5 : Int32))]) (rest := [.int r85]) hx hb hml hown hts hK hP hD hS hA (k_X12_byteAt l N D cI cJ cZ cB cT h q v_a v_image v_texts v_tape v_taped v_fault v_faultPlace v_at v_place v_token v_number v_word v_text0 v_written v_sort0 v_pile v_piled v_opens v_isWhole v_once v_named v_values v_truth v_isWritten v_died v_aside v_likely v_safe v_headOf (v_place + (5 : Int32)) r95 hg95) (kwX12_99 hts rfl rfl ⟨Nat.le_of_ble_eq_true rfl, Nat.le_of_ble_eq_true rfl⟩) 0 rfl rfl rfl rfl hl.1 rfl (Nat.le_of_ble_eq_true rfl) dX12_isHungers_95 ⟨Nat.zero_le _, Nat.zero_le _⟩ (fun hB95 H locs hP hD hS => ?_)
        have hP : va_P D vwCl (WM h q cI cJ cZ v_a v_image v_texts v_tape v_taped v_fault v_faultPlace v_at v_place v_token v_number v_word v_text0 v_written v_sort0 v_pile v_piled v_opens v_isWhole v_once v_named v_values v_truth v_isWritten v_died v_aside v_likely v_safe v_headOf) H := hP
        have hD : va_D A (WM h q cI cJ cZ v_a v_image v_texts v_tape v_taped v_fault v_faultPlace v_at v_place v_token v_number v_word v_text0 v_written v_sort0 v_pile v_piled v_opens v_isWhole v_once v_named v_values v_truth v_isWritten v_died v_aside v_likely v_safe v_headOf) := hD
        refine lv_aload_n hx hb dX12_isHungers_98 rfl (lv_at hl 0 rfl) ?_
        refine lv_aload_n hx hb dX12_isHungers_99 rfl (lv_at hl 0 rfl) ?_
        refine gfX12_103 hx hb hts hown hK hP 0 rfl rfl dX12_isHungers_100 ?_
        refine lv_bipush (v := (6 : Int32)) hx hb dX12_isHungers_103 (by decide) ?_
        refine lv_iadd hx hb dX12_isHungers_105 ?_
        obtain ⟨r106, hg106, hf⟩ := ob1_some hf
        refine mcV1_i (As := [.int (v_place + (6 : Int32))]) (rest := [.int r95, .int r85]) hx hb hml hown hts hK hP hD hS hA (k_X12_byteAt l N D cI cJ cZ cB cT h q v_a v_image v_texts v_tape v_taped v_fault v_faultPlace v_at v_place v_token v_number v_word v_text0 v_written v_sort0 v_pile v_piled v_opens v_isWhole v_once v_named v_values v_truth v_isWritten v_died v_aside v_likely v_safe v_headOf (v_place + (6 : Int32)) r106 hg106) (kwX12_99 hts rfl rfl ⟨Nat.le_of_ble_eq_true rfl, Nat.le_of_ble_eq_true rfl⟩) 0 rfl rfl rfl rfl hl.1 rfl (Nat.le_of_ble_eq_true rfl) dX12_isHungers_106 ⟨Nat.zero_le _, Nat.zero_le _⟩ (fun hB106 H locs hP hD hS => ?_)
        have hP : va_P D vwCl (WM h q cI cJ cZ v_a v_image v_texts v_tape v_taped v_fault v_faultPlace v_at v_place v_token v_number v_word v_text0 v_written v_sort0 v_pile v_piled v_opens v_isWhole v_once v_named v_values v_truth v_isWritten v_died v_aside v_likely v_safe v_headOf) H := hP
        have hD : va_D A (WM h q cI cJ cZ v_a v_image v_texts v_tape v_taped v_fault v_faultPlace v_at v_place v_token v_number v_word v_text0 v_written v_sort0 v_pile v_piled v_opens v_isWhole v_once v_named v_values v_truth v_isWritten v_died v_aside v_likely v_safe v_headOf) := hD
        obtain ⟨r109, hg109, hf⟩ := ob1_some hf
        refine mcS0_l (As := [.int r85, .int r95, .int r106]) (rest := []) hx hb hml hown hts hK hP hD hS hA (k_X12_w3 l N D cI cJ cZ cB cT r85 r95 r106 r109 hg109) (kwX12_132 hts rfl rfl ⟨Nat.le_of_ble_eq_true rfl, Nat.le_of_ble_eq_true rfl⟩) rfl hl.1 rfl (Nat.le_of_ble_eq_true rfl) dX12_isHungers_109 ⟨Nat.zero_le _, Nat.zero_le _⟩ (fun H locs hP hD hS => ?_)
        refine lv_bipush (v := (101 : Int32)) hx hb dX12_isHungers_112 (by decide) ?_
        refine lv_bipush (v := (114 : Int32)) hx hb dX12_isHungers_114 (by decide) ?_
        refine lv_bipush (v := (115 : Int32)) hx hb dX12_isHungers_116 (by decide) ?_
        obtain ⟨r118, hg118, hf⟩ := ob1_some hf
        refine mcS0_l (As := [.int (101 : Int32), .int (114 : Int32), .int (115 : Int32)]) (rest := [.long r109]) hx hb hml hown hts hK hP hD hS hA (k_X12_w3 l N D cI cJ cZ cB cT (101 : Int32) (114 : Int32) (115 : Int32) r118 hg118) (kwX12_132 hts rfl rfl ⟨Nat.le_of_ble_eq_true rfl, Nat.le_of_ble_eq_true rfl⟩) rfl hl.1 rfl (Nat.le_of_ble_eq_true rfl) dX12_isHungers_118 ⟨Nat.zero_le _, Nat.zero_le _⟩ (fun H locs hP hD hS => ?_)
        refine W.lcmp hx hb dX12_isHungers_121 ?_
        refine xif_ne hx hb 129 dX12_isHungers_122 (by decide) hf (fun hf => ?_) (fun hf => ?_)
        · refine lv_iconst (v := (1 : Int32)) hx hb dX12_isHungers_125 (by decide) ?_
          refine lv_goto (tgt := 130) hx hb dX12_isHungers_126 (by decide) ?_
          cases hf
          exact mret_z hx hb hr hlocks hP hD hS dX12_isHungers_130 rfl rfl
        · refine lv_iconst (v := (0 : Int32)) hx hb dX12_isHungers_129 (by decide) ?_
          cases hf
          exact mret_z hx hb hr hlocks hP hD hS dX12_isHungers_130 rfl rfl
      · refine lv_iconst (v := (0 : Int32)) hx hb dX12_isHungers_129 (by decide) ?_
        cases hf
        exact mret_z hx hb hr hlocks hP hD hS dX12_isHungers_130 rfl rfl
    · refine lv_iconst (v := (0 : Int32)) hx hb dX12_isHungers_129 (by decide) ?_
      cases hf
      exact mret_z hx hb hr hlocks hP hD hS dX12_isHungers_130 rfl rfl
  · refine lv_iconst (v := (0 : Int32)) hx hb dX12_isHungers_129 (by decide) ?_
    cases hf
    exact mret_z hx hb hr hlocks hP hD hS dX12_isHungers_130 rfl rfl
theorem dX12_sortOf_0 : decode cX12_sortOf 0 = .ok (.aload_n 0, 1) := by decide +kernel
theorem dX12_sortOf_1 : decode cX12_sortOf 1 = .ok (.invokevirtual 242, 3) := by decide +kernel
theorem dX12_sortOf_4 : decode cX12_sortOf 4 = .ok (.ifCond .eq 5, 3) := by decide +kernel
theorem dX12_sortOf_7 : decode cX12_sortOf 7 = .ok (.iconst 0, 1) := by decide +kernel
theorem dX12_sortOf_8 : decode cX12_sortOf 8 = .ok (.ireturn, 1) := by decide +kernel
theorem dX12_sortOf_9 : decode cX12_sortOf 9 = .ok (.aload_n 0, 1) := by decide +kernel
theorem dX12_sortOf_10 : decode cX12_sortOf 10 = .ok (.bipush 102, 2) := by decide +kernel
theorem dX12_sortOf_12 : decode cX12_sortOf 12 = .ok (.bipush 105, 2) := by decide +kernel
theorem dX12_sortOf_14 : decode cX12_sortOf 14 = .ok (.bipush 110, 2) := by decide +kernel
theorem dX12_sortOf_16 : decode cX12_sortOf 16 = .ok (.bipush 100, 2) := by decide +kernel
theorem dX12_sortOf_18 : decode cX12_sortOf 18 = .ok (.bipush 115, 2) := by decide +kernel
theorem dX12_sortOf_20 : decode cX12_sortOf 20 = .ok (.invokestatic 140, 3) := by decide +kernel
theorem dX12_sortOf_23 : decode cX12_sortOf 23 = .ok (.invokevirtual 195, 3) := by decide +kernel
theorem dX12_sortOf_26 : decode cX12_sortOf 26 = .ok (.ifCond .eq 5, 3) := by decide +kernel
theorem dX12_sortOf_29 : decode cX12_sortOf 29 = .ok (.iconst 1, 1) := by decide +kernel
theorem dX12_sortOf_30 : decode cX12_sortOf 30 = .ok (.ireturn, 1) := by decide +kernel
theorem dX12_sortOf_31 : decode cX12_sortOf 31 = .ok (.aload_n 0, 1) := by decide +kernel
theorem dX12_sortOf_32 : decode cX12_sortOf 32 = .ok (.bipush 112, 2) := by decide +kernel
theorem dX12_sortOf_34 : decode cX12_sortOf 34 = .ok (.bipush 114, 2) := by decide +kernel
theorem dX12_sortOf_36 : decode cX12_sortOf 36 = .ok (.bipush 105, 2) := by decide +kernel
theorem dX12_sortOf_38 : decode cX12_sortOf 38 = .ok (.bipush 99, 2) := by decide +kernel
theorem dX12_sortOf_40 : decode cX12_sortOf 40 = .ok (.bipush 101, 2) := by decide +kernel
theorem dX12_sortOf_42 : decode cX12_sortOf 42 = .ok (.invokestatic 140, 3) := by decide +kernel
theorem dX12_sortOf_45 : decode cX12_sortOf 45 = .ok (.invokevirtual 195, 3) := by decide +kernel
theorem dX12_sortOf_48 : decode cX12_sortOf 48 = .ok (.ifCond .eq 5, 3) := by decide +kernel
theorem dX12_sortOf_51 : decode cX12_sortOf 51 = .ok (.iconst 2, 1) := by decide +kernel
theorem dX12_sortOf_52 : decode cX12_sortOf 52 = .ok (.ireturn, 1) := by decide +kernel
theorem dX12_sortOf_53 : decode cX12_sortOf 53 = .ok (.aload_n 0, 1) := by decide +kernel
theorem dX12_sortOf_54 : decode cX12_sortOf 54 = .ok (.bipush 101, 2) := by decide +kernel
theorem dX12_sortOf_56 : decode cX12_sortOf 56 = .ok (.bipush 97, 2) := by decide +kernel
theorem dX12_sortOf_58 : decode cX12_sortOf 58 = .ok (.bipush 114, 2) := by decide +kernel
theorem dX12_sortOf_60 : decode cX12_sortOf 60 = .ok (.bipush 110, 2) := by decide +kernel
theorem dX12_sortOf_62 : decode cX12_sortOf 62 = .ok (.bipush 115, 2) := by decide +kernel
theorem dX12_sortOf_64 : decode cX12_sortOf 64 = .ok (.invokestatic 140, 3) := by decide +kernel
theorem dX12_sortOf_67 : decode cX12_sortOf 67 = .ok (.invokevirtual 195, 3) := by decide +kernel
theorem dX12_sortOf_70 : decode cX12_sortOf 70 = .ok (.ifCond .eq 5, 3) := by decide +kernel
theorem dX12_sortOf_73 : decode cX12_sortOf 73 = .ok (.iconst 3, 1) := by decide +kernel
theorem dX12_sortOf_74 : decode cX12_sortOf 74 = .ok (.ireturn, 1) := by decide +kernel
theorem dX12_sortOf_75 : decode cX12_sortOf 75 = .ok (.aload_n 0, 1) := by decide +kernel
theorem dX12_sortOf_76 : decode cX12_sortOf 76 = .ok (.bipush 108, 2) := by decide +kernel
theorem dX12_sortOf_78 : decode cX12_sortOf 78 = .ok (.bipush 97, 2) := by decide +kernel
theorem dX12_sortOf_80 : decode cX12_sortOf 80 = .ok (.bipush 110, 2) := by decide +kernel
theorem dX12_sortOf_82 : decode cX12_sortOf 82 = .ok (.bipush 100, 2) := by decide +kernel
theorem dX12_sortOf_84 : decode cX12_sortOf 84 = .ok (.invokestatic 136, 3) := by decide +kernel
theorem dX12_sortOf_87 : decode cX12_sortOf 87 = .ok (.invokevirtual 195, 3) := by decide +kernel
theorem dX12_sortOf_90 : decode cX12_sortOf 90 = .ok (.ifCond .eq 5, 3) := by decide +kernel
theorem dX12_sortOf_93 : decode cX12_sortOf 93 = .ok (.iconst 4, 1) := by decide +kernel
theorem dX12_sortOf_94 : decode cX12_sortOf 94 = .ok (.ireturn, 1) := by decide +kernel
theorem dX12_sortOf_95 : decode cX12_sortOf 95 = .ok (.aload_n 0, 1) := by decide +kernel
theorem dX12_sortOf_96 : decode cX12_sortOf 96 = .ok (.bipush 114, 2) := by decide +kernel
theorem dX12_sortOf_98 : decode cX12_sortOf 98 = .ok (.bipush 111, 2) := by decide +kernel
theorem dX12_sortOf_100 : decode cX12_sortOf 100 = .ok (.bipush 97, 2) := by decide +kernel
theorem dX12_sortOf_102 : decode cX12_sortOf 102 = .ok (.bipush 100, 2) := by decide +kernel
theorem dX12_sortOf_104 : decode cX12_sortOf 104 = .ok (.invokestatic 136, 3) := by decide +kernel
theorem dX12_sortOf_107 : decode cX12_sortOf 107 = .ok (.invokevirtual 195, 3) := by decide +kernel
theorem dX12_sortOf_110 : decode cX12_sortOf 110 = .ok (.ifCond .eq 5, 3) := by decide +kernel
theorem dX12_sortOf_113 : decode cX12_sortOf 113 = .ok (.iconst 5, 1) := by decide +kernel
theorem dX12_sortOf_114 : decode cX12_sortOf 114 = .ok (.ireturn, 1) := by decide +kernel
theorem dX12_sortOf_115 : decode cX12_sortOf 115 = .ok (.aload_n 0, 1) := by decide +kernel
theorem dX12_sortOf_116 : decode cX12_sortOf 116 = .ok (.bipush 112, 2) := by decide +kernel
theorem dX12_sortOf_118 : decode cX12_sortOf 118 = .ok (.bipush 101, 2) := by decide +kernel
theorem dX12_sortOf_120 : decode cX12_sortOf 120 = .ok (.bipush 114, 2) := by decide +kernel
theorem dX12_sortOf_122 : decode cX12_sortOf 122 = .ok (.bipush 115, 2) := by decide +kernel
theorem dX12_sortOf_124 : decode cX12_sortOf 124 = .ok (.bipush 111, 2) := by decide +kernel
theorem dX12_sortOf_126 : decode cX12_sortOf 126 = .ok (.bipush 110, 2) := by decide +kernel
theorem dX12_sortOf_128 : decode cX12_sortOf 128 = .ok (.invokestatic 150, 3) := by decide +kernel
theorem dX12_sortOf_131 : decode cX12_sortOf 131 = .ok (.invokevirtual 195, 3) := by decide +kernel
theorem dX12_sortOf_134 : decode cX12_sortOf 134 = .ok (.ifCond .eq 6, 3) := by decide +kernel
theorem dX12_sortOf_137 : decode cX12_sortOf 137 = .ok (.bipush 6, 2) := by decide +kernel
theorem dX12_sortOf_139 : decode cX12_sortOf 139 = .ok (.ireturn, 1) := by decide +kernel
theorem dX12_sortOf_140 : decode cX12_sortOf 140 = .ok (.aload_n 0, 1) := by decide +kernel
theorem dX12_sortOf_141 : decode cX12_sortOf 141 = .ok (.bipush 99, 2) := by decide +kernel
theorem dX12_sortOf_143 : decode cX12_sortOf 143 = .ok (.bipush 97, 2) := by decide +kernel
theorem dX12_sortOf_145 : decode cX12_sortOf 145 = .ok (.bipush 108, 2) := by decide +kernel
theorem dX12_sortOf_147 : decode cX12_sortOf 147 = .ok (.bipush 108, 2) := by decide +kernel
theorem dX12_sortOf_149 : decode cX12_sortOf 149 = .ok (.invokestatic 136, 3) := by decide +kernel
theorem dX12_sortOf_152 : decode cX12_sortOf 152 = .ok (.invokevirtual 195, 3) := by decide +kernel
theorem dX12_sortOf_155 : decode cX12_sortOf 155 = .ok (.ifCond .eq 6, 3) := by decide +kernel
theorem dX12_sortOf_158 : decode cX12_sortOf 158 = .ok (.bipush 7, 2) := by decide +kernel
theorem dX12_sortOf_160 : decode cX12_sortOf 160 = .ok (.ireturn, 1) := by decide +kernel
theorem dX12_sortOf_161 : decode cX12_sortOf 161 = .ok (.aload_n 0, 1) := by decide +kernel
theorem dX12_sortOf_162 : decode cX12_sortOf 162 = .ok (.bipush 109, 2) := by decide +kernel
theorem dX12_sortOf_164 : decode cX12_sortOf 164 = .ok (.bipush 111, 2) := by decide +kernel
theorem dX12_sortOf_166 : decode cX12_sortOf 166 = .ok (.bipush 118, 2) := by decide +kernel
theorem dX12_sortOf_168 : decode cX12_sortOf 168 = .ok (.bipush 101, 2) := by decide +kernel
theorem dX12_sortOf_170 : decode cX12_sortOf 170 = .ok (.invokestatic 136, 3) := by decide +kernel
theorem dX12_sortOf_173 : decode cX12_sortOf 173 = .ok (.invokevirtual 195, 3) := by decide +kernel
theorem dX12_sortOf_176 : decode cX12_sortOf 176 = .ok (.ifCond .eq 6, 3) := by decide +kernel
theorem dX12_sortOf_179 : decode cX12_sortOf 179 = .ok (.bipush 8, 2) := by decide +kernel
theorem dX12_sortOf_181 : decode cX12_sortOf 181 = .ok (.ireturn, 1) := by decide +kernel
theorem dX12_sortOf_182 : decode cX12_sortOf 182 = .ok (.aload_n 0, 1) := by decide +kernel
theorem dX12_sortOf_183 : decode cX12_sortOf 183 = .ok (.bipush 102, 2) := by decide +kernel
theorem dX12_sortOf_185 : decode cX12_sortOf 185 = .ok (.bipush 101, 2) := by decide +kernel
theorem dX12_sortOf_187 : decode cX12_sortOf 187 = .ok (.bipush 101, 2) := by decide +kernel
theorem dX12_sortOf_189 : decode cX12_sortOf 189 = .ok (.bipush 100, 2) := by decide +kernel
theorem dX12_sortOf_191 : decode cX12_sortOf 191 = .ok (.invokestatic 136, 3) := by decide +kernel
theorem dX12_sortOf_194 : decode cX12_sortOf 194 = .ok (.invokevirtual 195, 3) := by decide +kernel
theorem dX12_sortOf_197 : decode cX12_sortOf 197 = .ok (.ifCond .eq 6, 3) := by decide +kernel
theorem dX12_sortOf_200 : decode cX12_sortOf 200 = .ok (.bipush 9, 2) := by decide +kernel
theorem dX12_sortOf_202 : decode cX12_sortOf 202 = .ok (.ireturn, 1) := by decide +kernel
theorem dX12_sortOf_203 : decode cX12_sortOf 203 = .ok (.aload_n 0, 1) := by decide +kernel
theorem dX12_sortOf_204 : decode cX12_sortOf 204 = .ok (.bipush 107, 2) := by decide +kernel
theorem dX12_sortOf_206 : decode cX12_sortOf 206 = .ok (.bipush 105, 2) := by decide +kernel
theorem dX12_sortOf_208 : decode cX12_sortOf 208 = .ok (.bipush 108, 2) := by decide +kernel
theorem dX12_sortOf_210 : decode cX12_sortOf 210 = .ok (.bipush 108, 2) := by decide +kernel
theorem dX12_sortOf_212 : decode cX12_sortOf 212 = .ok (.invokestatic 136, 3) := by decide +kernel
theorem dX12_sortOf_215 : decode cX12_sortOf 215 = .ok (.invokevirtual 195, 3) := by decide +kernel
theorem dX12_sortOf_218 : decode cX12_sortOf 218 = .ok (.ifCond .eq 6, 3) := by decide +kernel
theorem dX12_sortOf_221 : decode cX12_sortOf 221 = .ok (.bipush 10, 2) := by decide +kernel
theorem dX12_sortOf_223 : decode cX12_sortOf 223 = .ok (.ireturn, 1) := by decide +kernel
theorem dX12_sortOf_224 : decode cX12_sortOf 224 = .ok (.aload_n 0, 1) := by decide +kernel
theorem dX12_sortOf_225 : decode cX12_sortOf 225 = .ok (.bipush 112, 2) := by decide +kernel
theorem dX12_sortOf_227 : decode cX12_sortOf 227 = .ok (.bipush 97, 2) := by decide +kernel
theorem dX12_sortOf_229 : decode cX12_sortOf 229 = .ok (.bipush 114, 2) := by decide +kernel
theorem dX12_sortOf_231 : decode cX12_sortOf 231 = .ok (.bipush 100, 2) := by decide +kernel
theorem dX12_sortOf_233 : decode cX12_sortOf 233 = .ok (.bipush 111, 2) := by decide +kernel
theorem dX12_sortOf_235 : decode cX12_sortOf 235 = .ok (.bipush 110, 2) := by decide +kernel
theorem dX12_sortOf_237 : decode cX12_sortOf 237 = .ok (.invokestatic 150, 3) := by decide +kernel
theorem dX12_sortOf_240 : decode cX12_sortOf 240 = .ok (.invokevirtual 195, 3) := by decide +kernel
theorem dX12_sortOf_243 : decode cX12_sortOf 243 = .ok (.ifCond .eq 8, 3) := by decide +kernel
theorem dX12_sortOf_246 : decode cX12_sortOf 246 = .ok (.bipush 11, 2) := by decide +kernel
theorem dX12_sortOf_248 : decode cX12_sortOf 248 = .ok (.goto 29, 3) := by decide +kernel
theorem dX12_sortOf_251 : decode cX12_sortOf 251 = .ok (.aload_n 0, 1) := by decide +kernel
theorem dX12_sortOf_252 : decode cX12_sortOf 252 = .ok (.bipush 109, 2) := by decide +kernel
theorem dX12_sortOf_254 : decode cX12_sortOf 254 = .ok (.bipush 111, 2) := by decide +kernel
theorem dX12_sortOf_256 : decode cX12_sortOf 256 = .ok (.bipush 110, 2) := by decide +kernel
theorem dX12_sortOf_258 : decode cX12_sortOf 258 = .ok (.bipush 116, 2) := by decide +kernel
theorem dX12_sortOf_260 : decode cX12_sortOf 260 = .ok (.bipush 104, 2) := by decide +kernel
theorem dX12_sortOf_262 : decode cX12_sortOf 262 = .ok (.invokestatic 140, 3) := by decide +kernel
theorem dX12_sortOf_265 : decode cX12_sortOf 265 = .ok (.invokevirtual 195, 3) := by decide +kernel
theorem dX12_sortOf_268 : decode cX12_sortOf 268 = .ok (.ifCond .eq 8, 3) := by decide +kernel
theorem dX12_sortOf_271 : decode cX12_sortOf 271 = .ok (.bipush 12, 2) := by decide +kernel
theorem dX12_sortOf_273 : decode cX12_sortOf 273 = .ok (.goto 4, 3) := by decide +kernel
theorem dX12_sortOf_276 : decode cX12_sortOf 276 = .ok (.iconst (-1), 1) := by decide +kernel
theorem dX12_sortOf_277 : decode cX12_sortOf 277 = .ok (.ireturn, 1) := by decide +kernel
def f_X12_sortOf (N : Nat) (v_tape : Nat → Int32) (v_taped : Int32) (v_at : Int32) (v_place : Int32) (v_token : Int32) (v_word : Int64) : Option (Int32) := ob1 (f_X12_isHungers N v_tape v_taped v_at v_place v_token) fun r1 => if r1 = 0 then (ob1 (f_X12_w5 N (102 : Int32) (105 : Int32) (110 : Int32) (100 : Int32) (115 : Int32)) fun r20 => ob1 (f_X12_isWord N v_token v_word r20) fun r23 => if r23 = 0 then (ob1 (f_X12_w5 N (112 : Int32) (114 : Int32) (105 : Int32) (99 : Int32) (101 : Int32)) fun r42 => ob1 (f_X12_isWord N v_token v_word r42) fun r45 => if r45 = 0 then (ob1 (f_X12_w5 N (101 : Int32) (97 : Int32) (114 : Int32) (110 : Int32) (115 : Int32)) fun r64 => ob1 (f_X12_isWord N v_token v_word r64) fun r67 => if r67 = 0 then (ob1 (f_X12_w4 N (108 : Int32) (97 : Int32) (110 : Int32) (100 : Int32)) fun r84 => ob1 (f_X12_isWord N v_token v_word r84) fun r87 => if r87 = 0 then (ob1 (f_X12_w4 N (114 : Int32) (111 : Int32) (97 : Int32) (100 : Int32)) fun r104 => ob1 (f_X12_isWord N v_token v_word r104) fun r107 => if r107 = 0 then (ob1 (f_X12_w6 N (112 : Int32) (101 : Int32) (114 : Int32) (115 : Int32) (111 : Int32) (110 : Int32)) fun r128 => ob1 (f_X12_isWord N v_token v_word r128) fun r131 => if r131 = 0 then (ob1 (f_X12_w4 N (99 : Int32) (97 : Int32) (108 : Int32) (108 : Int32)) fun r149 => ob1 (f_X12_isWord N v_token v_word r149) fun r152 => if r152 = 0 then (ob1 (f_X12_w4 N (109 : Int32) (111 : Int32) (118 : Int32) (101 : Int32)) fun r170 => ob1 (f_X12_isWord N v_token v_word r170) fun r173 => if r173 = 0 then (ob1 (f_X12_w4 N (102 : Int32) (101 : Int32) (101 : Int32) (100 : Int32)) fun r191 => ob1 (f_X12_isWord N v_token v_word r191) fun r194 => if r194 = 0 then (ob1 (f_X12_w4 N (107 : Int32) (105 : Int32) (108 : Int32) (108 : Int32)) fun r212 => ob1 (f_X12_isWord N v_token v_word r212) fun r215 => if r215 = 0 then (ob1 (f_X12_w6 N (112 : Int32) (97 : Int32) (114 : Int32) (100 : Int32) (111 : Int32) (110 : Int32)) fun r237 => ob1 (f_X12_isWord N v_token v_word r237) fun r240 => if r240 = 0 then (ob1 (f_X12_w5 N (109 : Int32) (111 : Int32) (110 : Int32) (116 : Int32) (104 : Int32)) fun r262 => ob1 (f_X12_isWord N v_token v_word r262) fun r265 => if r265 = 0 then (some (-1 : Int32)) else (some (12 : Int32))) else (some (11 : Int32))) else (some (10 : Int32))) else (some (9 : Int32))) else (some (8 : Int32))) else (some (7 : Int32))) else (some (6 : Int32))) else (some (5 : Int32))) else (some (4 : Int32))) else (some (3 : Int32))) else (some (2 : Int32))) else (some (1 : Int32))) else (some (0 : Int32))
set_option maxHeartbeats 4000000 in
set_option maxRecDepth 100000 in
theorem k_X12_sortOf (l : Launch) (N : Nat) (D : va_G) (cI cJ cZ cB cT : ClassId) (h : Nat) (q : Nat → Nat) (v_a : Nat → Int32) (v_image : Nat → Int32) (v_texts : Nat → Int32) (v_tape : Nat → Int32) (v_taped : Int32) (v_fault : Int32) (v_faultPlace : Int32) (v_at : Int32) (v_place : Int32) (v_token : Int32) (v_number : Int32) (v_word : Int64) (v_text0 : Int32) (v_written : Int32) (v_sort0 : Int32) (v_pile : Nat → Int32) (v_piled : Int32) (v_opens : Int32) (v_isWhole : Int32) (v_once : Int32) (v_named : Nat → Int32) (v_values : Nat → Int64) (v_truth : Nat → Int32) (v_isWritten : Int32) (v_died : Int32) (v_aside : Nat → Int32) (v_likely : Nat → Int32) (v_safe : Nat → Int32) (v_headOf : Nat → Int32) (o_r : Int32) (hf : f_X12_sortOf N v_tape v_taped v_at v_place v_token v_word = some o_r) : ∀ sz, Met l yX12_sortOf (mw yX12_sortOf cX12_sortOf 1 (some .int)) ({ frames := 5, cells := 0, slots := 0, locals := 115 } : Room) (mPre D (mT cI cJ cZ cB cT) (WM h q cI cJ cZ v_a v_image v_texts v_tape v_taped v_fault v_faultPlace v_at v_place v_token v_number v_word v_text0 v_written v_sort0 v_pile v_piled v_opens v_isWhole v_once v_named v_values v_truth v_isWritten v_died v_aside v_likely v_safe v_headOf) sz [.ref h]) ((mQi D (WM h q cI cJ cZ v_a v_image v_texts v_tape v_taped v_fault v_faultPlace v_at v_place v_token v_number v_word v_text0 v_written v_sort0 v_pile v_piled v_opens v_isWhole v_once v_named v_values v_truth v_isWritten v_died v_aside v_likely v_safe v_headOf) o_r True) (va_A (WM h q cI cJ cZ v_a v_image v_texts v_tape v_taped v_fault v_faultPlace v_at v_place v_token v_number v_word v_text0 v_written v_sort0 v_pile v_piled v_opens v_isWhole v_once v_named v_values v_truth v_isWritten v_died v_aside v_likely v_safe v_headOf) sz)) 0 0 (va_A (WM h q cI cJ cZ v_a v_image v_texts v_tape v_taped v_fault v_faultPlace v_at v_place v_token v_number v_word v_text0 v_written v_sort0 v_pile v_piled v_opens v_isWhole v_once v_named v_values v_truth v_isWritten v_died v_aside v_likely v_safe v_headOf) sz) := by
  refine mMet (Qc := (mQi D (WM h q cI cJ cZ v_a v_image v_texts v_tape v_taped v_fault v_faultPlace v_at v_place v_token v_number v_word v_text0 v_written v_sort0 v_pile v_piled v_opens v_isWhole v_once v_named v_values v_truth v_isWritten v_died v_aside v_likely v_safe v_headOf) o_r True)) (by decide) (Nat.le_of_ble_eq_true rfl) (fun p e s m below meth c A ls hx hb hr hml hts hown hlocks hK hA hP hD hl => ?_)
  have hown : s.vm.findClass RX12 = some m.cls := hown
  have hl : lv_has ls 1 [(0, .ref h)] := hl
  have hS : va_S A s.heap s.heap [] := va_S.rf
  unfold f_X12_sortOf at hf
  refine lv_aload_n hx hb dX12_sortOf_0 rfl (lv_at hl 0 rfl) ?_
  obtain ⟨r1, hg1, hf⟩ := ob1_some hf
  refine mcV1_i (As := []) (rest := []) hx hb hml hown hts hK hP hD hS hA (k_X12_isHungers l N D cI cJ cZ cB cT h q v_a v_image v_texts v_tape v_taped v_fault v_faultPlace v_at v_place v_token v_number v_word v_text0 v_written v_sort0 v_pile v_piled v_opens v_isWhole v_once v_named v_values v_truth v_isWritten v_died v_aside v_likely v_safe v_headOf r1 hg1) (kwX12_242 hts rfl rfl ⟨Nat.le_of_ble_eq_true rfl, Nat.le_of_ble_eq_true rfl⟩) 0 rfl rfl rfl rfl hl.1 rfl (Nat.le_of_ble_eq_true rfl) dX12_sortOf_1 ⟨Nat.zero_le _, Nat.zero_le _⟩ (fun hB1 H locs hP hD hS => ?_)
  have hP : va_P D vwCl (WM h q cI cJ cZ v_a v_image v_texts v_tape v_taped v_fault v_faultPlace v_at v_place v_token v_number v_word v_text0 v_written v_sort0 v_pile v_piled v_opens v_isWhole v_once v_named v_values v_truth v_isWritten v_died v_aside v_likely v_safe v_headOf) H := hP
  have hD : va_D A (WM h q cI cJ cZ v_a v_image v_texts v_tape v_taped v_fault v_faultPlace v_at v_place v_token v_number v_word v_text0 v_written v_sort0 v_pile v_piled v_opens v_isWhole v_once v_named v_values v_truth v_isWritten v_died v_aside v_likely v_safe v_headOf) := hD
  refine xif_eq hx hb 9 dX12_sortOf_4 (by decide) hf (fun hf => ?_) (fun hf => ?_)
  · refine lv_aload_n hx hb dX12_sortOf_9 rfl (lv_at hl 0 rfl) ?_
    refine lv_bipush (v := (102 : Int32)) hx hb dX12_sortOf_10 (by decide) ?_
    refine lv_bipush (v := (105 : Int32)) hx hb dX12_sortOf_12 (by decide) ?_
    refine lv_bipush (v := (110 : Int32)) hx hb dX12_sortOf_14 (by decide) ?_
    refine lv_bipush (v := (100 : Int32)) hx hb dX12_sortOf_16 (by decide) ?_
    refine lv_bipush (v := (115 : Int32)) hx hb dX12_sortOf_18 (by decide) ?_
    obtain ⟨r20, hg20, hf⟩ := ob1_some hf
    refine mcS0_l (As := [.int (102 : Int32), .int (105 : Int32), .int (110 : Int32), .int (100 : Int32), .int (115 : Int32)]) (rest := [.ref h]) hx hb hml hown hts hK hP hD hS hA (k_X12_w5 l N D cI cJ cZ cB cT (102 : Int32) (105 : Int32) (110 : Int32) (100 : Int32) (115 : Int32) r20 hg20) (kwX12_140 hts rfl rfl ⟨Nat.le_of_ble_eq_true rfl, Nat.le_of_ble_eq_true rfl⟩) rfl hl.1 rfl (Nat.le_of_ble_eq_true rfl) dX12_sortOf_20 ⟨Nat.zero_le _, Nat.zero_le _⟩ (fun H locs hP hD hS => ?_)
    obtain ⟨r23, hg23, hf⟩ := ob1_some hf
    refine mcV1_i (As := [.long r20]) (rest := []) hx hb hml hown hts hK hP hD hS hA (k_X12_isWord l N D cI cJ cZ cB cT h q v_a v_image v_texts v_tape v_taped v_fault v_faultPlace v_at v_place v_token v_number v_word v_text0 v_written v_sort0 v_pile v_piled v_opens v_isWhole v_once v_named v_values v_truth v_isWritten v_died v_aside v_likely v_safe v_headOf r20 r23 hg23) (kwX12_195 hts rfl rfl ⟨Nat.le_of_ble_eq_true rfl, Nat.le_of_ble_eq_true rfl⟩) 0 rfl rfl rfl rfl hl.1 rfl (Nat.le_of_ble_eq_true rfl) dX12_sortOf_23 ⟨Nat.zero_le _, Nat.zero_le _⟩ (fun hB23 H locs hP hD hS => ?_)
    have hP : va_P D vwCl (WM h q cI cJ cZ v_a v_image v_texts v_tape v_taped v_fault v_faultPlace v_at v_place v_token v_number v_word v_text0 v_written v_sort0 v_pile v_piled v_opens v_isWhole v_once v_named v_values v_truth v_isWritten v_died v_aside v_likely v_safe v_headOf) H := hP
    have hD : va_D A (WM h q cI cJ cZ v_a v_image v_texts v_tape v_taped v_fault v_faultPlace v_at v_place v_token v_number v_word v_text0 v_written v_sort0 v_pile v_piled v_opens v_isWhole v_once v_named v_values v_truth v_isWritten v_died v_aside v_likely v_safe v_headOf) := hD
    refine xif_eq hx hb 31 dX12_sortOf_26 (by decide) hf (fun hf => ?_) (fun hf => ?_)
    · refine lv_aload_n hx hb dX12_sortOf_31 rfl (lv_at hl 0 rfl) ?_
      refine lv_bipush (v := (112 : Int32)) hx hb dX12_sortOf_32 (by decide) ?_
      refine lv_bipush (v := (114 : Int32)) hx hb dX12_sortOf_34 (by decide) ?_
      refine lv_bipush (v := (105 : Int32)) hx hb dX12_sortOf_36 (by decide) ?_
      refine lv_bipush (v := (99 : Int32)) hx hb dX12_sortOf_38 (by decide) ?_
      refine lv_bipush (v := (101 : Int32)) hx hb dX12_sortOf_40 (by decide) ?_
      obtain ⟨r42, hg42, hf⟩ := ob1_some hf
      refine mcS0_l (As := [.int (112 : Int32), .int (114 : Int32), .int (105 : Int32), .int (99 : Int32), .int (101 : Int32)]) (rest := [.ref h]) hx hb hml hown hts hK hP hD hS hA (k_X12_w5 l N D cI cJ cZ cB cT (112 : Int32) (114 : Int32) (105 : Int32) (99 : Int32) (101 : Int32) r42 hg42) (kwX12_140 hts rfl rfl ⟨Nat.le_of_ble_eq_true rfl, Nat.le_of_ble_eq_true rfl⟩) rfl hl.1 rfl (Nat.le_of_ble_eq_true rfl) dX12_sortOf_42 ⟨Nat.zero_le _, Nat.zero_le _⟩ (fun H locs hP hD hS => ?_)
      obtain ⟨r45, hg45, hf⟩ := ob1_some hf
      refine mcV1_i (As := [.long r42]) (rest := []) hx hb hml hown hts hK hP hD hS hA (k_X12_isWord l N D cI cJ cZ cB cT h q v_a v_image v_texts v_tape v_taped v_fault v_faultPlace v_at v_place v_token v_number v_word v_text0 v_written v_sort0 v_pile v_piled v_opens v_isWhole v_once v_named v_values v_truth v_isWritten v_died v_aside v_likely v_safe v_headOf r42 r45 hg45) (kwX12_195 hts rfl rfl ⟨Nat.le_of_ble_eq_true rfl, Nat.le_of_ble_eq_true rfl⟩) 0 rfl rfl rfl rfl hl.1 rfl (Nat.le_of_ble_eq_true rfl) dX12_sortOf_45 ⟨Nat.zero_le _, Nat.zero_le _⟩ (fun hB45 H locs hP hD hS => ?_)
      have hP : va_P D vwCl (WM h q cI cJ cZ v_a v_image v_texts v_tape v_taped v_fault v_faultPlace v_at v_place v_token v_number v_word v_text0 v_written v_sort0 v_pile v_piled v_opens v_isWhole v_once v_named v_values v_truth v_isWritten v_died v_aside v_likely v_safe v_headOf) H := hP
      have hD : va_D A (WM h q cI cJ cZ v_a v_image v_texts v_tape v_taped v_fault v_faultPlace v_at v_place v_token v_number v_word v_text0 v_written v_sort0 v_pile v_piled v_opens v_isWhole v_once v_named v_values v_truth v_isWritten v_died v_aside v_likely v_safe v_headOf) := hD
      refine xif_eq hx hb 53 dX12_sortOf_48 (by decide) hf (fun hf => ?_) (fun hf => ?_)
      · refine lv_aload_n hx hb dX12_sortOf_53 rfl (lv_at hl 0 rfl) ?_
        refine lv_bipush (v := (101 : Int32)) hx hb dX12_sortOf_54 (by decide) ?_
        refine lv_bipush (v := (97 : Int32)) hx hb dX12_sortOf_56 (by decide) ?_
        refine lv_bipush (v := (114 : Int32)) hx hb dX12_sortOf_58 (by decide) ?_
        refine lv_bipush (v := (110 : Int32)) hx hb dX12_sortOf_60 (by decide) ?_
        refine lv_bipush (v := (115 : Int32)) hx hb dX12_sortOf_62 (by decide) ?_
        obtain ⟨r64, hg64, hf⟩ := ob1_some hf
        refine mcS0_l (As := [.int (101 : Int32), .int (97 : Int32), .int (114 : Int32), .int (110 : Int32), .int (115 : Int32)]) (rest := [.ref h]) hx hb hml hown hts hK hP hD hS hA (k_X12_w5 l N D cI cJ cZ cB cT (101 : Int32) (97 : Int32) (114 : Int32) (110 : Int32) (115 : Int32) r64 hg64) (kwX12_140 hts rfl rfl ⟨Nat.le_of_ble_eq_true rfl, Nat.le_of_ble_eq_true rfl⟩) rfl hl.1 rfl (Nat.le_of_ble_eq_true rfl) dX12_sortOf_64 ⟨Nat.zero_le _, Nat.zero_le _⟩ (fun H locs hP hD hS => ?_)
        obtain ⟨r67, hg67, hf⟩ := ob1_some hf
        refine mcV1_i (As := [.long r64]) (rest := []) hx hb hml hown hts hK hP hD hS hA (k_X12_isWord l N D cI cJ cZ cB cT h q v_a v_image v_texts v_tape v_taped v_fault v_faultPlace v_at v_place v_token v_number v_word v_text0 v_written v_sort0 v_pile v_piled v_opens v_isWhole v_once v_named v_values v_truth v_isWritten v_died v_aside v_likely v_safe v_headOf r64 r67 hg67) (kwX12_195 hts rfl rfl ⟨Nat.le_of_ble_eq_true rfl, Nat.le_of_ble_eq_true rfl⟩) 0 rfl rfl rfl rfl hl.1 rfl (Nat.le_of_ble_eq_true rfl) dX12_sortOf_67 ⟨Nat.zero_le _, Nat.zero_le _⟩ (fun hB67 H locs hP hD hS => ?_)
        have hP : va_P D vwCl (WM h q cI cJ cZ v_a v_image v_texts v_tape v_taped v_fault v_faultPlace v_at v_place v_token v_number v_word v_text0 v_written v_sort0 v_pile v_piled v_opens v_isWhole v_once v_named v_values v_truth v_isWritten v_died v_aside v_likely v_safe v_headOf) H := hP
        have hD : va_D A (WM h q cI cJ cZ v_a v_image v_texts v_tape v_taped v_fault v_faultPlace v_at v_place v_token v_number v_word v_text0 v_written v_sort0 v_pile v_piled v_opens v_isWhole v_once v_named v_values v_truth v_isWritten v_died v_aside v_likely v_safe v_headOf) := hD
        refine xif_eq hx hb 75 dX12_sortOf_70 (by decide) hf (fun hf => ?_) (fun hf => ?_)
        · refine lv_aload_n hx hb dX12_sortOf_75 rfl (lv_at hl 0 rfl) ?_
          refine lv_bipush (v := (108 : Int32)) hx hb dX12_sortOf_76 (by decide) ?_
          refine lv_bipush (v := (97 : Int32)) hx hb dX12_sortOf_78 (by decide) ?_
          refine lv_bipush (v := (110 : Int32)) hx hb dX12_sortOf_80 (by decide) ?_
          refine lv_bipush (v := (100 : Int32)) hx hb dX12_sortOf_82 (by decide) ?_
          obtain ⟨r84, hg84, hf⟩ := ob1_some hf
          refine mcS0_l (As := [.int (108 : Int32), .int (97 : Int32), .int (110 : Int32), .int (100 : Int32)]) (rest := [.ref h]) hx hb hml hown hts hK hP hD hS hA (k_X12_w4 l N D cI cJ cZ cB cT (108 : Int32) (97 : Int32) (110 : Int32) (100 : Int32) r84 hg84) (kwX12_136 hts rfl rfl ⟨Nat.le_of_ble_eq_true rfl, Nat.le_of_ble_eq_true rfl⟩) rfl hl.1 rfl (Nat.le_of_ble_eq_true rfl) dX12_sortOf_84 ⟨Nat.zero_le _, Nat.zero_le _⟩ (fun H locs hP hD hS => ?_)
          obtain ⟨r87, hg87, hf⟩ := ob1_some hf
          refine mcV1_i (As := [.long r84]) (rest := []) hx hb hml hown hts hK hP hD hS hA (k_X12_isWord l N D cI cJ cZ cB cT h q v_a v_image v_texts v_tape v_taped v_fault v_faultPlace v_at v_place v_token v_number v_word v_text0 v_written v_sort0 v_pile v_piled v_opens v_isWhole v_once v_named v_values v_truth v_isWritten v_died v_aside v_likely v_safe v_headOf r84 r87 hg87) (kwX12_195 hts rfl rfl ⟨Nat.le_of_ble_eq_true rfl, Nat.le_of_ble_eq_true rfl⟩) 0 rfl rfl rfl rfl hl.1 rfl (Nat.le_of_ble_eq_true rfl) dX12_sortOf_87 ⟨Nat.zero_le _, Nat.zero_le _⟩ (fun hB87 H locs hP hD hS => ?_)
          have hP : va_P D vwCl (WM h q cI cJ cZ v_a v_image v_texts v_tape v_taped v_fault v_faultPlace v_at v_place v_token v_number v_word v_text0 v_written v_sort0 v_pile v_piled v_opens v_isWhole v_once v_named v_values v_truth v_isWritten v_died v_aside v_likely v_safe v_headOf) H := hP
          have hD : va_D A (WM h q cI cJ cZ v_a v_image v_texts v_tape v_taped v_fault v_faultPlace v_at v_place v_token v_number v_word v_text0 v_written v_sort0 v_pile v_piled v_opens v_isWhole v_once v_named v_values v_truth v_isWritten v_died v_aside v_likely v_safe v_headOf) := hD
          refine xif_eq hx hb 95 dX12_sortOf_90 (by decide) hf (fun hf => ?_) (fun hf => ?_)
          · refine lv_aload_n hx hb dX12_sortOf_95 rfl (lv_at hl 0 rfl) ?_
            refine lv_bipush (v := (114 : Int32)) hx hb dX12_sortOf_96 (by decide) ?_
            refine lv_bipush (v := (111 : Int32)) hx hb dX12_sortOf_98 (by decide) ?_
            refine lv_bipush (v := (97 : Int32)) hx hb dX12_sortOf_100 (by decide) ?_
            refine lv_bipush (v := (100 : Int32)) hx hb dX12_sortOf_102 (by decide) ?_
            obtain ⟨r104, hg104, hf⟩ := ob1_some hf
            refine mcS0_l (As := [.int (114 : Int32), .int (111 : Int32), .int (97 : Int32), .int (100 : Int32)]) (rest := [.ref h]) hx hb hml hown hts hK hP hD hS hA (k_X12_w4 l N D cI cJ cZ cB cT (114 : Int32) (111 : Int32) (97 : Int32) (100 : Int32) r104 hg104) (kwX12_136 hts rfl rfl ⟨Nat.le_of_ble_eq_true rfl, Nat.le_of_ble_eq_true rfl⟩) rfl hl.1 rfl (Nat.le_of_ble_eq_true rfl) dX12_sortOf_104 ⟨Nat.zero_le _, Nat.zero_le _⟩ (fun H locs hP hD hS => ?_)
            obtain ⟨r107, hg107, hf⟩ := ob1_some hf
            refine mcV1_i (As := [.long r104]) (rest := []) hx hb hml hown hts hK hP hD hS hA (k_X12_isWord l N D cI cJ cZ cB cT h q v_a v_image v_texts v_tape v_taped v_fault v_faultPlace v_at v_place v_token v_number v_word v_text0 v_written v_sort0 v_pile v_piled v_opens v_isWhole v_once v_named v_values v_truth v_isWritten v_died v_aside v_likely v_safe v_headOf r104 r107 hg107) (kwX12_195 hts rfl rfl ⟨Nat.le_of_ble_eq_true rfl, Nat.le_of_ble_eq_true rfl⟩) 0 rfl rfl rfl rfl hl.1 rfl (Nat.le_of_ble_eq_true rfl) dX12_sortOf_107 ⟨Nat.zero_le _, Nat.zero_le _⟩ (fun hB107 H locs hP hD hS => ?_)
            have hP : va_P D vwCl (WM h q cI cJ cZ v_a v_image v_texts v_tape v_taped v_fault v_faultPlace v_at v_place v_token v_number v_word v_text0 v_written v_sort0 v_pile v_piled v_opens v_isWhole v_once v_named v_values v_truth v_isWritten v_died v_aside v_likely v_safe v_headOf) H := hP
            have hD : va_D A (WM h q cI cJ cZ v_a v_image v_texts v_tape v_taped v_fault v_faultPlace v_at v_place v_token v_number v_word v_text0 v_written v_sort0 v_pile v_piled v_opens v_isWhole v_once v_named v_values v_truth v_isWritten v_died v_aside v_likely v_safe v_headOf) := hD
            refine xif_eq hx hb 115 dX12_sortOf_110 (by decide) hf (fun hf => ?_) (fun hf => ?_)
            · refine lv_aload_n hx hb dX12_sortOf_115 rfl (lv_at hl 0 rfl) ?_
              refine lv_bipush (v := (112 : Int32)) hx hb dX12_sortOf_116 (by decide) ?_
              refine lv_bipush (v := (101 : Int32)) hx hb dX12_sortOf_118 (by decide) ?_
              refine lv_bipush (v := (114 : Int32)) hx hb dX12_sortOf_120 (by decide) ?_
              refine lv_bipush (v := (115 : Int32)) hx hb dX12_sortOf_122 (by decide) ?_
              refine lv_bipush (v := (111 : Int32)) hx hb dX12_sortOf_124 (by decide) ?_
              refine lv_bipush (v := (110 : Int32)) hx hb dX12_sortOf_126 (by decide) ?_
              obtain ⟨r128, hg128, hf⟩ := ob1_some hf
              refine mcS0_l (As := [.int (112 : Int32), .int (101 : Int32), .int (114 : Int32), .int (115 : Int32), .int (111 : Int32), .int (110 : Int32)]) (rest := [.ref h]) hx hb hml hown hts hK hP hD hS hA (k_X12_w6 l N D cI cJ cZ cB cT (112 : Int32) (101 : Int32) (114 : Int32) (115 : Int32) (111 : Int32) (110 : Int32) r128 hg128) (kwX12_150 hts rfl rfl ⟨Nat.le_of_ble_eq_true rfl, Nat.le_of_ble_eq_true rfl⟩) rfl hl.1 rfl (Nat.le_of_ble_eq_true rfl) dX12_sortOf_128 ⟨Nat.zero_le _, Nat.zero_le _⟩ (fun H locs hP hD hS => ?_)
              obtain ⟨r131, hg131, hf⟩ := ob1_some hf
              refine mcV1_i (As := [.long r128]) (rest := []) hx hb hml hown hts hK hP hD hS hA (k_X12_isWord l N D cI cJ cZ cB cT h q v_a v_image v_texts v_tape v_taped v_fault v_faultPlace v_at v_place v_token v_number v_word v_text0 v_written v_sort0 v_pile v_piled v_opens v_isWhole v_once v_named v_values v_truth v_isWritten v_died v_aside v_likely v_safe v_headOf r128 r131 hg131) (kwX12_195 hts rfl rfl ⟨Nat.le_of_ble_eq_true rfl, Nat.le_of_ble_eq_true rfl⟩) 0 rfl rfl rfl rfl hl.1 rfl (Nat.le_of_ble_eq_true rfl) dX12_sortOf_131 ⟨Nat.zero_le _, Nat.zero_le _⟩ (fun hB131 H locs hP hD hS => ?_)
              have hP : va_P D vwCl (WM h q cI cJ cZ v_a v_image v_texts v_tape v_taped v_fault v_faultPlace v_at v_place v_token v_number v_word v_text0 v_written v_sort0 v_pile v_piled v_opens v_isWhole v_once v_named v_values v_truth v_isWritten v_died v_aside v_likely v_safe v_headOf) H := hP
              have hD : va_D A (WM h q cI cJ cZ v_a v_image v_texts v_tape v_taped v_fault v_faultPlace v_at v_place v_token v_number v_word v_text0 v_written v_sort0 v_pile v_piled v_opens v_isWhole v_once v_named v_values v_truth v_isWritten v_died v_aside v_likely v_safe v_headOf) := hD
              refine xif_eq hx hb 140 dX12_sortOf_134 (by decide) hf (fun hf => ?_) (fun hf => ?_)
              · refine lv_aload_n hx hb dX12_sortOf_140 rfl (lv_at hl 0 rfl) ?_
                refine lv_bipush (v := (99 : Int32)) hx hb dX12_sortOf_141 (by decide) ?_
                refine lv_bipush (v := (97 : Int32)) hx hb dX12_sortOf_143 (by decide) ?_
                refine lv_bipush (v := (108 : Int32)) hx hb dX12_sortOf_145 (by decide) ?_
                refine lv_bipush (v := (108 : Int32)) hx hb dX12_sortOf_147 (by decide) ?_
                obtain ⟨r149, hg149, hf⟩ := ob1_some hf
                refine mcS0_l (As := [.int (99 : Int32), .int (97 : Int32), .int (108 : Int32), .int (108 : Int32)]) (rest := [.ref h]) hx hb hml hown hts hK hP hD hS hA (k_X12_w4 l N D cI cJ cZ cB cT (99 : Int32) (97 : Int32) (108 : Int32) (108 : Int32) r149 hg149) (kwX12_136 hts rfl rfl ⟨Nat.le_of_ble_eq_true rfl, Nat.le_of_ble_eq_true rfl⟩) rfl hl.1 rfl (Nat.le_of_ble_eq_true rfl) dX12_sortOf_149 ⟨Nat.zero_le _, Nat.zero_le _⟩ (fun H locs hP hD hS => ?_)
                obtain ⟨r152, hg152, hf⟩ := ob1_some hf
                refine mcV1_i (As := [.long r149]) (rest := []) hx hb hml hown hts hK hP hD hS hA (k_X12_isWord l N D cI cJ cZ cB cT h q v_a v_image v_texts v_tape v_taped v_fault v_faultPlace v_at v_place v_token v_number v_word v_text0 v_written v_sort0 v_pile v_piled v_opens v_isWhole v_once v_named v_values v_truth v_isWritten v_died v_aside v_likely v_safe v_headOf r149 r152 hg152) (kwX12_195 hts rfl rfl ⟨Nat.le_of_ble_eq_true rfl, Nat.le_of_ble_eq_true rfl⟩) 0 rfl rfl rfl rfl hl.1 rfl (Nat.le_of_ble_eq_true rfl) dX12_sortOf_152 ⟨Nat.zero_le _, Nat.zero_le _⟩ (fun hB152 H locs hP hD hS => ?_)
                have hP : va_P D vwCl (WM h q cI cJ cZ v_a v_image v_texts v_tape v_taped v_fault v_faultPlace v_at v_place v_token v_number v_word v_text0 v_written v_sort0 v_pile v_piled v_opens v_isWhole v_once v_named v_values v_truth v_isWritten v_died v_aside v_likely v_safe v_headOf) H := hP
                have hD : va_D A (WM h q cI cJ cZ v_a v_image v_texts v_tape v_taped v_fault v_faultPlace v_at v_place v_token v_number v_word v_text0 v_written v_sort0 v_pile v_piled v_opens v_isWhole v_once v_named v_values v_truth v_isWritten v_died v_aside v_likely v_safe v_headOf) := hD
                refine xif_eq hx hb 161 dX12_sortOf_155 (by decide) hf (fun hf => ?_) (fun hf => ?_)
                · refine lv_aload_n hx hb dX12_sortOf_161 rfl (lv_at hl 0 rfl) ?_
                  refine lv_bipush (v := (109 : Int32)) hx hb dX12_sortOf_162 (by decide) ?_
                  refine lv_bipush (v := (111 : Int32)) hx hb dX12_sortOf_164 (by decide) ?_
                  refine lv_bipush (v := (118 : Int32)) hx hb dX12_sortOf_166 (by decide) ?_
                  refine lv_bipush (v := (101 : Int32)) hx hb dX12_sortOf_168 (by decide) ?_
                  obtain ⟨r170, hg170, hf⟩ := ob1_some hf
                  refine mcS0_l (As := [.int (109 : Int32), .int (111 : Int32), .int (118 : Int32), .int (101 : Int32)]) (rest := [.ref h]) hx hb hml hown hts hK hP hD hS hA (k_X12_w4 l N D cI cJ cZ cB cT (109 : Int32) (111 : Int32) (118 : Int32) (101 : Int32) r170 hg170) (kwX12_136 hts rfl rfl ⟨Nat.le_of_ble_eq_true rfl, Nat.le_of_ble_eq_true rfl⟩) rfl hl.1 rfl (Nat.le_of_ble_eq_true rfl) dX12_sortOf_170 ⟨Nat.zero_le _, Nat.zero_le _⟩ (fun H locs hP hD hS => ?_)
                  obtain ⟨r173, hg173, hf⟩ := ob1_some hf
                  refine mcV1_i (As := [.long r170]) (rest := []) hx hb hml hown hts hK hP hD hS hA (k_X12_isWord l N D cI cJ cZ cB cT h q v_a v_image v_texts v_tape v_taped v_fault v_faultPlace v_at v_place v_token v_number v_word v_text0 v_written v_sort0 v_pile v_piled v_opens v_isWhole v_once v_named v_values v_truth v_isWritten v_died v_aside v_likely v_safe v_headOf r170 r173 hg173) (kwX12_195 hts rfl rfl ⟨Nat.le_of_ble_eq_true rfl, Nat.le_of_ble_eq_true rfl⟩) 0 rfl rfl rfl rfl hl.1 rfl (Nat.le_of_ble_eq_true rfl) dX12_sortOf_173 ⟨Nat.zero_le _, Nat.zero_le _⟩ (fun hB173 H locs hP hD hS => ?_)
                  have hP : va_P D vwCl (WM h q cI cJ cZ v_a v_image v_texts v_tape v_taped v_fault v_faultPlace v_at v_place v_token v_number v_word v_text0 v_written v_sort0 v_pile v_piled v_opens v_isWhole v_once v_named v_values v_truth v_isWritten v_died v_aside v_likely v_safe v_headOf) H := hP
                  have hD : va_D A (WM h q cI cJ cZ v_a v_image v_texts v_tape v_taped v_fault v_faultPlace v_at v_place v_token v_number v_word v_text0 v_written v_sort0 v_pile v_piled v_opens v_isWhole v_once v_named v_values v_truth v_isWritten v_died v_aside v_likely v_safe v_headOf) := hD
                  refine xif_eq hx hb 182 dX12_sortOf_176 (by decide) hf (fun hf => ?_) (fun hf => ?_)
                  · refine lv_aload_n hx hb dX12_sortOf_182 rfl (lv_at hl 0 rfl) ?_
                    refine lv_bipush (v := (102 : Int32)) hx hb dX12_sortOf_183 (by decide) ?_
                    refine lv_bipush (v := (101 : Int32)) hx hb dX12_sortOf_185 (by decide) ?_
                    refine lv_bipush (v := (101 : Int32)) hx hb dX12_sortOf_187 (by decide) ?_
                    refine lv_bipush (v := (100 : Int32)) hx hb dX12_sortOf_189 (by decide) ?_
                    obtain ⟨r191, hg191, hf⟩ := ob1_some hf
                    refine mcS0_l (As := [.int (102 : Int32), .int (101 : Int32), .int (101 : Int32), .int (100 : Int32)]) (rest := [.ref h]) hx hb hml hown hts hK hP hD hS hA (k_X12_w4 l N D cI cJ cZ cB cT (102 : Int32) (101 : Int32) (101 : Int32) (100 : Int32) r191 hg191) (kwX12_136 hts rfl rfl ⟨Nat.le_of_ble_eq_true rfl, Nat.le_of_ble_eq_true rfl⟩) rfl hl.1 rfl (Nat.le_of_ble_eq_true rfl) dX12_sortOf_191 ⟨Nat.zero_le _, Nat.zero_le _⟩ (fun H locs hP hD hS => ?_)
                    obtain ⟨r194, hg194, hf⟩ := ob1_some hf
                    refine mcV1_i (As := [.long r191]) (rest := []) hx hb hml hown hts hK hP hD hS hA (k_X12_isWord l N D cI cJ cZ cB cT h q v_a v_image v_texts v_tape v_taped v_fault v_faultPlace v_at v_place v_token v_number v_word v_text0 v_written v_sort0 v_pile v_piled v_opens v_isWhole v_once v_named v_values v_truth v_isWritten v_died v_aside v_likely v_safe v_headOf r191 r194 hg194) (kwX12_195 hts rfl rfl ⟨Nat.le_of_ble_eq_true rfl, Nat.le_of_ble_eq_true rfl⟩) 0 rfl rfl rfl rfl hl.1 rfl (Nat.le_of_ble_eq_true rfl) dX12_sortOf_194 ⟨Nat.zero_le _, Nat.zero_le _⟩ (fun hB194 H locs hP hD hS => ?_)
                    have hP : va_P D vwCl (WM h q cI cJ cZ v_a v_image v_texts v_tape v_taped v_fault v_faultPlace v_at v_place v_token v_number v_word v_text0 v_written v_sort0 v_pile v_piled v_opens v_isWhole v_once v_named v_values v_truth v_isWritten v_died v_aside v_likely v_safe v_headOf) H := hP
                    have hD : va_D A (WM h q cI cJ cZ v_a v_image v_texts v_tape v_taped v_fault v_faultPlace v_at v_place v_token v_number v_word v_text0 v_written v_sort0 v_pile v_piled v_opens v_isWhole v_once v_named v_values v_truth v_isWritten v_died v_aside v_likely v_safe v_headOf) := hD
                    refine xif_eq hx hb 203 dX12_sortOf_197 (by decide) hf (fun hf => ?_) (fun hf => ?_)
                    · refine lv_aload_n hx hb dX12_sortOf_203 rfl (lv_at hl 0 rfl) ?_
                      refine lv_bipush (v := (107 : Int32)) hx hb dX12_sortOf_204 (by decide) ?_
                      refine lv_bipush (v := (105 : Int32)) hx hb dX12_sortOf_206 (by decide) ?_
                      refine lv_bipush (v := (108 : Int32)) hx hb dX12_sortOf_208 (by decide) ?_
                      refine lv_bipush (v := (108 : Int32)) hx hb dX12_sortOf_210 (by decide) ?_
                      obtain ⟨r212, hg212, hf⟩ := ob1_some hf
                      refine mcS0_l (As := [.int (107 : Int32), .int (105 : Int32), .int (108 : Int32), .int (108 : Int32)]) (rest := [.ref h]) hx hb hml hown hts hK hP hD hS hA (k_X12_w4 l N D cI cJ cZ cB cT (107 : Int32) (105 : Int32) (108 : Int32) (108 : Int32) r212 hg212) (kwX12_136 hts rfl rfl ⟨Nat.le_of_ble_eq_true rfl, Nat.le_of_ble_eq_true rfl⟩) rfl hl.1 rfl (Nat.le_of_ble_eq_true rfl) dX12_sortOf_212 ⟨Nat.zero_le _, Nat.zero_le _⟩ (fun H locs hP hD hS => ?_)
                      obtain ⟨r215, hg215, hf⟩ := ob1_some hf
                      refine mcV1_i (As := [.long r212]) (rest := []) hx hb hml hown hts hK hP hD hS hA (k_X12_isWord l N D cI cJ cZ cB cT h q v_a v_image v_texts v_tape v_taped v_fault v_faultPlace v_at v_place v_token v_number v_word v_text0 v_written v_sort0 v_pile v_piled v_opens v_isWhole v_once v_named v_values v_truth v_isWritten v_died v_aside v_likely v_safe v_headOf r212 r215 hg215) (kwX12_195 hts rfl rfl ⟨Nat.le_of_ble_eq_true rfl, Nat.le_of_ble_eq_true rfl⟩) 0 rfl rfl rfl rfl hl.1 rfl (Nat.le_of_ble_eq_true rfl) dX12_sortOf_215 ⟨Nat.zero_le _, Nat.zero_le _⟩ (fun hB215 H locs hP hD hS => ?_)
                      have hP : va_P D vwCl (WM h q cI cJ cZ v_a v_image v_texts v_tape v_taped v_fault v_faultPlace v_at v_place v_token v_number v_word v_text0 v_written v_sort0 v_pile v_piled v_opens v_isWhole v_once v_named v_values v_truth v_isWritten v_died v_aside v_likely v_safe v_headOf) H := hP
                      have hD : va_D A (WM h q cI cJ cZ v_a v_image v_texts v_tape v_taped v_fault v_faultPlace v_at v_place v_token v_number v_word v_text0 v_written v_sort0 v_pile v_piled v_opens v_isWhole v_once v_named v_values v_truth v_isWritten v_died v_aside v_likely v_safe v_headOf) := hD
                      refine xif_eq hx hb 224 dX12_sortOf_218 (by decide) hf (fun hf => ?_) (fun hf => ?_)
                      · refine lv_aload_n hx hb dX12_sortOf_224 rfl (lv_at hl 0 rfl) ?_
                        refine lv_bipush (v := (112 : Int32)) hx hb dX12_sortOf_225 (by decide) ?_
                        refine lv_bipush (v := (97 : Int32)) hx hb dX12_sortOf_227 (by decide) ?_
                        refine lv_bipush (v := (114 : Int32)) hx hb dX12_sortOf_229 (by decide) ?_
                        refine lv_bipush (v := (100 : Int32)) hx hb dX12_sortOf_231 (by decide) ?_
                        refine lv_bipush (v := (111 : Int32)) hx hb dX12_sortOf_233 (by decide) ?_
                        refine lv_bipush (v := (110 : Int32)) hx hb dX12_sortOf_235 (by decide) ?_
                        obtain ⟨r237, hg237, hf⟩ := ob1_some hf
                        refine mcS0_l (As := [.int (112 : Int32), .int (97 : Int32), .int (114 : Int32), .int (100 : Int32), .int (111 : Int32), .int (110 : Int32)]) (rest := [.ref h]) hx hb hml hown hts hK hP hD hS hA (k_X12_w6 l N D cI cJ cZ cB cT (112 : Int32) (97 : Int32) (114 : Int32) (100 : Int32) (111 : Int32) (110 : Int32) r237 hg237) (kwX12_150 hts rfl rfl ⟨Nat.le_of_ble_eq_true rfl, Nat.le_of_ble_eq_true rfl⟩) rfl hl.1 rfl (Nat.le_of_ble_eq_true rfl) dX12_sortOf_237 ⟨Nat.zero_le _, Nat.zero_le _⟩ (fun H locs hP hD hS => ?_)
                        obtain ⟨r240, hg240, hf⟩ := ob1_some hf
                        refine mcV1_i (As := [.long r237]) (rest := []) hx hb hml hown hts hK hP hD hS hA (k_X12_isWord l N D cI cJ cZ cB cT h q v_a v_image v_texts v_tape v_taped v_fault v_faultPlace v_at v_place v_token v_number v_word v_text0 v_written v_sort0 v_pile v_piled v_opens v_isWhole v_once v_named v_values v_truth v_isWritten v_died v_aside v_likely v_safe v_headOf r237 r240 hg240) (kwX12_195 hts rfl rfl ⟨Nat.le_of_ble_eq_true rfl, Nat.le_of_ble_eq_true rfl⟩) 0 rfl rfl rfl rfl hl.1 rfl (Nat.le_of_ble_eq_true rfl) dX12_sortOf_240 ⟨Nat.zero_le _, Nat.zero_le _⟩ (fun hB240 H locs hP hD hS => ?_)
                        have hP : va_P D vwCl (WM h q cI cJ cZ v_a v_image v_texts v_tape v_taped v_fault v_faultPlace v_at v_place v_token v_number v_word v_text0 v_written v_sort0 v_pile v_piled v_opens v_isWhole v_once v_named v_values v_truth v_isWritten v_died v_aside v_likely v_safe v_headOf) H := hP
                        have hD : va_D A (WM h q cI cJ cZ v_a v_image v_texts v_tape v_taped v_fault v_faultPlace v_at v_place v_token v_number v_word v_text0 v_written v_sort0 v_pile v_piled v_opens v_isWhole v_once v_named v_values v_truth v_isWritten v_died v_aside v_likely v_safe v_headOf) := hD
                        refine xif_eq hx hb 251 dX12_sortOf_243 (by decide) hf (fun hf => ?_) (fun hf => ?_)
                        · refine lv_aload_n hx hb dX12_sortOf_251 rfl (lv_at hl 0 rfl) ?_
                          refine lv_bipush (v := (109 : Int32)) hx hb dX12_sortOf_252 (by decide) ?_
                          refine lv_bipush (v := (111 : Int32)) hx hb dX12_sortOf_254 (by decide) ?_
                          refine lv_bipush (v := (110 : Int32)) hx hb dX12_sortOf_256 (by decide) ?_
                          refine lv_bipush (v := (116 : Int32)) hx hb dX12_sortOf_258 (by decide) ?_
                          refine lv_bipush (v := (104 : Int32)) hx hb dX12_sortOf_260 (by decide) ?_
                          obtain ⟨r262, hg262, hf⟩ := ob1_some hf
                          refine mcS0_l (As := [.int (109 : Int32), .int (111 : Int32), .int (110 : Int32), .int (116 : Int32), .int (104 : Int32)]) (rest := [.ref h]) hx hb hml hown hts hK hP hD hS hA (k_X12_w5 l N D cI cJ cZ cB cT (109 : Int32) (111 : Int32) (110 : Int32) (116 : Int32) (104 : Int32) r262 hg262) (kwX12_140 hts rfl rfl ⟨Nat.le_of_ble_eq_true rfl, Nat.le_of_ble_eq_true rfl⟩) rfl hl.1 rfl (Nat.le_of_ble_eq_true rfl) dX12_sortOf_262 ⟨Nat.zero_le _, Nat.zero_le _⟩ (fun H locs hP hD hS => ?_)
                          obtain ⟨r265, hg265, hf⟩ := ob1_some hf
                          refine mcV1_i (As := [.long r262]) (rest := []) hx hb hml hown hts hK hP hD hS hA (k_X12_isWord l N D cI cJ cZ cB cT h q v_a v_image v_texts v_tape v_taped v_fault v_faultPlace v_at v_place v_token v_number v_word v_text0 v_written v_sort0 v_pile v_piled v_opens v_isWhole v_once v_named v_values v_truth v_isWritten v_died v_aside v_likely v_safe v_headOf r262 r265 hg265) (kwX12_195 hts rfl rfl ⟨Nat.le_of_ble_eq_true rfl, Nat.le_of_ble_eq_true rfl⟩) 0 rfl rfl rfl rfl hl.1 rfl (Nat.le_of_ble_eq_true rfl) dX12_sortOf_265 ⟨Nat.zero_le _, Nat.zero_le _⟩ (fun hB265 H locs hP hD hS => ?_)
                          have hP : va_P D vwCl (WM h q cI cJ cZ v_a v_image v_texts v_tape v_taped v_fault v_faultPlace v_at v_place v_token v_number v_word v_text0 v_written v_sort0 v_pile v_piled v_opens v_isWhole v_once v_named v_values v_truth v_isWritten v_died v_aside v_likely v_safe v_headOf) H := hP
                          have hD : va_D A (WM h q cI cJ cZ v_a v_image v_texts v_tape v_taped v_fault v_faultPlace v_at v_place v_token v_number v_word v_text0 v_written v_sort0 v_pile v_piled v_opens v_isWhole v_once v_named v_values v_truth v_isWritten v_died v_aside v_likely v_safe v_headOf) := hD
                          refine xif_eq hx hb 276 dX12_sortOf_268 (by decide) hf (fun hf => ?_) (fun hf => ?_)
                          · refine lv_iconst (v := (-1 : Int32)) hx hb dX12_sortOf_276 (by decide) ?_
                            cases hf
                            exact mret_i hx hb hr hlocks hP hD hS dX12_sortOf_277 rfl trivial
                          · refine lv_bipush (v := (12 : Int32)) hx hb dX12_sortOf_271 (by decide) ?_
                            refine lv_goto (tgt := 277) hx hb dX12_sortOf_273 (by decide) ?_
                            cases hf
                            exact mret_i hx hb hr hlocks hP hD hS dX12_sortOf_277 rfl trivial
                        · refine lv_bipush (v := (11 : Int32)) hx hb dX12_sortOf_246 (by decide) ?_
                          refine lv_goto (tgt := 277) hx hb dX12_sortOf_248 (by decide) ?_
                          cases hf
                          exact mret_i hx hb hr hlocks hP hD hS dX12_sortOf_277 rfl trivial
                      · refine lv_bipush (v := (10 : Int32)) hx hb dX12_sortOf_221 (by decide) ?_
                        cases hf
                        exact mret_i hx hb hr hlocks hP hD hS dX12_sortOf_223 rfl trivial
                    · refine lv_bipush (v := (9 : Int32)) hx hb dX12_sortOf_200 (by decide) ?_
                      cases hf
                      exact mret_i hx hb hr hlocks hP hD hS dX12_sortOf_202 rfl trivial
                  · refine lv_bipush (v := (8 : Int32)) hx hb dX12_sortOf_179 (by decide) ?_
                    cases hf
                    exact mret_i hx hb hr hlocks hP hD hS dX12_sortOf_181 rfl trivial
                · refine lv_bipush (v := (7 : Int32)) hx hb dX12_sortOf_158 (by decide) ?_
                  cases hf
                  exact mret_i hx hb hr hlocks hP hD hS dX12_sortOf_160 rfl trivial
              · refine lv_bipush (v := (6 : Int32)) hx hb dX12_sortOf_137 (by decide) ?_
                cases hf
                exact mret_i hx hb hr hlocks hP hD hS dX12_sortOf_139 rfl trivial
            · refine lv_iconst (v := (5 : Int32)) hx hb dX12_sortOf_113 (by decide) ?_
              cases hf
              exact mret_i hx hb hr hlocks hP hD hS dX12_sortOf_114 rfl trivial
          · refine lv_iconst (v := (4 : Int32)) hx hb dX12_sortOf_93 (by decide) ?_
            cases hf
            exact mret_i hx hb hr hlocks hP hD hS dX12_sortOf_94 rfl trivial
        · refine lv_iconst (v := (3 : Int32)) hx hb dX12_sortOf_73 (by decide) ?_
          cases hf
          exact mret_i hx hb hr hlocks hP hD hS dX12_sortOf_74 rfl trivial
      · refine lv_iconst (v := (2 : Int32)) hx hb dX12_sortOf_51 (by decide) ?_
        cases hf
        exact mret_i hx hb hr hlocks hP hD hS dX12_sortOf_52 rfl trivial
    · refine lv_iconst (v := (1 : Int32)) hx hb dX12_sortOf_29 (by decide) ?_
      cases hf
      exact mret_i hx hb hr hlocks hP hD hS dX12_sortOf_30 rfl trivial
  · refine lv_iconst (v := (0 : Int32)) hx hb dX12_sortOf_7 (by decide) ?_
    cases hf
    exact mret_i hx hb hr hlocks hP hD hS dX12_sortOf_8 rfl trivial
