theorem dX12_aliveIn_0 : decode cX12_aliveIn 0 = .ok (.iconst 0, 1) := by decide +kernel
theorem dX12_aliveIn_1 : decode cX12_aliveIn 1 = .ok (.istore_n 2, 1) := by decide +kernel
theorem dX12_aliveIn_2 : decode cX12_aliveIn 2 = .ok (.iconst 0, 1) := by decide +kernel
theorem dX12_aliveIn_3 : decode cX12_aliveIn 3 = .ok (.istore_n 3, 1) := by decide +kernel
theorem dX12_aliveIn_4 : decode cX12_aliveIn 4 = .ok (.iload_n 3, 1) := by decide +kernel
theorem dX12_aliveIn_5 : decode cX12_aliveIn 5 = .ok (.aload_n 0, 1) := by decide +kernel
theorem dX12_aliveIn_6 : decode cX12_aliveIn 6 = .ok (.getfield 7, 3) := by decide +kernel
theorem dX12_aliveIn_9 : decode cX12_aliveIn 9 = .ok (.iconst 1, 1) := by decide +kernel
theorem dX12_aliveIn_10 : decode cX12_aliveIn 10 = .ok (.iaload, 1) := by decide +kernel
theorem dX12_aliveIn_11 : decode cX12_aliveIn 11 = .ok (.if_icmp .ge 40, 3) := by decide +kernel
theorem dX12_aliveIn_14 : decode cX12_aliveIn 14 = .ok (.iload_n 2, 1) := by decide +kernel
theorem dX12_aliveIn_15 : decode cX12_aliveIn 15 = .ok (.aload_n 0, 1) := by decide +kernel
theorem dX12_aliveIn_16 : decode cX12_aliveIn 16 = .ok (.iload_n 3, 1) := by decide +kernel
theorem dX12_aliveIn_17 : decode cX12_aliveIn 17 = .ok (.iconst 0, 1) := by decide +kernel
theorem dX12_aliveIn_18 : decode cX12_aliveIn 18 = .ok (.invokevirtual 71, 3) := by decide +kernel
theorem dX12_aliveIn_21 : decode cX12_aliveIn 21 = .ok (.iload_n 1, 1) := by decide +kernel
theorem dX12_aliveIn_22 : decode cX12_aliveIn 22 = .ok (.if_icmp .ne 20, 3) := by decide +kernel
theorem dX12_aliveIn_25 : decode cX12_aliveIn 25 = .ok (.aload_n 0, 1) := by decide +kernel
theorem dX12_aliveIn_26 : decode cX12_aliveIn 26 = .ok (.iload_n 3, 1) := by decide +kernel
theorem dX12_aliveIn_27 : decode cX12_aliveIn 27 = .ok (.bipush 6, 2) := by decide +kernel
theorem dX12_aliveIn_29 : decode cX12_aliveIn 29 = .ok (.invokevirtual 71, 3) := by decide +kernel
theorem dX12_aliveIn_32 : decode cX12_aliveIn 32 = .ok (.iconst 3, 1) := by decide +kernel
theorem dX12_aliveIn_33 : decode cX12_aliveIn 33 = .ok (.if_icmp .eq 9, 3) := by decide +kernel
theorem dX12_aliveIn_36 : decode cX12_aliveIn 36 = .ok (.iconst 1, 1) := by decide +kernel
theorem dX12_aliveIn_37 : decode cX12_aliveIn 37 = .ok (.iload_n 3, 1) := by decide +kernel
theorem dX12_aliveIn_38 : decode cX12_aliveIn 38 = .ok (.ishl, 1) := by decide +kernel
theorem dX12_aliveIn_39 : decode cX12_aliveIn 39 = .ok (.goto 4, 3) := by decide +kernel
theorem dX12_aliveIn_42 : decode cX12_aliveIn 42 = .ok (.iconst 0, 1) := by decide +kernel
theorem dX12_aliveIn_43 : decode cX12_aliveIn 43 = .ok (.ior, 1) := by decide +kernel
theorem dX12_aliveIn_44 : decode cX12_aliveIn 44 = .ok (.istore_n 2, 1) := by decide +kernel
theorem dX12_aliveIn_45 : decode cX12_aliveIn 45 = .ok (.iinc 3 1, 3) := by decide +kernel
theorem dX12_aliveIn_48 : decode cX12_aliveIn 48 = .ok (.goto (-44), 3) := by decide +kernel
theorem dX12_aliveIn_51 : decode cX12_aliveIn 51 = .ok (.iload_n 2, 1) := by decide +kernel
theorem dX12_aliveIn_52 : decode cX12_aliveIn 52 = .ok (.ireturn, 1) := by decide +kernel
def f_X12_aliveIn_43 (N : Nat) (k_4 : (Nat → Int32) → Int32 → Int32 → Int32 → Option (Int32)) (v_a : Nat → Int32) (x1 : Int32) (x3 : Int32) (s0 : Int32) (s1 : Int32) : Option (Int32) := k_4 v_a x1 (s0 ||| s1) (x3 + (1 : Int32))
def f_X12_aliveIn_42 (N : Nat) (k_4 : (Nat → Int32) → Int32 → Int32 → Int32 → Option (Int32)) (v_a : Nat → Int32) (x1 : Int32) (x3 : Int32) (s0 : Int32) : Option (Int32) := f_X12_aliveIn_43 N k_4 v_a x1 x3 s0 (0 : Int32)
def f_X12_aliveIn_4 (N : Nat) : Nat → (Nat → Int32) → Int32 → Int32 → Int32 → Option (Int32)
  | 0, _, _, _, _ => none
  | n + 1, v_a, x1, x2, x3 => gA v_a 8762 (1 : Int32) fun v10 => if v10 ≤ x3 then (some x2) else (ob1 (f_X12_get N v_a x3 (0 : Int32)) fun r18 => if r18 = x1 then (ob1 (f_X12_get N v_a x3 (6 : Int32)) fun r29 => if r29 = (3 : Int32) then (f_X12_aliveIn_42 N (f_X12_aliveIn_4 N n) v_a x1 x3 x2) else (f_X12_aliveIn_43 N (f_X12_aliveIn_4 N n) v_a x1 x3 x2 ((1 : Int32) <<< (x3 &&& 31)))) else (f_X12_aliveIn_42 N (f_X12_aliveIn_4 N n) v_a x1 x3 x2))
def f_X12_aliveIn (N : Nat) (v_a : Nat → Int32) (p1 : Int32) : Option (Int32) := f_X12_aliveIn_4 N N v_a p1 (0 : Int32) (0 : Int32)
set_option maxHeartbeats 4000000 in
set_option maxRecDepth 100000 in
theorem k_X12_aliveIn (l : Launch) (N : Nat) (D : va_G) (cI cJ cZ cB cT : ClassId) (h : Nat) (q : Nat → Nat) (v_a : Nat → Int32) (v_image : Nat → Int32) (v_texts : Nat → Int32) (v_tape : Nat → Int32) (v_taped : Int32) (v_fault : Int32) (v_faultPlace : Int32) (v_at : Int32) (v_place : Int32) (v_token : Int32) (v_number : Int32) (v_word : Int64) (v_text0 : Int32) (v_written : Int32) (v_sort0 : Int32) (v_pile : Nat → Int32) (v_piled : Int32) (v_opens : Int32) (v_isWhole : Int32) (v_once : Int32) (v_named : Nat → Int32) (v_values : Nat → Int64) (v_truth : Nat → Int32) (v_isWritten : Int32) (v_died : Int32) (v_aside : Nat → Int32) (v_likely : Nat → Int32) (v_safe : Nat → Int32) (v_headOf : Nat → Int32) (p1 : Int32) (o_r : Int32) (hf : f_X12_aliveIn N v_a p1 = some o_r) : ∀ sz, Met l yX12_aliveIn (mw yX12_aliveIn cX12_aliveIn 4 (some .int)) ({ frames := 1, cells := 0, slots := 0, locals := 22 } : Room) (mPre D (mT cI cJ cZ cB cT) (WM h q cI cJ cZ v_a v_image v_texts v_tape v_taped v_fault v_faultPlace v_at v_place v_token v_number v_word v_text0 v_written v_sort0 v_pile v_piled v_opens v_isWhole v_once v_named v_values v_truth v_isWritten v_died v_aside v_likely v_safe v_headOf) sz [.ref h, .int p1]) ((mQi D (WM h q cI cJ cZ v_a v_image v_texts v_tape v_taped v_fault v_faultPlace v_at v_place v_token v_number v_word v_text0 v_written v_sort0 v_pile v_piled v_opens v_isWhole v_once v_named v_values v_truth v_isWritten v_died v_aside v_likely v_safe v_headOf) o_r True) (va_A (WM h q cI cJ cZ v_a v_image v_texts v_tape v_taped v_fault v_faultPlace v_at v_place v_token v_number v_word v_text0 v_written v_sort0 v_pile v_piled v_opens v_isWhole v_once v_named v_values v_truth v_isWritten v_died v_aside v_likely v_safe v_headOf) sz)) 0 0 (va_A (WM h q cI cJ cZ v_a v_image v_texts v_tape v_taped v_fault v_faultPlace v_at v_place v_token v_number v_word v_text0 v_written v_sort0 v_pile v_piled v_opens v_isWhole v_once v_named v_values v_truth v_isWritten v_died v_aside v_likely v_safe v_headOf) sz) := by
  refine mMet (Qc := (mQi D (WM h q cI cJ cZ v_a v_image v_texts v_tape v_taped v_fault v_faultPlace v_at v_place v_token v_number v_word v_text0 v_written v_sort0 v_pile v_piled v_opens v_isWhole v_once v_named v_values v_truth v_isWritten v_died v_aside v_likely v_safe v_headOf) o_r True)) (by decide) (Nat.le_of_ble_eq_true rfl) (fun p e s m below meth c A ls hx hb hr hml hts hown hlocks hK hA hP hD hl => ?_)
  have hown : s.vm.findClass RX12 = some m.cls := hown
  have hl : lv_has ls 4 [(0, .ref h), (1, .int p1)] := hl
  have hS : va_S A s.heap s.heap [] := va_S.rf
  have b4 : ∀ n4 : Nat, ∀ (x1 : Int32) (x2 : Int32) (x3 : Int32) (H : Heap) (locs : List Loc) (ls : Array Slot), f_X12_aliveIn_4 N n4 v_a x1 x2 x3 = some o_r → va_P D vwCl (WM h q cI cJ cZ v_a v_image v_texts v_tape v_taped v_fault v_faultPlace v_at v_place v_token v_number v_word v_text0 v_written v_sort0 v_pile v_piled v_opens v_isWhole v_once v_named v_values v_truth v_isWritten v_died v_aside v_likely v_safe v_headOf) H → va_D A (WM h q cI cJ cZ v_a v_image v_texts v_tape v_taped v_fault v_faultPlace v_at v_place v_token v_number v_word v_text0 v_written v_sort0 v_pile v_piled v_opens v_isWhole v_once v_named v_values v_truth v_isWritten v_died v_aside v_likely v_safe v_headOf) → va_S A s.heap H locs → lv_has ls 4 [(0, .ref h), (1, .int x1), (2, .int x2), (3, .int x3)] → W p l e ({ frames := 1, cells := 0, slots := 0, locals := 22 } : Room) s m ([.ref h, .int p1] : List Value).toArray below meth c H locs 0 0 (MQ below ((mQi D (WM h q cI cJ cZ v_a v_image v_texts v_tape v_taped v_fault v_faultPlace v_at v_place v_token v_number v_word v_text0 v_written v_sort0 v_pile v_piled v_opens v_isWhole v_once v_named v_values v_truth v_isWritten v_died v_aside v_likely v_safe v_headOf) o_r True) A) ([.ref h, .int p1] : List Value).toArray s 0 0 A) (F0 m 4 ls []) := by
    intro n4
    induction n4 with
    | zero =>
      intro x1 x2 x3 H locs ls hf hP hD hS hl
      simp [f_X12_aliveIn_4] at hf
    | succ n4 ih4 =>
      have b43 : ∀ (x1 : Int32) (x3 : Int32) (s0 : Int32) (s1 : Int32) (H : Heap) (locs : List Loc) (ls : Array Slot), f_X12_aliveIn_43 N (f_X12_aliveIn_4 N n4) v_a x1 x3 s0 s1 = some o_r → va_P D vwCl (WM h q cI cJ cZ v_a v_image v_texts v_tape v_taped v_fault v_faultPlace v_at v_place v_token v_number v_word v_text0 v_written v_sort0 v_pile v_piled v_opens v_isWhole v_once v_named v_values v_truth v_isWritten v_died v_aside v_likely v_safe v_headOf) H → va_D A (WM h q cI cJ cZ v_a v_image v_texts v_tape v_taped v_fault v_faultPlace v_at v_place v_token v_number v_word v_text0 v_written v_sort0 v_pile v_piled v_opens v_isWhole v_once v_named v_values v_truth v_isWritten v_died v_aside v_likely v_safe v_headOf) → va_S A s.heap H locs → lv_has ls 4 [(0, .ref h), (1, .int x1), (3, .int x3)] → W p l e ({ frames := 1, cells := 0, slots := 0, locals := 22 } : Room) s m ([.ref h, .int p1] : List Value).toArray below meth c H locs 0 0 (MQ below ((mQi D (WM h q cI cJ cZ v_a v_image v_texts v_tape v_taped v_fault v_faultPlace v_at v_place v_token v_number v_word v_text0 v_written v_sort0 v_pile v_piled v_opens v_isWhole v_once v_named v_values v_truth v_isWritten v_died v_aside v_likely v_safe v_headOf) o_r True) A) ([.ref h, .int p1] : List Value).toArray s 0 0 A) (F0 m 43 ls [.int s1, .int s0]) := by
        intro x1 x3 s0 s1 H locs ls hf hP hD hS hl
        unfold f_X12_aliveIn_43 at hf
        refine lv_ior hx hb dX12_aliveIn_43 ?_
        refine lv_istore_n (lv' := [(2, .int (s0 ||| s1)), (0, .ref h), (1, .int x1), (3, .int x3)]) hx hb dX12_aliveIn_44 rfl hl (by decide) rfl (fun ls hl => ?_)
        refine lv_iinc (v := (x3 + (1 : Int32))) (lv' := [(3, .int (x3 + (1 : Int32))), (2, .int (s0 ||| s1)), (0, .ref h), (1, .int x1)]) hx hb dX12_aliveIn_45 hl (k := 3) rfl rfl (by decide) rfl (fun ls hl => ?_)
        refine lv_goto (tgt := 4) hx hb dX12_aliveIn_48 (by decide) ?_
        exact ih4 x1 (s0 ||| s1) (x3 + (1 : Int32)) _ _ _ hf hP hD hS (lv_sub hl [2, 3, 1, 0] rfl)
      have b42 : ∀ (x1 : Int32) (x3 : Int32) (s0 : Int32) (H : Heap) (locs : List Loc) (ls : Array Slot), f_X12_aliveIn_42 N (f_X12_aliveIn_4 N n4) v_a x1 x3 s0 = some o_r → va_P D vwCl (WM h q cI cJ cZ v_a v_image v_texts v_tape v_taped v_fault v_faultPlace v_at v_place v_token v_number v_word v_text0 v_written v_sort0 v_pile v_piled v_opens v_isWhole v_once v_named v_values v_truth v_isWritten v_died v_aside v_likely v_safe v_headOf) H → va_D A (WM h q cI cJ cZ v_a v_image v_texts v_tape v_taped v_fault v_faultPlace v_at v_place v_token v_number v_word v_text0 v_written v_sort0 v_pile v_piled v_opens v_isWhole v_once v_named v_values v_truth v_isWritten v_died v_aside v_likely v_safe v_headOf) → va_S A s.heap H locs → lv_has ls 4 [(0, .ref h), (1, .int x1), (3, .int x3)] → W p l e ({ frames := 1, cells := 0, slots := 0, locals := 22 } : Room) s m ([.ref h, .int p1] : List Value).toArray below meth c H locs 0 0 (MQ below ((mQi D (WM h q cI cJ cZ v_a v_image v_texts v_tape v_taped v_fault v_faultPlace v_at v_place v_token v_number v_word v_text0 v_written v_sort0 v_pile v_piled v_opens v_isWhole v_once v_named v_values v_truth v_isWritten v_died v_aside v_likely v_safe v_headOf) o_r True) A) ([.ref h, .int p1] : List Value).toArray s 0 0 A) (F0 m 42 ls [.int s0]) := by
        intro x1 x3 s0 H locs ls hf hP hD hS hl
        unfold f_X12_aliveIn_42 at hf
        refine lv_iconst (v := (0 : Int32)) hx hb dX12_aliveIn_42 (by decide) ?_
        exact b43 x1 x3 s0 (0 : Int32) _ _ _ hf hP hD hS (lv_sub hl [0, 1, 2] rfl)
      intro x1 x2 x3 H locs ls hf hP hD hS hl
      rw [f_X12_aliveIn_4.eq_2] at hf
      refine lv_iload_n hx hb dX12_aliveIn_4 rfl (lv_at hl 3 rfl) ?_
      refine lv_aload_n hx hb dX12_aliveIn_5 rfl (lv_at hl 0 rfl) ?_
      refine gfX12_7 hx hb hts hown hK hP 0 rfl rfl dX12_aliveIn_6 ?_
      refine lv_iconst (v := (1 : Int32)) hx hb dX12_aliveIn_9 (by decide) ?_
      refine xiald hx hb hK hP 1 0 rfl rfl dX12_aliveIn_10 hf (fun v10 hf => ?_)
      refine xicmp_ge hx hb 51 dX12_aliveIn_11 (by decide) hf (fun hf => ?_) (fun hf => ?_)
      · refine lv_iload_n hx hb dX12_aliveIn_51 rfl (lv_at hl 2 rfl) ?_
        cases hf
        exact mret_i hx hb hr hlocks hP hD hS dX12_aliveIn_52 rfl trivial
      · refine lv_iload_n hx hb dX12_aliveIn_14 rfl (lv_at hl 2 rfl) ?_
        refine lv_aload_n hx hb dX12_aliveIn_15 rfl (lv_at hl 0 rfl) ?_
        refine lv_iload_n hx hb dX12_aliveIn_16 rfl (lv_at hl 3 rfl) ?_
        refine lv_iconst (v := (0 : Int32)) hx hb dX12_aliveIn_17 (by decide) ?_
        obtain ⟨r18, hg18, hf⟩ := ob1_some hf
        refine mcV1_i (As := [.int x3, .int (0 : Int32)]) (rest := [.int x2]) hx hb hml hown hts hK hP hD hS hA (k_X12_get l N D cI cJ cZ cB cT h q v_a v_image v_texts v_tape v_taped v_fault v_faultPlace v_at v_place v_token v_number v_word v_text0 v_written v_sort0 v_pile v_piled v_opens v_isWhole v_once v_named v_values v_truth v_isWritten v_died v_aside v_likely v_safe v_headOf x3 (0 : Int32) r18 hg18) (kwX12_71 hts rfl rfl ⟨Nat.le_of_ble_eq_true rfl, Nat.le_of_ble_eq_true rfl⟩) 0 rfl rfl rfl rfl hl.1 rfl (Nat.le_of_ble_eq_true rfl) dX12_aliveIn_18 ⟨Nat.zero_le _, Nat.zero_le _⟩ (fun hB18 H locs hP hD hS => ?_)
        have hP : va_P D vwCl (WM h q cI cJ cZ v_a v_image v_texts v_tape v_taped v_fault v_faultPlace v_at v_place v_token v_number v_word v_text0 v_written v_sort0 v_pile v_piled v_opens v_isWhole v_once v_named v_values v_truth v_isWritten v_died v_aside v_likely v_safe v_headOf) H := hP
        have hD : va_D A (WM h q cI cJ cZ v_a v_image v_texts v_tape v_taped v_fault v_faultPlace v_at v_place v_token v_number v_word v_text0 v_written v_sort0 v_pile v_piled v_opens v_isWhole v_once v_named v_values v_truth v_isWritten v_died v_aside v_likely v_safe v_headOf) := hD
        refine lv_iload_n hx hb dX12_aliveIn_21 rfl (lv_at hl 1 rfl) ?_
        refine xicmp_ne hx hb 42 dX12_aliveIn_22 (by decide) hf (fun hf => ?_) (fun hf => ?_)
        · refine lv_aload_n hx hb dX12_aliveIn_25 rfl (lv_at hl 0 rfl) ?_
          refine lv_iload_n hx hb dX12_aliveIn_26 rfl (lv_at hl 3 rfl) ?_
          refine lv_bipush (v := (6 : Int32)) hx hb dX12_aliveIn_27 (by decide) ?_
          obtain ⟨r29, hg29, hf⟩ := ob1_some hf
          refine mcV1_i (As := [.int x3, .int (6 : Int32)]) (rest := [.int x2]) hx hb hml hown hts hK hP hD hS hA (k_X12_get l N D cI cJ cZ cB cT h q v_a v_image v_texts v_tape v_taped v_fault v_faultPlace v_at v_place v_token v_number v_word v_text0 v_written v_sort0 v_pile v_piled v_opens v_isWhole v_once v_named v_values v_truth v_isWritten v_died v_aside v_likely v_safe v_headOf x3 (6 : Int32) r29 hg29) (kwX12_71 hts rfl rfl ⟨Nat.le_of_ble_eq_true rfl, Nat.le_of_ble_eq_true rfl⟩) 0 rfl rfl rfl rfl hl.1 rfl (Nat.le_of_ble_eq_true rfl) dX12_aliveIn_29 ⟨Nat.zero_le _, Nat.zero_le _⟩ (fun hB29 H locs hP hD hS => ?_)
          have hP : va_P D vwCl (WM h q cI cJ cZ v_a v_image v_texts v_tape v_taped v_fault v_faultPlace v_at v_place v_token v_number v_word v_text0 v_written v_sort0 v_pile v_piled v_opens v_isWhole v_once v_named v_values v_truth v_isWritten v_died v_aside v_likely v_safe v_headOf) H := hP
          have hD : va_D A (WM h q cI cJ cZ v_a v_image v_texts v_tape v_taped v_fault v_faultPlace v_at v_place v_token v_number v_word v_text0 v_written v_sort0 v_pile v_piled v_opens v_isWhole v_once v_named v_values v_truth v_isWritten v_died v_aside v_likely v_safe v_headOf) := hD
          refine lv_iconst (v := (3 : Int32)) hx hb dX12_aliveIn_32 (by decide) ?_
          refine xicmp_eq hx hb 42 dX12_aliveIn_33 (by decide) hf (fun hf => ?_) (fun hf => ?_)
          · exact b42 x1 x3 x2 _ _ _ hf hP hD hS (lv_sub hl [0, 1, 3] rfl)
          · refine lv_iconst (v := (1 : Int32)) hx hb dX12_aliveIn_36 (by decide) ?_
            refine lv_iload_n hx hb dX12_aliveIn_37 rfl (lv_at hl 3 rfl) ?_
            refine lv_ishl hx hb dX12_aliveIn_38 ?_
            refine lv_goto (tgt := 43) hx hb dX12_aliveIn_39 (by decide) ?_
            exact b43 x1 x3 x2 ((1 : Int32) <<< (x3 &&& 31)) _ _ _ hf hP hD hS (lv_sub hl [0, 1, 3] rfl)
        · exact b42 x1 x3 x2 _ _ _ hf hP hD hS (lv_sub hl [0, 1, 3] rfl)
  unfold f_X12_aliveIn at hf
  refine lv_iconst (v := (0 : Int32)) hx hb dX12_aliveIn_0 (by decide) ?_
  refine lv_istore_n (lv' := [(2, .int (0 : Int32)), (0, .ref h), (1, .int p1)]) hx hb dX12_aliveIn_1 rfl hl (by decide) rfl (fun ls hl => ?_)
  refine lv_iconst (v := (0 : Int32)) hx hb dX12_aliveIn_2 (by decide) ?_
  refine lv_istore_n (lv' := [(3, .int (0 : Int32)), (2, .int (0 : Int32)), (0, .ref h), (1, .int p1)]) hx hb dX12_aliveIn_3 rfl hl (by decide) rfl (fun ls hl => ?_)
  exact b4 N p1 (0 : Int32) (0 : Int32) _ _ _ hf hP hD hS (lv_sub hl [2, 3, 1, 0] rfl)
theorem dX12_ofLand_0 : decode cX12_ofLand 0 = .ok (.aload_n 0, 1) := by decide +kernel
theorem dX12_ofLand_1 : decode cX12_ofLand 1 = .ok (.iload_n 1, 1) := by decide +kernel
theorem dX12_ofLand_2 : decode cX12_ofLand 2 = .ok (.invokevirtual 75, 3) := by decide +kernel
theorem dX12_ofLand_5 : decode cX12_ofLand 5 = .ok (.ifCond .ne 5, 3) := by decide +kernel
theorem dX12_ofLand_8 : decode cX12_ofLand 8 = .ok (.iconst (-1), 1) := by decide +kernel
theorem dX12_ofLand_9 : decode cX12_ofLand 9 = .ok (.ireturn, 1) := by decide +kernel
theorem dX12_ofLand_10 : decode cX12_ofLand 10 = .ok (.iload_n 2, 1) := by decide +kernel
theorem dX12_ofLand_11 : decode cX12_ofLand 11 = .ok (.ifCond .ne 15, 3) := by decide +kernel
theorem dX12_ofLand_14 : decode cX12_ofLand 14 = .ok (.aload_n 0, 1) := by decide +kernel
theorem dX12_ofLand_15 : decode cX12_ofLand 15 = .ok (.getfield 7, 3) := by decide +kernel
theorem dX12_ofLand_18 : decode cX12_ofLand 18 = .ok (.bipush 80, 2) := by decide +kernel
theorem dX12_ofLand_20 : decode cX12_ofLand 20 = .ok (.iload_n 1, 1) := by decide +kernel
theorem dX12_ofLand_21 : decode cX12_ofLand 21 = .ok (.iadd, 1) := by decide +kernel
theorem dX12_ofLand_22 : decode cX12_ofLand 22 = .ok (.iaload, 1) := by decide +kernel
theorem dX12_ofLand_23 : decode cX12_ofLand 23 = .ok (.goto 34, 3) := by decide +kernel
theorem dX12_ofLand_26 : decode cX12_ofLand 26 = .ok (.iload_n 2, 1) := by decide +kernel
theorem dX12_ofLand_27 : decode cX12_ofLand 27 = .ok (.iconst 1, 1) := by decide +kernel
theorem dX12_ofLand_28 : decode cX12_ofLand 28 = .ok (.if_icmp .ne 15, 3) := by decide +kernel
theorem dX12_ofLand_31 : decode cX12_ofLand 31 = .ok (.aload_n 0, 1) := by decide +kernel
theorem dX12_ofLand_32 : decode cX12_ofLand 32 = .ok (.getfield 7, 3) := by decide +kernel
theorem dX12_ofLand_35 : decode cX12_ofLand 35 = .ok (.bipush 88, 2) := by decide +kernel
theorem dX12_ofLand_37 : decode cX12_ofLand 37 = .ok (.iload_n 1, 1) := by decide +kernel
theorem dX12_ofLand_38 : decode cX12_ofLand 38 = .ok (.iadd, 1) := by decide +kernel
theorem dX12_ofLand_39 : decode cX12_ofLand 39 = .ok (.iaload, 1) := by decide +kernel
theorem dX12_ofLand_40 : decode cX12_ofLand 40 = .ok (.goto 17, 3) := by decide +kernel
theorem dX12_ofLand_43 : decode cX12_ofLand 43 = .ok (.iload_n 2, 1) := by decide +kernel
theorem dX12_ofLand_44 : decode cX12_ofLand 44 = .ok (.iconst 2, 1) := by decide +kernel
theorem dX12_ofLand_45 : decode cX12_ofLand 45 = .ok (.if_icmp .ne 11, 3) := by decide +kernel
theorem dX12_ofLand_48 : decode cX12_ofLand 48 = .ok (.aload_n 0, 1) := by decide +kernel
theorem dX12_ofLand_49 : decode cX12_ofLand 49 = .ok (.iload_n 1, 1) := by decide +kernel
theorem dX12_ofLand_50 : decode cX12_ofLand 50 = .ok (.invokevirtual 418, 3) := by decide +kernel
theorem dX12_ofLand_53 : decode cX12_ofLand 53 = .ok (.goto 4, 3) := by decide +kernel
theorem dX12_ofLand_56 : decode cX12_ofLand 56 = .ok (.iconst (-1), 1) := by decide +kernel
theorem dX12_ofLand_57 : decode cX12_ofLand 57 = .ok (.ireturn, 1) := by decide +kernel
def f_X12_ofLand (N : Nat) (v_a : Nat → Int32) (p1 : Int32) (p2 : Int32) : Option (Int32) := ob1 (f_X12_isLand N v_a p1) fun r2 => if r2 = 0 then (some (-1 : Int32)) else (if p2 = 0 then (gA v_a 8762 ((80 : Int32) + p1) fun v22 => some v22) else (if p2 = (1 : Int32) then (gA v_a 8762 ((88 : Int32) + p1) fun v39 => some v39) else (if p2 = (2 : Int32) then (ob1 (f_X12_aliveIn N v_a p1) fun r50 => some r50) else (some (-1 : Int32)))))
set_option maxHeartbeats 4000000 in
set_option maxRecDepth 100000 in
theorem k_X12_ofLand (l : Launch) (N : Nat) (D : va_G) (cI cJ cZ cB cT : ClassId) (h : Nat) (q : Nat → Nat) (v_a : Nat → Int32) (v_image : Nat → Int32) (v_texts : Nat → Int32) (v_tape : Nat → Int32) (v_taped : Int32) (v_fault : Int32) (v_faultPlace : Int32) (v_at : Int32) (v_place : Int32) (v_token : Int32) (v_number : Int32) (v_word : Int64) (v_text0 : Int32) (v_written : Int32) (v_sort0 : Int32) (v_pile : Nat → Int32) (v_piled : Int32) (v_opens : Int32) (v_isWhole : Int32) (v_once : Int32) (v_named : Nat → Int32) (v_values : Nat → Int64) (v_truth : Nat → Int32) (v_isWritten : Int32) (v_died : Int32) (v_aside : Nat → Int32) (v_likely : Nat → Int32) (v_safe : Nat → Int32) (v_headOf : Nat → Int32) (p1 : Int32) (p2 : Int32) (o_r : Int32) (hf : f_X12_ofLand N v_a p1 p2 = some o_r) : ∀ sz, Met l yX12_ofLand (mw yX12_ofLand cX12_ofLand 3 (some .int)) ({ frames := 2, cells := 0, slots := 0, locals := 45 } : Room) (mPre D (mT cI cJ cZ cB cT) (WM h q cI cJ cZ v_a v_image v_texts v_tape v_taped v_fault v_faultPlace v_at v_place v_token v_number v_word v_text0 v_written v_sort0 v_pile v_piled v_opens v_isWhole v_once v_named v_values v_truth v_isWritten v_died v_aside v_likely v_safe v_headOf) sz [.ref h, .int p1, .int p2]) ((mQi D (WM h q cI cJ cZ v_a v_image v_texts v_tape v_taped v_fault v_faultPlace v_at v_place v_token v_number v_word v_text0 v_written v_sort0 v_pile v_piled v_opens v_isWhole v_once v_named v_values v_truth v_isWritten v_died v_aside v_likely v_safe v_headOf) o_r True) (va_A (WM h q cI cJ cZ v_a v_image v_texts v_tape v_taped v_fault v_faultPlace v_at v_place v_token v_number v_word v_text0 v_written v_sort0 v_pile v_piled v_opens v_isWhole v_once v_named v_values v_truth v_isWritten v_died v_aside v_likely v_safe v_headOf) sz)) 0 0 (va_A (WM h q cI cJ cZ v_a v_image v_texts v_tape v_taped v_fault v_faultPlace v_at v_place v_token v_number v_word v_text0 v_written v_sort0 v_pile v_piled v_opens v_isWhole v_once v_named v_values v_truth v_isWritten v_died v_aside v_likely v_safe v_headOf) sz) := by
  refine mMet (Qc := (mQi D (WM h q cI cJ cZ v_a v_image v_texts v_tape v_taped v_fault v_faultPlace v_at v_place v_token v_number v_word v_text0 v_written v_sort0 v_pile v_piled v_opens v_isWhole v_once v_named v_values v_truth v_isWritten v_died v_aside v_likely v_safe v_headOf) o_r True)) (by decide) (Nat.le_of_ble_eq_true rfl) (fun p e s m below meth c A ls hx hb hr hml hts hown hlocks hK hA hP hD hl => ?_)
  have hown : s.vm.findClass RX12 = some m.cls := hown
  have hl : lv_has ls 3 [(0, .ref h), (1, .int p1), (2, .int p2)] := hl
  have hS : va_S A s.heap s.heap [] := va_S.rf
  unfold f_X12_ofLand at hf
  refine lv_aload_n hx hb dX12_ofLand_0 rfl (lv_at hl 0 rfl) ?_
  refine lv_iload_n hx hb dX12_ofLand_1 rfl (lv_at hl 1 rfl) ?_
  obtain ⟨r2, hg2, hf⟩ := ob1_some hf
  refine mcV1_i (As := [.int p1]) (rest := []) hx hb hml hown hts hK hP hD hS hA (k_X12_isLand l N D cI cJ cZ cB cT h q v_a v_image v_texts v_tape v_taped v_fault v_faultPlace v_at v_place v_token v_number v_word v_text0 v_written v_sort0 v_pile v_piled v_opens v_isWhole v_once v_named v_values v_truth v_isWritten v_died v_aside v_likely v_safe v_headOf p1 r2 hg2) (kwX12_75 hts rfl rfl ⟨Nat.le_of_ble_eq_true rfl, Nat.le_of_ble_eq_true rfl⟩) 0 rfl rfl rfl rfl hl.1 rfl (Nat.le_of_ble_eq_true rfl) dX12_ofLand_2 ⟨Nat.zero_le _, Nat.zero_le _⟩ (fun hB2 H locs hP hD hS => ?_)
  have hP : va_P D vwCl (WM h q cI cJ cZ v_a v_image v_texts v_tape v_taped v_fault v_faultPlace v_at v_place v_token v_number v_word v_text0 v_written v_sort0 v_pile v_piled v_opens v_isWhole v_once v_named v_values v_truth v_isWritten v_died v_aside v_likely v_safe v_headOf) H := hP
  have hD : va_D A (WM h q cI cJ cZ v_a v_image v_texts v_tape v_taped v_fault v_faultPlace v_at v_place v_token v_number v_word v_text0 v_written v_sort0 v_pile v_piled v_opens v_isWhole v_once v_named v_values v_truth v_isWritten v_died v_aside v_likely v_safe v_headOf) := hD
  refine xif_ne hx hb 10 dX12_ofLand_5 (by decide) hf (fun hf => ?_) (fun hf => ?_)
  · refine lv_iconst (v := (-1 : Int32)) hx hb dX12_ofLand_8 (by decide) ?_
    cases hf
    exact mret_i hx hb hr hlocks hP hD hS dX12_ofLand_9 rfl trivial
  · refine lv_iload_n hx hb dX12_ofLand_10 rfl (lv_at hl 2 rfl) ?_
    refine xif_ne hx hb 26 dX12_ofLand_11 (by decide) hf (fun hf => ?_) (fun hf => ?_)
    · refine lv_aload_n hx hb dX12_ofLand_14 rfl (lv_at hl 0 rfl) ?_
      refine gfX12_7 hx hb hts hown hK hP 0 rfl rfl dX12_ofLand_15 ?_
      refine lv_bipush (v := (80 : Int32)) hx hb dX12_ofLand_18 (by decide) ?_
      refine lv_iload_n hx hb dX12_ofLand_20 rfl (lv_at hl 1 rfl) ?_
      refine lv_iadd hx hb dX12_ofLand_21 ?_
      refine xiald hx hb hK hP 1 0 rfl rfl dX12_ofLand_22 hf (fun v22 hf => ?_)
      refine lv_goto (tgt := 57) hx hb dX12_ofLand_23 (by decide) ?_
      cases hf
      exact mret_i hx hb hr hlocks hP hD hS dX12_ofLand_57 rfl trivial
    · refine lv_iload_n hx hb dX12_ofLand_26 rfl (lv_at hl 2 rfl) ?_
      refine lv_iconst (v := (1 : Int32)) hx hb dX12_ofLand_27 (by decide) ?_
      refine xicmp_ne hx hb 43 dX12_ofLand_28 (by decide) hf (fun hf => ?_) (fun hf => ?_)
      · refine lv_aload_n hx hb dX12_ofLand_31 rfl (lv_at hl 0 rfl) ?_
        refine gfX12_7 hx hb hts hown hK hP 0 rfl rfl dX12_ofLand_32 ?_
        refine lv_bipush (v := (88 : Int32)) hx hb dX12_ofLand_35 (by decide) ?_
        refine lv_iload_n hx hb dX12_ofLand_37 rfl (lv_at hl 1 rfl) ?_
        refine lv_iadd hx hb dX12_ofLand_38 ?_
        refine xiald hx hb hK hP 1 0 rfl rfl dX12_ofLand_39 hf (fun v39 hf => ?_)
        refine lv_goto (tgt := 57) hx hb dX12_ofLand_40 (by decide) ?_
        cases hf
        exact mret_i hx hb hr hlocks hP hD hS dX12_ofLand_57 rfl trivial
      · refine lv_iload_n hx hb dX12_ofLand_43 rfl (lv_at hl 2 rfl) ?_
        refine lv_iconst (v := (2 : Int32)) hx hb dX12_ofLand_44 (by decide) ?_
        refine xicmp_ne hx hb 56 dX12_ofLand_45 (by decide) hf (fun hf => ?_) (fun hf => ?_)
        · refine lv_aload_n hx hb dX12_ofLand_48 rfl (lv_at hl 0 rfl) ?_
          refine lv_iload_n hx hb dX12_ofLand_49 rfl (lv_at hl 1 rfl) ?_
          obtain ⟨r50, hg50, hf⟩ := ob1_some hf
          refine mcV1_i (As := [.int p1]) (rest := []) hx hb hml hown hts hK hP hD hS hA (k_X12_aliveIn l N D cI cJ cZ cB cT h q v_a v_image v_texts v_tape v_taped v_fault v_faultPlace v_at v_place v_token v_number v_word v_text0 v_written v_sort0 v_pile v_piled v_opens v_isWhole v_once v_named v_values v_truth v_isWritten v_died v_aside v_likely v_safe v_headOf p1 r50 hg50) (kwX12_418 hts rfl rfl ⟨Nat.le_of_ble_eq_true rfl, Nat.le_of_ble_eq_true rfl⟩) 0 rfl rfl rfl rfl hl.1 rfl (Nat.le_of_ble_eq_true rfl) dX12_ofLand_50 ⟨Nat.zero_le _, Nat.zero_le _⟩ (fun hB50 H locs hP hD hS => ?_)
          have hP : va_P D vwCl (WM h q cI cJ cZ v_a v_image v_texts v_tape v_taped v_fault v_faultPlace v_at v_place v_token v_number v_word v_text0 v_written v_sort0 v_pile v_piled v_opens v_isWhole v_once v_named v_values v_truth v_isWritten v_died v_aside v_likely v_safe v_headOf) H := hP
          have hD : va_D A (WM h q cI cJ cZ v_a v_image v_texts v_tape v_taped v_fault v_faultPlace v_at v_place v_token v_number v_word v_text0 v_written v_sort0 v_pile v_piled v_opens v_isWhole v_once v_named v_values v_truth v_isWritten v_died v_aside v_likely v_safe v_headOf) := hD
          refine lv_goto (tgt := 57) hx hb dX12_ofLand_53 (by decide) ?_
          cases hf
          exact mret_i hx hb hr hlocks hP hD hS dX12_ofLand_57 rfl trivial
        · refine lv_iconst (v := (-1 : Int32)) hx hb dX12_ofLand_56 (by decide) ?_
          cases hf
          exact mret_i hx hb hr hlocks hP hD hS dX12_ofLand_57 rfl trivial
theorem dX12_is_0 : decode cX12_is 0 = .ok (.iload_n 1, 1) := by decide +kernel
theorem dX12_is_1 : decode cX12_is 1 = .ok (.iconst 0, 1) := by decide +kernel
theorem dX12_is_2 : decode cX12_is 2 = .ok (.iconst 1, 1) := by decide +kernel
theorem dX12_is_3 : decode cX12_is 3 = .ok (.invokestatic 63, 3) := by decide +kernel
theorem dX12_is_6 : decode cX12_is 6 = .ok (.ifCond .eq 15, 3) := by decide +kernel
theorem dX12_is_9 : decode cX12_is 9 = .ok (.aload_n 0, 1) := by decide +kernel
theorem dX12_is_10 : decode cX12_is 10 = .ok (.getfield 7, 3) := by decide +kernel
theorem dX12_is_13 : decode cX12_is 13 = .ok (.bipush 10, 2) := by decide +kernel
theorem dX12_is_15 : decode cX12_is 15 = .ok (.iload_n 1, 1) := by decide +kernel
theorem dX12_is_16 : decode cX12_is 16 = .ok (.iadd, 1) := by decide +kernel
theorem dX12_is_17 : decode cX12_is 17 = .ok (.iaload, 1) := by decide +kernel
theorem dX12_is_18 : decode cX12_is 18 = .ok (.goto 5, 3) := by decide +kernel
theorem dX12_is_21 : decode cX12_is 21 = .ok (.bipush (-2), 2) := by decide +kernel
theorem dX12_is_23 : decode cX12_is 23 = .ok (.ireturn, 1) := by decide +kernel
def f_X12_is (N : Nat) (v_a : Nat → Int32) (p1 : Int32) : Option (Int32) := ob1 (f_X12_isIn N p1 (0 : Int32) (1 : Int32)) fun r3 => if r3 = 0 then (some (-2 : Int32)) else (gA v_a 8762 ((10 : Int32) + p1) fun v17 => some v17)
set_option maxHeartbeats 4000000 in
set_option maxRecDepth 100000 in
theorem k_X12_is (l : Launch) (N : Nat) (D : va_G) (cI cJ cZ cB cT : ClassId) (h : Nat) (q : Nat → Nat) (v_a : Nat → Int32) (v_image : Nat → Int32) (v_texts : Nat → Int32) (v_tape : Nat → Int32) (v_taped : Int32) (v_fault : Int32) (v_faultPlace : Int32) (v_at : Int32) (v_place : Int32) (v_token : Int32) (v_number : Int32) (v_word : Int64) (v_text0 : Int32) (v_written : Int32) (v_sort0 : Int32) (v_pile : Nat → Int32) (v_piled : Int32) (v_opens : Int32) (v_isWhole : Int32) (v_once : Int32) (v_named : Nat → Int32) (v_values : Nat → Int64) (v_truth : Nat → Int32) (v_isWritten : Int32) (v_died : Int32) (v_aside : Nat → Int32) (v_likely : Nat → Int32) (v_safe : Nat → Int32) (v_headOf : Nat → Int32) (p1 : Int32) (o_r : Int32) (hf : f_X12_is N v_a p1 = some o_r) : ∀ sz, Met l yX12_is (mw yX12_is cX12_is 2 (some .int)) ({ frames := 1, cells := 0, slots := 0, locals := 22 } : Room) (mPre D (mT cI cJ cZ cB cT) (WM h q cI cJ cZ v_a v_image v_texts v_tape v_taped v_fault v_faultPlace v_at v_place v_token v_number v_word v_text0 v_written v_sort0 v_pile v_piled v_opens v_isWhole v_once v_named v_values v_truth v_isWritten v_died v_aside v_likely v_safe v_headOf) sz [.ref h, .int p1]) ((mQi D (WM h q cI cJ cZ v_a v_image v_texts v_tape v_taped v_fault v_faultPlace v_at v_place v_token v_number v_word v_text0 v_written v_sort0 v_pile v_piled v_opens v_isWhole v_once v_named v_values v_truth v_isWritten v_died v_aside v_likely v_safe v_headOf) o_r True) (va_A (WM h q cI cJ cZ v_a v_image v_texts v_tape v_taped v_fault v_faultPlace v_at v_place v_token v_number v_word v_text0 v_written v_sort0 v_pile v_piled v_opens v_isWhole v_once v_named v_values v_truth v_isWritten v_died v_aside v_likely v_safe v_headOf) sz)) 0 0 (va_A (WM h q cI cJ cZ v_a v_image v_texts v_tape v_taped v_fault v_faultPlace v_at v_place v_token v_number v_word v_text0 v_written v_sort0 v_pile v_piled v_opens v_isWhole v_once v_named v_values v_truth v_isWritten v_died v_aside v_likely v_safe v_headOf) sz) := by
  refine mMet (Qc := (mQi D (WM h q cI cJ cZ v_a v_image v_texts v_tape v_taped v_fault v_faultPlace v_at v_place v_token v_number v_word v_text0 v_written v_sort0 v_pile v_piled v_opens v_isWhole v_once v_named v_values v_truth v_isWritten v_died v_aside v_likely v_safe v_headOf) o_r True)) (by decide) (Nat.le_of_ble_eq_true rfl) (fun p e s m below meth c A ls hx hb hr hml hts hown hlocks hK hA hP hD hl => ?_)
  have hown : s.vm.findClass RX12 = some m.cls := hown
  have hl : lv_has ls 2 [(0, .ref h), (1, .int p1)] := hl
  have hS : va_S A s.heap s.heap [] := va_S.rf
  unfold f_X12_is at hf
  refine lv_iload_n hx hb dX12_is_0 rfl (lv_at hl 1 rfl) ?_
  refine lv_iconst (v := (0 : Int32)) hx hb dX12_is_1 (by decide) ?_
  refine lv_iconst (v := (1 : Int32)) hx hb dX12_is_2 (by decide) ?_
  obtain ⟨r3, hg3, hf⟩ := ob1_some hf
  refine mcS0_i (As := [.int p1, .int (0 : Int32), .int (1 : Int32)]) (rest := []) hx hb hml hown hts hK hP hD hS hA (k_X12_isIn l N D cI cJ cZ cB cT p1 (0 : Int32) (1 : Int32) r3 hg3) (kwX12_63 hts rfl rfl ⟨Nat.le_of_ble_eq_true rfl, Nat.le_of_ble_eq_true rfl⟩) rfl hl.1 rfl (Nat.le_of_ble_eq_true rfl) dX12_is_3 ⟨Nat.zero_le _, Nat.zero_le _⟩ (fun hB3 H locs hP hD hS => ?_)
  refine xif_eq hx hb 21 dX12_is_6 (by decide) hf (fun hf => ?_) (fun hf => ?_)
  · refine lv_bipush (v := (-2 : Int32)) hx hb dX12_is_21 (by decide) ?_
    cases hf
    exact mret_i hx hb hr hlocks hP hD hS dX12_is_23 rfl trivial
  · refine lv_aload_n hx hb dX12_is_9 rfl (lv_at hl 0 rfl) ?_
    refine gfX12_7 hx hb hts hown hK hP 0 rfl rfl dX12_is_10 ?_
    refine lv_bipush (v := (10 : Int32)) hx hb dX12_is_13 (by decide) ?_
    refine lv_iload_n hx hb dX12_is_15 rfl (lv_at hl 1 rfl) ?_
    refine lv_iadd hx hb dX12_is_16 ?_
    refine xiald hx hb hK hP 1 0 rfl rfl dX12_is_17 hf (fun v17 hf => ?_)
    refine lv_goto (tgt := 23) hx hb dX12_is_18 (by decide) ?_
    cases hf
    exact mret_i hx hb hr hlocks hP hD hS dX12_is_23 rfl trivial
theorem dX12_shown_0 : decode cX12_shown 0 = .ok (.aload_n 0, 1) := by decide +kernel
theorem dX12_shown_1 : decode cX12_shown 1 = .ok (.getfield 7, 3) := by decide +kernel
theorem dX12_shown_4 : decode cX12_shown 4 = .ok (.bipush 12, 2) := by decide +kernel
theorem dX12_shown_6 : decode cX12_shown 6 = .ok (.iaload, 1) := by decide +kernel
theorem dX12_shown_7 : decode cX12_shown 7 = .ok (.bipush 30, 2) := by decide +kernel
theorem dX12_shown_9 : decode cX12_shown 9 = .ok (.if_icmp .ge 13, 3) := by decide +kernel
theorem dX12_shown_12 : decode cX12_shown 12 = .ok (.aload_n 0, 1) := by decide +kernel
theorem dX12_shown_13 : decode cX12_shown 13 = .ok (.getfield 7, 3) := by decide +kernel
theorem dX12_shown_16 : decode cX12_shown 16 = .ok (.bipush 12, 2) := by decide +kernel
theorem dX12_shown_18 : decode cX12_shown 18 = .ok (.iaload, 1) := by decide +kernel
theorem dX12_shown_19 : decode cX12_shown 19 = .ok (.goto 5, 3) := by decide +kernel
theorem dX12_shown_22 : decode cX12_shown 22 = .ok (.bipush 30, 2) := by decide +kernel
theorem dX12_shown_24 : decode cX12_shown 24 = .ok (.ireturn, 1) := by decide +kernel
def f_X12_shown (N : Nat) (v_a : Nat → Int32) : Option (Int32) := gA v_a 8762 (12 : Int32) fun v6 => if (30 : Int32) ≤ v6 then (some (30 : Int32)) else (gA v_a 8762 (12 : Int32) fun v18 => some v18)
set_option maxHeartbeats 4000000 in
set_option maxRecDepth 100000 in
theorem k_X12_shown (l : Launch) (N : Nat) (D : va_G) (cI cJ cZ cB cT : ClassId) (h : Nat) (q : Nat → Nat) (v_a : Nat → Int32) (v_image : Nat → Int32) (v_texts : Nat → Int32) (v_tape : Nat → Int32) (v_taped : Int32) (v_fault : Int32) (v_faultPlace : Int32) (v_at : Int32) (v_place : Int32) (v_token : Int32) (v_number : Int32) (v_word : Int64) (v_text0 : Int32) (v_written : Int32) (v_sort0 : Int32) (v_pile : Nat → Int32) (v_piled : Int32) (v_opens : Int32) (v_isWhole : Int32) (v_once : Int32) (v_named : Nat → Int32) (v_values : Nat → Int64) (v_truth : Nat → Int32) (v_isWritten : Int32) (v_died : Int32) (v_aside : Nat → Int32) (v_likely : Nat → Int32) (v_safe : Nat → Int32) (v_headOf : Nat → Int32) (o_r : Int32) (hf : f_X12_shown N v_a = some o_r) : ∀ sz, Met l yX12_shown (mw yX12_shown cX12_shown 1 (some .int)) ({ frames := 0, cells := 0, slots := 0, locals := 0 } : Room) (mPre D (mT cI cJ cZ cB cT) (WM h q cI cJ cZ v_a v_image v_texts v_tape v_taped v_fault v_faultPlace v_at v_place v_token v_number v_word v_text0 v_written v_sort0 v_pile v_piled v_opens v_isWhole v_once v_named v_values v_truth v_isWritten v_died v_aside v_likely v_safe v_headOf) sz [.ref h]) ((mQi D (WM h q cI cJ cZ v_a v_image v_texts v_tape v_taped v_fault v_faultPlace v_at v_place v_token v_number v_word v_text0 v_written v_sort0 v_pile v_piled v_opens v_isWhole v_once v_named v_values v_truth v_isWritten v_died v_aside v_likely v_safe v_headOf) o_r True) (va_A (WM h q cI cJ cZ v_a v_image v_texts v_tape v_taped v_fault v_faultPlace v_at v_place v_token v_number v_word v_text0 v_written v_sort0 v_pile v_piled v_opens v_isWhole v_once v_named v_values v_truth v_isWritten v_died v_aside v_likely v_safe v_headOf) sz)) 0 0 (va_A (WM h q cI cJ cZ v_a v_image v_texts v_tape v_taped v_fault v_faultPlace v_at v_place v_token v_number v_word v_text0 v_written v_sort0 v_pile v_piled v_opens v_isWhole v_once v_named v_values v_truth v_isWritten v_died v_aside v_likely v_safe v_headOf) sz) := by
  refine mMet (Qc := (mQi D (WM h q cI cJ cZ v_a v_image v_texts v_tape v_taped v_fault v_faultPlace v_at v_place v_token v_number v_word v_text0 v_written v_sort0 v_pile v_piled v_opens v_isWhole v_once v_named v_values v_truth v_isWritten v_died v_aside v_likely v_safe v_headOf) o_r True)) (by decide) (Nat.le_of_ble_eq_true rfl) (fun p e s m below meth c A ls hx hb hr hml hts hown hlocks hK hA hP hD hl => ?_)
  have hown : s.vm.findClass RX12 = some m.cls := hown
  have hl : lv_has ls 1 [(0, .ref h)] := hl
  have hS : va_S A s.heap s.heap [] := va_S.rf
  unfold f_X12_shown at hf
  refine lv_aload_n hx hb dX12_shown_0 rfl (lv_at hl 0 rfl) ?_
  refine gfX12_7 hx hb hts hown hK hP 0 rfl rfl dX12_shown_1 ?_
  refine lv_bipush (v := (12 : Int32)) hx hb dX12_shown_4 (by decide) ?_
  refine xiald hx hb hK hP 1 0 rfl rfl dX12_shown_6 hf (fun v6 hf => ?_)
  refine lv_bipush (v := (30 : Int32)) hx hb dX12_shown_7 (by decide) ?_
  refine xicmp_ge hx hb 22 dX12_shown_9 (by decide) hf (fun hf => ?_) (fun hf => ?_)
  · refine lv_bipush (v := (30 : Int32)) hx hb dX12_shown_22 (by decide) ?_
    cases hf
    exact mret_i hx hb hr hlocks hP hD hS dX12_shown_24 rfl trivial
  · refine lv_aload_n hx hb dX12_shown_12 rfl (lv_at hl 0 rfl) ?_
    refine gfX12_7 hx hb hts hown hK hP 0 rfl rfl dX12_shown_13 ?_
    refine lv_bipush (v := (12 : Int32)) hx hb dX12_shown_16 (by decide) ?_
    refine xiald hx hb hK hP 1 0 rfl rfl dX12_shown_18 hf (fun v18 hf => ?_)
    refine lv_goto (tgt := 24) hx hb dX12_shown_19 (by decide) ?_
    cases hf
    exact mret_i hx hb hr hlocks hP hD hS dX12_shown_24 rfl trivial
theorem dX12_entry_0 : decode cX12_entry 0 = .ok (.aload_n 0, 1) := by decide +kernel
theorem dX12_entry_1 : decode cX12_entry 1 = .ok (.getfield 7, 3) := by decide +kernel
theorem dX12_entry_4 : decode cX12_entry 4 = .ok (.sipush 1522, 3) := by decide +kernel
theorem dX12_entry_7 : decode cX12_entry 7 = .ok (.aload_n 0, 1) := by decide +kernel
theorem dX12_entry_8 : decode cX12_entry 8 = .ok (.getfield 7, 3) := by decide +kernel
theorem dX12_entry_11 : decode cX12_entry 11 = .ok (.bipush 12, 2) := by decide +kernel
theorem dX12_entry_13 : decode cX12_entry 13 = .ok (.iaload, 1) := by decide +kernel
theorem dX12_entry_14 : decode cX12_entry 14 = .ok (.aload_n 0, 1) := by decide +kernel
theorem dX12_entry_15 : decode cX12_entry 15 = .ok (.invokevirtual 421, 3) := by decide +kernel
theorem dX12_entry_18 : decode cX12_entry 18 = .ok (.isub, 1) := by decide +kernel
theorem dX12_entry_19 : decode cX12_entry 19 = .ok (.iload_n 1, 1) := by decide +kernel
theorem dX12_entry_20 : decode cX12_entry 20 = .ok (.iadd, 1) := by decide +kernel
theorem dX12_entry_21 : decode cX12_entry 21 = .ok (.sipush 7240, 3) := by decide +kernel
theorem dX12_entry_24 : decode cX12_entry 24 = .ok (.irem, 1) := by decide +kernel
theorem dX12_entry_25 : decode cX12_entry 25 = .ok (.iadd, 1) := by decide +kernel
theorem dX12_entry_26 : decode cX12_entry 26 = .ok (.iaload, 1) := by decide +kernel
theorem dX12_entry_27 : decode cX12_entry 27 = .ok (.istore_n 3, 1) := by decide +kernel
theorem dX12_entry_28 : decode cX12_entry 28 = .ok (.iload_n 2, 1) := by decide +kernel
theorem dX12_entry_29 : decode cX12_entry 29 = .ok (.ifCond .ne 10, 3) := by decide +kernel
theorem dX12_entry_32 : decode cX12_entry 32 = .ok (.iload_n 3, 1) := by decide +kernel
theorem dX12_entry_33 : decode cX12_entry 33 = .ok (.bipush 64, 2) := by decide +kernel
theorem dX12_entry_35 : decode cX12_entry 35 = .ok (.idiv, 1) := by decide +kernel
theorem dX12_entry_36 : decode cX12_entry 36 = .ok (.goto 22, 3) := by decide +kernel
theorem dX12_entry_39 : decode cX12_entry 39 = .ok (.iload_n 2, 1) := by decide +kernel
theorem dX12_entry_40 : decode cX12_entry 40 = .ok (.iconst 1, 1) := by decide +kernel
theorem dX12_entry_41 : decode cX12_entry 41 = .ok (.if_icmp .ne 13, 3) := by decide +kernel
theorem dX12_entry_44 : decode cX12_entry 44 = .ok (.iload_n 3, 1) := by decide +kernel
theorem dX12_entry_45 : decode cX12_entry 45 = .ok (.bipush 8, 2) := by decide +kernel
theorem dX12_entry_47 : decode cX12_entry 47 = .ok (.idiv, 1) := by decide +kernel
theorem dX12_entry_48 : decode cX12_entry 48 = .ok (.bipush 8, 2) := by decide +kernel
theorem dX12_entry_50 : decode cX12_entry 50 = .ok (.irem, 1) := by decide +kernel
theorem dX12_entry_51 : decode cX12_entry 51 = .ok (.goto 7, 3) := by decide +kernel
theorem dX12_entry_54 : decode cX12_entry 54 = .ok (.iload_n 3, 1) := by decide +kernel
theorem dX12_entry_55 : decode cX12_entry 55 = .ok (.bipush 8, 2) := by decide +kernel
theorem dX12_entry_57 : decode cX12_entry 57 = .ok (.irem, 1) := by decide +kernel
theorem dX12_entry_58 : decode cX12_entry 58 = .ok (.ireturn, 1) := by decide +kernel
def f_X12_entry (N : Nat) (v_a : Nat → Int32) (p1 : Int32) (p2 : Int32) : Option (Int32) := gA v_a 8762 (12 : Int32) fun v13 => ob1 (f_X12_shown N v_a) fun r15 => rmI ((v13 - r15) + p1) (7240 : Int32) fun v24 => gA v_a 8762 ((1522 : Int32) + v24) fun v26 => if p2 = 0 then (dvI v26 (64 : Int32) fun v35 => some v35) else (if p2 = (1 : Int32) then (dvI v26 (8 : Int32) fun v47 => rmI v47 (8 : Int32) fun v50 => some v50) else (rmI v26 (8 : Int32) fun v57 => some v57))
set_option maxHeartbeats 4000000 in
set_option maxRecDepth 100000 in
theorem k_X12_entry (l : Launch) (N : Nat) (D : va_G) (cI cJ cZ cB cT : ClassId) (h : Nat) (q : Nat → Nat) (v_a : Nat → Int32) (v_image : Nat → Int32) (v_texts : Nat → Int32) (v_tape : Nat → Int32) (v_taped : Int32) (v_fault : Int32) (v_faultPlace : Int32) (v_at : Int32) (v_place : Int32) (v_token : Int32) (v_number : Int32) (v_word : Int64) (v_text0 : Int32) (v_written : Int32) (v_sort0 : Int32) (v_pile : Nat → Int32) (v_piled : Int32) (v_opens : Int32) (v_isWhole : Int32) (v_once : Int32) (v_named : Nat → Int32) (v_values : Nat → Int64) (v_truth : Nat → Int32) (v_isWritten : Int32) (v_died : Int32) (v_aside : Nat → Int32) (v_likely : Nat → Int32) (v_safe : Nat → Int32) (v_headOf : Nat → Int32) (p1 : Int32) (p2 : Int32) (o_r : Int32) (hf : f_X12_entry N v_a p1 p2 = some o_r) : ∀ sz, Met l yX12_entry (mw yX12_entry cX12_entry 4 (some .int)) ({ frames := 1, cells := 0, slots := 0, locals := 20 } : Room) (mPre D (mT cI cJ cZ cB cT) (WM h q cI cJ cZ v_a v_image v_texts v_tape v_taped v_fault v_faultPlace v_at v_place v_token v_number v_word v_text0 v_written v_sort0 v_pile v_piled v_opens v_isWhole v_once v_named v_values v_truth v_isWritten v_died v_aside v_likely v_safe v_headOf) sz [.ref h, .int p1, .int p2]) ((mQi D (WM h q cI cJ cZ v_a v_image v_texts v_tape v_taped v_fault v_faultPlace v_at v_place v_token v_number v_word v_text0 v_written v_sort0 v_pile v_piled v_opens v_isWhole v_once v_named v_values v_truth v_isWritten v_died v_aside v_likely v_safe v_headOf) o_r True) (va_A (WM h q cI cJ cZ v_a v_image v_texts v_tape v_taped v_fault v_faultPlace v_at v_place v_token v_number v_word v_text0 v_written v_sort0 v_pile v_piled v_opens v_isWhole v_once v_named v_values v_truth v_isWritten v_died v_aside v_likely v_safe v_headOf) sz)) 0 0 (va_A (WM h q cI cJ cZ v_a v_image v_texts v_tape v_taped v_fault v_faultPlace v_at v_place v_token v_number v_word v_text0 v_written v_sort0 v_pile v_piled v_opens v_isWhole v_once v_named v_values v_truth v_isWritten v_died v_aside v_likely v_safe v_headOf) sz) := by
  refine mMet (Qc := (mQi D (WM h q cI cJ cZ v_a v_image v_texts v_tape v_taped v_fault v_faultPlace v_at v_place v_token v_number v_word v_text0 v_written v_sort0 v_pile v_piled v_opens v_isWhole v_once v_named v_values v_truth v_isWritten v_died v_aside v_likely v_safe v_headOf) o_r True)) (by decide) (Nat.le_of_ble_eq_true rfl) (fun p e s m below meth c A ls hx hb hr hml hts hown hlocks hK hA hP hD hl => ?_)
  have hown : s.vm.findClass RX12 = some m.cls := hown
  have hl : lv_has ls 4 [(0, .ref h), (1, .int p1), (2, .int p2)] := hl
  have hS : va_S A s.heap s.heap [] := va_S.rf
  unfold f_X12_entry at hf
  refine lv_aload_n hx hb dX12_entry_0 rfl (lv_at hl 0 rfl) ?_
  refine gfX12_7 hx hb hts hown hK hP 0 rfl rfl dX12_entry_1 ?_
  refine lv_sipush (v := (1522 : Int32)) hx hb dX12_entry_4 (by decide) ?_
  refine lv_aload_n hx hb dX12_entry_7 rfl (lv_at hl 0 rfl) ?_
  refine gfX12_7 hx hb hts hown hK hP 0 rfl rfl dX12_entry_8 ?_
  refine lv_bipush (v := (12 : Int32)) hx hb dX12_entry_11 (by decide) ?_
  refine xiald hx hb hK hP 1 0 rfl rfl dX12_entry_13 hf (fun v13 hf => ?_)
  refine lv_aload_n hx hb dX12_entry_14 rfl (lv_at hl 0 rfl) ?_
  obtain ⟨r15, hg15, hf⟩ := ob1_some hf
  refine mcV1_i (As := []) (rest := [.int v13, .int (1522 : Int32), .ref (q 0)]) hx hb hml hown hts hK hP hD hS hA (k_X12_shown l N D cI cJ cZ cB cT h q v_a v_image v_texts v_tape v_taped v_fault v_faultPlace v_at v_place v_token v_number v_word v_text0 v_written v_sort0 v_pile v_piled v_opens v_isWhole v_once v_named v_values v_truth v_isWritten v_died v_aside v_likely v_safe v_headOf r15 hg15) (kwX12_421 hts rfl rfl ⟨Nat.le_of_ble_eq_true rfl, Nat.le_of_ble_eq_true rfl⟩) 0 rfl rfl rfl rfl hl.1 rfl (Nat.le_of_ble_eq_true rfl) dX12_entry_15 ⟨Nat.zero_le _, Nat.zero_le _⟩ (fun hB15 H locs hP hD hS => ?_)
  have hP : va_P D vwCl (WM h q cI cJ cZ v_a v_image v_texts v_tape v_taped v_fault v_faultPlace v_at v_place v_token v_number v_word v_text0 v_written v_sort0 v_pile v_piled v_opens v_isWhole v_once v_named v_values v_truth v_isWritten v_died v_aside v_likely v_safe v_headOf) H := hP
  have hD : va_D A (WM h q cI cJ cZ v_a v_image v_texts v_tape v_taped v_fault v_faultPlace v_at v_place v_token v_number v_word v_text0 v_written v_sort0 v_pile v_piled v_opens v_isWhole v_once v_named v_values v_truth v_isWritten v_died v_aside v_likely v_safe v_headOf) := hD
  refine lv_isub hx hb dX12_entry_18 ?_
  refine lv_iload_n hx hb dX12_entry_19 rfl (lv_at hl 1 rfl) ?_
  refine lv_iadd hx hb dX12_entry_20 ?_
  refine lv_sipush (v := (7240 : Int32)) hx hb dX12_entry_21 (by decide) ?_
  refine xirem hx hb dX12_entry_24 hf (fun v24 hf => ?_)
  refine lv_iadd hx hb dX12_entry_25 ?_
  refine xiald hx hb hK hP 1 0 rfl rfl dX12_entry_26 hf (fun v26 hf => ?_)
  refine lv_istore_n (lv' := [(3, .int v26), (0, .ref h), (1, .int p1), (2, .int p2)]) hx hb dX12_entry_27 rfl hl (by decide) rfl (fun ls hl => ?_)
  refine lv_iload_n hx hb dX12_entry_28 rfl (lv_at hl 3 rfl) ?_
  refine xif_ne hx hb 39 dX12_entry_29 (by decide) hf (fun hf => ?_) (fun hf => ?_)
  · refine lv_iload_n hx hb dX12_entry_32 rfl (lv_at hl 0 rfl) ?_
    refine lv_bipush (v := (64 : Int32)) hx hb dX12_entry_33 (by decide) ?_
    refine xidiv hx hb dX12_entry_35 hf (fun v35 hf => ?_)
    refine lv_goto (tgt := 58) hx hb dX12_entry_36 (by decide) ?_
    cases hf
    exact mret_i hx hb hr hlocks hP hD hS dX12_entry_58 rfl trivial
  · refine lv_iload_n hx hb dX12_entry_39 rfl (lv_at hl 3 rfl) ?_
    refine lv_iconst (v := (1 : Int32)) hx hb dX12_entry_40 (by decide) ?_
    refine xicmp_ne hx hb 54 dX12_entry_41 (by decide) hf (fun hf => ?_) (fun hf => ?_)
    · refine lv_iload_n hx hb dX12_entry_44 rfl (lv_at hl 0 rfl) ?_
      refine lv_bipush (v := (8 : Int32)) hx hb dX12_entry_45 (by decide) ?_
      refine xidiv hx hb dX12_entry_47 hf (fun v47 hf => ?_)
      refine lv_bipush (v := (8 : Int32)) hx hb dX12_entry_48 (by decide) ?_
      refine xirem hx hb dX12_entry_50 hf (fun v50 hf => ?_)
      refine lv_goto (tgt := 58) hx hb dX12_entry_51 (by decide) ?_
      cases hf
      exact mret_i hx hb hr hlocks hP hD hS dX12_entry_58 rfl trivial
    · refine lv_iload_n hx hb dX12_entry_54 rfl (lv_at hl 0 rfl) ?_
      refine lv_bipush (v := (8 : Int32)) hx hb dX12_entry_55 (by decide) ?_
      refine xirem hx hb dX12_entry_57 hf (fun v57 hf => ?_)
      cases hf
      exact mret_i hx hb hr hlocks hP hD hS dX12_entry_58 rfl trivial
theorem dX12_book_0 : decode cX12_book 0 = .ok (.iload_n 1, 1) := by decide +kernel
theorem dX12_book_1 : decode cX12_book 1 = .ok (.iconst (-1), 1) := by decide +kernel
theorem dX12_book_2 : decode cX12_book 2 = .ok (.if_icmp .ne 8, 3) := by decide +kernel
theorem dX12_book_5 : decode cX12_book 5 = .ok (.aload_n 0, 1) := by decide +kernel
theorem dX12_book_6 : decode cX12_book 6 = .ok (.invokevirtual 421, 3) := by decide +kernel
theorem dX12_book_9 : decode cX12_book 9 = .ok (.ireturn, 1) := by decide +kernel
theorem dX12_book_10 : decode cX12_book 10 = .ok (.iload_n 1, 1) := by decide +kernel
theorem dX12_book_11 : decode cX12_book 11 = .ok (.iconst 0, 1) := by decide +kernel
theorem dX12_book_12 : decode cX12_book 12 = .ok (.aload_n 0, 1) := by decide +kernel
theorem dX12_book_13 : decode cX12_book 13 = .ok (.invokevirtual 421, 3) := by decide +kernel
theorem dX12_book_16 : decode cX12_book 16 = .ok (.iconst 1, 1) := by decide +kernel
theorem dX12_book_17 : decode cX12_book 17 = .ok (.isub, 1) := by decide +kernel
theorem dX12_book_18 : decode cX12_book 18 = .ok (.invokestatic 63, 3) := by decide +kernel
theorem dX12_book_21 : decode cX12_book 21 = .ok (.ifCond .eq 21, 3) := by decide +kernel
theorem dX12_book_24 : decode cX12_book 24 = .ok (.iload_n 2, 1) := by decide +kernel
theorem dX12_book_25 : decode cX12_book 25 = .ok (.iconst 0, 1) := by decide +kernel
theorem dX12_book_26 : decode cX12_book 26 = .ok (.iconst 2, 1) := by decide +kernel
theorem dX12_book_27 : decode cX12_book 27 = .ok (.invokestatic 63, 3) := by decide +kernel
theorem dX12_book_30 : decode cX12_book 30 = .ok (.ifCond .eq 12, 3) := by decide +kernel
theorem dX12_book_33 : decode cX12_book 33 = .ok (.aload_n 0, 1) := by decide +kernel
theorem dX12_book_34 : decode cX12_book 34 = .ok (.iload_n 1, 1) := by decide +kernel
theorem dX12_book_35 : decode cX12_book 35 = .ok (.iload_n 2, 1) := by decide +kernel
theorem dX12_book_36 : decode cX12_book 36 = .ok (.invokevirtual 424, 3) := by decide +kernel
theorem dX12_book_39 : decode cX12_book 39 = .ok (.goto 5, 3) := by decide +kernel
theorem dX12_book_42 : decode cX12_book 42 = .ok (.bipush (-2), 2) := by decide +kernel
theorem dX12_book_44 : decode cX12_book 44 = .ok (.ireturn, 1) := by decide +kernel
def f_X12_book (N : Nat) (v_a : Nat → Int32) (p1 : Int32) (p2 : Int32) : Option (Int32) := if p1 = (-1 : Int32) then (ob1 (f_X12_shown N v_a) fun r6 => some r6) else (ob1 (f_X12_shown N v_a) fun r13 => ob1 (f_X12_isIn N p1 (0 : Int32) (r13 - (1 : Int32))) fun r18 => if r18 = 0 then (some (-2 : Int32)) else (ob1 (f_X12_isIn N p2 (0 : Int32) (2 : Int32)) fun r27 => if r27 = 0 then (some (-2 : Int32)) else (ob1 (f_X12_entry N v_a p1 p2) fun r36 => some r36)))
set_option maxHeartbeats 4000000 in
set_option maxRecDepth 100000 in
theorem k_X12_book (l : Launch) (N : Nat) (D : va_G) (cI cJ cZ cB cT : ClassId) (h : Nat) (q : Nat → Nat) (v_a : Nat → Int32) (v_image : Nat → Int32) (v_texts : Nat → Int32) (v_tape : Nat → Int32) (v_taped : Int32) (v_fault : Int32) (v_faultPlace : Int32) (v_at : Int32) (v_place : Int32) (v_token : Int32) (v_number : Int32) (v_word : Int64) (v_text0 : Int32) (v_written : Int32) (v_sort0 : Int32) (v_pile : Nat → Int32) (v_piled : Int32) (v_opens : Int32) (v_isWhole : Int32) (v_once : Int32) (v_named : Nat → Int32) (v_values : Nat → Int64) (v_truth : Nat → Int32) (v_isWritten : Int32) (v_died : Int32) (v_aside : Nat → Int32) (v_likely : Nat → Int32) (v_safe : Nat → Int32) (v_headOf : Nat → Int32) (p1 : Int32) (p2 : Int32) (o_r : Int32) (hf : f_X12_book N v_a p1 p2 = some o_r) : ∀ sz, Met l yX12_book (mw yX12_book cX12_book 3 (some .int)) ({ frames := 2, cells := 0, slots := 0, locals := 43 } : Room) (mPre D (mT cI cJ cZ cB cT) (WM h q cI cJ cZ v_a v_image v_texts v_tape v_taped v_fault v_faultPlace v_at v_place v_token v_number v_word v_text0 v_written v_sort0 v_pile v_piled v_opens v_isWhole v_once v_named v_values v_truth v_isWritten v_died v_aside v_likely v_safe v_headOf) sz [.ref h, .int p1, .int p2]) ((mQi D (WM h q cI cJ cZ v_a v_image v_texts v_tape v_taped v_fault v_faultPlace v_at v_place v_token v_number v_word v_text0 v_written v_sort0 v_pile v_piled v_opens v_isWhole v_once v_named v_values v_truth v_isWritten v_died v_aside v_likely v_safe v_headOf) o_r True) (va_A (WM h q cI cJ cZ v_a v_image v_texts v_tape v_taped v_fault v_faultPlace v_at v_place v_token v_number v_word v_text0 v_written v_sort0 v_pile v_piled v_opens v_isWhole v_once v_named v_values v_truth v_isWritten v_died v_aside v_likely v_safe v_headOf) sz)) 0 0 (va_A (WM h q cI cJ cZ v_a v_image v_texts v_tape v_taped v_fault v_faultPlace v_at v_place v_token v_number v_word v_text0 v_written v_sort0 v_pile v_piled v_opens v_isWhole v_once v_named v_values v_truth v_isWritten v_died v_aside v_likely v_safe v_headOf) sz) := by
  refine mMet (Qc := (mQi D (WM h q cI cJ cZ v_a v_image v_texts v_tape v_taped v_fault v_faultPlace v_at v_place v_token v_number v_word v_text0 v_written v_sort0 v_pile v_piled v_opens v_isWhole v_once v_named v_values v_truth v_isWritten v_died v_aside v_likely v_safe v_headOf) o_r True)) (by decide) (Nat.le_of_ble_eq_true rfl) (fun p e s m below meth c A ls hx hb hr hml hts hown hlocks hK hA hP hD hl => ?_)
  have hown : s.vm.findClass RX12 = some m.cls := hown
  have hl : lv_has ls 3 [(0, .ref h), (1, .int p1), (2, .int p2)] := hl
  have hS : va_S A s.heap s.heap [] := va_S.rf
  unfold f_X12_book at hf
  refine lv_iload_n hx hb dX12_book_0 rfl (lv_at hl 1 rfl) ?_
  refine lv_iconst (v := (-1 : Int32)) hx hb dX12_book_1 (by decide) ?_
  refine xicmp_ne hx hb 10 dX12_book_2 (by decide) hf (fun hf => ?_) (fun hf => ?_)
  · refine lv_aload_n hx hb dX12_book_5 rfl (lv_at hl 0 rfl) ?_
    obtain ⟨r6, hg6, hf⟩ := ob1_some hf
    refine mcV1_i (As := []) (rest := []) hx hb hml hown hts hK hP hD hS hA (k_X12_shown l N D cI cJ cZ cB cT h q v_a v_image v_texts v_tape v_taped v_fault v_faultPlace v_at v_place v_token v_number v_word v_text0 v_written v_sort0 v_pile v_piled v_opens v_isWhole v_once v_named v_values v_truth v_isWritten v_died v_aside v_likely v_safe v_headOf r6 hg6) (kwX12_421 hts rfl rfl ⟨Nat.le_of_ble_eq_true rfl, Nat.le_of_ble_eq_true rfl⟩) 0 rfl rfl rfl rfl hl.1 rfl (Nat.le_of_ble_eq_true rfl) dX12_book_6 ⟨Nat.zero_le _, Nat.zero_le _⟩ (fun hB6 H locs hP hD hS => ?_)
    have hP : va_P D vwCl (WM h q cI cJ cZ v_a v_image v_texts v_tape v_taped v_fault v_faultPlace v_at v_place v_token v_number v_word v_text0 v_written v_sort0 v_pile v_piled v_opens v_isWhole v_once v_named v_values v_truth v_isWritten v_died v_aside v_likely v_safe v_headOf) H := hP
    have hD : va_D A (WM h q cI cJ cZ v_a v_image v_texts v_tape v_taped v_fault v_faultPlace v_at v_place v_token v_number v_word v_text0 v_written v_sort0 v_pile v_piled v_opens v_isWhole v_once v_named v_values v_truth v_isWritten v_died v_aside v_likely v_safe v_headOf) := hD
    cases hf
    exact mret_i hx hb hr hlocks hP hD hS dX12_book_9 rfl trivial
  · refine lv_iload_n hx hb dX12_book_10 rfl (lv_at hl 1 rfl) ?_
    refine lv_iconst (v := (0 : Int32)) hx hb dX12_book_11 (by decide) ?_
    refine lv_aload_n hx hb dX12_book_12 rfl (lv_at hl 0 rfl) ?_
    obtain ⟨r13, hg13, hf⟩ := ob1_some hf
    refine mcV1_i (As := []) (rest := [.int (0 : Int32), .int p1]) hx hb hml hown hts hK hP hD hS hA (k_X12_shown l N D cI cJ cZ cB cT h q v_a v_image v_texts v_tape v_taped v_fault v_faultPlace v_at v_place v_token v_number v_word v_text0 v_written v_sort0 v_pile v_piled v_opens v_isWhole v_once v_named v_values v_truth v_isWritten v_died v_aside v_likely v_safe v_headOf r13 hg13) (kwX12_421 hts rfl rfl ⟨Nat.le_of_ble_eq_true rfl, Nat.le_of_ble_eq_true rfl⟩) 0 rfl rfl rfl rfl hl.1 rfl (Nat.le_of_ble_eq_true rfl) dX12_book_13 ⟨Nat.zero_le _, Nat.zero_le _⟩ (fun hB13 H locs hP hD hS => ?_)
    have hP : va_P D vwCl (WM h q cI cJ cZ v_a v_image v_texts v_tape v_taped v_fault v_faultPlace v_at v_place v_token v_number v_word v_text0 v_written v_sort0 v_pile v_piled v_opens v_isWhole v_once v_named v_values v_truth v_isWritten v_died v_aside v_likely v_safe v_headOf) H := hP
    have hD : va_D A (WM h q cI cJ cZ v_a v_image v_texts v_tape v_taped v_fault v_faultPlace v_at v_place v_token v_number v_word v_text0 v_written v_sort0 v_pile v_piled v_opens v_isWhole v_once v_named v_values v_truth v_isWritten v_died v_aside v_likely v_safe v_headOf) := hD
    refine lv_iconst (v := (1 : Int32)) hx hb dX12_book_16 (by decide) ?_
    refine lv_isub hx hb dX12_book_17 ?_
    obtain ⟨r18, hg18, hf⟩ := ob1_some hf
    refine mcS0_i (As := [.int p1, .int (0 : Int32), .int (r13 - (1 : Int32))]) (rest := []) hx hb hml hown hts hK hP hD hS hA (k_X12_isIn l N D cI cJ cZ cB cT p1 (0 : Int32) (r13 - (1 : Int32)) r18 hg18) (kwX12_63 hts rfl rfl ⟨Nat.le_of_ble_eq_true rfl, Nat.le_of_ble_eq_true rfl⟩) rfl hl.1 rfl (Nat.le_of_ble_eq_true rfl) dX12_book_18 ⟨Nat.zero_le _, Nat.zero_le _⟩ (fun hB18 H locs hP hD hS => ?_)
    refine xif_eq hx hb 42 dX12_book_21 (by decide) hf (fun hf => ?_) (fun hf => ?_)
    · refine lv_bipush (v := (-2 : Int32)) hx hb dX12_book_42 (by decide) ?_
      cases hf
      exact mret_i hx hb hr hlocks hP hD hS dX12_book_44 rfl trivial
    · refine lv_iload_n hx hb dX12_book_24 rfl (lv_at hl 2 rfl) ?_
      refine lv_iconst (v := (0 : Int32)) hx hb dX12_book_25 (by decide) ?_
      refine lv_iconst (v := (2 : Int32)) hx hb dX12_book_26 (by decide) ?_
      obtain ⟨r27, hg27, hf⟩ := ob1_some hf
      refine mcS0_i (As := [.int p2, .int (0 : Int32), .int (2 : Int32)]) (rest := []) hx hb hml hown hts hK hP hD hS hA (k_X12_isIn l N D cI cJ cZ cB cT p2 (0 : Int32) (2 : Int32) r27 hg27) (kwX12_63 hts rfl rfl ⟨Nat.le_of_ble_eq_true rfl, Nat.le_of_ble_eq_true rfl⟩) rfl hl.1 rfl (Nat.le_of_ble_eq_true rfl) dX12_book_27 ⟨Nat.zero_le _, Nat.zero_le _⟩ (fun hB27 H locs hP hD hS => ?_)
      refine xif_eq hx hb 42 dX12_book_30 (by decide) hf (fun hf => ?_) (fun hf => ?_)
      · refine lv_bipush (v := (-2 : Int32)) hx hb dX12_book_42 (by decide) ?_
        cases hf
        exact mret_i hx hb hr hlocks hP hD hS dX12_book_44 rfl trivial
      · refine lv_aload_n hx hb dX12_book_33 rfl (lv_at hl 0 rfl) ?_
        refine lv_iload_n hx hb dX12_book_34 rfl (lv_at hl 1 rfl) ?_
        refine lv_iload_n hx hb dX12_book_35 rfl (lv_at hl 2 rfl) ?_
        obtain ⟨r36, hg36, hf⟩ := ob1_some hf
        refine mcV1_i (As := [.int p1, .int p2]) (rest := []) hx hb hml hown hts hK hP hD hS hA (k_X12_entry l N D cI cJ cZ cB cT h q v_a v_image v_texts v_tape v_taped v_fault v_faultPlace v_at v_place v_token v_number v_word v_text0 v_written v_sort0 v_pile v_piled v_opens v_isWhole v_once v_named v_values v_truth v_isWritten v_died v_aside v_likely v_safe v_headOf p1 p2 r36 hg36) (kwX12_424 hts rfl rfl ⟨Nat.le_of_ble_eq_true rfl, Nat.le_of_ble_eq_true rfl⟩) 0 rfl rfl rfl rfl hl.1 rfl (Nat.le_of_ble_eq_true rfl) dX12_book_36 ⟨Nat.zero_le _, Nat.zero_le _⟩ (fun hB36 H locs hP hD hS => ?_)
        have hP : va_P D vwCl (WM h q cI cJ cZ v_a v_image v_texts v_tape v_taped v_fault v_faultPlace v_at v_place v_token v_number v_word v_text0 v_written v_sort0 v_pile v_piled v_opens v_isWhole v_once v_named v_values v_truth v_isWritten v_died v_aside v_likely v_safe v_headOf) H := hP
        have hD : va_D A (WM h q cI cJ cZ v_a v_image v_texts v_tape v_taped v_fault v_faultPlace v_at v_place v_token v_number v_word v_text0 v_written v_sort0 v_pile v_piled v_opens v_isWhole v_once v_named v_values v_truth v_isWritten v_died v_aside v_likely v_safe v_headOf) := hD
        refine lv_goto (tgt := 44) hx hb dX12_book_39 (by decide) ?_
        cases hf
        exact mret_i hx hb hr hlocks hP hD hS dX12_book_44 rfl trivial
theorem dX12_befell_0 : decode cX12_befell 0 = .ok (.iload_n 1, 1) := by decide +kernel
theorem dX12_befell_1 : decode cX12_befell 1 = .ok (.iconst (-1), 1) := by decide +kernel
theorem dX12_befell_2 : decode cX12_befell 2 = .ok (.if_icmp .eq 11, 3) := by decide +kernel
theorem dX12_befell_5 : decode cX12_befell 5 = .ok (.aload_n 0, 1) := by decide +kernel
theorem dX12_befell_6 : decode cX12_befell 6 = .ok (.iload_n 1, 1) := by decide +kernel
theorem dX12_befell_7 : decode cX12_befell 7 = .ok (.invokevirtual 67, 3) := by decide +kernel
theorem dX12_befell_10 : decode cX12_befell 10 = .ok (.ifCond .eq 13, 3) := by decide +kernel
theorem dX12_befell_13 : decode cX12_befell 13 = .ok (.iload_n 2, 1) := by decide +kernel
theorem dX12_befell_14 : decode cX12_befell 14 = .ok (.iconst 0, 1) := by decide +kernel
theorem dX12_befell_15 : decode cX12_befell 15 = .ok (.bipush 6, 2) := by decide +kernel
theorem dX12_befell_17 : decode cX12_befell 17 = .ok (.invokestatic 63, 3) := by decide +kernel
theorem dX12_befell_20 : decode cX12_befell 20 = .ok (.ifCond .ne 6, 3) := by decide +kernel
theorem dX12_befell_23 : decode cX12_befell 23 = .ok (.bipush (-2), 2) := by decide +kernel
theorem dX12_befell_25 : decode cX12_befell 25 = .ok (.ireturn, 1) := by decide +kernel
theorem dX12_befell_26 : decode cX12_befell 26 = .ok (.iconst 0, 1) := by decide +kernel
theorem dX12_befell_27 : decode cX12_befell 27 = .ok (.istore_n 3, 1) := by decide +kernel
theorem dX12_befell_28 : decode cX12_befell 28 = .ok (.iconst 0, 1) := by decide +kernel
theorem dX12_befell_29 : decode cX12_befell 29 = .ok (.istore 4, 2) := by decide +kernel
theorem dX12_befell_31 : decode cX12_befell 31 = .ok (.iload 4, 2) := by decide +kernel
theorem dX12_befell_33 : decode cX12_befell 33 = .ok (.aload_n 0, 1) := by decide +kernel
theorem dX12_befell_34 : decode cX12_befell 34 = .ok (.invokevirtual 421, 3) := by decide +kernel
theorem dX12_befell_37 : decode cX12_befell 37 = .ok (.if_icmp .ge 44, 3) := by decide +kernel
theorem dX12_befell_40 : decode cX12_befell 40 = .ok (.iload_n 3, 1) := by decide +kernel
theorem dX12_befell_41 : decode cX12_befell 41 = .ok (.aload_n 0, 1) := by decide +kernel
theorem dX12_befell_42 : decode cX12_befell 42 = .ok (.iload 4, 2) := by decide +kernel
theorem dX12_befell_44 : decode cX12_befell 44 = .ok (.iconst 2, 1) := by decide +kernel
theorem dX12_befell_45 : decode cX12_befell 45 = .ok (.invokevirtual 424, 3) := by decide +kernel
theorem dX12_befell_48 : decode cX12_befell 48 = .ok (.iload_n 2, 1) := by decide +kernel
theorem dX12_befell_49 : decode cX12_befell 49 = .ok (.if_icmp .ne 23, 3) := by decide +kernel
theorem dX12_befell_52 : decode cX12_befell 52 = .ok (.iload_n 1, 1) := by decide +kernel
theorem dX12_befell_53 : decode cX12_befell 53 = .ok (.iconst (-1), 1) := by decide +kernel
theorem dX12_befell_54 : decode cX12_befell 54 = .ok (.if_icmp .eq 14, 3) := by decide +kernel
theorem dX12_befell_57 : decode cX12_befell 57 = .ok (.aload_n 0, 1) := by decide +kernel
theorem dX12_befell_58 : decode cX12_befell 58 = .ok (.iload 4, 2) := by decide +kernel
theorem dX12_befell_60 : decode cX12_befell 60 = .ok (.iconst 1, 1) := by decide +kernel
theorem dX12_befell_61 : decode cX12_befell 61 = .ok (.invokevirtual 424, 3) := by decide +kernel
theorem dX12_befell_64 : decode cX12_befell 64 = .ok (.iload_n 1, 1) := by decide +kernel
theorem dX12_befell_65 : decode cX12_befell 65 = .ok (.if_icmp .ne 7, 3) := by decide +kernel
theorem dX12_befell_68 : decode cX12_befell 68 = .ok (.iconst 1, 1) := by decide +kernel
theorem dX12_befell_69 : decode cX12_befell 69 = .ok (.goto 4, 3) := by decide +kernel
theorem dX12_befell_72 : decode cX12_befell 72 = .ok (.iconst 0, 1) := by decide +kernel
theorem dX12_befell_73 : decode cX12_befell 73 = .ok (.iadd, 1) := by decide +kernel
theorem dX12_befell_74 : decode cX12_befell 74 = .ok (.istore_n 3, 1) := by decide +kernel
theorem dX12_befell_75 : decode cX12_befell 75 = .ok (.iinc 4 1, 3) := by decide +kernel
theorem dX12_befell_78 : decode cX12_befell 78 = .ok (.goto (-47), 3) := by decide +kernel
theorem dX12_befell_81 : decode cX12_befell 81 = .ok (.iload_n 3, 1) := by decide +kernel
theorem dX12_befell_82 : decode cX12_befell 82 = .ok (.ireturn, 1) := by decide +kernel
def f_X12_befell_73 (N : Nat) (k_31 : (Nat → Int32) → Int32 → Int32 → Int32 → Int32 → Option (Int32)) (v_a : Nat → Int32) (x1 : Int32) (x2 : Int32) (x4 : Int32) (s0 : Int32) (s1 : Int32) : Option (Int32) := k_31 v_a x1 x2 (s0 + s1) (x4 + (1 : Int32))
def f_X12_befell_72 (N : Nat) (k_31 : (Nat → Int32) → Int32 → Int32 → Int32 → Int32 → Option (Int32)) (v_a : Nat → Int32) (x1 : Int32) (x2 : Int32) (x4 : Int32) (s0 : Int32) : Option (Int32) := f_X12_befell_73 N k_31 v_a x1 x2 x4 s0 (0 : Int32)
def f_X12_befell_68 (N : Nat) (k_31 : (Nat → Int32) → Int32 → Int32 → Int32 → Int32 → Option (Int32)) (v_a : Nat → Int32) (x1 : Int32) (x2 : Int32) (x4 : Int32) (s0 : Int32) : Option (Int32) := f_X12_befell_73 N k_31 v_a x1 x2 x4 s0 (1 : Int32)
def f_X12_befell_31 (N : Nat) : Nat → (Nat → Int32) → Int32 → Int32 → Int32 → Int32 → Option (Int32)
  | 0, _, _, _, _, _ => none
  | n + 1, v_a, x1, x2, x3, x4 => ob1 (f_X12_shown N v_a) fun r34 => if r34 ≤ x4 then (some x3) else (ob1 (f_X12_entry N v_a x4 (2 : Int32)) fun r45 => if r45 = x2 then (if x1 = (-1 : Int32) then (f_X12_befell_68 N (f_X12_befell_31 N n) v_a x1 x2 x4 x3) else (ob1 (f_X12_entry N v_a x4 (1 : Int32)) fun r61 => if r61 = x1 then (f_X12_befell_68 N (f_X12_befell_31 N n) v_a x1 x2 x4 x3) else (f_X12_befell_72 N (f_X12_befell_31 N n) v_a x1 x2 x4 x3))) else (f_X12_befell_72 N (f_X12_befell_31 N n) v_a x1 x2 x4 x3))
def f_X12_befell_13 (N : Nat) (v_a : Nat → Int32) (x1 : Int32) (x2 : Int32) : Option (Int32) := ob1 (f_X12_isIn N x2 (0 : Int32) (6 : Int32)) fun r17 => if r17 = 0 then (some (-2 : Int32)) else (f_X12_befell_31 N N v_a x1 x2 (0 : Int32) (0 : Int32))
def f_X12_befell (N : Nat) (v_a : Nat → Int32) (p1 : Int32) (p2 : Int32) : Option (Int32) := if p1 = (-1 : Int32) then (f_X12_befell_13 N v_a p1 p2) else (ob1 (f_X12_isPerson N v_a p1) fun r7 => if r7 = 0 then (some (-2 : Int32)) else (f_X12_befell_13 N v_a p1 p2))
set_option maxHeartbeats 4000000 in
set_option maxRecDepth 100000 in
theorem k_X12_befell (l : Launch) (N : Nat) (D : va_G) (cI cJ cZ cB cT : ClassId) (h : Nat) (q : Nat → Nat) (v_a : Nat → Int32) (v_image : Nat → Int32) (v_texts : Nat → Int32) (v_tape : Nat → Int32) (v_taped : Int32) (v_fault : Int32) (v_faultPlace : Int32) (v_at : Int32) (v_place : Int32) (v_token : Int32) (v_number : Int32) (v_word : Int64) (v_text0 : Int32) (v_written : Int32) (v_sort0 : Int32) (v_pile : Nat → Int32) (v_piled : Int32) (v_opens : Int32) (v_isWhole : Int32) (v_once : Int32) (v_named : Nat → Int32) (v_values : Nat → Int64) (v_truth : Nat → Int32) (v_isWritten : Int32) (v_died : Int32) (v_aside : Nat → Int32) (v_likely : Nat → Int32) (v_safe : Nat → Int32) (v_headOf : Nat → Int32) (p1 : Int32) (p2 : Int32) (o_r : Int32) (hf : f_X12_befell N v_a p1 p2 = some o_r) : ∀ sz, Met l yX12_befell (mw yX12_befell cX12_befell 5 (some .int)) ({ frames := 2, cells := 0, slots := 0, locals := 43 } : Room) (mPre D (mT cI cJ cZ cB cT) (WM h q cI cJ cZ v_a v_image v_texts v_tape v_taped v_fault v_faultPlace v_at v_place v_token v_number v_word v_text0 v_written v_sort0 v_pile v_piled v_opens v_isWhole v_once v_named v_values v_truth v_isWritten v_died v_aside v_likely v_safe v_headOf) sz [.ref h, .int p1, .int p2]) ((mQi D (WM h q cI cJ cZ v_a v_image v_texts v_tape v_taped v_fault v_faultPlace v_at v_place v_token v_number v_word v_text0 v_written v_sort0 v_pile v_piled v_opens v_isWhole v_once v_named v_values v_truth v_isWritten v_died v_aside v_likely v_safe v_headOf) o_r True) (va_A (WM h q cI cJ cZ v_a v_image v_texts v_tape v_taped v_fault v_faultPlace v_at v_place v_token v_number v_word v_text0 v_written v_sort0 v_pile v_piled v_opens v_isWhole v_once v_named v_values v_truth v_isWritten v_died v_aside v_likely v_safe v_headOf) sz)) 0 0 (va_A (WM h q cI cJ cZ v_a v_image v_texts v_tape v_taped v_fault v_faultPlace v_at v_place v_token v_number v_word v_text0 v_written v_sort0 v_pile v_piled v_opens v_isWhole v_once v_named v_values v_truth v_isWritten v_died v_aside v_likely v_safe v_headOf) sz) := by
  refine mMet (Qc := (mQi D (WM h q cI cJ cZ v_a v_image v_texts v_tape v_taped v_fault v_faultPlace v_at v_place v_token v_number v_word v_text0 v_written v_sort0 v_pile v_piled v_opens v_isWhole v_once v_named v_values v_truth v_isWritten v_died v_aside v_likely v_safe v_headOf) o_r True)) (by decide) (Nat.le_of_ble_eq_true rfl) (fun p e s m below meth c A ls hx hb hr hml hts hown hlocks hK hA hP hD hl => ?_)
  have hown : s.vm.findClass RX12 = some m.cls := hown
  have hl : lv_has ls 5 [(0, .ref h), (1, .int p1), (2, .int p2)] := hl
  have hS : va_S A s.heap s.heap [] := va_S.rf
  have b31 : ∀ n31 : Nat, ∀ (x1 : Int32) (x2 : Int32) (x3 : Int32) (x4 : Int32) (H : Heap) (locs : List Loc) (ls : Array Slot), f_X12_befell_31 N n31 v_a x1 x2 x3 x4 = some o_r → va_P D vwCl (WM h q cI cJ cZ v_a v_image v_texts v_tape v_taped v_fault v_faultPlace v_at v_place v_token v_number v_word v_text0 v_written v_sort0 v_pile v_piled v_opens v_isWhole v_once v_named v_values v_truth v_isWritten v_died v_aside v_likely v_safe v_headOf) H → va_D A (WM h q cI cJ cZ v_a v_image v_texts v_tape v_taped v_fault v_faultPlace v_at v_place v_token v_number v_word v_text0 v_written v_sort0 v_pile v_piled v_opens v_isWhole v_once v_named v_values v_truth v_isWritten v_died v_aside v_likely v_safe v_headOf) → va_S A s.heap H locs → lv_has ls 5 [(0, .ref h), (1, .int x1), (2, .int x2), (3, .int x3), (4, .int x4)] → W p l e ({ frames := 2, cells := 0, slots := 0, locals := 43 } : Room) s m ([.ref h, .int p1, .int p2] : List Value).toArray below meth c H locs 0 0 (MQ below ((mQi D (WM h q cI cJ cZ v_a v_image v_texts v_tape v_taped v_fault v_faultPlace v_at v_place v_token v_number v_word v_text0 v_written v_sort0 v_pile v_piled v_opens v_isWhole v_once v_named v_values v_truth v_isWritten v_died v_aside v_likely v_safe v_headOf) o_r True) A) ([.ref h, .int p1, .int p2] : List Value).toArray s 0 0 A) (F0 m 31 ls []) := by
    intro n31
    induction n31 with
    | zero =>
      intro x1 x2 x3 x4 H locs ls hf hP hD hS hl
      simp [f_X12_befell_31] at hf
    | succ n31 ih31 =>
      have b73 : ∀ (x1 : Int32) (x2 : Int32) (x4 : Int32) (s0 : Int32) (s1 : Int32) (H : Heap) (locs : List Loc) (ls : Array Slot), f_X12_befell_73 N (f_X12_befell_31 N n31) v_a x1 x2 x4 s0 s1 = some o_r → va_P D vwCl (WM h q cI cJ cZ v_a v_image v_texts v_tape v_taped v_fault v_faultPlace v_at v_place v_token v_number v_word v_text0 v_written v_sort0 v_pile v_piled v_opens v_isWhole v_once v_named v_values v_truth v_isWritten v_died v_aside v_likely v_safe v_headOf) H → va_D A (WM h q cI cJ cZ v_a v_image v_texts v_tape v_taped v_fault v_faultPlace v_at v_place v_token v_number v_word v_text0 v_written v_sort0 v_pile v_piled v_opens v_isWhole v_once v_named v_values v_truth v_isWritten v_died v_aside v_likely v_safe v_headOf) → va_S A s.heap H locs → lv_has ls 5 [(0, .ref h), (1, .int x1), (2, .int x2), (4, .int x4)] → W p l e ({ frames := 2, cells := 0, slots := 0, locals := 43 } : Room) s m ([.ref h, .int p1, .int p2] : List Value).toArray below meth c H locs 0 0 (MQ below ((mQi D (WM h q cI cJ cZ v_a v_image v_texts v_tape v_taped v_fault v_faultPlace v_at v_place v_token v_number v_word v_text0 v_written v_sort0 v_pile v_piled v_opens v_isWhole v_once v_named v_values v_truth v_isWritten v_died v_aside v_likely v_safe v_headOf) o_r True) A) ([.ref h, .int p1, .int p2] : List Value).toArray s 0 0 A) (F0 m 73 ls [.int s1, .int s0]) := by
        intro x1 x2 x4 s0 s1 H locs ls hf hP hD hS hl
        unfold f_X12_befell_73 at hf
        refine lv_iadd hx hb dX12_befell_73 ?_
        refine lv_istore_n (lv' := [(3, .int (s0 + s1)), (0, .ref h), (1, .int x1), (2, .int x2), (4, .int x4)]) hx hb dX12_befell_74 rfl hl (by decide) rfl (fun ls hl => ?_)
        refine lv_iinc (v := (x4 + (1 : Int32))) (lv' := [(4, .int (x4 + (1 : Int32))), (3, .int (s0 + s1)), (0, .ref h), (1, .int x1), (2, .int x2)]) hx hb dX12_befell_75 hl (k := 4) rfl rfl (by decide) rfl (fun ls hl => ?_)
        refine lv_goto (tgt := 31) hx hb dX12_befell_78 (by decide) ?_
        exact ih31 x1 x2 (s0 + s1) (x4 + (1 : Int32)) _ _ _ hf hP hD hS (lv_sub hl [2, 3, 4, 1, 0] rfl)
      have b72 : ∀ (x1 : Int32) (x2 : Int32) (x4 : Int32) (s0 : Int32) (H : Heap) (locs : List Loc) (ls : Array Slot), f_X12_befell_72 N (f_X12_befell_31 N n31) v_a x1 x2 x4 s0 = some o_r → va_P D vwCl (WM h q cI cJ cZ v_a v_image v_texts v_tape v_taped v_fault v_faultPlace v_at v_place v_token v_number v_word v_text0 v_written v_sort0 v_pile v_piled v_opens v_isWhole v_once v_named v_values v_truth v_isWritten v_died v_aside v_likely v_safe v_headOf) H → va_D A (WM h q cI cJ cZ v_a v_image v_texts v_tape v_taped v_fault v_faultPlace v_at v_place v_token v_number v_word v_text0 v_written v_sort0 v_pile v_piled v_opens v_isWhole v_once v_named v_values v_truth v_isWritten v_died v_aside v_likely v_safe v_headOf) → va_S A s.heap H locs → lv_has ls 5 [(0, .ref h), (1, .int x1), (2, .int x2), (4, .int x4)] → W p l e ({ frames := 2, cells := 0, slots := 0, locals := 43 } : Room) s m ([.ref h, .int p1, .int p2] : List Value).toArray below meth c H locs 0 0 (MQ below ((mQi D (WM h q cI cJ cZ v_a v_image v_texts v_tape v_taped v_fault v_faultPlace v_at v_place v_token v_number v_word v_text0 v_written v_sort0 v_pile v_piled v_opens v_isWhole v_once v_named v_values v_truth v_isWritten v_died v_aside v_likely v_safe v_headOf) o_r True) A) ([.ref h, .int p1, .int p2] : List Value).toArray s 0 0 A) (F0 m 72 ls [.int s0]) := by
        intro x1 x2 x4 s0 H locs ls hf hP hD hS hl
        unfold f_X12_befell_72 at hf
        refine lv_iconst (v := (0 : Int32)) hx hb dX12_befell_72 (by decide) ?_
        exact b73 x1 x2 x4 s0 (0 : Int32) _ _ _ hf hP hD hS (lv_sub hl [0, 1, 2, 3] rfl)
      have b68 : ∀ (x1 : Int32) (x2 : Int32) (x4 : Int32) (s0 : Int32) (H : Heap) (locs : List Loc) (ls : Array Slot), f_X12_befell_68 N (f_X12_befell_31 N n31) v_a x1 x2 x4 s0 = some o_r → va_P D vwCl (WM h q cI cJ cZ v_a v_image v_texts v_tape v_taped v_fault v_faultPlace v_at v_place v_token v_number v_word v_text0 v_written v_sort0 v_pile v_piled v_opens v_isWhole v_once v_named v_values v_truth v_isWritten v_died v_aside v_likely v_safe v_headOf) H → va_D A (WM h q cI cJ cZ v_a v_image v_texts v_tape v_taped v_fault v_faultPlace v_at v_place v_token v_number v_word v_text0 v_written v_sort0 v_pile v_piled v_opens v_isWhole v_once v_named v_values v_truth v_isWritten v_died v_aside v_likely v_safe v_headOf) → va_S A s.heap H locs → lv_has ls 5 [(0, .ref h), (1, .int x1), (2, .int x2), (4, .int x4)] → W p l e ({ frames := 2, cells := 0, slots := 0, locals := 43 } : Room) s m ([.ref h, .int p1, .int p2] : List Value).toArray below meth c H locs 0 0 (MQ below ((mQi D (WM h q cI cJ cZ v_a v_image v_texts v_tape v_taped v_fault v_faultPlace v_at v_place v_token v_number v_word v_text0 v_written v_sort0 v_pile v_piled v_opens v_isWhole v_once v_named v_values v_truth v_isWritten v_died v_aside v_likely v_safe v_headOf) o_r True) A) ([.ref h, .int p1, .int p2] : List Value).toArray s 0 0 A) (F0 m 68 ls [.int s0]) := by
        intro x1 x2 x4 s0 H locs ls hf hP hD hS hl
        unfold f_X12_befell_68 at hf
        refine lv_iconst (v := (1 : Int32)) hx hb dX12_befell_68 (by decide) ?_
        refine lv_goto (tgt := 73) hx hb dX12_befell_69 (by decide) ?_
        exact b73 x1 x2 x4 s0 (1 : Int32) _ _ _ hf hP hD hS (lv_sub hl [0, 1, 2, 3] rfl)
      intro x1 x2 x3 x4 H locs ls hf hP hD hS hl
      rw [f_X12_befell_31.eq_2] at hf
      refine lv_iload hx hb dX12_befell_31 (lv_at hl 4 rfl) ?_
      refine lv_aload_n hx hb dX12_befell_33 rfl (lv_at hl 0 rfl) ?_
      obtain ⟨r34, hg34, hf⟩ := ob1_some hf
      refine mcV1_i (As := []) (rest := [.int x4]) hx hb hml hown hts hK hP hD hS hA (k_X12_shown l N D cI cJ cZ cB cT h q v_a v_image v_texts v_tape v_taped v_fault v_faultPlace v_at v_place v_token v_number v_word v_text0 v_written v_sort0 v_pile v_piled v_opens v_isWhole v_once v_named v_values v_truth v_isWritten v_died v_aside v_likely v_safe v_headOf r34 hg34) (kwX12_421 hts rfl rfl ⟨Nat.le_of_ble_eq_true rfl, Nat.le_of_ble_eq_true rfl⟩) 0 rfl rfl rfl rfl hl.1 rfl (Nat.le_of_ble_eq_true rfl) dX12_befell_34 ⟨Nat.zero_le _, Nat.zero_le _⟩ (fun hB34 H locs hP hD hS => ?_)
      have hP : va_P D vwCl (WM h q cI cJ cZ v_a v_image v_texts v_tape v_taped v_fault v_faultPlace v_at v_place v_token v_number v_word v_text0 v_written v_sort0 v_pile v_piled v_opens v_isWhole v_once v_named v_values v_truth v_isWritten v_died v_aside v_likely v_safe v_headOf) H := hP
      have hD : va_D A (WM h q cI cJ cZ v_a v_image v_texts v_tape v_taped v_fault v_faultPlace v_at v_place v_token v_number v_word v_text0 v_written v_sort0 v_pile v_piled v_opens v_isWhole v_once v_named v_values v_truth v_isWritten v_died v_aside v_likely v_safe v_headOf) := hD
      refine xicmp_ge hx hb 81 dX12_befell_37 (by decide) hf (fun hf => ?_) (fun hf => ?_)
      · refine lv_iload_n hx hb dX12_befell_81 rfl (lv_at hl 3 rfl) ?_
        cases hf
        exact mret_i hx hb hr hlocks hP hD hS dX12_befell_82 rfl trivial
      · refine lv_iload_n hx hb dX12_befell_40 rfl (lv_at hl 3 rfl) ?_
        refine lv_aload_n hx hb dX12_befell_41 rfl (lv_at hl 0 rfl) ?_
        refine lv_iload hx hb dX12_befell_42 (lv_at hl 4 rfl) ?_
        refine lv_iconst (v := (2 : Int32)) hx hb dX12_befell_44 (by decide) ?_
        obtain ⟨r45, hg45, hf⟩ := ob1_some hf
        refine mcV1_i (As := [.int x4, .int (2 : Int32)]) (rest := [.int x3]) hx hb hml hown hts hK hP hD hS hA (k_X12_entry l N D cI cJ cZ cB cT h q v_a v_image v_texts v_tape v_taped v_fault v_faultPlace v_at v_place v_token v_number v_word v_text0 v_written v_sort0 v_pile v_piled v_opens v_isWhole v_once v_named v_values v_truth v_isWritten v_died v_aside v_likely v_safe v_headOf x4 (2 : Int32) r45 hg45) (kwX12_424 hts rfl rfl ⟨Nat.le_of_ble_eq_true rfl, Nat.le_of_ble_eq_true rfl⟩) 0 rfl rfl rfl rfl hl.1 rfl (Nat.le_of_ble_eq_true rfl) dX12_befell_45 ⟨Nat.zero_le _, Nat.zero_le _⟩ (fun hB45 H locs hP hD hS => ?_)
        have hP : va_P D vwCl (WM h q cI cJ cZ v_a v_image v_texts v_tape v_taped v_fault v_faultPlace v_at v_place v_token v_number v_word v_text0 v_written v_sort0 v_pile v_piled v_opens v_isWhole v_once v_named v_values v_truth v_isWritten v_died v_aside v_likely v_safe v_headOf) H := hP
        have hD : va_D A (WM h q cI cJ cZ v_a v_image v_texts v_tape v_taped v_fault v_faultPlace v_at v_place v_token v_number v_word v_text0 v_written v_sort0 v_pile v_piled v_opens v_isWhole v_once v_named v_values v_truth v_isWritten v_died v_aside v_likely v_safe v_headOf) := hD
        refine lv_iload_n hx hb dX12_befell_48 rfl (lv_at hl 2 rfl) ?_
        refine xicmp_ne hx hb 72 dX12_befell_49 (by decide) hf (fun hf => ?_) (fun hf => ?_)
        · refine lv_iload_n hx hb dX12_befell_52 rfl (lv_at hl 1 rfl) ?_
          refine lv_iconst (v := (-1 : Int32)) hx hb dX12_befell_53 (by decide) ?_
          refine xicmp_eq hx hb 68 dX12_befell_54 (by decide) hf (fun hf => ?_) (fun hf => ?_)
          · exact b68 x1 x2 x4 x3 _ _ _ hf hP hD hS (lv_sub hl [0, 1, 2, 4] rfl)
          · refine lv_aload_n hx hb dX12_befell_57 rfl (lv_at hl 0 rfl) ?_
            refine lv_iload hx hb dX12_befell_58 (lv_at hl 4 rfl) ?_
            refine lv_iconst (v := (1 : Int32)) hx hb dX12_befell_60 (by decide) ?_
            obtain ⟨r61, hg61, hf⟩ := ob1_some hf
            refine mcV1_i (As := [.int x4, .int (1 : Int32)]) (rest := [.int x3]) hx hb hml hown hts hK hP hD hS hA (k_X12_entry l N D cI cJ cZ cB cT h q v_a v_image v_texts v_tape v_taped v_fault v_faultPlace v_at v_place v_token v_number v_word v_text0 v_written v_sort0 v_pile v_piled v_opens v_isWhole v_once v_named v_values v_truth v_isWritten v_died v_aside v_likely v_safe v_headOf x4 (1 : Int32) r61 hg61) (kwX12_424 hts rfl rfl ⟨Nat.le_of_ble_eq_true rfl, Nat.le_of_ble_eq_true rfl⟩) 0 rfl rfl rfl rfl hl.1 rfl (Nat.le_of_ble_eq_true rfl) dX12_befell_61 ⟨Nat.zero_le _, Nat.zero_le _⟩ (fun hB61 H locs hP hD hS => ?_)
            have hP : va_P D vwCl (WM h q cI cJ cZ v_a v_image v_texts v_tape v_taped v_fault v_faultPlace v_at v_place v_token v_number v_word v_text0 v_written v_sort0 v_pile v_piled v_opens v_isWhole v_once v_named v_values v_truth v_isWritten v_died v_aside v_likely v_safe v_headOf) H := hP
            have hD : va_D A (WM h q cI cJ cZ v_a v_image v_texts v_tape v_taped v_fault v_faultPlace v_at v_place v_token v_number v_word v_text0 v_written v_sort0 v_pile v_piled v_opens v_isWhole v_once v_named v_values v_truth v_isWritten v_died v_aside v_likely v_safe v_headOf) := hD
            refine lv_iload_n hx hb dX12_befell_64 rfl (lv_at hl 1 rfl) ?_
            refine xicmp_ne hx hb 72 dX12_befell_65 (by decide) hf (fun hf => ?_) (fun hf => ?_)
            · exact b68 x1 x2 x4 x3 _ _ _ hf hP hD hS (lv_sub hl [0, 1, 2, 4] rfl)
            · exact b72 x1 x2 x4 x3 _ _ _ hf hP hD hS (lv_sub hl [0, 1, 2, 4] rfl)
        · exact b72 x1 x2 x4 x3 _ _ _ hf hP hD hS (lv_sub hl [0, 1, 2, 4] rfl)
  have b13 : ∀ (x1 : Int32) (x2 : Int32) (H : Heap) (locs : List Loc) (ls : Array Slot), f_X12_befell_13 N v_a x1 x2 = some o_r → va_P D vwCl (WM h q cI cJ cZ v_a v_image v_texts v_tape v_taped v_fault v_faultPlace v_at v_place v_token v_number v_word v_text0 v_written v_sort0 v_pile v_piled v_opens v_isWhole v_once v_named v_values v_truth v_isWritten v_died v_aside v_likely v_safe v_headOf) H → va_D A (WM h q cI cJ cZ v_a v_image v_texts v_tape v_taped v_fault v_faultPlace v_at v_place v_token v_number v_word v_text0 v_written v_sort0 v_pile v_piled v_opens v_isWhole v_once v_named v_values v_truth v_isWritten v_died v_aside v_likely v_safe v_headOf) → va_S A s.heap H locs → lv_has ls 5 [(0, .ref h), (1, .int x1), (2, .int x2)] → W p l e ({ frames := 2, cells := 0, slots := 0, locals := 43 } : Room) s m ([.ref h, .int p1, .int p2] : List Value).toArray below meth c H locs 0 0 (MQ below ((mQi D (WM h q cI cJ cZ v_a v_image v_texts v_tape v_taped v_fault v_faultPlace v_at v_place v_token v_number v_word v_text0 v_written v_sort0 v_pile v_piled v_opens v_isWhole v_once v_named v_values v_truth v_isWritten v_died v_aside v_likely v_safe v_headOf) o_r True) A) ([.ref h, .int p1, .int p2] : List Value).toArray s 0 0 A) (F0 m 13 ls []) := by
    intro x1 x2 H locs ls hf hP hD hS hl
    unfold f_X12_befell_13 at hf
    refine lv_iload_n hx hb dX12_befell_13 rfl (lv_at hl 2 rfl) ?_
    refine lv_iconst (v := (0 : Int32)) hx hb dX12_befell_14 (by decide) ?_
    refine lv_bipush (v := (6 : Int32)) hx hb dX12_befell_15 (by decide) ?_
    obtain ⟨r17, hg17, hf⟩ := ob1_some hf
    refine mcS0_i (As := [.int x2, .int (0 : Int32), .int (6 : Int32)]) (rest := []) hx hb hml hown hts hK hP hD hS hA (k_X12_isIn l N D cI cJ cZ cB cT x2 (0 : Int32) (6 : Int32) r17 hg17) (kwX12_63 hts rfl rfl ⟨Nat.le_of_ble_eq_true rfl, Nat.le_of_ble_eq_true rfl⟩) rfl hl.1 rfl (Nat.le_of_ble_eq_true rfl) dX12_befell_17 ⟨Nat.zero_le _, Nat.zero_le _⟩ (fun hB17 H locs hP hD hS => ?_)
    refine xif_ne hx hb 26 dX12_befell_20 (by decide) hf (fun hf => ?_) (fun hf => ?_)
    · refine lv_bipush (v := (-2 : Int32)) hx hb dX12_befell_23 (by decide) ?_
      cases hf
      exact mret_i hx hb hr hlocks hP hD hS dX12_befell_25 rfl trivial
    · refine lv_iconst (v := (0 : Int32)) hx hb dX12_befell_26 (by decide) ?_
      refine lv_istore_n (lv' := [(3, .int (0 : Int32)), (0, .ref h), (1, .int x1), (2, .int x2)]) hx hb dX12_befell_27 rfl hl (by decide) rfl (fun ls hl => ?_)
      refine lv_iconst (v := (0 : Int32)) hx hb dX12_befell_28 (by decide) ?_
      refine lv_istore (lv' := [(4, .int (0 : Int32)), (3, .int (0 : Int32)), (0, .ref h), (1, .int x1), (2, .int x2)]) hx hb dX12_befell_29 hl (by decide) rfl (fun ls hl => ?_)
      exact b31 N x1 x2 (0 : Int32) (0 : Int32) _ _ _ hf hP hD hS (lv_sub hl [2, 3, 4, 1, 0] rfl)
  unfold f_X12_befell at hf
  refine lv_iload_n hx hb dX12_befell_0 rfl (lv_at hl 1 rfl) ?_
  refine lv_iconst (v := (-1 : Int32)) hx hb dX12_befell_1 (by decide) ?_
  refine xicmp_eq hx hb 13 dX12_befell_2 (by decide) hf (fun hf => ?_) (fun hf => ?_)
  · exact b13 p1 p2 _ _ _ hf hP hD hS (lv_sub hl [0, 1, 2] rfl)
  · refine lv_aload_n hx hb dX12_befell_5 rfl (lv_at hl 0 rfl) ?_
    refine lv_iload_n hx hb dX12_befell_6 rfl (lv_at hl 1 rfl) ?_
    obtain ⟨r7, hg7, hf⟩ := ob1_some hf
    refine mcV1_i (As := [.int p1]) (rest := []) hx hb hml hown hts hK hP hD hS hA (k_X12_isPerson l N D cI cJ cZ cB cT h q v_a v_image v_texts v_tape v_taped v_fault v_faultPlace v_at v_place v_token v_number v_word v_text0 v_written v_sort0 v_pile v_piled v_opens v_isWhole v_once v_named v_values v_truth v_isWritten v_died v_aside v_likely v_safe v_headOf p1 r7 hg7) (kwX12_67 hts rfl rfl ⟨Nat.le_of_ble_eq_true rfl, Nat.le_of_ble_eq_true rfl⟩) 0 rfl rfl rfl rfl hl.1 rfl (Nat.le_of_ble_eq_true rfl) dX12_befell_7 ⟨Nat.zero_le _, Nat.zero_le _⟩ (fun hB7 H locs hP hD hS => ?_)
    have hP : va_P D vwCl (WM h q cI cJ cZ v_a v_image v_texts v_tape v_taped v_fault v_faultPlace v_at v_place v_token v_number v_word v_text0 v_written v_sort0 v_pile v_piled v_opens v_isWhole v_once v_named v_values v_truth v_isWritten v_died v_aside v_likely v_safe v_headOf) H := hP
    have hD : va_D A (WM h q cI cJ cZ v_a v_image v_texts v_tape v_taped v_fault v_faultPlace v_at v_place v_token v_number v_word v_text0 v_written v_sort0 v_pile v_piled v_opens v_isWhole v_once v_named v_values v_truth v_isWritten v_died v_aside v_likely v_safe v_headOf) := hD
    refine xif_eq hx hb 23 dX12_befell_10 (by decide) hf (fun hf => ?_) (fun hf => ?_)
    · refine lv_bipush (v := (-2 : Int32)) hx hb dX12_befell_23 (by decide) ?_
      cases hf
      exact mret_i hx hb hr hlocks hP hD hS dX12_befell_25 rfl trivial
    · exact b13 p1 p2 _ _ _ hf hP hD hS (lv_sub hl [0, 1, 2] rfl)
theorem dX12_heirs_0 : decode cX12_heirs 0 = .ok (.aload_n 0, 1) := by decide +kernel
theorem dX12_heirs_1 : decode cX12_heirs 1 = .ok (.iload_n 1, 1) := by decide +kernel
theorem dX12_heirs_2 : decode cX12_heirs 2 = .ok (.invokevirtual 67, 3) := by decide +kernel
theorem dX12_heirs_5 : decode cX12_heirs 5 = .ok (.ifCond .eq 22, 3) := by decide +kernel
theorem dX12_heirs_8 : decode cX12_heirs 8 = .ok (.aload_n 0, 1) := by decide +kernel
theorem dX12_heirs_9 : decode cX12_heirs 9 = .ok (.aload_n 0, 1) := by decide +kernel
theorem dX12_heirs_10 : decode cX12_heirs 10 = .ok (.iload_n 1, 1) := by decide +kernel
theorem dX12_heirs_11 : decode cX12_heirs 11 = .ok (.iconst 0, 1) := by decide +kernel
theorem dX12_heirs_12 : decode cX12_heirs 12 = .ok (.invokevirtual 71, 3) := by decide +kernel
theorem dX12_heirs_15 : decode cX12_heirs 15 = .ok (.invokevirtual 418, 3) := by decide +kernel
theorem dX12_heirs_18 : decode cX12_heirs 18 = .ok (.iconst 1, 1) := by decide +kernel
theorem dX12_heirs_19 : decode cX12_heirs 19 = .ok (.iload_n 1, 1) := by decide +kernel
theorem dX12_heirs_20 : decode cX12_heirs 20 = .ok (.ishl, 1) := by decide +kernel
theorem dX12_heirs_21 : decode cX12_heirs 21 = .ok (.iconst (-1), 1) := by decide +kernel
theorem dX12_heirs_22 : decode cX12_heirs 22 = .ok (.ixor, 1) := by decide +kernel
theorem dX12_heirs_23 : decode cX12_heirs 23 = .ok (.iand, 1) := by decide +kernel
theorem dX12_heirs_24 : decode cX12_heirs 24 = .ok (.goto 4, 3) := by decide +kernel
theorem dX12_heirs_27 : decode cX12_heirs 27 = .ok (.iconst (-1), 1) := by decide +kernel
theorem dX12_heirs_28 : decode cX12_heirs 28 = .ok (.ireturn, 1) := by decide +kernel
def f_X12_heirs (N : Nat) (v_a : Nat → Int32) (p1 : Int32) : Option (Int32) := ob1 (f_X12_isPerson N v_a p1) fun r2 => if r2 = 0 then (some (-1 : Int32)) else (ob1 (f_X12_get N v_a p1 (0 : Int32)) fun r12 => ob1 (f_X12_aliveIn N v_a r12) fun r15 => some (r15 &&& (((1 : Int32) <<< (p1 &&& 31)) ^^^ (-1 : Int32))))
set_option maxHeartbeats 4000000 in
set_option maxRecDepth 100000 in
theorem k_X12_heirs (l : Launch) (N : Nat) (D : va_G) (cI cJ cZ cB cT : ClassId) (h : Nat) (q : Nat → Nat) (v_a : Nat → Int32) (v_image : Nat → Int32) (v_texts : Nat → Int32) (v_tape : Nat → Int32) (v_taped : Int32) (v_fault : Int32) (v_faultPlace : Int32) (v_at : Int32) (v_place : Int32) (v_token : Int32) (v_number : Int32) (v_word : Int64) (v_text0 : Int32) (v_written : Int32) (v_sort0 : Int32) (v_pile : Nat → Int32) (v_piled : Int32) (v_opens : Int32) (v_isWhole : Int32) (v_once : Int32) (v_named : Nat → Int32) (v_values : Nat → Int64) (v_truth : Nat → Int32) (v_isWritten : Int32) (v_died : Int32) (v_aside : Nat → Int32) (v_likely : Nat → Int32) (v_safe : Nat → Int32) (v_headOf : Nat → Int32) (p1 : Int32) (o_r : Int32) (hf : f_X12_heirs N v_a p1 = some o_r) : ∀ sz, Met l yX12_heirs (mw yX12_heirs cX12_heirs 2 (some .int)) ({ frames := 2, cells := 0, slots := 0, locals := 45 } : Room) (mPre D (mT cI cJ cZ cB cT) (WM h q cI cJ cZ v_a v_image v_texts v_tape v_taped v_fault v_faultPlace v_at v_place v_token v_number v_word v_text0 v_written v_sort0 v_pile v_piled v_opens v_isWhole v_once v_named v_values v_truth v_isWritten v_died v_aside v_likely v_safe v_headOf) sz [.ref h, .int p1]) ((mQi D (WM h q cI cJ cZ v_a v_image v_texts v_tape v_taped v_fault v_faultPlace v_at v_place v_token v_number v_word v_text0 v_written v_sort0 v_pile v_piled v_opens v_isWhole v_once v_named v_values v_truth v_isWritten v_died v_aside v_likely v_safe v_headOf) o_r True) (va_A (WM h q cI cJ cZ v_a v_image v_texts v_tape v_taped v_fault v_faultPlace v_at v_place v_token v_number v_word v_text0 v_written v_sort0 v_pile v_piled v_opens v_isWhole v_once v_named v_values v_truth v_isWritten v_died v_aside v_likely v_safe v_headOf) sz)) 0 0 (va_A (WM h q cI cJ cZ v_a v_image v_texts v_tape v_taped v_fault v_faultPlace v_at v_place v_token v_number v_word v_text0 v_written v_sort0 v_pile v_piled v_opens v_isWhole v_once v_named v_values v_truth v_isWritten v_died v_aside v_likely v_safe v_headOf) sz) := by
  refine mMet (Qc := (mQi D (WM h q cI cJ cZ v_a v_image v_texts v_tape v_taped v_fault v_faultPlace v_at v_place v_token v_number v_word v_text0 v_written v_sort0 v_pile v_piled v_opens v_isWhole v_once v_named v_values v_truth v_isWritten v_died v_aside v_likely v_safe v_headOf) o_r True)) (by decide) (Nat.le_of_ble_eq_true rfl) (fun p e s m below meth c A ls hx hb hr hml hts hown hlocks hK hA hP hD hl => ?_)
  have hown : s.vm.findClass RX12 = some m.cls := hown
  have hl : lv_has ls 2 [(0, .ref h), (1, .int p1)] := hl
  have hS : va_S A s.heap s.heap [] := va_S.rf
  unfold f_X12_heirs at hf
  refine lv_aload_n hx hb dX12_heirs_0 rfl (lv_at hl 0 rfl) ?_
  refine lv_iload_n hx hb dX12_heirs_1 rfl (lv_at hl 1 rfl) ?_
  obtain ⟨r2, hg2, hf⟩ := ob1_some hf
  refine mcV1_i (As := [.int p1]) (rest := []) hx hb hml hown hts hK hP hD hS hA (k_X12_isPerson l N D cI cJ cZ cB cT h q v_a v_image v_texts v_tape v_taped v_fault v_faultPlace v_at v_place v_token v_number v_word v_text0 v_written v_sort0 v_pile v_piled v_opens v_isWhole v_once v_named v_values v_truth v_isWritten v_died v_aside v_likely v_safe v_headOf p1 r2 hg2) (kwX12_67 hts rfl rfl ⟨Nat.le_of_ble_eq_true rfl, Nat.le_of_ble_eq_true rfl⟩) 0 rfl rfl rfl rfl hl.1 rfl (Nat.le_of_ble_eq_true rfl) dX12_heirs_2 ⟨Nat.zero_le _, Nat.zero_le _⟩ (fun hB2 H locs hP hD hS => ?_)
  have hP : va_P D vwCl (WM h q cI cJ cZ v_a v_image v_texts v_tape v_taped v_fault v_faultPlace v_at v_place v_token v_number v_word v_text0 v_written v_sort0 v_pile v_piled v_opens v_isWhole v_once v_named v_values v_truth v_isWritten v_died v_aside v_likely v_safe v_headOf) H := hP
  have hD : va_D A (WM h q cI cJ cZ v_a v_image v_texts v_tape v_taped v_fault v_faultPlace v_at v_place v_token v_number v_word v_text0 v_written v_sort0 v_pile v_piled v_opens v_isWhole v_once v_named v_values v_truth v_isWritten v_died v_aside v_likely v_safe v_headOf) := hD
  refine xif_eq hx hb 27 dX12_heirs_5 (by decide) hf (fun hf => ?_) (fun hf => ?_)
  · refine lv_iconst (v := (-1 : Int32)) hx hb dX12_heirs_27 (by decide) ?_
    cases hf
    exact mret_i hx hb hr hlocks hP hD hS dX12_heirs_28 rfl trivial
  · refine lv_aload_n hx hb dX12_heirs_8 rfl (lv_at hl 0 rfl) ?_
    refine lv_aload_n hx hb dX12_heirs_9 rfl (lv_at hl 0 rfl) ?_
    refine lv_iload_n hx hb dX12_heirs_10 rfl (lv_at hl 1 rfl) ?_
    refine lv_iconst (v := (0 : Int32)) hx hb dX12_heirs_11 (by decide) ?_
    obtain ⟨r12, hg12, hf⟩ := ob1_some hf
    refine mcV1_i (As := [.int p1, .int (0 : Int32)]) (rest := [.ref h]) hx hb hml hown hts hK hP hD hS hA (k_X12_get l N D cI cJ cZ cB cT h q v_a v_image v_texts v_tape v_taped v_fault v_faultPlace v_at v_place v_token v_number v_word v_text0 v_written v_sort0 v_pile v_piled v_opens v_isWhole v_once v_named v_values v_truth v_isWritten v_died v_aside v_likely v_safe v_headOf p1 (0 : Int32) r12 hg12) (kwX12_71 hts rfl rfl ⟨Nat.le_of_ble_eq_true rfl, Nat.le_of_ble_eq_true rfl⟩) 0 rfl rfl rfl rfl hl.1 rfl (Nat.le_of_ble_eq_true rfl) dX12_heirs_12 ⟨Nat.zero_le _, Nat.zero_le _⟩ (fun hB12 H locs hP hD hS => ?_)
    have hP : va_P D vwCl (WM h q cI cJ cZ v_a v_image v_texts v_tape v_taped v_fault v_faultPlace v_at v_place v_token v_number v_word v_text0 v_written v_sort0 v_pile v_piled v_opens v_isWhole v_once v_named v_values v_truth v_isWritten v_died v_aside v_likely v_safe v_headOf) H := hP
    have hD : va_D A (WM h q cI cJ cZ v_a v_image v_texts v_tape v_taped v_fault v_faultPlace v_at v_place v_token v_number v_word v_text0 v_written v_sort0 v_pile v_piled v_opens v_isWhole v_once v_named v_values v_truth v_isWritten v_died v_aside v_likely v_safe v_headOf) := hD
    obtain ⟨r15, hg15, hf⟩ := ob1_some hf
    refine mcV1_i (As := [.int r12]) (rest := []) hx hb hml hown hts hK hP hD hS hA (k_X12_aliveIn l N D cI cJ cZ cB cT h q v_a v_image v_texts v_tape v_taped v_fault v_faultPlace v_at v_place v_token v_number v_word v_text0 v_written v_sort0 v_pile v_piled v_opens v_isWhole v_once v_named v_values v_truth v_isWritten v_died v_aside v_likely v_safe v_headOf r12 r15 hg15) (kwX12_418 hts rfl rfl ⟨Nat.le_of_ble_eq_true rfl, Nat.le_of_ble_eq_true rfl⟩) 0 rfl rfl rfl rfl hl.1 rfl (Nat.le_of_ble_eq_true rfl) dX12_heirs_15 ⟨Nat.zero_le _, Nat.zero_le _⟩ (fun hB15 H locs hP hD hS => ?_)
    have hP : va_P D vwCl (WM h q cI cJ cZ v_a v_image v_texts v_tape v_taped v_fault v_faultPlace v_at v_place v_token v_number v_word v_text0 v_written v_sort0 v_pile v_piled v_opens v_isWhole v_once v_named v_values v_truth v_isWritten v_died v_aside v_likely v_safe v_headOf) H := hP
    have hD : va_D A (WM h q cI cJ cZ v_a v_image v_texts v_tape v_taped v_fault v_faultPlace v_at v_place v_token v_number v_word v_text0 v_written v_sort0 v_pile v_piled v_opens v_isWhole v_once v_named v_values v_truth v_isWritten v_died v_aside v_likely v_safe v_headOf) := hD
    refine lv_iconst (v := (1 : Int32)) hx hb dX12_heirs_18 (by decide) ?_
    refine lv_iload_n hx hb dX12_heirs_19 rfl (lv_at hl 1 rfl) ?_
    refine lv_ishl hx hb dX12_heirs_20 ?_
    refine lv_iconst (v := (-1 : Int32)) hx hb dX12_heirs_21 (by decide) ?_
    refine lv_ixor hx hb dX12_heirs_22 ?_
    refine lv_iand hx hb dX12_heirs_23 ?_
    refine lv_goto (tgt := 28) hx hb dX12_heirs_24 (by decide) ?_
    cases hf
    exact mret_i hx hb hr hlocks hP hD hS dX12_heirs_28 rfl trivial
theorem dX12_wolves_0 : decode cX12_wolves 0 = .ok (.iconst 0, 1) := by decide +kernel
theorem dX12_wolves_1 : decode cX12_wolves 1 = .ok (.istore_n 1, 1) := by decide +kernel
theorem dX12_wolves_2 : decode cX12_wolves 2 = .ok (.iconst 0, 1) := by decide +kernel
theorem dX12_wolves_3 : decode cX12_wolves 3 = .ok (.istore_n 2, 1) := by decide +kernel
theorem dX12_wolves_4 : decode cX12_wolves 4 = .ok (.iload_n 2, 1) := by decide +kernel
theorem dX12_wolves_5 : decode cX12_wolves 5 = .ok (.aload_n 0, 1) := by decide +kernel
theorem dX12_wolves_6 : decode cX12_wolves 6 = .ok (.getfield 7, 3) := by decide +kernel
theorem dX12_wolves_9 : decode cX12_wolves 9 = .ok (.iconst 1, 1) := by decide +kernel
theorem dX12_wolves_10 : decode cX12_wolves 10 = .ok (.iaload, 1) := by decide +kernel
theorem dX12_wolves_11 : decode cX12_wolves 11 = .ok (.if_icmp .ge 27, 3) := by decide +kernel
theorem dX12_wolves_14 : decode cX12_wolves 14 = .ok (.iload_n 1, 1) := by decide +kernel
theorem dX12_wolves_15 : decode cX12_wolves 15 = .ok (.aload_n 0, 1) := by decide +kernel
theorem dX12_wolves_16 : decode cX12_wolves 16 = .ok (.iload_n 2, 1) := by decide +kernel
theorem dX12_wolves_17 : decode cX12_wolves 17 = .ok (.invokevirtual 358, 3) := by decide +kernel
theorem dX12_wolves_20 : decode cX12_wolves 20 = .ok (.ifCond .eq 9, 3) := by decide +kernel
theorem dX12_wolves_23 : decode cX12_wolves 23 = .ok (.iconst 1, 1) := by decide +kernel
theorem dX12_wolves_24 : decode cX12_wolves 24 = .ok (.iload_n 2, 1) := by decide +kernel
theorem dX12_wolves_25 : decode cX12_wolves 25 = .ok (.ishl, 1) := by decide +kernel
theorem dX12_wolves_26 : decode cX12_wolves 26 = .ok (.goto 4, 3) := by decide +kernel
theorem dX12_wolves_29 : decode cX12_wolves 29 = .ok (.iconst 0, 1) := by decide +kernel
theorem dX12_wolves_30 : decode cX12_wolves 30 = .ok (.ior, 1) := by decide +kernel
theorem dX12_wolves_31 : decode cX12_wolves 31 = .ok (.istore_n 1, 1) := by decide +kernel
theorem dX12_wolves_32 : decode cX12_wolves 32 = .ok (.iinc 2 1, 3) := by decide +kernel
theorem dX12_wolves_35 : decode cX12_wolves 35 = .ok (.goto (-31), 3) := by decide +kernel
theorem dX12_wolves_38 : decode cX12_wolves 38 = .ok (.iload_n 1, 1) := by decide +kernel
theorem dX12_wolves_39 : decode cX12_wolves 39 = .ok (.ireturn, 1) := by decide +kernel
def f_X12_wolves_30 (N : Nat) (k_4 : (Nat → Int32) → Int32 → Int32 → Option (Int32)) (v_a : Nat → Int32) (x2 : Int32) (s0 : Int32) (s1 : Int32) : Option (Int32) := k_4 v_a (s0 ||| s1) (x2 + (1 : Int32))
def f_X12_wolves_4 (N : Nat) : Nat → (Nat → Int32) → Int32 → Int32 → Option (Int32)
  | 0, _, _, _ => none
  | n + 1, v_a, x1, x2 => gA v_a 8762 (1 : Int32) fun v10 => if v10 ≤ x2 then (some x1) else (ob1 (f_X12_isOutlaw N v_a x2) fun r17 => if r17 = 0 then (f_X12_wolves_30 N (f_X12_wolves_4 N n) v_a x2 x1 (0 : Int32)) else (f_X12_wolves_30 N (f_X12_wolves_4 N n) v_a x2 x1 ((1 : Int32) <<< (x2 &&& 31))))
def f_X12_wolves (N : Nat) (v_a : Nat → Int32) : Option (Int32) := f_X12_wolves_4 N N v_a (0 : Int32) (0 : Int32)
set_option maxHeartbeats 4000000 in
set_option maxRecDepth 100000 in
theorem k_X12_wolves (l : Launch) (N : Nat) (D : va_G) (cI cJ cZ cB cT : ClassId) (h : Nat) (q : Nat → Nat) (v_a : Nat → Int32) (v_image : Nat → Int32) (v_texts : Nat → Int32) (v_tape : Nat → Int32) (v_taped : Int32) (v_fault : Int32) (v_faultPlace : Int32) (v_at : Int32) (v_place : Int32) (v_token : Int32) (v_number : Int32) (v_word : Int64) (v_text0 : Int32) (v_written : Int32) (v_sort0 : Int32) (v_pile : Nat → Int32) (v_piled : Int32) (v_opens : Int32) (v_isWhole : Int32) (v_once : Int32) (v_named : Nat → Int32) (v_values : Nat → Int64) (v_truth : Nat → Int32) (v_isWritten : Int32) (v_died : Int32) (v_aside : Nat → Int32) (v_likely : Nat → Int32) (v_safe : Nat → Int32) (v_headOf : Nat → Int32) (o_r : Int32) (hf : f_X12_wolves N v_a = some o_r) : ∀ sz, Met l yX12_wolves (mw yX12_wolves cX12_wolves 3 (some .int)) ({ frames := 3, cells := 0, slots := 0, locals := 64 } : Room) (mPre D (mT cI cJ cZ cB cT) (WM h q cI cJ cZ v_a v_image v_texts v_tape v_taped v_fault v_faultPlace v_at v_place v_token v_number v_word v_text0 v_written v_sort0 v_pile v_piled v_opens v_isWhole v_once v_named v_values v_truth v_isWritten v_died v_aside v_likely v_safe v_headOf) sz [.ref h]) ((mQi D (WM h q cI cJ cZ v_a v_image v_texts v_tape v_taped v_fault v_faultPlace v_at v_place v_token v_number v_word v_text0 v_written v_sort0 v_pile v_piled v_opens v_isWhole v_once v_named v_values v_truth v_isWritten v_died v_aside v_likely v_safe v_headOf) o_r True) (va_A (WM h q cI cJ cZ v_a v_image v_texts v_tape v_taped v_fault v_faultPlace v_at v_place v_token v_number v_word v_text0 v_written v_sort0 v_pile v_piled v_opens v_isWhole v_once v_named v_values v_truth v_isWritten v_died v_aside v_likely v_safe v_headOf) sz)) 0 0 (va_A (WM h q cI cJ cZ v_a v_image v_texts v_tape v_taped v_fault v_faultPlace v_at v_place v_token v_number v_word v_text0 v_written v_sort0 v_pile v_piled v_opens v_isWhole v_once v_named v_values v_truth v_isWritten v_died v_aside v_likely v_safe v_headOf) sz) := by
  refine mMet (Qc := (mQi D (WM h q cI cJ cZ v_a v_image v_texts v_tape v_taped v_fault v_faultPlace v_at v_place v_token v_number v_word v_text0 v_written v_sort0 v_pile v_piled v_opens v_isWhole v_once v_named v_values v_truth v_isWritten v_died v_aside v_likely v_safe v_headOf) o_r True)) (by decide) (Nat.le_of_ble_eq_true rfl) (fun p e s m below meth c A ls hx hb hr hml hts hown hlocks hK hA hP hD hl => ?_)
  have hown : s.vm.findClass RX12 = some m.cls := hown
  have hl : lv_has ls 3 [(0, .ref h)] := hl
  have hS : va_S A s.heap s.heap [] := va_S.rf
  have b4 : ∀ n4 : Nat, ∀ (x1 : Int32) (x2 : Int32) (H : Heap) (locs : List Loc) (ls : Array Slot), f_X12_wolves_4 N n4 v_a x1 x2 = some o_r → va_P D vwCl (WM h q cI cJ cZ v_a v_image v_texts v_tape v_taped v_fault v_faultPlace v_at v_place v_token v_number v_word v_text0 v_written v_sort0 v_pile v_piled v_opens v_isWhole v_once v_named v_values v_truth v_isWritten v_died v_aside v_likely v_safe v_headOf) H → va_D A (WM h q cI cJ cZ v_a v_image v_texts v_tape v_taped v_fault v_faultPlace v_at v_place v_token v_number v_word v_text0 v_written v_sort0 v_pile v_piled v_opens v_isWhole v_once v_named v_values v_truth v_isWritten v_died v_aside v_likely v_safe v_headOf) → va_S A s.heap H locs → lv_has ls 3 [(0, .ref h), (1, .int x1), (2, .int x2)] → W p l e ({ frames := 3, cells := 0, slots := 0, locals := 64 } : Room) s m ([.ref h] : List Value).toArray below meth c H locs 0 0 (MQ below ((mQi D (WM h q cI cJ cZ v_a v_image v_texts v_tape v_taped v_fault v_faultPlace v_at v_place v_token v_number v_word v_text0 v_written v_sort0 v_pile v_piled v_opens v_isWhole v_once v_named v_values v_truth v_isWritten v_died v_aside v_likely v_safe v_headOf) o_r True) A) ([.ref h] : List Value).toArray s 0 0 A) (F0 m 4 ls []) := by
    intro n4
    induction n4 with
    | zero =>
      intro x1 x2 H locs ls hf hP hD hS hl
      simp [f_X12_wolves_4] at hf
    | succ n4 ih4 =>
      have b30 : ∀ (x2 : Int32) (s0 : Int32) (s1 : Int32) (H : Heap) (locs : List Loc) (ls : Array Slot), f_X12_wolves_30 N (f_X12_wolves_4 N n4) v_a x2 s0 s1 = some o_r → va_P D vwCl (WM h q cI cJ cZ v_a v_image v_texts v_tape v_taped v_fault v_faultPlace v_at v_place v_token v_number v_word v_text0 v_written v_sort0 v_pile v_piled v_opens v_isWhole v_once v_named v_values v_truth v_isWritten v_died v_aside v_likely v_safe v_headOf) H → va_D A (WM h q cI cJ cZ v_a v_image v_texts v_tape v_taped v_fault v_faultPlace v_at v_place v_token v_number v_word v_text0 v_written v_sort0 v_pile v_piled v_opens v_isWhole v_once v_named v_values v_truth v_isWritten v_died v_aside v_likely v_safe v_headOf) → va_S A s.heap H locs → lv_has ls 3 [(0, .ref h), (2, .int x2)] → W p l e ({ frames := 3, cells := 0, slots := 0, locals := 64 } : Room) s m ([.ref h] : List Value).toArray below meth c H locs 0 0 (MQ below ((mQi D (WM h q cI cJ cZ v_a v_image v_texts v_tape v_taped v_fault v_faultPlace v_at v_place v_token v_number v_word v_text0 v_written v_sort0 v_pile v_piled v_opens v_isWhole v_once v_named v_values v_truth v_isWritten v_died v_aside v_likely v_safe v_headOf) o_r True) A) ([.ref h] : List Value).toArray s 0 0 A) (F0 m 30 ls [.int s1, .int s0]) := by
        intro x2 s0 s1 H locs ls hf hP hD hS hl
        unfold f_X12_wolves_30 at hf
        refine lv_ior hx hb dX12_wolves_30 ?_
        refine lv_istore_n (lv' := [(1, .int (s0 ||| s1)), (0, .ref h), (2, .int x2)]) hx hb dX12_wolves_31 rfl hl (by decide) rfl (fun ls hl => ?_)
        refine lv_iinc (v := (x2 + (1 : Int32))) (lv' := [(2, .int (x2 + (1 : Int32))), (1, .int (s0 ||| s1)), (0, .ref h)]) hx hb dX12_wolves_32 hl (k := 2) rfl rfl (by decide) rfl (fun ls hl => ?_)
        refine lv_goto (tgt := 4) hx hb dX12_wolves_35 (by decide) ?_
        exact ih4 (s0 ||| s1) (x2 + (1 : Int32)) _ _ _ hf hP hD hS (lv_sub hl [2, 1, 0] rfl)
      intro x1 x2 H locs ls hf hP hD hS hl
      rw [f_X12_wolves_4.eq_2] at hf
      refine lv_iload_n hx hb dX12_wolves_4 rfl (lv_at hl 2 rfl) ?_
      refine lv_aload_n hx hb dX12_wolves_5 rfl (lv_at hl 0 rfl) ?_
      refine gfX12_7 hx hb hts hown hK hP 0 rfl rfl dX12_wolves_6 ?_
      refine lv_iconst (v := (1 : Int32)) hx hb dX12_wolves_9 (by decide) ?_
      refine xiald hx hb hK hP 1 0 rfl rfl dX12_wolves_10 hf (fun v10 hf => ?_)
      refine xicmp_ge hx hb 38 dX12_wolves_11 (by decide) hf (fun hf => ?_) (fun hf => ?_)
      · refine lv_iload_n hx hb dX12_wolves_38 rfl (lv_at hl 1 rfl) ?_
        cases hf
        exact mret_i hx hb hr hlocks hP hD hS dX12_wolves_39 rfl trivial
      · refine lv_iload_n hx hb dX12_wolves_14 rfl (lv_at hl 1 rfl) ?_
        refine lv_aload_n hx hb dX12_wolves_15 rfl (lv_at hl 0 rfl) ?_
        refine lv_iload_n hx hb dX12_wolves_16 rfl (lv_at hl 2 rfl) ?_
        obtain ⟨r17, hg17, hf⟩ := ob1_some hf
        refine mcV1_i (As := [.int x2]) (rest := [.int x1]) hx hb hml hown hts hK hP hD hS hA (k_X12_isOutlaw l N D cI cJ cZ cB cT h q v_a v_image v_texts v_tape v_taped v_fault v_faultPlace v_at v_place v_token v_number v_word v_text0 v_written v_sort0 v_pile v_piled v_opens v_isWhole v_once v_named v_values v_truth v_isWritten v_died v_aside v_likely v_safe v_headOf x2 r17 hg17) (kwX12_358 hts rfl rfl ⟨Nat.le_of_ble_eq_true rfl, Nat.le_of_ble_eq_true rfl⟩) 0 rfl rfl rfl rfl hl.1 rfl (Nat.le_of_ble_eq_true rfl) dX12_wolves_17 ⟨Nat.zero_le _, Nat.zero_le _⟩ (fun hB17 H locs hP hD hS => ?_)
        have hP : va_P D vwCl (WM h q cI cJ cZ v_a v_image v_texts v_tape v_taped v_fault v_faultPlace v_at v_place v_token v_number v_word v_text0 v_written v_sort0 v_pile v_piled v_opens v_isWhole v_once v_named v_values v_truth v_isWritten v_died v_aside v_likely v_safe v_headOf) H := hP
        have hD : va_D A (WM h q cI cJ cZ v_a v_image v_texts v_tape v_taped v_fault v_faultPlace v_at v_place v_token v_number v_word v_text0 v_written v_sort0 v_pile v_piled v_opens v_isWhole v_once v_named v_values v_truth v_isWritten v_died v_aside v_likely v_safe v_headOf) := hD
        refine xif_eq hx hb 29 dX12_wolves_20 (by decide) hf (fun hf => ?_) (fun hf => ?_)
        · refine lv_iconst (v := (0 : Int32)) hx hb dX12_wolves_29 (by decide) ?_
          exact b30 x2 x1 (0 : Int32) _ _ _ hf hP hD hS (lv_sub hl [0, 2] rfl)
        · refine lv_iconst (v := (1 : Int32)) hx hb dX12_wolves_23 (by decide) ?_
          refine lv_iload_n hx hb dX12_wolves_24 rfl (lv_at hl 2 rfl) ?_
          refine lv_ishl hx hb dX12_wolves_25 ?_
          refine lv_goto (tgt := 30) hx hb dX12_wolves_26 (by decide) ?_
          exact b30 x2 x1 ((1 : Int32) <<< (x2 &&& 31)) _ _ _ hf hP hD hS (lv_sub hl [0, 2] rfl)
  unfold f_X12_wolves at hf
  refine lv_iconst (v := (0 : Int32)) hx hb dX12_wolves_0 (by decide) ?_
  refine lv_istore_n (lv' := [(1, .int (0 : Int32)), (0, .ref h)]) hx hb dX12_wolves_1 rfl hl (by decide) rfl (fun ls hl => ?_)
  refine lv_iconst (v := (0 : Int32)) hx hb dX12_wolves_2 (by decide) ?_
  refine lv_istore_n (lv' := [(2, .int (0 : Int32)), (1, .int (0 : Int32)), (0, .ref h)]) hx hb dX12_wolves_3 rfl hl (by decide) rfl (fun ls hl => ?_)
  exact b4 N (0 : Int32) (0 : Int32) _ _ _ hf hP hD hS (lv_sub hl [2, 1, 0] rfl)
theorem dX12_feared_0 : decode cX12_feared 0 = .ok (.iconst (-1), 1) := by decide +kernel
theorem dX12_feared_1 : decode cX12_feared 1 = .ok (.istore_n 1, 1) := by decide +kernel
theorem dX12_feared_2 : decode cX12_feared 2 = .ok (.iconst 0, 1) := by decide +kernel
theorem dX12_feared_3 : decode cX12_feared 3 = .ok (.istore_n 2, 1) := by decide +kernel
theorem dX12_feared_4 : decode cX12_feared 4 = .ok (.iconst 0, 1) := by decide +kernel
theorem dX12_feared_5 : decode cX12_feared 5 = .ok (.istore_n 3, 1) := by decide +kernel
theorem dX12_feared_6 : decode cX12_feared 6 = .ok (.iload_n 3, 1) := by decide +kernel
theorem dX12_feared_7 : decode cX12_feared 7 = .ok (.aload_n 0, 1) := by decide +kernel
theorem dX12_feared_8 : decode cX12_feared 8 = .ok (.getfield 7, 3) := by decide +kernel
theorem dX12_feared_11 : decode cX12_feared 11 = .ok (.iconst 1, 1) := by decide +kernel
theorem dX12_feared_12 : decode cX12_feared 12 = .ok (.iaload, 1) := by decide +kernel
theorem dX12_feared_13 : decode cX12_feared 13 = .ok (.if_icmp .ge 64, 3) := by decide +kernel
theorem dX12_feared_16 : decode cX12_feared 16 = .ok (.aload_n 0, 1) := by decide +kernel
theorem dX12_feared_17 : decode cX12_feared 17 = .ok (.iload_n 3, 1) := by decide +kernel
theorem dX12_feared_18 : decode cX12_feared 18 = .ok (.bipush 6, 2) := by decide +kernel
theorem dX12_feared_20 : decode cX12_feared 20 = .ok (.invokevirtual 71, 3) := by decide +kernel
theorem dX12_feared_23 : decode cX12_feared 23 = .ok (.iconst 3, 1) := by decide +kernel
theorem dX12_feared_24 : decode cX12_feared 24 = .ok (.if_icmp .ne 6, 3) := by decide +kernel
theorem dX12_feared_27 : decode cX12_feared 27 = .ok (.goto 44, 3) := by decide +kernel
theorem dX12_feared_30 : decode cX12_feared 30 = .ok (.aload_n 0, 1) := by decide +kernel
theorem dX12_feared_31 : decode cX12_feared 31 = .ok (.aload_n 0, 1) := by decide +kernel
theorem dX12_feared_32 : decode cX12_feared 32 = .ok (.iload_n 3, 1) := by decide +kernel
theorem dX12_feared_33 : decode cX12_feared 33 = .ok (.iconst 0, 1) := by decide +kernel
theorem dX12_feared_34 : decode cX12_feared 34 = .ok (.invokevirtual 71, 3) := by decide +kernel
theorem dX12_feared_37 : decode cX12_feared 37 = .ok (.invokevirtual 418, 3) := by decide +kernel
theorem dX12_feared_40 : decode cX12_feared 40 = .ok (.aload_n 0, 1) := by decide +kernel
theorem dX12_feared_41 : decode cX12_feared 41 = .ok (.invokevirtual 427, 3) := by decide +kernel
theorem dX12_feared_44 : decode cX12_feared 44 = .ok (.iand, 1) := by decide +kernel
theorem dX12_feared_45 : decode cX12_feared 45 = .ok (.iconst 1, 1) := by decide +kernel
theorem dX12_feared_46 : decode cX12_feared 46 = .ok (.iload_n 3, 1) := by decide +kernel
theorem dX12_feared_47 : decode cX12_feared 47 = .ok (.ishl, 1) := by decide +kernel
theorem dX12_feared_48 : decode cX12_feared 48 = .ok (.iconst (-1), 1) := by decide +kernel
theorem dX12_feared_49 : decode cX12_feared 49 = .ok (.ixor, 1) := by decide +kernel
theorem dX12_feared_50 : decode cX12_feared 50 = .ok (.iand, 1) := by decide +kernel
theorem dX12_feared_51 : decode cX12_feared 51 = .ok (.i2l, 1) := by decide +kernel
theorem dX12_feared_52 : decode cX12_feared 52 = .ok (.invokestatic 268, 3) := by decide +kernel
theorem dX12_feared_55 : decode cX12_feared 55 = .ok (.istore 4, 2) := by decide +kernel
theorem dX12_feared_57 : decode cX12_feared 57 = .ok (.iload 4, 2) := by decide +kernel
theorem dX12_feared_59 : decode cX12_feared 59 = .ok (.iload_n 2, 1) := by decide +kernel
theorem dX12_feared_60 : decode cX12_feared 60 = .ok (.if_icmp .gt 6, 3) := by decide +kernel
theorem dX12_feared_63 : decode cX12_feared 63 = .ok (.goto 8, 3) := by decide +kernel
theorem dX12_feared_66 : decode cX12_feared 66 = .ok (.iload 4, 2) := by decide +kernel
theorem dX12_feared_68 : decode cX12_feared 68 = .ok (.istore_n 2, 1) := by decide +kernel
theorem dX12_feared_69 : decode cX12_feared 69 = .ok (.iload_n 3, 1) := by decide +kernel
theorem dX12_feared_70 : decode cX12_feared 70 = .ok (.istore_n 1, 1) := by decide +kernel
theorem dX12_feared_71 : decode cX12_feared 71 = .ok (.iinc 3 1, 3) := by decide +kernel
theorem dX12_feared_74 : decode cX12_feared 74 = .ok (.goto (-68), 3) := by decide +kernel
theorem dX12_feared_77 : decode cX12_feared 77 = .ok (.iload_n 1, 1) := by decide +kernel
theorem dX12_feared_78 : decode cX12_feared 78 = .ok (.ireturn, 1) := by decide +kernel
def f_X12_feared_71 (N : Nat) (k_6 : (Nat → Int32) → Int32 → Int32 → Int32 → Option (Int32)) (v_a : Nat → Int32) (x1 : Int32) (x2 : Int32) (x3 : Int32) : Option (Int32) := k_6 v_a x1 x2 (x3 + (1 : Int32))
def f_X12_feared_6 (N : Nat) : Nat → (Nat → Int32) → Int32 → Int32 → Int32 → Option (Int32)
  | 0, _, _, _, _ => none
  | n + 1, v_a, x1, x2, x3 => gA v_a 8762 (1 : Int32) fun v12 => if v12 ≤ x3 then (some x1) else (ob1 (f_X12_get N v_a x3 (6 : Int32)) fun r20 => if r20 = (3 : Int32) then (f_X12_feared_71 N (f_X12_feared_6 N n) v_a x1 x2 x3) else (ob1 (f_X12_get N v_a x3 (0 : Int32)) fun r34 => ob1 (f_X12_aliveIn N v_a r34) fun r37 => ob1 (f_X12_wolves N v_a) fun r41 => ob1 (f_X12_bits N (((r37 &&& r41) &&& (((1 : Int32) <<< (x3 &&& 31)) ^^^ (-1 : Int32))).toInt64)) fun r52 => if x2 < r52 then (f_X12_feared_71 N (f_X12_feared_6 N n) v_a x3 r52 x3) else (f_X12_feared_71 N (f_X12_feared_6 N n) v_a x1 x2 x3)))
def f_X12_feared (N : Nat) (v_a : Nat → Int32) : Option (Int32) := f_X12_feared_6 N N v_a (-1 : Int32) (0 : Int32) (0 : Int32)
set_option maxHeartbeats 4000000 in
set_option maxRecDepth 100000 in
theorem k_X12_feared (l : Launch) (N : Nat) (D : va_G) (cI cJ cZ cB cT : ClassId) (h : Nat) (q : Nat → Nat) (v_a : Nat → Int32) (v_image : Nat → Int32) (v_texts : Nat → Int32) (v_tape : Nat → Int32) (v_taped : Int32) (v_fault : Int32) (v_faultPlace : Int32) (v_at : Int32) (v_place : Int32) (v_token : Int32) (v_number : Int32) (v_word : Int64) (v_text0 : Int32) (v_written : Int32) (v_sort0 : Int32) (v_pile : Nat → Int32) (v_piled : Int32) (v_opens : Int32) (v_isWhole : Int32) (v_once : Int32) (v_named : Nat → Int32) (v_values : Nat → Int64) (v_truth : Nat → Int32) (v_isWritten : Int32) (v_died : Int32) (v_aside : Nat → Int32) (v_likely : Nat → Int32) (v_safe : Nat → Int32) (v_headOf : Nat → Int32) (o_r : Int32) (hf : f_X12_feared N v_a = some o_r) : ∀ sz, Met l yX12_feared (mw yX12_feared cX12_feared 5 (some .int)) ({ frames := 4, cells := 0, slots := 0, locals := 86 } : Room) (mPre D (mT cI cJ cZ cB cT) (WM h q cI cJ cZ v_a v_image v_texts v_tape v_taped v_fault v_faultPlace v_at v_place v_token v_number v_word v_text0 v_written v_sort0 v_pile v_piled v_opens v_isWhole v_once v_named v_values v_truth v_isWritten v_died v_aside v_likely v_safe v_headOf) sz [.ref h]) ((mQi D (WM h q cI cJ cZ v_a v_image v_texts v_tape v_taped v_fault v_faultPlace v_at v_place v_token v_number v_word v_text0 v_written v_sort0 v_pile v_piled v_opens v_isWhole v_once v_named v_values v_truth v_isWritten v_died v_aside v_likely v_safe v_headOf) o_r True) (va_A (WM h q cI cJ cZ v_a v_image v_texts v_tape v_taped v_fault v_faultPlace v_at v_place v_token v_number v_word v_text0 v_written v_sort0 v_pile v_piled v_opens v_isWhole v_once v_named v_values v_truth v_isWritten v_died v_aside v_likely v_safe v_headOf) sz)) 0 0 (va_A (WM h q cI cJ cZ v_a v_image v_texts v_tape v_taped v_fault v_faultPlace v_at v_place v_token v_number v_word v_text0 v_written v_sort0 v_pile v_piled v_opens v_isWhole v_once v_named v_values v_truth v_isWritten v_died v_aside v_likely v_safe v_headOf) sz) := by
  refine mMet (Qc := (mQi D (WM h q cI cJ cZ v_a v_image v_texts v_tape v_taped v_fault v_faultPlace v_at v_place v_token v_number v_word v_text0 v_written v_sort0 v_pile v_piled v_opens v_isWhole v_once v_named v_values v_truth v_isWritten v_died v_aside v_likely v_safe v_headOf) o_r True)) (by decide) (Nat.le_of_ble_eq_true rfl) (fun p e s m below meth c A ls hx hb hr hml hts hown hlocks hK hA hP hD hl => ?_)
  have hown : s.vm.findClass RX12 = some m.cls := hown
  have hl : lv_has ls 5 [(0, .ref h)] := hl
  have hS : va_S A s.heap s.heap [] := va_S.rf
  have b6 : ∀ n6 : Nat, ∀ (x1 : Int32) (x2 : Int32) (x3 : Int32) (H : Heap) (locs : List Loc) (ls : Array Slot), f_X12_feared_6 N n6 v_a x1 x2 x3 = some o_r → va_P D vwCl (WM h q cI cJ cZ v_a v_image v_texts v_tape v_taped v_fault v_faultPlace v_at v_place v_token v_number v_word v_text0 v_written v_sort0 v_pile v_piled v_opens v_isWhole v_once v_named v_values v_truth v_isWritten v_died v_aside v_likely v_safe v_headOf) H → va_D A (WM h q cI cJ cZ v_a v_image v_texts v_tape v_taped v_fault v_faultPlace v_at v_place v_token v_number v_word v_text0 v_written v_sort0 v_pile v_piled v_opens v_isWhole v_once v_named v_values v_truth v_isWritten v_died v_aside v_likely v_safe v_headOf) → va_S A s.heap H locs → lv_has ls 5 [(0, .ref h), (1, .int x1), (2, .int x2), (3, .int x3)] → W p l e ({ frames := 4, cells := 0, slots := 0, locals := 86 } : Room) s m ([.ref h] : List Value).toArray below meth c H locs 0 0 (MQ below ((mQi D (WM h q cI cJ cZ v_a v_image v_texts v_tape v_taped v_fault v_faultPlace v_at v_place v_token v_number v_word v_text0 v_written v_sort0 v_pile v_piled v_opens v_isWhole v_once v_named v_values v_truth v_isWritten v_died v_aside v_likely v_safe v_headOf) o_r True) A) ([.ref h] : List Value).toArray s 0 0 A) (F0 m 6 ls []) := by
    intro n6
    induction n6 with
    | zero =>
      intro x1 x2 x3 H locs ls hf hP hD hS hl
      simp [f_X12_feared_6] at hf
    | succ n6 ih6 =>
      have b71 : ∀ (x1 : Int32) (x2 : Int32) (x3 : Int32) (H : Heap) (locs : List Loc) (ls : Array Slot), f_X12_feared_71 N (f_X12_feared_6 N n6) v_a x1 x2 x3 = some o_r → va_P D vwCl (WM h q cI cJ cZ v_a v_image v_texts v_tape v_taped v_fault v_faultPlace v_at v_place v_token v_number v_word v_text0 v_written v_sort0 v_pile v_piled v_opens v_isWhole v_once v_named v_values v_truth v_isWritten v_died v_aside v_likely v_safe v_headOf) H → va_D A (WM h q cI cJ cZ v_a v_image v_texts v_tape v_taped v_fault v_faultPlace v_at v_place v_token v_number v_word v_text0 v_written v_sort0 v_pile v_piled v_opens v_isWhole v_once v_named v_values v_truth v_isWritten v_died v_aside v_likely v_safe v_headOf) → va_S A s.heap H locs → lv_has ls 5 [(0, .ref h), (1, .int x1), (2, .int x2), (3, .int x3)] → W p l e ({ frames := 4, cells := 0, slots := 0, locals := 86 } : Room) s m ([.ref h] : List Value).toArray below meth c H locs 0 0 (MQ below ((mQi D (WM h q cI cJ cZ v_a v_image v_texts v_tape v_taped v_fault v_faultPlace v_at v_place v_token v_number v_word v_text0 v_written v_sort0 v_pile v_piled v_opens v_isWhole v_once v_named v_values v_truth v_isWritten v_died v_aside v_likely v_safe v_headOf) o_r True) A) ([.ref h] : List Value).toArray s 0 0 A) (F0 m 71 ls []) := by
        intro x1 x2 x3 H locs ls hf hP hD hS hl
        unfold f_X12_feared_71 at hf
        refine lv_iinc (v := (x3 + (1 : Int32))) (lv' := [(3, .int (x3 + (1 : Int32))), (0, .ref h), (1, .int x1), (2, .int x2)]) hx hb dX12_feared_71 hl (k := 3) rfl rfl (by decide) rfl (fun ls hl => ?_)
        refine lv_goto (tgt := 6) hx hb dX12_feared_74 (by decide) ?_
        exact ih6 x1 x2 (x3 + (1 : Int32)) _ _ _ hf hP hD hS (lv_sub hl [1, 2, 3, 0] rfl)
      intro x1 x2 x3 H locs ls hf hP hD hS hl
      rw [f_X12_feared_6.eq_2] at hf
      refine lv_iload_n hx hb dX12_feared_6 rfl (lv_at hl 3 rfl) ?_
      refine lv_aload_n hx hb dX12_feared_7 rfl (lv_at hl 0 rfl) ?_
      refine gfX12_7 hx hb hts hown hK hP 0 rfl rfl dX12_feared_8 ?_
      refine lv_iconst (v := (1 : Int32)) hx hb dX12_feared_11 (by decide) ?_
      refine xiald hx hb hK hP 1 0 rfl rfl dX12_feared_12 hf (fun v12 hf => ?_)
      refine xicmp_ge hx hb 77 dX12_feared_13 (by decide) hf (fun hf => ?_) (fun hf => ?_)
      · refine lv_iload_n hx hb dX12_feared_77 rfl (lv_at hl 1 rfl) ?_
        cases hf
        exact mret_i hx hb hr hlocks hP hD hS dX12_feared_78 rfl trivial
      · refine lv_aload_n hx hb dX12_feared_16 rfl (lv_at hl 0 rfl) ?_
        refine lv_iload_n hx hb dX12_feared_17 rfl (lv_at hl 3 rfl) ?_
        refine lv_bipush (v := (6 : Int32)) hx hb dX12_feared_18 (by decide) ?_
        obtain ⟨r20, hg20, hf⟩ := ob1_some hf
        refine mcV1_i (As := [.int x3, .int (6 : Int32)]) (rest := []) hx hb hml hown hts hK hP hD hS hA (k_X12_get l N D cI cJ cZ cB cT h q v_a v_image v_texts v_tape v_taped v_fault v_faultPlace v_at v_place v_token v_number v_word v_text0 v_written v_sort0 v_pile v_piled v_opens v_isWhole v_once v_named v_values v_truth v_isWritten v_died v_aside v_likely v_safe v_headOf x3 (6 : Int32) r20 hg20) (kwX12_71 hts rfl rfl ⟨Nat.le_of_ble_eq_true rfl, Nat.le_of_ble_eq_true rfl⟩) 0 rfl rfl rfl rfl hl.1 rfl (Nat.le_of_ble_eq_true rfl) dX12_feared_20 ⟨Nat.zero_le _, Nat.zero_le _⟩ (fun hB20 H locs hP hD hS => ?_)
        have hP : va_P D vwCl (WM h q cI cJ cZ v_a v_image v_texts v_tape v_taped v_fault v_faultPlace v_at v_place v_token v_number v_word v_text0 v_written v_sort0 v_pile v_piled v_opens v_isWhole v_once v_named v_values v_truth v_isWritten v_died v_aside v_likely v_safe v_headOf) H := hP
        have hD : va_D A (WM h q cI cJ cZ v_a v_image v_texts v_tape v_taped v_fault v_faultPlace v_at v_place v_token v_number v_word v_text0 v_written v_sort0 v_pile v_piled v_opens v_isWhole v_once v_named v_values v_truth v_isWritten v_died v_aside v_likely v_safe v_headOf) := hD
        refine lv_iconst (v := (3 : Int32)) hx hb dX12_feared_23 (by decide) ?_
        refine xicmp_ne hx hb 30 dX12_feared_24 (by decide) hf (fun hf => ?_) (fun hf => ?_)
        · refine lv_goto (tgt := 71) hx hb dX12_feared_27 (by decide) ?_
          exact b71 x1 x2 x3 _ _ _ hf hP hD hS (lv_sub hl [0, 1, 2, 3] rfl)
        · refine lv_aload_n hx hb dX12_feared_30 rfl (lv_at hl 0 rfl) ?_
          refine lv_aload_n hx hb dX12_feared_31 rfl (lv_at hl 0 rfl) ?_
          refine lv_iload_n hx hb dX12_feared_32 rfl (lv_at hl 3 rfl) ?_
          refine lv_iconst (v := (0 : Int32)) hx hb dX12_feared_33 (by decide) ?_
          obtain ⟨r34, hg34, hf⟩ := ob1_some hf
          refine mcV1_i (As := [.int x3, .int (0 : Int32)]) (rest := [.ref h]) hx hb hml hown hts hK hP hD hS hA (k_X12_get l N D cI cJ cZ cB cT h q v_a v_image v_texts v_tape v_taped v_fault v_faultPlace v_at v_place v_token v_number v_word v_text0 v_written v_sort0 v_pile v_piled v_opens v_isWhole v_once v_named v_values v_truth v_isWritten v_died v_aside v_likely v_safe v_headOf x3 (0 : Int32) r34 hg34) (kwX12_71 hts rfl rfl ⟨Nat.le_of_ble_eq_true rfl, Nat.le_of_ble_eq_true rfl⟩) 0 rfl rfl rfl rfl hl.1 rfl (Nat.le_of_ble_eq_true rfl) dX12_feared_34 ⟨Nat.zero_le _, Nat.zero_le _⟩ (fun hB34 H locs hP hD hS => ?_)
          have hP : va_P D vwCl (WM h q cI cJ cZ v_a v_image v_texts v_tape v_taped v_fault v_faultPlace v_at v_place v_token v_number v_word v_text0 v_written v_sort0 v_pile v_piled v_opens v_isWhole v_once v_named v_values v_truth v_isWritten v_died v_aside v_likely v_safe v_headOf) H := hP
          have hD : va_D A (WM h q cI cJ cZ v_a v_image v_texts v_tape v_taped v_fault v_faultPlace v_at v_place v_token v_number v_word v_text0 v_written v_sort0 v_pile v_piled v_opens v_isWhole v_once v_named v_values v_truth v_isWritten v_died v_aside v_likely v_safe v_headOf) := hD
          obtain ⟨r37, hg37, hf⟩ := ob1_some hf
          refine mcV1_i (As := [.int r34]) (rest := []) hx hb hml hown hts hK hP hD hS hA (k_X12_aliveIn l N D cI cJ cZ cB cT h q v_a v_image v_texts v_tape v_taped v_fault v_faultPlace v_at v_place v_token v_number v_word v_text0 v_written v_sort0 v_pile v_piled v_opens v_isWhole v_once v_named v_values v_truth v_isWritten v_died v_aside v_likely v_safe v_headOf r34 r37 hg37) (kwX12_418 hts rfl rfl ⟨Nat.le_of_ble_eq_true rfl, Nat.le_of_ble_eq_true rfl⟩) 0 rfl rfl rfl rfl hl.1 rfl (Nat.le_of_ble_eq_true rfl) dX12_feared_37 ⟨Nat.zero_le _, Nat.zero_le _⟩ (fun hB37 H locs hP hD hS => ?_)
          have hP : va_P D vwCl (WM h q cI cJ cZ v_a v_image v_texts v_tape v_taped v_fault v_faultPlace v_at v_place v_token v_number v_word v_text0 v_written v_sort0 v_pile v_piled v_opens v_isWhole v_once v_named v_values v_truth v_isWritten v_died v_aside v_likely v_safe v_headOf) H := hP
          have hD : va_D A (WM h q cI cJ cZ v_a v_image v_texts v_tape v_taped v_fault v_faultPlace v_at v_place v_token v_number v_word v_text0 v_written v_sort0 v_pile v_piled v_opens v_isWhole v_once v_named v_values v_truth v_isWritten v_died v_aside v_likely v_safe v_headOf) := hD
          refine lv_aload_n hx hb dX12_feared_40 rfl (lv_at hl 0 rfl) ?_
          obtain ⟨r41, hg41, hf⟩ := ob1_some hf
          refine mcV1_i (As := []) (rest := [.int r37]) hx hb hml hown hts hK hP hD hS hA (k_X12_wolves l N D cI cJ cZ cB cT h q v_a v_image v_texts v_tape v_taped v_fault v_faultPlace v_at v_place v_token v_number v_word v_text0 v_written v_sort0 v_pile v_piled v_opens v_isWhole v_once v_named v_values v_truth v_isWritten v_died v_aside v_likely v_safe v_headOf r41 hg41) (kwX12_427 hts rfl rfl ⟨Nat.le_of_ble_eq_true rfl, Nat.le_of_ble_eq_true rfl⟩) 0 rfl rfl rfl rfl hl.1 rfl (Nat.le_of_ble_eq_true rfl) dX12_feared_41 ⟨Nat.zero_le _, Nat.zero_le _⟩ (fun hB41 H locs hP hD hS => ?_)
          have hP : va_P D vwCl (WM h q cI cJ cZ v_a v_image v_texts v_tape v_taped v_fault v_faultPlace v_at v_place v_token v_number v_word v_text0 v_written v_sort0 v_pile v_piled v_opens v_isWhole v_once v_named v_values v_truth v_isWritten v_died v_aside v_likely v_safe v_headOf) H := hP
          have hD : va_D A (WM h q cI cJ cZ v_a v_image v_texts v_tape v_taped v_fault v_faultPlace v_at v_place v_token v_number v_word v_text0 v_written v_sort0 v_pile v_piled v_opens v_isWhole v_once v_named v_values v_truth v_isWritten v_died v_aside v_likely v_safe v_headOf) := hD
          refine lv_iand hx hb dX12_feared_44 ?_
          refine lv_iconst (v := (1 : Int32)) hx hb dX12_feared_45 (by decide) ?_
          refine lv_iload_n hx hb dX12_feared_46 rfl (lv_at hl 3 rfl) ?_
          refine lv_ishl hx hb dX12_feared_47 ?_
          refine lv_iconst (v := (-1 : Int32)) hx hb dX12_feared_48 (by decide) ?_
          refine lv_ixor hx hb dX12_feared_49 ?_
          refine lv_iand hx hb dX12_feared_50 ?_
          refine lv_i2l hx hb dX12_feared_51 rfl ?_
          obtain ⟨r52, hg52, hf⟩ := ob1_some hf
          refine mcS0_i (As := [.long (((r37 &&& r41) &&& (((1 : Int32) <<< (x3 &&& 31)) ^^^ (-1 : Int32))).toInt64)]) (rest := []) hx hb hml hown hts hK hP hD hS hA (k_X12_bits l N D cI cJ cZ cB cT (((r37 &&& r41) &&& (((1 : Int32) <<< (x3 &&& 31)) ^^^ (-1 : Int32))).toInt64) r52 hg52) (kwX12_268 hts rfl rfl ⟨Nat.le_of_ble_eq_true rfl, Nat.le_of_ble_eq_true rfl⟩) rfl hl.1 rfl (Nat.le_of_ble_eq_true rfl) dX12_feared_52 ⟨Nat.zero_le _, Nat.zero_le _⟩ (fun hB52 H locs hP hD hS => ?_)
          refine lv_istore (lv' := [(4, .int r52), (0, .ref h), (1, .int x1), (2, .int x2), (3, .int x3)]) hx hb dX12_feared_55 hl (by decide) rfl (fun ls hl => ?_)
          refine lv_iload hx hb dX12_feared_57 (lv_at hl 0 rfl) ?_
          refine lv_iload_n hx hb dX12_feared_59 rfl (lv_at hl 3 rfl) ?_
          refine xicmp_gt hx hb 66 dX12_feared_60 (by decide) hf (fun hf => ?_) (fun hf => ?_)
          · refine lv_iload hx hb dX12_feared_66 (lv_at hl 0 rfl) ?_
            refine lv_istore_n (lv' := [(2, .int r52), (4, .int r52), (0, .ref h), (1, .int x1), (3, .int x3)]) hx hb dX12_feared_68 rfl hl (by decide) rfl (fun ls hl => ?_)
            refine lv_iload_n hx hb dX12_feared_69 rfl (lv_at hl 4 rfl) ?_
            refine lv_istore_n (lv' := [(1, .int x3), (2, .int r52), (4, .int r52), (0, .ref h), (3, .int x3)]) hx hb dX12_feared_70 rfl hl (by decide) rfl (fun ls hl => ?_)
            exact b71 x3 r52 x3 _ _ _ hf hP hD hS (lv_sub hl [3, 0, 1, 4] rfl)
          · refine lv_goto (tgt := 71) hx hb dX12_feared_63 (by decide) ?_
            exact b71 x1 x2 x3 _ _ _ hf hP hD hS (lv_sub hl [1, 2, 3, 4] rfl)
  unfold f_X12_feared at hf
  refine lv_iconst (v := (-1 : Int32)) hx hb dX12_feared_0 (by decide) ?_
  refine lv_istore_n (lv' := [(1, .int (-1 : Int32)), (0, .ref h)]) hx hb dX12_feared_1 rfl hl (by decide) rfl (fun ls hl => ?_)
  refine lv_iconst (v := (0 : Int32)) hx hb dX12_feared_2 (by decide) ?_
  refine lv_istore_n (lv' := [(2, .int (0 : Int32)), (1, .int (-1 : Int32)), (0, .ref h)]) hx hb dX12_feared_3 rfl hl (by decide) rfl (fun ls hl => ?_)
  refine lv_iconst (v := (0 : Int32)) hx hb dX12_feared_4 (by decide) ?_
  refine lv_istore_n (lv' := [(3, .int (0 : Int32)), (2, .int (0 : Int32)), (1, .int (-1 : Int32)), (0, .ref h)]) hx hb dX12_feared_5 rfl hl (by decide) rfl (fun ls hl => ?_)
  exact b6 N (-1 : Int32) (0 : Int32) (0 : Int32) _ _ _ hf hP hD hS (lv_sub hl [3, 2, 1, 0] rfl)
theorem dX12_setAside_0 : decode cX12_setAside 0 = .ok (.bipush 10, 2) := by decide +kernel
theorem dX12_setAside_2 : decode cX12_setAside 2 = .ok (.istore_n 1, 1) := by decide +kernel
theorem dX12_setAside_3 : decode cX12_setAside 3 = .ok (.iload_n 1, 1) := by decide +kernel
theorem dX12_setAside_4 : decode cX12_setAside 4 = .ok (.bipush 80, 2) := by decide +kernel
theorem dX12_setAside_6 : decode cX12_setAside 6 = .ok (.if_icmp .ge 21, 3) := by decide +kernel
theorem dX12_setAside_9 : decode cX12_setAside 9 = .ok (.aload_n 0, 1) := by decide +kernel
theorem dX12_setAside_10 : decode cX12_setAside 10 = .ok (.getfield 47, 3) := by decide +kernel
theorem dX12_setAside_13 : decode cX12_setAside 13 = .ok (.iload_n 1, 1) := by decide +kernel
theorem dX12_setAside_14 : decode cX12_setAside 14 = .ok (.aload_n 0, 1) := by decide +kernel
theorem dX12_setAside_15 : decode cX12_setAside 15 = .ok (.getfield 7, 3) := by decide +kernel
theorem dX12_setAside_18 : decode cX12_setAside 18 = .ok (.iload_n 1, 1) := by decide +kernel
theorem dX12_setAside_19 : decode cX12_setAside 19 = .ok (.iaload, 1) := by decide +kernel
theorem dX12_setAside_20 : decode cX12_setAside 20 = .ok (.iastore, 1) := by decide +kernel
theorem dX12_setAside_21 : decode cX12_setAside 21 = .ok (.iinc 1 1, 3) := by decide +kernel
theorem dX12_setAside_24 : decode cX12_setAside 24 = .ok (.goto (-21), 3) := by decide +kernel
theorem dX12_setAside_27 : decode cX12_setAside 27 = .ok (.aload_n 0, 1) := by decide +kernel
theorem dX12_setAside_28 : decode cX12_setAside 28 = .ok (.iconst 0, 1) := by decide +kernel
theorem dX12_setAside_29 : decode cX12_setAside 29 = .ok (.putfield 43, 3) := by decide +kernel
theorem dX12_setAside_32 : decode cX12_setAside 32 = .ok (.return_, 1) := by decide +kernel
def f_X12_setAside_3 (N : Nat) : Nat → (Nat → Int32) → Int32 → (Nat → Int32) → Int32 → Option (Int32 × (Nat → Int32))
  | 0, _, _, _, _ => none
  | n + 1, v_a, v_isWritten, v_aside, x1 => if (80 : Int32) ≤ x1 then (some ((0 : Int32), v_aside)) else (gA v_a 8762 x1 fun v19 => sA v_aside 80 x1 v19 fun v_aside_20 => (f_X12_setAside_3 N n) v_a v_isWritten v_aside_20 (x1 + (1 : Int32)))
def f_X12_setAside (N : Nat) (v_a : Nat → Int32) (v_isWritten : Int32) (v_aside : Nat → Int32) : Option (Int32 × (Nat → Int32)) := f_X12_setAside_3 N N v_a v_isWritten v_aside (10 : Int32)
set_option maxHeartbeats 4000000 in
set_option maxRecDepth 100000 in
theorem k_X12_setAside (l : Launch) (N : Nat) (D : va_G) (cI cJ cZ cB cT : ClassId) (h : Nat) (q : Nat → Nat) (v_a : Nat → Int32) (v_image : Nat → Int32) (v_texts : Nat → Int32) (v_tape : Nat → Int32) (v_taped : Int32) (v_fault : Int32) (v_faultPlace : Int32) (v_at : Int32) (v_place : Int32) (v_token : Int32) (v_number : Int32) (v_word : Int64) (v_text0 : Int32) (v_written : Int32) (v_sort0 : Int32) (v_pile : Nat → Int32) (v_piled : Int32) (v_opens : Int32) (v_isWhole : Int32) (v_once : Int32) (v_named : Nat → Int32) (v_values : Nat → Int64) (v_truth : Nat → Int32) (v_isWritten : Int32) (v_died : Int32) (v_aside : Nat → Int32) (v_likely : Nat → Int32) (v_safe : Nat → Int32) (v_headOf : Nat → Int32) (o_v_isWritten : Int32) (o_v_aside : Nat → Int32) (hf : f_X12_setAside N v_a v_isWritten v_aside = some (o_v_isWritten, o_v_aside)) : ∀ sz, Met l yX12_setAside (mw yX12_setAside cX12_setAside 2 none) ({ frames := 0, cells := 0, slots := 0, locals := 0 } : Room) (mPre D (mT cI cJ cZ cB cT) (WM h q cI cJ cZ v_a v_image v_texts v_tape v_taped v_fault v_faultPlace v_at v_place v_token v_number v_word v_text0 v_written v_sort0 v_pile v_piled v_opens v_isWhole v_once v_named v_values v_truth v_isWritten v_died v_aside v_likely v_safe v_headOf) sz [.ref h]) ((mQv D (WM h q cI cJ cZ v_a v_image v_texts v_tape v_taped v_fault v_faultPlace v_at v_place v_token v_number v_word v_text0 v_written v_sort0 v_pile v_piled v_opens v_isWhole v_once v_named v_values v_truth o_v_isWritten v_died o_v_aside v_likely v_safe v_headOf)) (va_A (WM h q cI cJ cZ v_a v_image v_texts v_tape v_taped v_fault v_faultPlace v_at v_place v_token v_number v_word v_text0 v_written v_sort0 v_pile v_piled v_opens v_isWhole v_once v_named v_values v_truth v_isWritten v_died v_aside v_likely v_safe v_headOf) sz)) 0 0 (va_A (WM h q cI cJ cZ v_a v_image v_texts v_tape v_taped v_fault v_faultPlace v_at v_place v_token v_number v_word v_text0 v_written v_sort0 v_pile v_piled v_opens v_isWhole v_once v_named v_values v_truth v_isWritten v_died v_aside v_likely v_safe v_headOf) sz) := by
  refine mMet (Qc := (mQv D (WM h q cI cJ cZ v_a v_image v_texts v_tape v_taped v_fault v_faultPlace v_at v_place v_token v_number v_word v_text0 v_written v_sort0 v_pile v_piled v_opens v_isWhole v_once v_named v_values v_truth o_v_isWritten v_died o_v_aside v_likely v_safe v_headOf))) (by decide) (Nat.le_of_ble_eq_true rfl) (fun p e s m below meth c A ls hx hb hr hml hts hown hlocks hK hA hP hD hl => ?_)
  have hown : s.vm.findClass RX12 = some m.cls := hown
  have hl : lv_has ls 2 [(0, .ref h)] := hl
  have hS : va_S A s.heap s.heap [] := va_S.rf
  have b3 : ∀ n3 : Nat, ∀ (v_isWritten : Int32) (v_aside : Nat → Int32) (x1 : Int32) (H : Heap) (locs : List Loc) (ls : Array Slot), f_X12_setAside_3 N n3 v_a v_isWritten v_aside x1 = some (o_v_isWritten, o_v_aside) → va_P D vwCl (WM h q cI cJ cZ v_a v_image v_texts v_tape v_taped v_fault v_faultPlace v_at v_place v_token v_number v_word v_text0 v_written v_sort0 v_pile v_piled v_opens v_isWhole v_once v_named v_values v_truth v_isWritten v_died v_aside v_likely v_safe v_headOf) H → va_D A (WM h q cI cJ cZ v_a v_image v_texts v_tape v_taped v_fault v_faultPlace v_at v_place v_token v_number v_word v_text0 v_written v_sort0 v_pile v_piled v_opens v_isWhole v_once v_named v_values v_truth v_isWritten v_died v_aside v_likely v_safe v_headOf) → va_S A s.heap H locs → lv_has ls 2 [(0, .ref h), (1, .int x1)] → W p l e ({ frames := 0, cells := 0, slots := 0, locals := 0 } : Room) s m ([.ref h] : List Value).toArray below meth c H locs 0 0 (MQ below ((mQv D (WM h q cI cJ cZ v_a v_image v_texts v_tape v_taped v_fault v_faultPlace v_at v_place v_token v_number v_word v_text0 v_written v_sort0 v_pile v_piled v_opens v_isWhole v_once v_named v_values v_truth o_v_isWritten v_died o_v_aside v_likely v_safe v_headOf)) A) ([.ref h] : List Value).toArray s 0 0 A) (F0 m 3 ls []) := by
    intro n3
    induction n3 with
    | zero =>
      intro v_isWritten v_aside x1 H locs ls hf hP hD hS hl
      simp [f_X12_setAside_3] at hf
    | succ n3 ih3 =>
      intro v_isWritten v_aside x1 H locs ls hf hP hD hS hl
      rw [f_X12_setAside_3.eq_2] at hf
      refine lv_iload_n hx hb dX12_setAside_3 rfl (lv_at hl 1 rfl) ?_
      refine lv_bipush (v := (80 : Int32)) hx hb dX12_setAside_4 (by decide) ?_
      refine xicmp_ge hx hb 27 dX12_setAside_6 (by decide) hf (fun hf => ?_) (fun hf => ?_)
      · refine lv_aload_n hx hb dX12_setAside_27 rfl (lv_at hl 0 rfl) ?_
        refine lv_iconst (v := (0 : Int32)) hx hb dX12_setAside_28 (by decide) ?_
        refine pfX12_43 hx hb hts hown hK hP hD hS 0 rfl rfl rfl (Nat.le_of_ble_eq_true rfl) dX12_setAside_29 (fun H locs hP hD hS => ?_)
        have hP : va_P D vwCl (WM h q cI cJ cZ v_a v_image v_texts v_tape v_taped v_fault v_faultPlace v_at v_place v_token v_number v_word v_text0 v_written v_sort0 v_pile v_piled v_opens v_isWhole v_once v_named v_values v_truth (0 : Int32) v_died v_aside v_likely v_safe v_headOf) H := hP
        have hD : va_D A (WM h q cI cJ cZ v_a v_image v_texts v_tape v_taped v_fault v_faultPlace v_at v_place v_token v_number v_word v_text0 v_written v_sort0 v_pile v_piled v_opens v_isWhole v_once v_named v_values v_truth (0 : Int32) v_died v_aside v_likely v_safe v_headOf) := hD
        cases hf
        exact mret_v hx hb hr hlocks hP hD hS dX12_setAside_32
      · refine lv_aload_n hx hb dX12_setAside_9 rfl (lv_at hl 0 rfl) ?_
        refine gfX12_47 hx hb hts hown hK hP 0 rfl rfl dX12_setAside_10 ?_
        refine lv_iload_n hx hb dX12_setAside_13 rfl (lv_at hl 1 rfl) ?_
        refine lv_aload_n hx hb dX12_setAside_14 rfl (lv_at hl 0 rfl) ?_
        refine gfX12_7 hx hb hts hown hK hP 0 rfl rfl dX12_setAside_15 ?_
        refine lv_iload_n hx hb dX12_setAside_18 rfl (lv_at hl 1 rfl) ?_
        refine xiald hx hb hK hP 1 0 rfl rfl dX12_setAside_19 hf (fun v19 hf => ?_)
        refine xiast hx hb hK hP hD hS 9 0 rfl rfl dX12_setAside_20 hf (fun v_aside_20 hf H locs hP hD hS => ?_)
        have hP : va_P D vwCl (WM h q cI cJ cZ v_a v_image v_texts v_tape v_taped v_fault v_faultPlace v_at v_place v_token v_number v_word v_text0 v_written v_sort0 v_pile v_piled v_opens v_isWhole v_once v_named v_values v_truth v_isWritten v_died v_aside_20 v_likely v_safe v_headOf) H := hP
        have hD : va_D A (WM h q cI cJ cZ v_a v_image v_texts v_tape v_taped v_fault v_faultPlace v_at v_place v_token v_number v_word v_text0 v_written v_sort0 v_pile v_piled v_opens v_isWhole v_once v_named v_values v_truth v_isWritten v_died v_aside_20 v_likely v_safe v_headOf) := hD
        refine lv_iinc (v := (x1 + (1 : Int32))) (lv' := [(1, .int (x1 + (1 : Int32))), (0, .ref h)]) hx hb dX12_setAside_21 hl (k := 1) rfl rfl (by decide) rfl (fun ls hl => ?_)
        refine lv_goto (tgt := 3) hx hb dX12_setAside_24 (by decide) ?_
        exact ih3 v_isWritten v_aside_20 (x1 + (1 : Int32)) _ _ _ hf hP hD hS (lv_sub hl [1, 0] rfl)
  unfold f_X12_setAside at hf
  refine lv_bipush (v := (10 : Int32)) hx hb dX12_setAside_0 (by decide) ?_
  refine lv_istore_n (lv' := [(1, .int (10 : Int32)), (0, .ref h)]) hx hb dX12_setAside_2 rfl hl (by decide) rfl (fun ls hl => ?_)
  exact b3 N v_isWritten v_aside (10 : Int32) _ _ _ hf hP hD hS (lv_sub hl [1, 0] rfl)
theorem dX12_putBack_0 : decode cX12_putBack 0 = .ok (.bipush 10, 2) := by decide +kernel
theorem dX12_putBack_2 : decode cX12_putBack 2 = .ok (.istore_n 1, 1) := by decide +kernel
theorem dX12_putBack_3 : decode cX12_putBack 3 = .ok (.iload_n 1, 1) := by decide +kernel
theorem dX12_putBack_4 : decode cX12_putBack 4 = .ok (.bipush 80, 2) := by decide +kernel
theorem dX12_putBack_6 : decode cX12_putBack 6 = .ok (.if_icmp .ge 21, 3) := by decide +kernel
theorem dX12_putBack_9 : decode cX12_putBack 9 = .ok (.aload_n 0, 1) := by decide +kernel
theorem dX12_putBack_10 : decode cX12_putBack 10 = .ok (.getfield 7, 3) := by decide +kernel
theorem dX12_putBack_13 : decode cX12_putBack 13 = .ok (.iload_n 1, 1) := by decide +kernel
theorem dX12_putBack_14 : decode cX12_putBack 14 = .ok (.aload_n 0, 1) := by decide +kernel
theorem dX12_putBack_15 : decode cX12_putBack 15 = .ok (.getfield 47, 3) := by decide +kernel
theorem dX12_putBack_18 : decode cX12_putBack 18 = .ok (.iload_n 1, 1) := by decide +kernel
theorem dX12_putBack_19 : decode cX12_putBack 19 = .ok (.iaload, 1) := by decide +kernel
theorem dX12_putBack_20 : decode cX12_putBack 20 = .ok (.iastore, 1) := by decide +kernel
theorem dX12_putBack_21 : decode cX12_putBack 21 = .ok (.iinc 1 1, 3) := by decide +kernel
theorem dX12_putBack_24 : decode cX12_putBack 24 = .ok (.goto (-21), 3) := by decide +kernel
theorem dX12_putBack_27 : decode cX12_putBack 27 = .ok (.aload_n 0, 1) := by decide +kernel
theorem dX12_putBack_28 : decode cX12_putBack 28 = .ok (.iconst 1, 1) := by decide +kernel
theorem dX12_putBack_29 : decode cX12_putBack 29 = .ok (.putfield 43, 3) := by decide +kernel
theorem dX12_putBack_32 : decode cX12_putBack 32 = .ok (.return_, 1) := by decide +kernel
def f_X12_putBack_3 (N : Nat) : Nat → (Nat → Int32) → Int32 → (Nat → Int32) → Int32 → Option ((Nat → Int32) × Int32)
  | 0, _, _, _, _ => none
  | n + 1, v_a, v_isWritten, v_aside, x1 => if (80 : Int32) ≤ x1 then (some (v_a, (1 : Int32))) else (gA v_aside 80 x1 fun v19 => sA v_a 8762 x1 v19 fun v_a_20 => (f_X12_putBack_3 N n) v_a_20 v_isWritten v_aside (x1 + (1 : Int32)))
def f_X12_putBack (N : Nat) (v_a : Nat → Int32) (v_isWritten : Int32) (v_aside : Nat → Int32) : Option ((Nat → Int32) × Int32) := f_X12_putBack_3 N N v_a v_isWritten v_aside (10 : Int32)
set_option maxHeartbeats 4000000 in
set_option maxRecDepth 100000 in
theorem k_X12_putBack (l : Launch) (N : Nat) (D : va_G) (cI cJ cZ cB cT : ClassId) (h : Nat) (q : Nat → Nat) (v_a : Nat → Int32) (v_image : Nat → Int32) (v_texts : Nat → Int32) (v_tape : Nat → Int32) (v_taped : Int32) (v_fault : Int32) (v_faultPlace : Int32) (v_at : Int32) (v_place : Int32) (v_token : Int32) (v_number : Int32) (v_word : Int64) (v_text0 : Int32) (v_written : Int32) (v_sort0 : Int32) (v_pile : Nat → Int32) (v_piled : Int32) (v_opens : Int32) (v_isWhole : Int32) (v_once : Int32) (v_named : Nat → Int32) (v_values : Nat → Int64) (v_truth : Nat → Int32) (v_isWritten : Int32) (v_died : Int32) (v_aside : Nat → Int32) (v_likely : Nat → Int32) (v_safe : Nat → Int32) (v_headOf : Nat → Int32) (o_v_a : Nat → Int32) (o_v_isWritten : Int32) (hf : f_X12_putBack N v_a v_isWritten v_aside = some (o_v_a, o_v_isWritten)) : ∀ sz, Met l yX12_putBack (mw yX12_putBack cX12_putBack 2 none) ({ frames := 0, cells := 0, slots := 0, locals := 0 } : Room) (mPre D (mT cI cJ cZ cB cT) (WM h q cI cJ cZ v_a v_image v_texts v_tape v_taped v_fault v_faultPlace v_at v_place v_token v_number v_word v_text0 v_written v_sort0 v_pile v_piled v_opens v_isWhole v_once v_named v_values v_truth v_isWritten v_died v_aside v_likely v_safe v_headOf) sz [.ref h]) ((mQv D (WM h q cI cJ cZ o_v_a v_image v_texts v_tape v_taped v_fault v_faultPlace v_at v_place v_token v_number v_word v_text0 v_written v_sort0 v_pile v_piled v_opens v_isWhole v_once v_named v_values v_truth o_v_isWritten v_died v_aside v_likely v_safe v_headOf)) (va_A (WM h q cI cJ cZ v_a v_image v_texts v_tape v_taped v_fault v_faultPlace v_at v_place v_token v_number v_word v_text0 v_written v_sort0 v_pile v_piled v_opens v_isWhole v_once v_named v_values v_truth v_isWritten v_died v_aside v_likely v_safe v_headOf) sz)) 0 0 (va_A (WM h q cI cJ cZ v_a v_image v_texts v_tape v_taped v_fault v_faultPlace v_at v_place v_token v_number v_word v_text0 v_written v_sort0 v_pile v_piled v_opens v_isWhole v_once v_named v_values v_truth v_isWritten v_died v_aside v_likely v_safe v_headOf) sz) := by
  refine mMet (Qc := (mQv D (WM h q cI cJ cZ o_v_a v_image v_texts v_tape v_taped v_fault v_faultPlace v_at v_place v_token v_number v_word v_text0 v_written v_sort0 v_pile v_piled v_opens v_isWhole v_once v_named v_values v_truth o_v_isWritten v_died v_aside v_likely v_safe v_headOf))) (by decide) (Nat.le_of_ble_eq_true rfl) (fun p e s m below meth c A ls hx hb hr hml hts hown hlocks hK hA hP hD hl => ?_)
  have hown : s.vm.findClass RX12 = some m.cls := hown
  have hl : lv_has ls 2 [(0, .ref h)] := hl
  have hS : va_S A s.heap s.heap [] := va_S.rf
  have b3 : ∀ n3 : Nat, ∀ (v_a : Nat → Int32) (v_isWritten : Int32) (x1 : Int32) (H : Heap) (locs : List Loc) (ls : Array Slot), f_X12_putBack_3 N n3 v_a v_isWritten v_aside x1 = some (o_v_a, o_v_isWritten) → va_P D vwCl (WM h q cI cJ cZ v_a v_image v_texts v_tape v_taped v_fault v_faultPlace v_at v_place v_token v_number v_word v_text0 v_written v_sort0 v_pile v_piled v_opens v_isWhole v_once v_named v_values v_truth v_isWritten v_died v_aside v_likely v_safe v_headOf) H → va_D A (WM h q cI cJ cZ v_a v_image v_texts v_tape v_taped v_fault v_faultPlace v_at v_place v_token v_number v_word v_text0 v_written v_sort0 v_pile v_piled v_opens v_isWhole v_once v_named v_values v_truth v_isWritten v_died v_aside v_likely v_safe v_headOf) → va_S A s.heap H locs → lv_has ls 2 [(0, .ref h), (1, .int x1)] → W p l e ({ frames := 0, cells := 0, slots := 0, locals := 0 } : Room) s m ([.ref h] : List Value).toArray below meth c H locs 0 0 (MQ below ((mQv D (WM h q cI cJ cZ o_v_a v_image v_texts v_tape v_taped v_fault v_faultPlace v_at v_place v_token v_number v_word v_text0 v_written v_sort0 v_pile v_piled v_opens v_isWhole v_once v_named v_values v_truth o_v_isWritten v_died v_aside v_likely v_safe v_headOf)) A) ([.ref h] : List Value).toArray s 0 0 A) (F0 m 3 ls []) := by
    intro n3
    induction n3 with
    | zero =>
      intro v_a v_isWritten x1 H locs ls hf hP hD hS hl
      simp [f_X12_putBack_3] at hf
    | succ n3 ih3 =>
      intro v_a v_isWritten x1 H locs ls hf hP hD hS hl
      rw [f_X12_putBack_3.eq_2] at hf
      refine lv_iload_n hx hb dX12_putBack_3 rfl (lv_at hl 1 rfl) ?_
      refine lv_bipush (v := (80 : Int32)) hx hb dX12_putBack_4 (by decide) ?_
      refine xicmp_ge hx hb 27 dX12_putBack_6 (by decide) hf (fun hf => ?_) (fun hf => ?_)
      · refine lv_aload_n hx hb dX12_putBack_27 rfl (lv_at hl 0 rfl) ?_
        refine lv_iconst (v := (1 : Int32)) hx hb dX12_putBack_28 (by decide) ?_
        refine pfX12_43 hx hb hts hown hK hP hD hS 0 rfl rfl rfl (Nat.le_of_ble_eq_true rfl) dX12_putBack_29 (fun H locs hP hD hS => ?_)
        have hP : va_P D vwCl (WM h q cI cJ cZ v_a v_image v_texts v_tape v_taped v_fault v_faultPlace v_at v_place v_token v_number v_word v_text0 v_written v_sort0 v_pile v_piled v_opens v_isWhole v_once v_named v_values v_truth (1 : Int32) v_died v_aside v_likely v_safe v_headOf) H := hP
        have hD : va_D A (WM h q cI cJ cZ v_a v_image v_texts v_tape v_taped v_fault v_faultPlace v_at v_place v_token v_number v_word v_text0 v_written v_sort0 v_pile v_piled v_opens v_isWhole v_once v_named v_values v_truth (1 : Int32) v_died v_aside v_likely v_safe v_headOf) := hD
        cases hf
        exact mret_v hx hb hr hlocks hP hD hS dX12_putBack_32
      · refine lv_aload_n hx hb dX12_putBack_9 rfl (lv_at hl 0 rfl) ?_
        refine gfX12_7 hx hb hts hown hK hP 0 rfl rfl dX12_putBack_10 ?_
        refine lv_iload_n hx hb dX12_putBack_13 rfl (lv_at hl 1 rfl) ?_
        refine lv_aload_n hx hb dX12_putBack_14 rfl (lv_at hl 0 rfl) ?_
        refine gfX12_47 hx hb hts hown hK hP 0 rfl rfl dX12_putBack_15 ?_
        refine lv_iload_n hx hb dX12_putBack_18 rfl (lv_at hl 1 rfl) ?_
        refine xiald hx hb hK hP 9 0 rfl rfl dX12_putBack_19 hf (fun v19 hf => ?_)
        refine xiast hx hb hK hP hD hS 1 0 rfl rfl dX12_putBack_20 hf (fun v_a_20 hf H locs hP hD hS => ?_)
        have hP : va_P D vwCl (WM h q cI cJ cZ v_a_20 v_image v_texts v_tape v_taped v_fault v_faultPlace v_at v_place v_token v_number v_word v_text0 v_written v_sort0 v_pile v_piled v_opens v_isWhole v_once v_named v_values v_truth v_isWritten v_died v_aside v_likely v_safe v_headOf) H := hP
        have hD : va_D A (WM h q cI cJ cZ v_a_20 v_image v_texts v_tape v_taped v_fault v_faultPlace v_at v_place v_token v_number v_word v_text0 v_written v_sort0 v_pile v_piled v_opens v_isWhole v_once v_named v_values v_truth v_isWritten v_died v_aside v_likely v_safe v_headOf) := hD
        refine lv_iinc (v := (x1 + (1 : Int32))) (lv' := [(1, .int (x1 + (1 : Int32))), (0, .ref h)]) hx hb dX12_putBack_21 hl (k := 1) rfl rfl (by decide) rfl (fun ls hl => ?_)
        refine lv_goto (tgt := 3) hx hb dX12_putBack_24 (by decide) ?_
        exact ih3 v_a_20 v_isWritten (x1 + (1 : Int32)) _ _ _ hf hP hD hS (lv_sub hl [1, 0] rfl)
  unfold f_X12_putBack at hf
  refine lv_bipush (v := (10 : Int32)) hx hb dX12_putBack_0 (by decide) ?_
  refine lv_istore_n (lv' := [(1, .int (10 : Int32)), (0, .ref h)]) hx hb dX12_putBack_2 rfl hl (by decide) rfl (fun ls hl => ?_)
  exact b3 N v_a v_isWritten (10 : Int32) _ _ _ hf hP hD hS (lv_sub hl [1, 0] rfl)
theorem dX12_foretold_0 : decode cX12_foretold 0 = .ok (.iload_n 1, 1) := by decide +kernel
theorem dX12_foretold_1 : decode cX12_foretold 1 = .ok (.iconst 1, 1) := by decide +kernel
theorem dX12_foretold_2 : decode cX12_foretold 2 = .ok (.bipush 60, 2) := by decide +kernel
theorem dX12_foretold_4 : decode cX12_foretold 4 = .ok (.invokestatic 63, 3) := by decide +kernel
theorem dX12_foretold_7 : decode cX12_foretold 7 = .ok (.ifCond .eq 11, 3) := by decide +kernel
theorem dX12_foretold_10 : decode cX12_foretold 10 = .ok (.aload_n 0, 1) := by decide +kernel
theorem dX12_foretold_11 : decode cX12_foretold 11 = .ok (.iload_n 2, 1) := by decide +kernel
theorem dX12_foretold_12 : decode cX12_foretold 12 = .ok (.invokevirtual 67, 3) := by decide +kernel
theorem dX12_foretold_15 : decode cX12_foretold 15 = .ok (.ifCond .ne 5, 3) := by decide +kernel
theorem dX12_foretold_18 : decode cX12_foretold 18 = .ok (.iconst (-1), 1) := by decide +kernel
theorem dX12_foretold_19 : decode cX12_foretold 19 = .ok (.ireturn, 1) := by decide +kernel
theorem dX12_foretold_20 : decode cX12_foretold 20 = .ok (.aload_n 0, 1) := by decide +kernel
theorem dX12_foretold_21 : decode cX12_foretold 21 = .ok (.invokevirtual 430, 3) := by decide +kernel
theorem dX12_foretold_24 : decode cX12_foretold 24 = .ok (.iconst 0, 1) := by decide +kernel
theorem dX12_foretold_25 : decode cX12_foretold 25 = .ok (.istore 4, 2) := by decide +kernel
theorem dX12_foretold_27 : decode cX12_foretold 27 = .ok (.iload 4, 2) := by decide +kernel
theorem dX12_foretold_29 : decode cX12_foretold 29 = .ok (.iload_n 1, 1) := by decide +kernel
theorem dX12_foretold_30 : decode cX12_foretold 30 = .ok (.if_icmp .ge 26, 3) := by decide +kernel
theorem dX12_foretold_33 : decode cX12_foretold 33 = .ok (.aload_n 0, 1) := by decide +kernel
theorem dX12_foretold_34 : decode cX12_foretold 34 = .ok (.getfield 7, 3) := by decide +kernel
theorem dX12_foretold_37 : decode cX12_foretold 37 = .ok (.bipush 10, 2) := by decide +kernel
theorem dX12_foretold_39 : decode cX12_foretold 39 = .ok (.iaload, 1) := by decide +kernel
theorem dX12_foretold_40 : decode cX12_foretold 40 = .ok (.sipush 9999, 3) := by decide +kernel
theorem dX12_foretold_43 : decode cX12_foretold 43 = .ok (.if_icmp .ge 7, 3) := by decide +kernel
theorem dX12_foretold_46 : decode cX12_foretold 46 = .ok (.aload_n 0, 1) := by decide +kernel
theorem dX12_foretold_47 : decode cX12_foretold 47 = .ok (.invokevirtual 382, 3) := by decide +kernel
theorem dX12_foretold_50 : decode cX12_foretold 50 = .ok (.iinc 4 1, 3) := by decide +kernel
theorem dX12_foretold_53 : decode cX12_foretold 53 = .ok (.goto (-26), 3) := by decide +kernel
theorem dX12_foretold_56 : decode cX12_foretold 56 = .ok (.aload_n 0, 1) := by decide +kernel
theorem dX12_foretold_57 : decode cX12_foretold 57 = .ok (.iload_n 2, 1) := by decide +kernel
theorem dX12_foretold_58 : decode cX12_foretold 58 = .ok (.iload_n 3, 1) := by decide +kernel
theorem dX12_foretold_59 : decode cX12_foretold 59 = .ok (.ifCond .eq 7, 3) := by decide +kernel
theorem dX12_foretold_62 : decode cX12_foretold 62 = .ok (.iconst 1, 1) := by decide +kernel
theorem dX12_foretold_63 : decode cX12_foretold 63 = .ok (.goto 5, 3) := by decide +kernel
theorem dX12_foretold_66 : decode cX12_foretold 66 = .ok (.bipush 6, 2) := by decide +kernel
theorem dX12_foretold_68 : decode cX12_foretold 68 = .ok (.invokevirtual 71, 3) := by decide +kernel
theorem dX12_foretold_71 : decode cX12_foretold 71 = .ok (.istore 4, 2) := by decide +kernel
theorem dX12_foretold_73 : decode cX12_foretold 73 = .ok (.aload_n 0, 1) := by decide +kernel
theorem dX12_foretold_74 : decode cX12_foretold 74 = .ok (.invokevirtual 433, 3) := by decide +kernel
theorem dX12_foretold_77 : decode cX12_foretold 77 = .ok (.iload 4, 2) := by decide +kernel
theorem dX12_foretold_79 : decode cX12_foretold 79 = .ok (.ireturn, 1) := by decide +kernel
def f_X12_foretold_68 (N : Nat) (v_a : Nat → Int32) (v_texts : Nat → Int32) (v_named : Nat → Int32) (v_values : Nat → Int64) (v_truth : Nat → Int32) (v_isWritten : Int32) (v_died : Int32) (v_aside : Nat → Int32) (s1 : Int32) (s2 : Int32) : Option (Int32 × (Nat → Int32) × (Nat → Int32) × (Nat → Int64) × (Nat → Int32) × Int32 × Int32 × (Nat → Int32)) := ob1 (f_X12_get N v_a s1 s2) fun r68 => ob2 (f_X12_putBack N v_a v_isWritten v_aside) fun v_a_74 v_isWritten_74 => some (r68, v_a_74, v_named, v_values, v_truth, v_isWritten_74, v_died, v_aside)
def f_X12_foretold_50 (N : Nat) (k_27 : (Nat → Int32) → (Nat → Int32) → (Nat → Int32) → (Nat → Int64) → (Nat → Int32) → Int32 → Int32 → (Nat → Int32) → Int32 → Int32 → Int32 → Int32 → Option (Int32 × (Nat → Int32) × (Nat → Int32) × (Nat → Int64) × (Nat → Int32) × Int32 × Int32 × (Nat → Int32))) (v_a : Nat → Int32) (v_texts : Nat → Int32) (v_named : Nat → Int32) (v_values : Nat → Int64) (v_truth : Nat → Int32) (v_isWritten : Int32) (v_died : Int32) (v_aside : Nat → Int32) (x1 : Int32) (x2 : Int32) (x3 : Int32) (x4 : Int32) : Option (Int32 × (Nat → Int32) × (Nat → Int32) × (Nat → Int64) × (Nat → Int32) × Int32 × Int32 × (Nat → Int32)) := k_27 v_a v_texts v_named v_values v_truth v_isWritten v_died v_aside x1 x2 x3 (x4 + (1 : Int32))
def f_X12_foretold_27 (N : Nat) : Nat → (Nat → Int32) → (Nat → Int32) → (Nat → Int32) → (Nat → Int64) → (Nat → Int32) → Int32 → Int32 → (Nat → Int32) → Int32 → Int32 → Int32 → Int32 → Option (Int32 × (Nat → Int32) × (Nat → Int32) × (Nat → Int64) × (Nat → Int32) × Int32 × Int32 × (Nat → Int32))
  | 0, _, _, _, _, _, _, _, _, _, _, _, _ => none
  | n + 1, v_a, v_texts, v_named, v_values, v_truth, v_isWritten, v_died, v_aside, x1, x2, x3, x4 => if x1 ≤ x4 then (if x3 = 0 then (f_X12_foretold_68 N v_a v_texts v_named v_values v_truth v_isWritten v_died v_aside x2 (6 : Int32)) else (f_X12_foretold_68 N v_a v_texts v_named v_values v_truth v_isWritten v_died v_aside x2 (1 : Int32))) else (gA v_a 8762 (10 : Int32) fun v39 => if (9999 : Int32) ≤ v39 then (f_X12_foretold_50 N (f_X12_foretold_27 N n) v_a v_texts v_named v_values v_truth v_isWritten v_died v_aside x1 x2 x3 x4) else (ob5 (f_X12_goOn N v_a v_texts v_named v_values v_truth v_isWritten v_died) fun v_a_47 v_named_47 v_values_47 v_truth_47 v_died_47 => f_X12_foretold_50 N (f_X12_foretold_27 N n) v_a_47 v_texts v_named_47 v_values_47 v_truth_47 v_isWritten v_died_47 v_aside x1 x2 x3 x4))
def f_X12_foretold (N : Nat) (v_a : Nat → Int32) (v_texts : Nat → Int32) (v_named : Nat → Int32) (v_values : Nat → Int64) (v_truth : Nat → Int32) (v_isWritten : Int32) (v_died : Int32) (v_aside : Nat → Int32) (p1 : Int32) (p2 : Int32) (p3 : Int32) : Option (Int32 × (Nat → Int32) × (Nat → Int32) × (Nat → Int64) × (Nat → Int32) × Int32 × Int32 × (Nat → Int32)) := ob1 (f_X12_isIn N p1 (1 : Int32) (60 : Int32)) fun r4 => if r4 = 0 then (some ((-1 : Int32), v_a, v_named, v_values, v_truth, v_isWritten, v_died, v_aside)) else (ob1 (f_X12_isPerson N v_a p2) fun r12 => if r12 = 0 then (some ((-1 : Int32), v_a, v_named, v_values, v_truth, v_isWritten, v_died, v_aside)) else (ob2 (f_X12_setAside N v_a v_isWritten v_aside) fun v_isWritten_21 v_aside_21 => f_X12_foretold_27 N N v_a v_texts v_named v_values v_truth v_isWritten_21 v_died v_aside_21 p1 p2 p3 (0 : Int32)))
set_option maxHeartbeats 4000000 in
set_option maxRecDepth 100000 in
theorem k_X12_foretold (l : Launch) (N : Nat) (D : va_G) (cI cJ cZ cB cT : ClassId) (h : Nat) (q : Nat → Nat) (v_a : Nat → Int32) (v_image : Nat → Int32) (v_texts : Nat → Int32) (v_tape : Nat → Int32) (v_taped : Int32) (v_fault : Int32) (v_faultPlace : Int32) (v_at : Int32) (v_place : Int32) (v_token : Int32) (v_number : Int32) (v_word : Int64) (v_text0 : Int32) (v_written : Int32) (v_sort0 : Int32) (v_pile : Nat → Int32) (v_piled : Int32) (v_opens : Int32) (v_isWhole : Int32) (v_once : Int32) (v_named : Nat → Int32) (v_values : Nat → Int64) (v_truth : Nat → Int32) (v_isWritten : Int32) (v_died : Int32) (v_aside : Nat → Int32) (v_likely : Nat → Int32) (v_safe : Nat → Int32) (v_headOf : Nat → Int32) (p1 : Int32) (p2 : Int32) (p3 : Int32) (o_r : Int32) (o_v_a : Nat → Int32) (o_v_named : Nat → Int32) (o_v_values : Nat → Int64) (o_v_truth : Nat → Int32) (o_v_isWritten : Int32) (o_v_died : Int32) (o_v_aside : Nat → Int32) (hf : f_X12_foretold N v_a v_texts v_named v_values v_truth v_isWritten v_died v_aside p1 p2 p3 = some (o_r, o_v_a, o_v_named, o_v_values, o_v_truth, o_v_isWritten, o_v_died, o_v_aside)) : ∀ sz, Met l yX12_foretold (mw yX12_foretold cX12_foretold 5 (some .int)) ({ frames := 9, cells := 0, slots := 0, locals := 207 } : Room) (mPre D (mT cI cJ cZ cB cT) (WM h q cI cJ cZ v_a v_image v_texts v_tape v_taped v_fault v_faultPlace v_at v_place v_token v_number v_word v_text0 v_written v_sort0 v_pile v_piled v_opens v_isWhole v_once v_named v_values v_truth v_isWritten v_died v_aside v_likely v_safe v_headOf) sz [.ref h, .int p1, .int p2, .int p3]) ((mQi D (WM h q cI cJ cZ o_v_a v_image v_texts v_tape v_taped v_fault v_faultPlace v_at v_place v_token v_number v_word v_text0 v_written v_sort0 v_pile v_piled v_opens v_isWhole v_once o_v_named o_v_values o_v_truth o_v_isWritten o_v_died o_v_aside v_likely v_safe v_headOf) o_r True) (va_A (WM h q cI cJ cZ v_a v_image v_texts v_tape v_taped v_fault v_faultPlace v_at v_place v_token v_number v_word v_text0 v_written v_sort0 v_pile v_piled v_opens v_isWhole v_once v_named v_values v_truth v_isWritten v_died v_aside v_likely v_safe v_headOf) sz)) 0 0 (va_A (WM h q cI cJ cZ v_a v_image v_texts v_tape v_taped v_fault v_faultPlace v_at v_place v_token v_number v_word v_text0 v_written v_sort0 v_pile v_piled v_opens v_isWhole v_once v_named v_values v_truth v_isWritten v_died v_aside v_likely v_safe v_headOf) sz) := by
  refine mMet (Qc := (mQi D (WM h q cI cJ cZ o_v_a v_image v_texts v_tape v_taped v_fault v_faultPlace v_at v_place v_token v_number v_word v_text0 v_written v_sort0 v_pile v_piled v_opens v_isWhole v_once o_v_named o_v_values o_v_truth o_v_isWritten o_v_died o_v_aside v_likely v_safe v_headOf) o_r True)) (by decide) (Nat.le_of_ble_eq_true rfl) (fun p e s m below meth c A ls hx hb hr hml hts hown hlocks hK hA hP hD hl => ?_)
  have hown : s.vm.findClass RX12 = some m.cls := hown
  have hl : lv_has ls 5 [(0, .ref h), (1, .int p1), (2, .int p2), (3, .int p3)] := hl
  have hS : va_S A s.heap s.heap [] := va_S.rf
  have b68 : ∀ (v_a : Nat → Int32) (v_named : Nat → Int32) (v_values : Nat → Int64) (v_truth : Nat → Int32) (v_isWritten : Int32) (v_died : Int32) (v_aside : Nat → Int32) (s1 : Int32) (s2 : Int32) (H : Heap) (locs : List Loc) (ls : Array Slot), f_X12_foretold_68 N v_a v_texts v_named v_values v_truth v_isWritten v_died v_aside s1 s2 = some (o_r, o_v_a, o_v_named, o_v_values, o_v_truth, o_v_isWritten, o_v_died, o_v_aside) → va_P D vwCl (WM h q cI cJ cZ v_a v_image v_texts v_tape v_taped v_fault v_faultPlace v_at v_place v_token v_number v_word v_text0 v_written v_sort0 v_pile v_piled v_opens v_isWhole v_once v_named v_values v_truth v_isWritten v_died v_aside v_likely v_safe v_headOf) H → va_D A (WM h q cI cJ cZ v_a v_image v_texts v_tape v_taped v_fault v_faultPlace v_at v_place v_token v_number v_word v_text0 v_written v_sort0 v_pile v_piled v_opens v_isWhole v_once v_named v_values v_truth v_isWritten v_died v_aside v_likely v_safe v_headOf) → va_S A s.heap H locs → lv_has ls 5 [(0, .ref h)] → W p l e ({ frames := 9, cells := 0, slots := 0, locals := 207 } : Room) s m ([.ref h, .int p1, .int p2, .int p3] : List Value).toArray below meth c H locs 0 0 (MQ below ((mQi D (WM h q cI cJ cZ o_v_a v_image v_texts v_tape v_taped v_fault v_faultPlace v_at v_place v_token v_number v_word v_text0 v_written v_sort0 v_pile v_piled v_opens v_isWhole v_once o_v_named o_v_values o_v_truth o_v_isWritten o_v_died o_v_aside v_likely v_safe v_headOf) o_r True) A) ([.ref h, .int p1, .int p2, .int p3] : List Value).toArray s 0 0 A) (F0 m 68 ls [.int s2, .int s1, .ref h]) := by
    intro v_a v_named v_values v_truth v_isWritten v_died v_aside s1 s2 H locs ls hf hP hD hS hl
    unfold f_X12_foretold_68 at hf
    obtain ⟨r68, hg68, hf⟩ := ob1_some hf
    refine mcV1_i (As := [.int s1, .int s2]) (rest := []) hx hb hml hown hts hK hP hD hS hA (k_X12_get l N D cI cJ cZ cB cT h q v_a v_image v_texts v_tape v_taped v_fault v_faultPlace v_at v_place v_token v_number v_word v_text0 v_written v_sort0 v_pile v_piled v_opens v_isWhole v_once v_named v_values v_truth v_isWritten v_died v_aside v_likely v_safe v_headOf s1 s2 r68 hg68) (kwX12_71 hts rfl rfl ⟨Nat.le_of_ble_eq_true rfl, Nat.le_of_ble_eq_true rfl⟩) 0 rfl rfl rfl rfl hl.1 rfl (Nat.le_of_ble_eq_true rfl) dX12_foretold_68 ⟨Nat.zero_le _, Nat.zero_le _⟩ (fun hB68 H locs hP hD hS => ?_)
    have hP : va_P D vwCl (WM h q cI cJ cZ v_a v_image v_texts v_tape v_taped v_fault v_faultPlace v_at v_place v_token v_number v_word v_text0 v_written v_sort0 v_pile v_piled v_opens v_isWhole v_once v_named v_values v_truth v_isWritten v_died v_aside v_likely v_safe v_headOf) H := hP
    have hD : va_D A (WM h q cI cJ cZ v_a v_image v_texts v_tape v_taped v_fault v_faultPlace v_at v_place v_token v_number v_word v_text0 v_written v_sort0 v_pile v_piled v_opens v_isWhole v_once v_named v_values v_truth v_isWritten v_died v_aside v_likely v_safe v_headOf) := hD
    refine lv_istore (lv' := [(4, .int r68), (0, .ref h)]) hx hb dX12_foretold_71 hl (by decide) rfl (fun ls hl => ?_)
    refine lv_aload_n hx hb dX12_foretold_73 rfl (lv_at hl 1 rfl) ?_
    obtain ⟨v_a_74, v_isWritten_74, hg74, hf⟩ := ob2_some hf
    refine mcV1_v (As := []) (rest := []) hx hb hml hown hts hK hP hD hS hA (k_X12_putBack l N D cI cJ cZ cB cT h q v_a v_image v_texts v_tape v_taped v_fault v_faultPlace v_at v_place v_token v_number v_word v_text0 v_written v_sort0 v_pile v_piled v_opens v_isWhole v_once v_named v_values v_truth v_isWritten v_died v_aside v_likely v_safe v_headOf v_a_74 v_isWritten_74 hg74) (kwX12_433 hts rfl rfl ⟨Nat.le_of_ble_eq_true rfl, Nat.le_of_ble_eq_true rfl⟩) 0 rfl rfl rfl rfl hl.1 rfl (Nat.le_of_ble_eq_true rfl) dX12_foretold_74 ⟨Nat.zero_le _, Nat.zero_le _⟩ (fun H locs hP hD hS => ?_)
    have hP : va_P D vwCl (WM h q cI cJ cZ v_a_74 v_image v_texts v_tape v_taped v_fault v_faultPlace v_at v_place v_token v_number v_word v_text0 v_written v_sort0 v_pile v_piled v_opens v_isWhole v_once v_named v_values v_truth v_isWritten_74 v_died v_aside v_likely v_safe v_headOf) H := hP
    have hD : va_D A (WM h q cI cJ cZ v_a_74 v_image v_texts v_tape v_taped v_fault v_faultPlace v_at v_place v_token v_number v_word v_text0 v_written v_sort0 v_pile v_piled v_opens v_isWhole v_once v_named v_values v_truth v_isWritten_74 v_died v_aside v_likely v_safe v_headOf) := hD
    refine lv_iload hx hb dX12_foretold_77 (lv_at hl 0 rfl) ?_
    cases hf
    exact mret_i hx hb hr hlocks hP hD hS dX12_foretold_79 rfl trivial
  have b27 : ∀ n27 : Nat, ∀ (v_a : Nat → Int32) (v_named : Nat → Int32) (v_values : Nat → Int64) (v_truth : Nat → Int32) (v_isWritten : Int32) (v_died : Int32) (v_aside : Nat → Int32) (x1 : Int32) (x2 : Int32) (x3 : Int32) (x4 : Int32) (H : Heap) (locs : List Loc) (ls : Array Slot), f_X12_foretold_27 N n27 v_a v_texts v_named v_values v_truth v_isWritten v_died v_aside x1 x2 x3 x4 = some (o_r, o_v_a, o_v_named, o_v_values, o_v_truth, o_v_isWritten, o_v_died, o_v_aside) → va_P D vwCl (WM h q cI cJ cZ v_a v_image v_texts v_tape v_taped v_fault v_faultPlace v_at v_place v_token v_number v_word v_text0 v_written v_sort0 v_pile v_piled v_opens v_isWhole v_once v_named v_values v_truth v_isWritten v_died v_aside v_likely v_safe v_headOf) H → va_D A (WM h q cI cJ cZ v_a v_image v_texts v_tape v_taped v_fault v_faultPlace v_at v_place v_token v_number v_word v_text0 v_written v_sort0 v_pile v_piled v_opens v_isWhole v_once v_named v_values v_truth v_isWritten v_died v_aside v_likely v_safe v_headOf) → va_S A s.heap H locs → lv_has ls 5 [(0, .ref h), (1, .int x1), (2, .int x2), (3, .int x3), (4, .int x4)] → W p l e ({ frames := 9, cells := 0, slots := 0, locals := 207 } : Room) s m ([.ref h, .int p1, .int p2, .int p3] : List Value).toArray below meth c H locs 0 0 (MQ below ((mQi D (WM h q cI cJ cZ o_v_a v_image v_texts v_tape v_taped v_fault v_faultPlace v_at v_place v_token v_number v_word v_text0 v_written v_sort0 v_pile v_piled v_opens v_isWhole v_once o_v_named o_v_values o_v_truth o_v_isWritten o_v_died o_v_aside v_likely v_safe v_headOf) o_r True) A) ([.ref h, .int p1, .int p2, .int p3] : List Value).toArray s 0 0 A) (F0 m 27 ls []) := by
    intro n27
    induction n27 with
    | zero =>
      intro v_a v_named v_values v_truth v_isWritten v_died v_aside x1 x2 x3 x4 H locs ls hf hP hD hS hl
      simp [f_X12_foretold_27] at hf
    | succ n27 ih27 =>
      have b50 : ∀ (v_a : Nat → Int32) (v_named : Nat → Int32) (v_values : Nat → Int64) (v_truth : Nat → Int32) (v_isWritten : Int32) (v_died : Int32) (v_aside : Nat → Int32) (x1 : Int32) (x2 : Int32) (x3 : Int32) (x4 : Int32) (H : Heap) (locs : List Loc) (ls : Array Slot), f_X12_foretold_50 N (f_X12_foretold_27 N n27) v_a v_texts v_named v_values v_truth v_isWritten v_died v_aside x1 x2 x3 x4 = some (o_r, o_v_a, o_v_named, o_v_values, o_v_truth, o_v_isWritten, o_v_died, o_v_aside) → va_P D vwCl (WM h q cI cJ cZ v_a v_image v_texts v_tape v_taped v_fault v_faultPlace v_at v_place v_token v_number v_word v_text0 v_written v_sort0 v_pile v_piled v_opens v_isWhole v_once v_named v_values v_truth v_isWritten v_died v_aside v_likely v_safe v_headOf) H → va_D A (WM h q cI cJ cZ v_a v_image v_texts v_tape v_taped v_fault v_faultPlace v_at v_place v_token v_number v_word v_text0 v_written v_sort0 v_pile v_piled v_opens v_isWhole v_once v_named v_values v_truth v_isWritten v_died v_aside v_likely v_safe v_headOf) → va_S A s.heap H locs → lv_has ls 5 [(0, .ref h), (1, .int x1), (2, .int x2), (3, .int x3), (4, .int x4)] → W p l e ({ frames := 9, cells := 0, slots := 0, locals := 207 } : Room) s m ([.ref h, .int p1, .int p2, .int p3] : List Value).toArray below meth c H locs 0 0 (MQ below ((mQi D (WM h q cI cJ cZ o_v_a v_image v_texts v_tape v_taped v_fault v_faultPlace v_at v_place v_token v_number v_word v_text0 v_written v_sort0 v_pile v_piled v_opens v_isWhole v_once o_v_named o_v_values o_v_truth o_v_isWritten o_v_died o_v_aside v_likely v_safe v_headOf) o_r True) A) ([.ref h, .int p1, .int p2, .int p3] : List Value).toArray s 0 0 A) (F0 m 50 ls []) := by
        intro v_a v_named v_values v_truth v_isWritten v_died v_aside x1 x2 x3 x4 H locs ls hf hP hD hS hl
        unfold f_X12_foretold_50 at hf
        refine lv_iinc (v := (x4 + (1 : Int32))) (lv' := [(4, .int (x4 + (1 : Int32))), (0, .ref h), (1, .int x1), (2, .int x2), (3, .int x3)]) hx hb dX12_foretold_50 hl (k := 4) rfl rfl (by decide) rfl (fun ls hl => ?_)
        refine lv_goto (tgt := 27) hx hb dX12_foretold_53 (by decide) ?_
        exact ih27 v_a v_named v_values v_truth v_isWritten v_died v_aside x1 x2 x3 (x4 + (1 : Int32)) _ _ _ hf hP hD hS (lv_sub hl [1, 2, 3, 4, 0] rfl)
      intro v_a v_named v_values v_truth v_isWritten v_died v_aside x1 x2 x3 x4 H locs ls hf hP hD hS hl
      rw [f_X12_foretold_27.eq_2] at hf
      refine lv_iload hx hb dX12_foretold_27 (lv_at hl 4 rfl) ?_
      refine lv_iload_n hx hb dX12_foretold_29 rfl (lv_at hl 1 rfl) ?_
      refine xicmp_ge hx hb 56 dX12_foretold_30 (by decide) hf (fun hf => ?_) (fun hf => ?_)
      · refine lv_aload_n hx hb dX12_foretold_56 rfl (lv_at hl 0 rfl) ?_
        refine lv_iload_n hx hb dX12_foretold_57 rfl (lv_at hl 2 rfl) ?_
        refine lv_iload_n hx hb dX12_foretold_58 rfl (lv_at hl 3 rfl) ?_
        refine xif_eq hx hb 66 dX12_foretold_59 (by decide) hf (fun hf => ?_) (fun hf => ?_)
        · refine lv_bipush (v := (6 : Int32)) hx hb dX12_foretold_66 (by decide) ?_
          exact b68 v_a v_named v_values v_truth v_isWritten v_died v_aside x2 (6 : Int32) _ _ _ hf hP hD hS (lv_sub hl [0] rfl)
        · refine lv_iconst (v := (1 : Int32)) hx hb dX12_foretold_62 (by decide) ?_
          refine lv_goto (tgt := 68) hx hb dX12_foretold_63 (by decide) ?_
          exact b68 v_a v_named v_values v_truth v_isWritten v_died v_aside x2 (1 : Int32) _ _ _ hf hP hD hS (lv_sub hl [0] rfl)
      · refine lv_aload_n hx hb dX12_foretold_33 rfl (lv_at hl 0 rfl) ?_
        refine gfX12_7 hx hb hts hown hK hP 0 rfl rfl dX12_foretold_34 ?_
        refine lv_bipush (v := (10 : Int32)) hx hb dX12_foretold_37 (by decide) ?_
        refine xiald hx hb hK hP 1 0 rfl rfl dX12_foretold_39 hf (fun v39 hf => ?_)
        refine lv_sipush (v := (9999 : Int32)) hx hb dX12_foretold_40 (by decide) ?_
        refine xicmp_ge hx hb 50 dX12_foretold_43 (by decide) hf (fun hf => ?_) (fun hf => ?_)
        · exact b50 v_a v_named v_values v_truth v_isWritten v_died v_aside x1 x2 x3 x4 _ _ _ hf hP hD hS (lv_sub hl [0, 1, 2, 3, 4] rfl)
        · refine lv_aload_n hx hb dX12_foretold_46 rfl (lv_at hl 0 rfl) ?_
          obtain ⟨v_a_47, v_named_47, v_values_47, v_truth_47, v_died_47, hg47, hf⟩ := ob5_some hf
          refine mcV1_v (As := []) (rest := []) hx hb hml hown hts hK hP hD hS hA (k_X12_goOn l N D cI cJ cZ cB cT h q v_a v_image v_texts v_tape v_taped v_fault v_faultPlace v_at v_place v_token v_number v_word v_text0 v_written v_sort0 v_pile v_piled v_opens v_isWhole v_once v_named v_values v_truth v_isWritten v_died v_aside v_likely v_safe v_headOf v_a_47 v_named_47 v_values_47 v_truth_47 v_died_47 hg47) (kwX12_382 hts rfl rfl ⟨Nat.le_of_ble_eq_true rfl, Nat.le_of_ble_eq_true rfl⟩) 0 rfl rfl rfl rfl hl.1 rfl (Nat.le_of_ble_eq_true rfl) dX12_foretold_47 ⟨Nat.zero_le _, Nat.zero_le _⟩ (fun H locs hP hD hS => ?_)
          have hP : va_P D vwCl (WM h q cI cJ cZ v_a_47 v_image v_texts v_tape v_taped v_fault v_faultPlace v_at v_place v_token v_number v_word v_text0 v_written v_sort0 v_pile v_piled v_opens v_isWhole v_once v_named_47 v_values_47 v_truth_47 v_isWritten v_died_47 v_aside v_likely v_safe v_headOf) H := hP
          have hD : va_D A (WM h q cI cJ cZ v_a_47 v_image v_texts v_tape v_taped v_fault v_faultPlace v_at v_place v_token v_number v_word v_text0 v_written v_sort0 v_pile v_piled v_opens v_isWhole v_once v_named_47 v_values_47 v_truth_47 v_isWritten v_died_47 v_aside v_likely v_safe v_headOf) := hD
          exact b50 v_a_47 v_named_47 v_values_47 v_truth_47 v_isWritten v_died_47 v_aside x1 x2 x3 x4 _ _ _ hf hP hD hS (lv_sub hl [0, 1, 2, 3, 4] rfl)
  unfold f_X12_foretold at hf
  refine lv_iload_n hx hb dX12_foretold_0 rfl (lv_at hl 1 rfl) ?_
  refine lv_iconst (v := (1 : Int32)) hx hb dX12_foretold_1 (by decide) ?_
  refine lv_bipush (v := (60 : Int32)) hx hb dX12_foretold_2 (by decide) ?_
  obtain ⟨r4, hg4, hf⟩ := ob1_some hf
  refine mcS0_i (As := [.int p1, .int (1 : Int32), .int (60 : Int32)]) (rest := []) hx hb hml hown hts hK hP hD hS hA (k_X12_isIn l N D cI cJ cZ cB cT p1 (1 : Int32) (60 : Int32) r4 hg4) (kwX12_63 hts rfl rfl ⟨Nat.le_of_ble_eq_true rfl, Nat.le_of_ble_eq_true rfl⟩) rfl hl.1 rfl (Nat.le_of_ble_eq_true rfl) dX12_foretold_4 ⟨Nat.zero_le _, Nat.zero_le _⟩ (fun hB4 H locs hP hD hS => ?_)
  refine xif_eq hx hb 18 dX12_foretold_7 (by decide) hf (fun hf => ?_) (fun hf => ?_)
  · refine lv_iconst (v := (-1 : Int32)) hx hb dX12_foretold_18 (by decide) ?_
    cases hf
    exact mret_i hx hb hr hlocks hP hD hS dX12_foretold_19 rfl trivial
  · refine lv_aload_n hx hb dX12_foretold_10 rfl (lv_at hl 0 rfl) ?_
    refine lv_iload_n hx hb dX12_foretold_11 rfl (lv_at hl 2 rfl) ?_
    obtain ⟨r12, hg12, hf⟩ := ob1_some hf
    refine mcV1_i (As := [.int p2]) (rest := []) hx hb hml hown hts hK hP hD hS hA (k_X12_isPerson l N D cI cJ cZ cB cT h q v_a v_image v_texts v_tape v_taped v_fault v_faultPlace v_at v_place v_token v_number v_word v_text0 v_written v_sort0 v_pile v_piled v_opens v_isWhole v_once v_named v_values v_truth v_isWritten v_died v_aside v_likely v_safe v_headOf p2 r12 hg12) (kwX12_67 hts rfl rfl ⟨Nat.le_of_ble_eq_true rfl, Nat.le_of_ble_eq_true rfl⟩) 0 rfl rfl rfl rfl hl.1 rfl (Nat.le_of_ble_eq_true rfl) dX12_foretold_12 ⟨Nat.zero_le _, Nat.zero_le _⟩ (fun hB12 H locs hP hD hS => ?_)
    have hP : va_P D vwCl (WM h q cI cJ cZ v_a v_image v_texts v_tape v_taped v_fault v_faultPlace v_at v_place v_token v_number v_word v_text0 v_written v_sort0 v_pile v_piled v_opens v_isWhole v_once v_named v_values v_truth v_isWritten v_died v_aside v_likely v_safe v_headOf) H := hP
    have hD : va_D A (WM h q cI cJ cZ v_a v_image v_texts v_tape v_taped v_fault v_faultPlace v_at v_place v_token v_number v_word v_text0 v_written v_sort0 v_pile v_piled v_opens v_isWhole v_once v_named v_values v_truth v_isWritten v_died v_aside v_likely v_safe v_headOf) := hD
    refine xif_ne hx hb 20 dX12_foretold_15 (by decide) hf (fun hf => ?_) (fun hf => ?_)
    · refine lv_iconst (v := (-1 : Int32)) hx hb dX12_foretold_18 (by decide) ?_
      cases hf
      exact mret_i hx hb hr hlocks hP hD hS dX12_foretold_19 rfl trivial
    · refine lv_aload_n hx hb dX12_foretold_20 rfl (lv_at hl 0 rfl) ?_
      obtain ⟨v_isWritten_21, v_aside_21, hg21, hf⟩ := ob2_some hf
      refine mcV1_v (As := []) (rest := []) hx hb hml hown hts hK hP hD hS hA (k_X12_setAside l N D cI cJ cZ cB cT h q v_a v_image v_texts v_tape v_taped v_fault v_faultPlace v_at v_place v_token v_number v_word v_text0 v_written v_sort0 v_pile v_piled v_opens v_isWhole v_once v_named v_values v_truth v_isWritten v_died v_aside v_likely v_safe v_headOf v_isWritten_21 v_aside_21 hg21) (kwX12_430 hts rfl rfl ⟨Nat.le_of_ble_eq_true rfl, Nat.le_of_ble_eq_true rfl⟩) 0 rfl rfl rfl rfl hl.1 rfl (Nat.le_of_ble_eq_true rfl) dX12_foretold_21 ⟨Nat.zero_le _, Nat.zero_le _⟩ (fun H locs hP hD hS => ?_)
      have hP : va_P D vwCl (WM h q cI cJ cZ v_a v_image v_texts v_tape v_taped v_fault v_faultPlace v_at v_place v_token v_number v_word v_text0 v_written v_sort0 v_pile v_piled v_opens v_isWhole v_once v_named v_values v_truth v_isWritten_21 v_died v_aside_21 v_likely v_safe v_headOf) H := hP
      have hD : va_D A (WM h q cI cJ cZ v_a v_image v_texts v_tape v_taped v_fault v_faultPlace v_at v_place v_token v_number v_word v_text0 v_written v_sort0 v_pile v_piled v_opens v_isWhole v_once v_named v_values v_truth v_isWritten_21 v_died v_aside_21 v_likely v_safe v_headOf) := hD
      refine lv_iconst (v := (0 : Int32)) hx hb dX12_foretold_24 (by decide) ?_
      refine lv_istore (lv' := [(4, .int (0 : Int32)), (0, .ref h), (1, .int p1), (2, .int p2), (3, .int p3)]) hx hb dX12_foretold_25 hl (by decide) rfl (fun ls hl => ?_)
      exact b27 N v_a v_named v_values v_truth v_isWritten_21 v_died v_aside_21 p1 p2 p3 (0 : Int32) _ _ _ hf hP hD hS (lv_sub hl [1, 2, 3, 4, 0] rfl)
theorem dX12_toPay_0 : decode cX12_toPay 0 = .ok (.aload_n 0, 1) := by decide +kernel
theorem dX12_toPay_1 : decode cX12_toPay 1 = .ok (.iload_n 1, 1) := by decide +kernel
theorem dX12_toPay_2 : decode cX12_toPay 2 = .ok (.invokevirtual 67, 3) := by decide +kernel
theorem dX12_toPay_5 : decode cX12_toPay 5 = .ok (.ifCond .eq 11, 3) := by decide +kernel
theorem dX12_toPay_8 : decode cX12_toPay 8 = .ok (.aload_n 0, 1) := by decide +kernel
theorem dX12_toPay_9 : decode cX12_toPay 9 = .ok (.iload_n 2, 1) := by decide +kernel
theorem dX12_toPay_10 : decode cX12_toPay 10 = .ok (.invokevirtual 67, 3) := by decide +kernel
theorem dX12_toPay_13 : decode cX12_toPay 13 = .ok (.ifCond .ne 5, 3) := by decide +kernel
theorem dX12_toPay_16 : decode cX12_toPay 16 = .ok (.iconst (-1), 1) := by decide +kernel
theorem dX12_toPay_17 : decode cX12_toPay 17 = .ok (.ireturn, 1) := by decide +kernel
theorem dX12_toPay_18 : decode cX12_toPay 18 = .ok (.aload_n 0, 1) := by decide +kernel
theorem dX12_toPay_19 : decode cX12_toPay 19 = .ok (.invokevirtual 430, 3) := by decide +kernel
theorem dX12_toPay_22 : decode cX12_toPay 22 = .ok (.iconst (-1), 1) := by decide +kernel
theorem dX12_toPay_23 : decode cX12_toPay 23 = .ok (.istore_n 3, 1) := by decide +kernel
theorem dX12_toPay_24 : decode cX12_toPay 24 = .ok (.iconst 0, 1) := by decide +kernel
theorem dX12_toPay_25 : decode cX12_toPay 25 = .ok (.istore 4, 2) := by decide +kernel
theorem dX12_toPay_27 : decode cX12_toPay 27 = .ok (.iload 4, 2) := by decide +kernel
theorem dX12_toPay_29 : decode cX12_toPay 29 = .ok (.bipush 60, 2) := by decide +kernel
theorem dX12_toPay_31 : decode cX12_toPay 31 = .ok (.if_icmp .gt 46, 3) := by decide +kernel
theorem dX12_toPay_34 : decode cX12_toPay 34 = .ok (.iload_n 3, 1) := by decide +kernel
theorem dX12_toPay_35 : decode cX12_toPay 35 = .ok (.iconst (-1), 1) := by decide +kernel
theorem dX12_toPay_36 : decode cX12_toPay 36 = .ok (.if_icmp .ne 41, 3) := by decide +kernel
theorem dX12_toPay_39 : decode cX12_toPay 39 = .ok (.aload_n 0, 1) := by decide +kernel
theorem dX12_toPay_40 : decode cX12_toPay 40 = .ok (.iload_n 1, 1) := by decide +kernel
theorem dX12_toPay_41 : decode cX12_toPay 41 = .ok (.iload_n 2, 1) := by decide +kernel
theorem dX12_toPay_42 : decode cX12_toPay 42 = .ok (.invokevirtual 376, 3) := by decide +kernel
theorem dX12_toPay_45 : decode cX12_toPay 45 = .ok (.ifCond .eq 6, 3) := by decide +kernel
theorem dX12_toPay_48 : decode cX12_toPay 48 = .ok (.iload 4, 2) := by decide +kernel
theorem dX12_toPay_50 : decode cX12_toPay 50 = .ok (.istore_n 3, 1) := by decide +kernel
theorem dX12_toPay_51 : decode cX12_toPay 51 = .ok (.aload_n 0, 1) := by decide +kernel
theorem dX12_toPay_52 : decode cX12_toPay 52 = .ok (.getfield 7, 3) := by decide +kernel
theorem dX12_toPay_55 : decode cX12_toPay 55 = .ok (.bipush 10, 2) := by decide +kernel
theorem dX12_toPay_57 : decode cX12_toPay 57 = .ok (.iaload, 1) := by decide +kernel
theorem dX12_toPay_58 : decode cX12_toPay 58 = .ok (.sipush 9999, 3) := by decide +kernel
theorem dX12_toPay_61 : decode cX12_toPay 61 = .ok (.if_icmp .ne 6, 3) := by decide +kernel
theorem dX12_toPay_64 : decode cX12_toPay 64 = .ok (.goto 13, 3) := by decide +kernel
theorem dX12_toPay_67 : decode cX12_toPay 67 = .ok (.aload_n 0, 1) := by decide +kernel
theorem dX12_toPay_68 : decode cX12_toPay 68 = .ok (.invokevirtual 382, 3) := by decide +kernel
theorem dX12_toPay_71 : decode cX12_toPay 71 = .ok (.iinc 4 1, 3) := by decide +kernel
theorem dX12_toPay_74 : decode cX12_toPay 74 = .ok (.goto (-47), 3) := by decide +kernel
theorem dX12_toPay_77 : decode cX12_toPay 77 = .ok (.aload_n 0, 1) := by decide +kernel
theorem dX12_toPay_78 : decode cX12_toPay 78 = .ok (.invokevirtual 433, 3) := by decide +kernel
theorem dX12_toPay_81 : decode cX12_toPay 81 = .ok (.iload_n 3, 1) := by decide +kernel
theorem dX12_toPay_82 : decode cX12_toPay 82 = .ok (.ireturn, 1) := by decide +kernel
def f_X12_toPay_77 (N : Nat) (v_a : Nat → Int32) (v_texts : Nat → Int32) (v_named : Nat → Int32) (v_values : Nat → Int64) (v_truth : Nat → Int32) (v_isWritten : Int32) (v_died : Int32) (v_aside : Nat → Int32) (x3 : Int32) : Option (Int32 × (Nat → Int32) × (Nat → Int32) × (Nat → Int64) × (Nat → Int32) × Int32 × Int32 × (Nat → Int32)) := ob2 (f_X12_putBack N v_a v_isWritten v_aside) fun v_a_78 v_isWritten_78 => some (x3, v_a_78, v_named, v_values, v_truth, v_isWritten_78, v_died, v_aside)
def f_X12_toPay_51 (N : Nat) (k_27 : (Nat → Int32) → (Nat → Int32) → (Nat → Int32) → (Nat → Int64) → (Nat → Int32) → Int32 → Int32 → (Nat → Int32) → Int32 → Int32 → Int32 → Int32 → Option (Int32 × (Nat → Int32) × (Nat → Int32) × (Nat → Int64) × (Nat → Int32) × Int32 × Int32 × (Nat → Int32))) (v_a : Nat → Int32) (v_texts : Nat → Int32) (v_named : Nat → Int32) (v_values : Nat → Int64) (v_truth : Nat → Int32) (v_isWritten : Int32) (v_died : Int32) (v_aside : Nat → Int32) (x1 : Int32) (x2 : Int32) (x3 : Int32) (x4 : Int32) : Option (Int32 × (Nat → Int32) × (Nat → Int32) × (Nat → Int64) × (Nat → Int32) × Int32 × Int32 × (Nat → Int32)) := gA v_a 8762 (10 : Int32) fun v57 => if v57 = (9999 : Int32) then (f_X12_toPay_77 N v_a v_texts v_named v_values v_truth v_isWritten v_died v_aside x3) else (ob5 (f_X12_goOn N v_a v_texts v_named v_values v_truth v_isWritten v_died) fun v_a_68 v_named_68 v_values_68 v_truth_68 v_died_68 => k_27 v_a_68 v_texts v_named_68 v_values_68 v_truth_68 v_isWritten v_died_68 v_aside x1 x2 x3 (x4 + (1 : Int32)))
def f_X12_toPay_27 (N : Nat) : Nat → (Nat → Int32) → (Nat → Int32) → (Nat → Int32) → (Nat → Int64) → (Nat → Int32) → Int32 → Int32 → (Nat → Int32) → Int32 → Int32 → Int32 → Int32 → Option (Int32 × (Nat → Int32) × (Nat → Int32) × (Nat → Int64) × (Nat → Int32) × Int32 × Int32 × (Nat → Int32))
  | 0, _, _, _, _, _, _, _, _, _, _, _, _ => none
  | n + 1, v_a, v_texts, v_named, v_values, v_truth, v_isWritten, v_died, v_aside, x1, x2, x3, x4 => if (60 : Int32) < x4 then (f_X12_toPay_77 N v_a v_texts v_named v_values v_truth v_isWritten v_died v_aside x3) else (if x3 = (-1 : Int32) then (ob4 (f_X12_canPardon N v_a v_texts v_named v_values v_truth x1 x2) fun r42 v_named_42 v_values_42 v_truth_42 => if r42 = 0 then (f_X12_toPay_51 N (f_X12_toPay_27 N n) v_a v_texts v_named_42 v_values_42 v_truth_42 v_isWritten v_died v_aside x1 x2 x3 x4) else (f_X12_toPay_51 N (f_X12_toPay_27 N n) v_a v_texts v_named_42 v_values_42 v_truth_42 v_isWritten v_died v_aside x1 x2 x4 x4)) else (f_X12_toPay_77 N v_a v_texts v_named v_values v_truth v_isWritten v_died v_aside x3))
def f_X12_toPay (N : Nat) (v_a : Nat → Int32) (v_texts : Nat → Int32) (v_named : Nat → Int32) (v_values : Nat → Int64) (v_truth : Nat → Int32) (v_isWritten : Int32) (v_died : Int32) (v_aside : Nat → Int32) (p1 : Int32) (p2 : Int32) : Option (Int32 × (Nat → Int32) × (Nat → Int32) × (Nat → Int64) × (Nat → Int32) × Int32 × Int32 × (Nat → Int32)) := ob1 (f_X12_isPerson N v_a p1) fun r2 => if r2 = 0 then (some ((-1 : Int32), v_a, v_named, v_values, v_truth, v_isWritten, v_died, v_aside)) else (ob1 (f_X12_isPerson N v_a p2) fun r10 => if r10 = 0 then (some ((-1 : Int32), v_a, v_named, v_values, v_truth, v_isWritten, v_died, v_aside)) else (ob2 (f_X12_setAside N v_a v_isWritten v_aside) fun v_isWritten_19 v_aside_19 => f_X12_toPay_27 N N v_a v_texts v_named v_values v_truth v_isWritten_19 v_died v_aside_19 p1 p2 (-1 : Int32) (0 : Int32)))
set_option maxHeartbeats 4000000 in
set_option maxRecDepth 100000 in
theorem k_X12_toPay (l : Launch) (N : Nat) (D : va_G) (cI cJ cZ cB cT : ClassId) (h : Nat) (q : Nat → Nat) (v_a : Nat → Int32) (v_image : Nat → Int32) (v_texts : Nat → Int32) (v_tape : Nat → Int32) (v_taped : Int32) (v_fault : Int32) (v_faultPlace : Int32) (v_at : Int32) (v_place : Int32) (v_token : Int32) (v_number : Int32) (v_word : Int64) (v_text0 : Int32) (v_written : Int32) (v_sort0 : Int32) (v_pile : Nat → Int32) (v_piled : Int32) (v_opens : Int32) (v_isWhole : Int32) (v_once : Int32) (v_named : Nat → Int32) (v_values : Nat → Int64) (v_truth : Nat → Int32) (v_isWritten : Int32) (v_died : Int32) (v_aside : Nat → Int32) (v_likely : Nat → Int32) (v_safe : Nat → Int32) (v_headOf : Nat → Int32) (p1 : Int32) (p2 : Int32) (o_r : Int32) (o_v_a : Nat → Int32) (o_v_named : Nat → Int32) (o_v_values : Nat → Int64) (o_v_truth : Nat → Int32) (o_v_isWritten : Int32) (o_v_died : Int32) (o_v_aside : Nat → Int32) (hf : f_X12_toPay N v_a v_texts v_named v_values v_truth v_isWritten v_died v_aside p1 p2 = some (o_r, o_v_a, o_v_named, o_v_values, o_v_truth, o_v_isWritten, o_v_died, o_v_aside)) : ∀ sz, Met l yX12_toPay (mw yX12_toPay cX12_toPay 5 (some .int)) ({ frames := 9, cells := 0, slots := 0, locals := 207 } : Room) (mPre D (mT cI cJ cZ cB cT) (WM h q cI cJ cZ v_a v_image v_texts v_tape v_taped v_fault v_faultPlace v_at v_place v_token v_number v_word v_text0 v_written v_sort0 v_pile v_piled v_opens v_isWhole v_once v_named v_values v_truth v_isWritten v_died v_aside v_likely v_safe v_headOf) sz [.ref h, .int p1, .int p2]) ((mQi D (WM h q cI cJ cZ o_v_a v_image v_texts v_tape v_taped v_fault v_faultPlace v_at v_place v_token v_number v_word v_text0 v_written v_sort0 v_pile v_piled v_opens v_isWhole v_once o_v_named o_v_values o_v_truth o_v_isWritten o_v_died o_v_aside v_likely v_safe v_headOf) o_r True) (va_A (WM h q cI cJ cZ v_a v_image v_texts v_tape v_taped v_fault v_faultPlace v_at v_place v_token v_number v_word v_text0 v_written v_sort0 v_pile v_piled v_opens v_isWhole v_once v_named v_values v_truth v_isWritten v_died v_aside v_likely v_safe v_headOf) sz)) 0 0 (va_A (WM h q cI cJ cZ v_a v_image v_texts v_tape v_taped v_fault v_faultPlace v_at v_place v_token v_number v_word v_text0 v_written v_sort0 v_pile v_piled v_opens v_isWhole v_once v_named v_values v_truth v_isWritten v_died v_aside v_likely v_safe v_headOf) sz) := by
  refine mMet (Qc := (mQi D (WM h q cI cJ cZ o_v_a v_image v_texts v_tape v_taped v_fault v_faultPlace v_at v_place v_token v_number v_word v_text0 v_written v_sort0 v_pile v_piled v_opens v_isWhole v_once o_v_named o_v_values o_v_truth o_v_isWritten o_v_died o_v_aside v_likely v_safe v_headOf) o_r True)) (by decide) (Nat.le_of_ble_eq_true rfl) (fun p e s m below meth c A ls hx hb hr hml hts hown hlocks hK hA hP hD hl => ?_)
  have hown : s.vm.findClass RX12 = some m.cls := hown
  have hl : lv_has ls 5 [(0, .ref h), (1, .int p1), (2, .int p2)] := hl
  have hS : va_S A s.heap s.heap [] := va_S.rf
  have b77 : ∀ (v_a : Nat → Int32) (v_named : Nat → Int32) (v_values : Nat → Int64) (v_truth : Nat → Int32) (v_isWritten : Int32) (v_died : Int32) (v_aside : Nat → Int32) (x3 : Int32) (H : Heap) (locs : List Loc) (ls : Array Slot), f_X12_toPay_77 N v_a v_texts v_named v_values v_truth v_isWritten v_died v_aside x3 = some (o_r, o_v_a, o_v_named, o_v_values, o_v_truth, o_v_isWritten, o_v_died, o_v_aside) → va_P D vwCl (WM h q cI cJ cZ v_a v_image v_texts v_tape v_taped v_fault v_faultPlace v_at v_place v_token v_number v_word v_text0 v_written v_sort0 v_pile v_piled v_opens v_isWhole v_once v_named v_values v_truth v_isWritten v_died v_aside v_likely v_safe v_headOf) H → va_D A (WM h q cI cJ cZ v_a v_image v_texts v_tape v_taped v_fault v_faultPlace v_at v_place v_token v_number v_word v_text0 v_written v_sort0 v_pile v_piled v_opens v_isWhole v_once v_named v_values v_truth v_isWritten v_died v_aside v_likely v_safe v_headOf) → va_S A s.heap H locs → lv_has ls 5 [(0, .ref h), (3, .int x3)] → W p l e ({ frames := 9, cells := 0, slots := 0, locals := 207 } : Room) s m ([.ref h, .int p1, .int p2] : List Value).toArray below meth c H locs 0 0 (MQ below ((mQi D (WM h q cI cJ cZ o_v_a v_image v_texts v_tape v_taped v_fault v_faultPlace v_at v_place v_token v_number v_word v_text0 v_written v_sort0 v_pile v_piled v_opens v_isWhole v_once o_v_named o_v_values o_v_truth o_v_isWritten o_v_died o_v_aside v_likely v_safe v_headOf) o_r True) A) ([.ref h, .int p1, .int p2] : List Value).toArray s 0 0 A) (F0 m 77 ls []) := by
    intro v_a v_named v_values v_truth v_isWritten v_died v_aside x3 H locs ls hf hP hD hS hl
    unfold f_X12_toPay_77 at hf
    refine lv_aload_n hx hb dX12_toPay_77 rfl (lv_at hl 0 rfl) ?_
    obtain ⟨v_a_78, v_isWritten_78, hg78, hf⟩ := ob2_some hf
    refine mcV1_v (As := []) (rest := []) hx hb hml hown hts hK hP hD hS hA (k_X12_putBack l N D cI cJ cZ cB cT h q v_a v_image v_texts v_tape v_taped v_fault v_faultPlace v_at v_place v_token v_number v_word v_text0 v_written v_sort0 v_pile v_piled v_opens v_isWhole v_once v_named v_values v_truth v_isWritten v_died v_aside v_likely v_safe v_headOf v_a_78 v_isWritten_78 hg78) (kwX12_433 hts rfl rfl ⟨Nat.le_of_ble_eq_true rfl, Nat.le_of_ble_eq_true rfl⟩) 0 rfl rfl rfl rfl hl.1 rfl (Nat.le_of_ble_eq_true rfl) dX12_toPay_78 ⟨Nat.zero_le _, Nat.zero_le _⟩ (fun H locs hP hD hS => ?_)
    have hP : va_P D vwCl (WM h q cI cJ cZ v_a_78 v_image v_texts v_tape v_taped v_fault v_faultPlace v_at v_place v_token v_number v_word v_text0 v_written v_sort0 v_pile v_piled v_opens v_isWhole v_once v_named v_values v_truth v_isWritten_78 v_died v_aside v_likely v_safe v_headOf) H := hP
    have hD : va_D A (WM h q cI cJ cZ v_a_78 v_image v_texts v_tape v_taped v_fault v_faultPlace v_at v_place v_token v_number v_word v_text0 v_written v_sort0 v_pile v_piled v_opens v_isWhole v_once v_named v_values v_truth v_isWritten_78 v_died v_aside v_likely v_safe v_headOf) := hD
    refine lv_iload_n hx hb dX12_toPay_81 rfl (lv_at hl 1 rfl) ?_
    cases hf
    exact mret_i hx hb hr hlocks hP hD hS dX12_toPay_82 rfl trivial
  have b27 : ∀ n27 : Nat, ∀ (v_a : Nat → Int32) (v_named : Nat → Int32) (v_values : Nat → Int64) (v_truth : Nat → Int32) (v_isWritten : Int32) (v_died : Int32) (v_aside : Nat → Int32) (x1 : Int32) (x2 : Int32) (x3 : Int32) (x4 : Int32) (H : Heap) (locs : List Loc) (ls : Array Slot), f_X12_toPay_27 N n27 v_a v_texts v_named v_values v_truth v_isWritten v_died v_aside x1 x2 x3 x4 = some (o_r, o_v_a, o_v_named, o_v_values, o_v_truth, o_v_isWritten, o_v_died, o_v_aside) → va_P D vwCl (WM h q cI cJ cZ v_a v_image v_texts v_tape v_taped v_fault v_faultPlace v_at v_place v_token v_number v_word v_text0 v_written v_sort0 v_pile v_piled v_opens v_isWhole v_once v_named v_values v_truth v_isWritten v_died v_aside v_likely v_safe v_headOf) H → va_D A (WM h q cI cJ cZ v_a v_image v_texts v_tape v_taped v_fault v_faultPlace v_at v_place v_token v_number v_word v_text0 v_written v_sort0 v_pile v_piled v_opens v_isWhole v_once v_named v_values v_truth v_isWritten v_died v_aside v_likely v_safe v_headOf) → va_S A s.heap H locs → lv_has ls 5 [(0, .ref h), (1, .int x1), (2, .int x2), (3, .int x3), (4, .int x4)] → W p l e ({ frames := 9, cells := 0, slots := 0, locals := 207 } : Room) s m ([.ref h, .int p1, .int p2] : List Value).toArray below meth c H locs 0 0 (MQ below ((mQi D (WM h q cI cJ cZ o_v_a v_image v_texts v_tape v_taped v_fault v_faultPlace v_at v_place v_token v_number v_word v_text0 v_written v_sort0 v_pile v_piled v_opens v_isWhole v_once o_v_named o_v_values o_v_truth o_v_isWritten o_v_died o_v_aside v_likely v_safe v_headOf) o_r True) A) ([.ref h, .int p1, .int p2] : List Value).toArray s 0 0 A) (F0 m 27 ls []) := by
    intro n27
    induction n27 with
    | zero =>
      intro v_a v_named v_values v_truth v_isWritten v_died v_aside x1 x2 x3 x4 H locs ls hf hP hD hS hl
      simp [f_X12_toPay_27] at hf
    | succ n27 ih27 =>
      have b51 : ∀ (v_a : Nat → Int32) (v_named : Nat → Int32) (v_values : Nat → Int64) (v_truth : Nat → Int32) (v_isWritten : Int32) (v_died : Int32) (v_aside : Nat → Int32) (x1 : Int32) (x2 : Int32) (x3 : Int32) (x4 : Int32) (H : Heap) (locs : List Loc) (ls : Array Slot), f_X12_toPay_51 N (f_X12_toPay_27 N n27) v_a v_texts v_named v_values v_truth v_isWritten v_died v_aside x1 x2 x3 x4 = some (o_r, o_v_a, o_v_named, o_v_values, o_v_truth, o_v_isWritten, o_v_died, o_v_aside) → va_P D vwCl (WM h q cI cJ cZ v_a v_image v_texts v_tape v_taped v_fault v_faultPlace v_at v_place v_token v_number v_word v_text0 v_written v_sort0 v_pile v_piled v_opens v_isWhole v_once v_named v_values v_truth v_isWritten v_died v_aside v_likely v_safe v_headOf) H → va_D A (WM h q cI cJ cZ v_a v_image v_texts v_tape v_taped v_fault v_faultPlace v_at v_place v_token v_number v_word v_text0 v_written v_sort0 v_pile v_piled v_opens v_isWhole v_once v_named v_values v_truth v_isWritten v_died v_aside v_likely v_safe v_headOf) → va_S A s.heap H locs → lv_has ls 5 [(0, .ref h), (1, .int x1), (2, .int x2), (3, .int x3), (4, .int x4)] → W p l e ({ frames := 9, cells := 0, slots := 0, locals := 207 } : Room) s m ([.ref h, .int p1, .int p2] : List Value).toArray below meth c H locs 0 0 (MQ below ((mQi D (WM h q cI cJ cZ o_v_a v_image v_texts v_tape v_taped v_fault v_faultPlace v_at v_place v_token v_number v_word v_text0 v_written v_sort0 v_pile v_piled v_opens v_isWhole v_once o_v_named o_v_values o_v_truth o_v_isWritten o_v_died o_v_aside v_likely v_safe v_headOf) o_r True) A) ([.ref h, .int p1, .int p2] : List Value).toArray s 0 0 A) (F0 m 51 ls []) := by
        intro v_a v_named v_values v_truth v_isWritten v_died v_aside x1 x2 x3 x4 H locs ls hf hP hD hS hl
        unfold f_X12_toPay_51 at hf
        refine lv_aload_n hx hb dX12_toPay_51 rfl (lv_at hl 0 rfl) ?_
        refine gfX12_7 hx hb hts hown hK hP 0 rfl rfl dX12_toPay_52 ?_
        refine lv_bipush (v := (10 : Int32)) hx hb dX12_toPay_55 (by decide) ?_
        refine xiald hx hb hK hP 1 0 rfl rfl dX12_toPay_57 hf (fun v57 hf => ?_)
        refine lv_sipush (v := (9999 : Int32)) hx hb dX12_toPay_58 (by decide) ?_
        refine xicmp_ne hx hb 67 dX12_toPay_61 (by decide) hf (fun hf => ?_) (fun hf => ?_)
        · refine lv_goto (tgt := 77) hx hb dX12_toPay_64 (by decide) ?_
          exact b77 v_a v_named v_values v_truth v_isWritten v_died v_aside x3 _ _ _ hf hP hD hS (lv_sub hl [0, 3] rfl)
        · refine lv_aload_n hx hb dX12_toPay_67 rfl (lv_at hl 0 rfl) ?_
          obtain ⟨v_a_68, v_named_68, v_values_68, v_truth_68, v_died_68, hg68, hf⟩ := ob5_some hf
          refine mcV1_v (As := []) (rest := []) hx hb hml hown hts hK hP hD hS hA (k_X12_goOn l N D cI cJ cZ cB cT h q v_a v_image v_texts v_tape v_taped v_fault v_faultPlace v_at v_place v_token v_number v_word v_text0 v_written v_sort0 v_pile v_piled v_opens v_isWhole v_once v_named v_values v_truth v_isWritten v_died v_aside v_likely v_safe v_headOf v_a_68 v_named_68 v_values_68 v_truth_68 v_died_68 hg68) (kwX12_382 hts rfl rfl ⟨Nat.le_of_ble_eq_true rfl, Nat.le_of_ble_eq_true rfl⟩) 0 rfl rfl rfl rfl hl.1 rfl (Nat.le_of_ble_eq_true rfl) dX12_toPay_68 ⟨Nat.zero_le _, Nat.zero_le _⟩ (fun H locs hP hD hS => ?_)
          have hP : va_P D vwCl (WM h q cI cJ cZ v_a_68 v_image v_texts v_tape v_taped v_fault v_faultPlace v_at v_place v_token v_number v_word v_text0 v_written v_sort0 v_pile v_piled v_opens v_isWhole v_once v_named_68 v_values_68 v_truth_68 v_isWritten v_died_68 v_aside v_likely v_safe v_headOf) H := hP
          have hD : va_D A (WM h q cI cJ cZ v_a_68 v_image v_texts v_tape v_taped v_fault v_faultPlace v_at v_place v_token v_number v_word v_text0 v_written v_sort0 v_pile v_piled v_opens v_isWhole v_once v_named_68 v_values_68 v_truth_68 v_isWritten v_died_68 v_aside v_likely v_safe v_headOf) := hD
          refine lv_iinc (v := (x4 + (1 : Int32))) (lv' := [(4, .int (x4 + (1 : Int32))), (0, .ref h), (1, .int x1), (2, .int x2), (3, .int x3)]) hx hb dX12_toPay_71 hl (k := 4) rfl rfl (by decide) rfl (fun ls hl => ?_)
          refine lv_goto (tgt := 27) hx hb dX12_toPay_74 (by decide) ?_
          exact ih27 v_a_68 v_named_68 v_values_68 v_truth_68 v_isWritten v_died_68 v_aside x1 x2 x3 (x4 + (1 : Int32)) _ _ _ hf hP hD hS (lv_sub hl [1, 2, 3, 4, 0] rfl)
      intro v_a v_named v_values v_truth v_isWritten v_died v_aside x1 x2 x3 x4 H locs ls hf hP hD hS hl
      rw [f_X12_toPay_27.eq_2] at hf
      refine lv_iload hx hb dX12_toPay_27 (lv_at hl 4 rfl) ?_
      refine lv_bipush (v := (60 : Int32)) hx hb dX12_toPay_29 (by decide) ?_
      refine xicmp_gt hx hb 77 dX12_toPay_31 (by decide) hf (fun hf => ?_) (fun hf => ?_)
      · exact b77 v_a v_named v_values v_truth v_isWritten v_died v_aside x3 _ _ _ hf hP hD hS (lv_sub hl [0, 3] rfl)
      · refine lv_iload_n hx hb dX12_toPay_34 rfl (lv_at hl 3 rfl) ?_
        refine lv_iconst (v := (-1 : Int32)) hx hb dX12_toPay_35 (by decide) ?_
        refine xicmp_ne hx hb 77 dX12_toPay_36 (by decide) hf (fun hf => ?_) (fun hf => ?_)
        · refine lv_aload_n hx hb dX12_toPay_39 rfl (lv_at hl 0 rfl) ?_
          refine lv_iload_n hx hb dX12_toPay_40 rfl (lv_at hl 1 rfl) ?_
          refine lv_iload_n hx hb dX12_toPay_41 rfl (lv_at hl 2 rfl) ?_
          obtain ⟨r42, v_named_42, v_values_42, v_truth_42, hg42, hf⟩ := ob4_some hf
          refine mcV1_i (As := [.int x1, .int x2]) (rest := []) hx hb hml hown hts hK hP hD hS hA (k_X12_canPardon l N D cI cJ cZ cB cT h q v_a v_image v_texts v_tape v_taped v_fault v_faultPlace v_at v_place v_token v_number v_word v_text0 v_written v_sort0 v_pile v_piled v_opens v_isWhole v_once v_named v_values v_truth v_isWritten v_died v_aside v_likely v_safe v_headOf x1 x2 r42 v_named_42 v_values_42 v_truth_42 hg42) (kwX12_376 hts rfl rfl ⟨Nat.le_of_ble_eq_true rfl, Nat.le_of_ble_eq_true rfl⟩) 0 rfl rfl rfl rfl hl.1 rfl (Nat.le_of_ble_eq_true rfl) dX12_toPay_42 ⟨Nat.zero_le _, Nat.zero_le _⟩ (fun hB42 H locs hP hD hS => ?_)
          have hP : va_P D vwCl (WM h q cI cJ cZ v_a v_image v_texts v_tape v_taped v_fault v_faultPlace v_at v_place v_token v_number v_word v_text0 v_written v_sort0 v_pile v_piled v_opens v_isWhole v_once v_named_42 v_values_42 v_truth_42 v_isWritten v_died v_aside v_likely v_safe v_headOf) H := hP
          have hD : va_D A (WM h q cI cJ cZ v_a v_image v_texts v_tape v_taped v_fault v_faultPlace v_at v_place v_token v_number v_word v_text0 v_written v_sort0 v_pile v_piled v_opens v_isWhole v_once v_named_42 v_values_42 v_truth_42 v_isWritten v_died v_aside v_likely v_safe v_headOf) := hD
          refine xif_eq hx hb 51 dX12_toPay_45 (by decide) hf (fun hf => ?_) (fun hf => ?_)
          · exact b51 v_a v_named_42 v_values_42 v_truth_42 v_isWritten v_died v_aside x1 x2 x3 x4 _ _ _ hf hP hD hS (lv_sub hl [0, 1, 2, 3, 4] rfl)
          · refine lv_iload hx hb dX12_toPay_48 (lv_at hl 4 rfl) ?_
            refine lv_istore_n (lv' := [(3, .int x4), (0, .ref h), (1, .int x1), (2, .int x2), (4, .int x4)]) hx hb dX12_toPay_50 rfl hl (by decide) rfl (fun ls hl => ?_)
            exact b51 v_a v_named_42 v_values_42 v_truth_42 v_isWritten v_died v_aside x1 x2 x4 x4 _ _ _ hf hP hD hS (lv_sub hl [1, 2, 3, 0, 4] rfl)
        · exact b77 v_a v_named v_values v_truth v_isWritten v_died v_aside x3 _ _ _ hf hP hD hS (lv_sub hl [0, 3] rfl)
  unfold f_X12_toPay at hf
  refine lv_aload_n hx hb dX12_toPay_0 rfl (lv_at hl 0 rfl) ?_
  refine lv_iload_n hx hb dX12_toPay_1 rfl (lv_at hl 1 rfl) ?_
  obtain ⟨r2, hg2, hf⟩ := ob1_some hf
  refine mcV1_i (As := [.int p1]) (rest := []) hx hb hml hown hts hK hP hD hS hA (k_X12_isPerson l N D cI cJ cZ cB cT h q v_a v_image v_texts v_tape v_taped v_fault v_faultPlace v_at v_place v_token v_number v_word v_text0 v_written v_sort0 v_pile v_piled v_opens v_isWhole v_once v_named v_values v_truth v_isWritten v_died v_aside v_likely v_safe v_headOf p1 r2 hg2) (kwX12_67 hts rfl rfl ⟨Nat.le_of_ble_eq_true rfl, Nat.le_of_ble_eq_true rfl⟩) 0 rfl rfl rfl rfl hl.1 rfl (Nat.le_of_ble_eq_true rfl) dX12_toPay_2 ⟨Nat.zero_le _, Nat.zero_le _⟩ (fun hB2 H locs hP hD hS => ?_)
  have hP : va_P D vwCl (WM h q cI cJ cZ v_a v_image v_texts v_tape v_taped v_fault v_faultPlace v_at v_place v_token v_number v_word v_text0 v_written v_sort0 v_pile v_piled v_opens v_isWhole v_once v_named v_values v_truth v_isWritten v_died v_aside v_likely v_safe v_headOf) H := hP
  have hD : va_D A (WM h q cI cJ cZ v_a v_image v_texts v_tape v_taped v_fault v_faultPlace v_at v_place v_token v_number v_word v_text0 v_written v_sort0 v_pile v_piled v_opens v_isWhole v_once v_named v_values v_truth v_isWritten v_died v_aside v_likely v_safe v_headOf) := hD
  refine xif_eq hx hb 16 dX12_toPay_5 (by decide) hf (fun hf => ?_) (fun hf => ?_)
  · refine lv_iconst (v := (-1 : Int32)) hx hb dX12_toPay_16 (by decide) ?_
    cases hf
    exact mret_i hx hb hr hlocks hP hD hS dX12_toPay_17 rfl trivial
  · refine lv_aload_n hx hb dX12_toPay_8 rfl (lv_at hl 0 rfl) ?_
    refine lv_iload_n hx hb dX12_toPay_9 rfl (lv_at hl 2 rfl) ?_
    obtain ⟨r10, hg10, hf⟩ := ob1_some hf
    refine mcV1_i (As := [.int p2]) (rest := []) hx hb hml hown hts hK hP hD hS hA (k_X12_isPerson l N D cI cJ cZ cB cT h q v_a v_image v_texts v_tape v_taped v_fault v_faultPlace v_at v_place v_token v_number v_word v_text0 v_written v_sort0 v_pile v_piled v_opens v_isWhole v_once v_named v_values v_truth v_isWritten v_died v_aside v_likely v_safe v_headOf p2 r10 hg10) (kwX12_67 hts rfl rfl ⟨Nat.le_of_ble_eq_true rfl, Nat.le_of_ble_eq_true rfl⟩) 0 rfl rfl rfl rfl hl.1 rfl (Nat.le_of_ble_eq_true rfl) dX12_toPay_10 ⟨Nat.zero_le _, Nat.zero_le _⟩ (fun hB10 H locs hP hD hS => ?_)
    have hP : va_P D vwCl (WM h q cI cJ cZ v_a v_image v_texts v_tape v_taped v_fault v_faultPlace v_at v_place v_token v_number v_word v_text0 v_written v_sort0 v_pile v_piled v_opens v_isWhole v_once v_named v_values v_truth v_isWritten v_died v_aside v_likely v_safe v_headOf) H := hP
    have hD : va_D A (WM h q cI cJ cZ v_a v_image v_texts v_tape v_taped v_fault v_faultPlace v_at v_place v_token v_number v_word v_text0 v_written v_sort0 v_pile v_piled v_opens v_isWhole v_once v_named v_values v_truth v_isWritten v_died v_aside v_likely v_safe v_headOf) := hD
    refine xif_ne hx hb 18 dX12_toPay_13 (by decide) hf (fun hf => ?_) (fun hf => ?_)
    · refine lv_iconst (v := (-1 : Int32)) hx hb dX12_toPay_16 (by decide) ?_
      cases hf
      exact mret_i hx hb hr hlocks hP hD hS dX12_toPay_17 rfl trivial
    · refine lv_aload_n hx hb dX12_toPay_18 rfl (lv_at hl 0 rfl) ?_
      obtain ⟨v_isWritten_19, v_aside_19, hg19, hf⟩ := ob2_some hf
      refine mcV1_v (As := []) (rest := []) hx hb hml hown hts hK hP hD hS hA (k_X12_setAside l N D cI cJ cZ cB cT h q v_a v_image v_texts v_tape v_taped v_fault v_faultPlace v_at v_place v_token v_number v_word v_text0 v_written v_sort0 v_pile v_piled v_opens v_isWhole v_once v_named v_values v_truth v_isWritten v_died v_aside v_likely v_safe v_headOf v_isWritten_19 v_aside_19 hg19) (kwX12_430 hts rfl rfl ⟨Nat.le_of_ble_eq_true rfl, Nat.le_of_ble_eq_true rfl⟩) 0 rfl rfl rfl rfl hl.1 rfl (Nat.le_of_ble_eq_true rfl) dX12_toPay_19 ⟨Nat.zero_le _, Nat.zero_le _⟩ (fun H locs hP hD hS => ?_)
      have hP : va_P D vwCl (WM h q cI cJ cZ v_a v_image v_texts v_tape v_taped v_fault v_faultPlace v_at v_place v_token v_number v_word v_text0 v_written v_sort0 v_pile v_piled v_opens v_isWhole v_once v_named v_values v_truth v_isWritten_19 v_died v_aside_19 v_likely v_safe v_headOf) H := hP
      have hD : va_D A (WM h q cI cJ cZ v_a v_image v_texts v_tape v_taped v_fault v_faultPlace v_at v_place v_token v_number v_word v_text0 v_written v_sort0 v_pile v_piled v_opens v_isWhole v_once v_named v_values v_truth v_isWritten_19 v_died v_aside_19 v_likely v_safe v_headOf) := hD
      refine lv_iconst (v := (-1 : Int32)) hx hb dX12_toPay_22 (by decide) ?_
      refine lv_istore_n (lv' := [(3, .int (-1 : Int32)), (0, .ref h), (1, .int p1), (2, .int p2)]) hx hb dX12_toPay_23 rfl hl (by decide) rfl (fun ls hl => ?_)
      refine lv_iconst (v := (0 : Int32)) hx hb dX12_toPay_24 (by decide) ?_
      refine lv_istore (lv' := [(4, .int (0 : Int32)), (3, .int (-1 : Int32)), (0, .ref h), (1, .int p1), (2, .int p2)]) hx hb dX12_toPay_25 hl (by decide) rfl (fun ls hl => ?_)
      exact b27 N v_a v_named v_values v_truth v_isWritten_19 v_died v_aside_19 p1 p2 (-1 : Int32) (0 : Int32) _ _ _ hf hP hD hS (lv_sub hl [2, 3, 4, 1, 0] rfl)
theorem dX12_reachOf_0 : decode cX12_reachOf 0 = .ok (.aload_n 0, 1) := by decide +kernel
theorem dX12_reachOf_1 : decode cX12_reachOf 1 = .ok (.getfield 7, 3) := by decide +kernel
theorem dX12_reachOf_4 : decode cX12_reachOf 4 = .ok (.bipush 88, 2) := by decide +kernel
theorem dX12_reachOf_6 : decode cX12_reachOf 6 = .ok (.iload_n 1, 1) := by decide +kernel
theorem dX12_reachOf_7 : decode cX12_reachOf 7 = .ok (.iadd, 1) := by decide +kernel
theorem dX12_reachOf_8 : decode cX12_reachOf 8 = .ok (.iaload, 1) := by decide +kernel
theorem dX12_reachOf_9 : decode cX12_reachOf 9 = .ok (.iconst 1, 1) := by decide +kernel
theorem dX12_reachOf_10 : decode cX12_reachOf 10 = .ok (.iload_n 1, 1) := by decide +kernel
theorem dX12_reachOf_11 : decode cX12_reachOf 11 = .ok (.ishl, 1) := by decide +kernel
theorem dX12_reachOf_12 : decode cX12_reachOf 12 = .ok (.ior, 1) := by decide +kernel
theorem dX12_reachOf_13 : decode cX12_reachOf 13 = .ok (.ireturn, 1) := by decide +kernel
def f_X12_reachOf (N : Nat) (v_a : Nat → Int32) (p1 : Int32) : Option (Int32) := gA v_a 8762 ((88 : Int32) + p1) fun v8 => some (v8 ||| ((1 : Int32) <<< (p1 &&& 31)))
set_option maxHeartbeats 4000000 in
set_option maxRecDepth 100000 in
theorem k_X12_reachOf (l : Launch) (N : Nat) (D : va_G) (cI cJ cZ cB cT : ClassId) (h : Nat) (q : Nat → Nat) (v_a : Nat → Int32) (v_image : Nat → Int32) (v_texts : Nat → Int32) (v_tape : Nat → Int32) (v_taped : Int32) (v_fault : Int32) (v_faultPlace : Int32) (v_at : Int32) (v_place : Int32) (v_token : Int32) (v_number : Int32) (v_word : Int64) (v_text0 : Int32) (v_written : Int32) (v_sort0 : Int32) (v_pile : Nat → Int32) (v_piled : Int32) (v_opens : Int32) (v_isWhole : Int32) (v_once : Int32) (v_named : Nat → Int32) (v_values : Nat → Int64) (v_truth : Nat → Int32) (v_isWritten : Int32) (v_died : Int32) (v_aside : Nat → Int32) (v_likely : Nat → Int32) (v_safe : Nat → Int32) (v_headOf : Nat → Int32) (p1 : Int32) (o_r : Int32) (hf : f_X12_reachOf N v_a p1 = some o_r) : ∀ sz, Met l yX12_reachOf (mw yX12_reachOf cX12_reachOf 2 (some .int)) ({ frames := 0, cells := 0, slots := 0, locals := 0 } : Room) (mPre D (mT cI cJ cZ cB cT) (WM h q cI cJ cZ v_a v_image v_texts v_tape v_taped v_fault v_faultPlace v_at v_place v_token v_number v_word v_text0 v_written v_sort0 v_pile v_piled v_opens v_isWhole v_once v_named v_values v_truth v_isWritten v_died v_aside v_likely v_safe v_headOf) sz [.ref h, .int p1]) ((mQi D (WM h q cI cJ cZ v_a v_image v_texts v_tape v_taped v_fault v_faultPlace v_at v_place v_token v_number v_word v_text0 v_written v_sort0 v_pile v_piled v_opens v_isWhole v_once v_named v_values v_truth v_isWritten v_died v_aside v_likely v_safe v_headOf) o_r True) (va_A (WM h q cI cJ cZ v_a v_image v_texts v_tape v_taped v_fault v_faultPlace v_at v_place v_token v_number v_word v_text0 v_written v_sort0 v_pile v_piled v_opens v_isWhole v_once v_named v_values v_truth v_isWritten v_died v_aside v_likely v_safe v_headOf) sz)) 0 0 (va_A (WM h q cI cJ cZ v_a v_image v_texts v_tape v_taped v_fault v_faultPlace v_at v_place v_token v_number v_word v_text0 v_written v_sort0 v_pile v_piled v_opens v_isWhole v_once v_named v_values v_truth v_isWritten v_died v_aside v_likely v_safe v_headOf) sz) := by
  refine mMet (Qc := (mQi D (WM h q cI cJ cZ v_a v_image v_texts v_tape v_taped v_fault v_faultPlace v_at v_place v_token v_number v_word v_text0 v_written v_sort0 v_pile v_piled v_opens v_isWhole v_once v_named v_values v_truth v_isWritten v_died v_aside v_likely v_safe v_headOf) o_r True)) (by decide) (Nat.le_of_ble_eq_true rfl) (fun p e s m below meth c A ls hx hb hr hml hts hown hlocks hK hA hP hD hl => ?_)
  have hown : s.vm.findClass RX12 = some m.cls := hown
  have hl : lv_has ls 2 [(0, .ref h), (1, .int p1)] := hl
  have hS : va_S A s.heap s.heap [] := va_S.rf
  unfold f_X12_reachOf at hf
  refine lv_aload_n hx hb dX12_reachOf_0 rfl (lv_at hl 0 rfl) ?_
  refine gfX12_7 hx hb hts hown hK hP 0 rfl rfl dX12_reachOf_1 ?_
  refine lv_bipush (v := (88 : Int32)) hx hb dX12_reachOf_4 (by decide) ?_
  refine lv_iload_n hx hb dX12_reachOf_6 rfl (lv_at hl 1 rfl) ?_
  refine lv_iadd hx hb dX12_reachOf_7 ?_
  refine xiald hx hb hK hP 1 0 rfl rfl dX12_reachOf_8 hf (fun v8 hf => ?_)
  refine lv_iconst (v := (1 : Int32)) hx hb dX12_reachOf_9 (by decide) ?_
  refine lv_iload_n hx hb dX12_reachOf_10 rfl (lv_at hl 1 rfl) ?_
  refine lv_ishl hx hb dX12_reachOf_11 ?_
  refine lv_ior hx hb dX12_reachOf_12 ?_
  cases hf
  exact mret_i hx hb hr hlocks hP hD hS dX12_reachOf_13 rfl trivial
theorem dX12_nextFrom_0 : decode cX12_nextFrom 0 = .ok (.iconst (-1), 1) := by decide +kernel
theorem dX12_nextFrom_1 : decode cX12_nextFrom 1 = .ok (.istore_n 3, 1) := by decide +kernel
theorem dX12_nextFrom_2 : decode cX12_nextFrom 2 = .ok (.iconst 0, 1) := by decide +kernel
theorem dX12_nextFrom_3 : decode cX12_nextFrom 3 = .ok (.istore 4, 2) := by decide +kernel
theorem dX12_nextFrom_5 : decode cX12_nextFrom 5 = .ok (.iload 4, 2) := by decide +kernel
theorem dX12_nextFrom_7 : decode cX12_nextFrom 7 = .ok (.aload_n 0, 1) := by decide +kernel
theorem dX12_nextFrom_8 : decode cX12_nextFrom 8 = .ok (.getfield 7, 3) := by decide +kernel
theorem dX12_nextFrom_11 : decode cX12_nextFrom 11 = .ok (.iconst 0, 1) := by decide +kernel
theorem dX12_nextFrom_12 : decode cX12_nextFrom 12 = .ok (.iaload, 1) := by decide +kernel
theorem dX12_nextFrom_13 : decode cX12_nextFrom 13 = .ok (.if_icmp .ge 75, 3) := by decide +kernel
theorem dX12_nextFrom_16 : decode cX12_nextFrom 16 = .ok (.aload_n 0, 1) := by decide +kernel
theorem dX12_nextFrom_17 : decode cX12_nextFrom 17 = .ok (.iload_n 1, 1) := by decide +kernel
theorem dX12_nextFrom_18 : decode cX12_nextFrom 18 = .ok (.invokevirtual 436, 3) := by decide +kernel
theorem dX12_nextFrom_21 : decode cX12_nextFrom 21 = .ok (.iload 4, 2) := by decide +kernel
theorem dX12_nextFrom_23 : decode cX12_nextFrom 23 = .ok (.invokestatic 78, 3) := by decide +kernel
theorem dX12_nextFrom_26 : decode cX12_nextFrom 26 = .ok (.ifCond .eq 56, 3) := by decide +kernel
theorem dX12_nextFrom_29 : decode cX12_nextFrom 29 = .ok (.iload_n 3, 1) := by decide +kernel
theorem dX12_nextFrom_30 : decode cX12_nextFrom 30 = .ok (.iconst (-1), 1) := by decide +kernel
theorem dX12_nextFrom_31 : decode cX12_nextFrom 31 = .ok (.if_icmp .eq 48, 3) := by decide +kernel
theorem dX12_nextFrom_34 : decode cX12_nextFrom 34 = .ok (.aload_n 0, 1) := by decide +kernel
theorem dX12_nextFrom_35 : decode cX12_nextFrom 35 = .ok (.getfield 53, 3) := by decide +kernel
theorem dX12_nextFrom_38 : decode cX12_nextFrom 38 = .ok (.iload 4, 2) := by decide +kernel
theorem dX12_nextFrom_40 : decode cX12_nextFrom 40 = .ok (.iaload, 1) := by decide +kernel
theorem dX12_nextFrom_41 : decode cX12_nextFrom 41 = .ok (.aload_n 0, 1) := by decide +kernel
theorem dX12_nextFrom_42 : decode cX12_nextFrom 42 = .ok (.getfield 50, 3) := by decide +kernel
theorem dX12_nextFrom_45 : decode cX12_nextFrom 45 = .ok (.bipush 8, 2) := by decide +kernel
theorem dX12_nextFrom_47 : decode cX12_nextFrom 47 = .ok (.iload_n 2, 1) := by decide +kernel
theorem dX12_nextFrom_48 : decode cX12_nextFrom 48 = .ok (.iconst 1, 1) := by decide +kernel
theorem dX12_nextFrom_49 : decode cX12_nextFrom 49 = .ok (.isub, 1) := by decide +kernel
theorem dX12_nextFrom_50 : decode cX12_nextFrom 50 = .ok (.imul, 1) := by decide +kernel
theorem dX12_nextFrom_51 : decode cX12_nextFrom 51 = .ok (.iload 4, 2) := by decide +kernel
theorem dX12_nextFrom_53 : decode cX12_nextFrom 53 = .ok (.iadd, 1) := by decide +kernel
theorem dX12_nextFrom_54 : decode cX12_nextFrom 54 = .ok (.iaload, 1) := by decide +kernel
theorem dX12_nextFrom_55 : decode cX12_nextFrom 55 = .ok (.imul, 1) := by decide +kernel
theorem dX12_nextFrom_56 : decode cX12_nextFrom 56 = .ok (.aload_n 0, 1) := by decide +kernel
theorem dX12_nextFrom_57 : decode cX12_nextFrom 57 = .ok (.getfield 53, 3) := by decide +kernel
theorem dX12_nextFrom_60 : decode cX12_nextFrom 60 = .ok (.iload_n 3, 1) := by decide +kernel
theorem dX12_nextFrom_61 : decode cX12_nextFrom 61 = .ok (.iaload, 1) := by decide +kernel
theorem dX12_nextFrom_62 : decode cX12_nextFrom 62 = .ok (.aload_n 0, 1) := by decide +kernel
theorem dX12_nextFrom_63 : decode cX12_nextFrom 63 = .ok (.getfield 50, 3) := by decide +kernel
theorem dX12_nextFrom_66 : decode cX12_nextFrom 66 = .ok (.bipush 8, 2) := by decide +kernel
theorem dX12_nextFrom_68 : decode cX12_nextFrom 68 = .ok (.iload_n 2, 1) := by decide +kernel
theorem dX12_nextFrom_69 : decode cX12_nextFrom 69 = .ok (.iconst 1, 1) := by decide +kernel
theorem dX12_nextFrom_70 : decode cX12_nextFrom 70 = .ok (.isub, 1) := by decide +kernel
theorem dX12_nextFrom_71 : decode cX12_nextFrom 71 = .ok (.imul, 1) := by decide +kernel
theorem dX12_nextFrom_72 : decode cX12_nextFrom 72 = .ok (.iload_n 3, 1) := by decide +kernel
theorem dX12_nextFrom_73 : decode cX12_nextFrom 73 = .ok (.iadd, 1) := by decide +kernel
theorem dX12_nextFrom_74 : decode cX12_nextFrom 74 = .ok (.iaload, 1) := by decide +kernel
theorem dX12_nextFrom_75 : decode cX12_nextFrom 75 = .ok (.imul, 1) := by decide +kernel
theorem dX12_nextFrom_76 : decode cX12_nextFrom 76 = .ok (.if_icmp .le 6, 3) := by decide +kernel
theorem dX12_nextFrom_79 : decode cX12_nextFrom 79 = .ok (.iload 4, 2) := by decide +kernel
theorem dX12_nextFrom_81 : decode cX12_nextFrom 81 = .ok (.istore_n 3, 1) := by decide +kernel
theorem dX12_nextFrom_82 : decode cX12_nextFrom 82 = .ok (.iinc 4 1, 3) := by decide +kernel
theorem dX12_nextFrom_85 : decode cX12_nextFrom 85 = .ok (.goto (-80), 3) := by decide +kernel
theorem dX12_nextFrom_88 : decode cX12_nextFrom 88 = .ok (.iload_n 3, 1) := by decide +kernel
theorem dX12_nextFrom_89 : decode cX12_nextFrom 89 = .ok (.ireturn, 1) := by decide +kernel
def f_X12_nextFrom_82 (N : Nat) (k_5 : (Nat → Int32) → (Nat → Int32) → (Nat → Int32) → Int32 → Int32 → Int32 → Int32 → Option (Int32)) (v_a : Nat → Int32) (v_likely : Nat → Int32) (v_safe : Nat → Int32) (x1 : Int32) (x2 : Int32) (x3 : Int32) (x4 : Int32) : Option (Int32) := k_5 v_a v_likely v_safe x1 x2 x3 (x4 + (1 : Int32))
def f_X12_nextFrom_79 (N : Nat) (k_5 : (Nat → Int32) → (Nat → Int32) → (Nat → Int32) → Int32 → Int32 → Int32 → Int32 → Option (Int32)) (v_a : Nat → Int32) (v_likely : Nat → Int32) (v_safe : Nat → Int32) (x1 : Int32) (x2 : Int32) (x4 : Int32) : Option (Int32) := f_X12_nextFrom_82 N k_5 v_a v_likely v_safe x1 x2 x4 x4
def f_X12_nextFrom_5 (N : Nat) : Nat → (Nat → Int32) → (Nat → Int32) → (Nat → Int32) → Int32 → Int32 → Int32 → Int32 → Option (Int32)
  | 0, _, _, _, _, _, _, _ => none
  | n + 1, v_a, v_likely, v_safe, x1, x2, x3, x4 => gA v_a 8762 (0 : Int32) fun v12 => if v12 ≤ x4 then (some x3) else (ob1 (f_X12_reachOf N v_a x1) fun r18 => ob1 (f_X12_isWith N r18 x4) fun r23 => if r23 = 0 then (f_X12_nextFrom_82 N (f_X12_nextFrom_5 N n) v_a v_likely v_safe x1 x2 x3 x4) else (if x3 = (-1 : Int32) then (f_X12_nextFrom_79 N (f_X12_nextFrom_5 N n) v_a v_likely v_safe x1 x2 x4) else (gA v_safe 8 x4 fun v40 => gA v_likely 56 (((8 : Int32) * (x2 - (1 : Int32))) + x4) fun v54 => gA v_safe 8 x3 fun v61 => gA v_likely 56 (((8 : Int32) * (x2 - (1 : Int32))) + x3) fun v74 => if (v40 * v54) ≤ (v61 * v74) then (f_X12_nextFrom_82 N (f_X12_nextFrom_5 N n) v_a v_likely v_safe x1 x2 x3 x4) else (f_X12_nextFrom_79 N (f_X12_nextFrom_5 N n) v_a v_likely v_safe x1 x2 x4))))
def f_X12_nextFrom (N : Nat) (v_a : Nat → Int32) (v_likely : Nat → Int32) (v_safe : Nat → Int32) (p1 : Int32) (p2 : Int32) : Option (Int32) := f_X12_nextFrom_5 N N v_a v_likely v_safe p1 p2 (-1 : Int32) (0 : Int32)
set_option maxHeartbeats 4000000 in
set_option maxRecDepth 100000 in
theorem k_X12_nextFrom (l : Launch) (N : Nat) (D : va_G) (cI cJ cZ cB cT : ClassId) (h : Nat) (q : Nat → Nat) (v_a : Nat → Int32) (v_image : Nat → Int32) (v_texts : Nat → Int32) (v_tape : Nat → Int32) (v_taped : Int32) (v_fault : Int32) (v_faultPlace : Int32) (v_at : Int32) (v_place : Int32) (v_token : Int32) (v_number : Int32) (v_word : Int64) (v_text0 : Int32) (v_written : Int32) (v_sort0 : Int32) (v_pile : Nat → Int32) (v_piled : Int32) (v_opens : Int32) (v_isWhole : Int32) (v_once : Int32) (v_named : Nat → Int32) (v_values : Nat → Int64) (v_truth : Nat → Int32) (v_isWritten : Int32) (v_died : Int32) (v_aside : Nat → Int32) (v_likely : Nat → Int32) (v_safe : Nat → Int32) (v_headOf : Nat → Int32) (p1 : Int32) (p2 : Int32) (o_r : Int32) (hf : f_X12_nextFrom N v_a v_likely v_safe p1 p2 = some o_r) : ∀ sz, Met l yX12_nextFrom (mw yX12_nextFrom cX12_nextFrom 5 (some .int)) ({ frames := 1, cells := 0, slots := 0, locals := 21 } : Room) (mPre D (mT cI cJ cZ cB cT) (WM h q cI cJ cZ v_a v_image v_texts v_tape v_taped v_fault v_faultPlace v_at v_place v_token v_number v_word v_text0 v_written v_sort0 v_pile v_piled v_opens v_isWhole v_once v_named v_values v_truth v_isWritten v_died v_aside v_likely v_safe v_headOf) sz [.ref h, .int p1, .int p2]) ((mQi D (WM h q cI cJ cZ v_a v_image v_texts v_tape v_taped v_fault v_faultPlace v_at v_place v_token v_number v_word v_text0 v_written v_sort0 v_pile v_piled v_opens v_isWhole v_once v_named v_values v_truth v_isWritten v_died v_aside v_likely v_safe v_headOf) o_r True) (va_A (WM h q cI cJ cZ v_a v_image v_texts v_tape v_taped v_fault v_faultPlace v_at v_place v_token v_number v_word v_text0 v_written v_sort0 v_pile v_piled v_opens v_isWhole v_once v_named v_values v_truth v_isWritten v_died v_aside v_likely v_safe v_headOf) sz)) 0 0 (va_A (WM h q cI cJ cZ v_a v_image v_texts v_tape v_taped v_fault v_faultPlace v_at v_place v_token v_number v_word v_text0 v_written v_sort0 v_pile v_piled v_opens v_isWhole v_once v_named v_values v_truth v_isWritten v_died v_aside v_likely v_safe v_headOf) sz) := by
  refine mMet (Qc := (mQi D (WM h q cI cJ cZ v_a v_image v_texts v_tape v_taped v_fault v_faultPlace v_at v_place v_token v_number v_word v_text0 v_written v_sort0 v_pile v_piled v_opens v_isWhole v_once v_named v_values v_truth v_isWritten v_died v_aside v_likely v_safe v_headOf) o_r True)) (by decide) (Nat.le_of_ble_eq_true rfl) (fun p e s m below meth c A ls hx hb hr hml hts hown hlocks hK hA hP hD hl => ?_)
  have hown : s.vm.findClass RX12 = some m.cls := hown
  have hl : lv_has ls 5 [(0, .ref h), (1, .int p1), (2, .int p2)] := hl
  have hS : va_S A s.heap s.heap [] := va_S.rf
  have b5 : ∀ n5 : Nat, ∀ (x1 : Int32) (x2 : Int32) (x3 : Int32) (x4 : Int32) (H : Heap) (locs : List Loc) (ls : Array Slot), f_X12_nextFrom_5 N n5 v_a v_likely v_safe x1 x2 x3 x4 = some o_r → va_P D vwCl (WM h q cI cJ cZ v_a v_image v_texts v_tape v_taped v_fault v_faultPlace v_at v_place v_token v_number v_word v_text0 v_written v_sort0 v_pile v_piled v_opens v_isWhole v_once v_named v_values v_truth v_isWritten v_died v_aside v_likely v_safe v_headOf) H → va_D A (WM h q cI cJ cZ v_a v_image v_texts v_tape v_taped v_fault v_faultPlace v_at v_place v_token v_number v_word v_text0 v_written v_sort0 v_pile v_piled v_opens v_isWhole v_once v_named v_values v_truth v_isWritten v_died v_aside v_likely v_safe v_headOf) → va_S A s.heap H locs → lv_has ls 5 [(0, .ref h), (1, .int x1), (2, .int x2), (3, .int x3), (4, .int x4)] → W p l e ({ frames := 1, cells := 0, slots := 0, locals := 21 } : Room) s m ([.ref h, .int p1, .int p2] : List Value).toArray below meth c H locs 0 0 (MQ below ((mQi D (WM h q cI cJ cZ v_a v_image v_texts v_tape v_taped v_fault v_faultPlace v_at v_place v_token v_number v_word v_text0 v_written v_sort0 v_pile v_piled v_opens v_isWhole v_once v_named v_values v_truth v_isWritten v_died v_aside v_likely v_safe v_headOf) o_r True) A) ([.ref h, .int p1, .int p2] : List Value).toArray s 0 0 A) (F0 m 5 ls []) := by
    intro n5
    induction n5 with
    | zero =>
      intro x1 x2 x3 x4 H locs ls hf hP hD hS hl
      simp [f_X12_nextFrom_5] at hf
    | succ n5 ih5 =>
      have b82 : ∀ (x1 : Int32) (x2 : Int32) (x3 : Int32) (x4 : Int32) (H : Heap) (locs : List Loc) (ls : Array Slot), f_X12_nextFrom_82 N (f_X12_nextFrom_5 N n5) v_a v_likely v_safe x1 x2 x3 x4 = some o_r → va_P D vwCl (WM h q cI cJ cZ v_a v_image v_texts v_tape v_taped v_fault v_faultPlace v_at v_place v_token v_number v_word v_text0 v_written v_sort0 v_pile v_piled v_opens v_isWhole v_once v_named v_values v_truth v_isWritten v_died v_aside v_likely v_safe v_headOf) H → va_D A (WM h q cI cJ cZ v_a v_image v_texts v_tape v_taped v_fault v_faultPlace v_at v_place v_token v_number v_word v_text0 v_written v_sort0 v_pile v_piled v_opens v_isWhole v_once v_named v_values v_truth v_isWritten v_died v_aside v_likely v_safe v_headOf) → va_S A s.heap H locs → lv_has ls 5 [(0, .ref h), (1, .int x1), (2, .int x2), (3, .int x3), (4, .int x4)] → W p l e ({ frames := 1, cells := 0, slots := 0, locals := 21 } : Room) s m ([.ref h, .int p1, .int p2] : List Value).toArray below meth c H locs 0 0 (MQ below ((mQi D (WM h q cI cJ cZ v_a v_image v_texts v_tape v_taped v_fault v_faultPlace v_at v_place v_token v_number v_word v_text0 v_written v_sort0 v_pile v_piled v_opens v_isWhole v_once v_named v_values v_truth v_isWritten v_died v_aside v_likely v_safe v_headOf) o_r True) A) ([.ref h, .int p1, .int p2] : List Value).toArray s 0 0 A) (F0 m 82 ls []) := by
        intro x1 x2 x3 x4 H locs ls hf hP hD hS hl
        unfold f_X12_nextFrom_82 at hf
        refine lv_iinc (v := (x4 + (1 : Int32))) (lv' := [(4, .int (x4 + (1 : Int32))), (0, .ref h), (1, .int x1), (2, .int x2), (3, .int x3)]) hx hb dX12_nextFrom_82 hl (k := 4) rfl rfl (by decide) rfl (fun ls hl => ?_)
        refine lv_goto (tgt := 5) hx hb dX12_nextFrom_85 (by decide) ?_
        exact ih5 x1 x2 x3 (x4 + (1 : Int32)) _ _ _ hf hP hD hS (lv_sub hl [1, 2, 3, 4, 0] rfl)
      have b79 : ∀ (x1 : Int32) (x2 : Int32) (x4 : Int32) (H : Heap) (locs : List Loc) (ls : Array Slot), f_X12_nextFrom_79 N (f_X12_nextFrom_5 N n5) v_a v_likely v_safe x1 x2 x4 = some o_r → va_P D vwCl (WM h q cI cJ cZ v_a v_image v_texts v_tape v_taped v_fault v_faultPlace v_at v_place v_token v_number v_word v_text0 v_written v_sort0 v_pile v_piled v_opens v_isWhole v_once v_named v_values v_truth v_isWritten v_died v_aside v_likely v_safe v_headOf) H → va_D A (WM h q cI cJ cZ v_a v_image v_texts v_tape v_taped v_fault v_faultPlace v_at v_place v_token v_number v_word v_text0 v_written v_sort0 v_pile v_piled v_opens v_isWhole v_once v_named v_values v_truth v_isWritten v_died v_aside v_likely v_safe v_headOf) → va_S A s.heap H locs → lv_has ls 5 [(0, .ref h), (1, .int x1), (2, .int x2), (4, .int x4)] → W p l e ({ frames := 1, cells := 0, slots := 0, locals := 21 } : Room) s m ([.ref h, .int p1, .int p2] : List Value).toArray below meth c H locs 0 0 (MQ below ((mQi D (WM h q cI cJ cZ v_a v_image v_texts v_tape v_taped v_fault v_faultPlace v_at v_place v_token v_number v_word v_text0 v_written v_sort0 v_pile v_piled v_opens v_isWhole v_once v_named v_values v_truth v_isWritten v_died v_aside v_likely v_safe v_headOf) o_r True) A) ([.ref h, .int p1, .int p2] : List Value).toArray s 0 0 A) (F0 m 79 ls []) := by
        intro x1 x2 x4 H locs ls hf hP hD hS hl
        unfold f_X12_nextFrom_79 at hf
        refine lv_iload hx hb dX12_nextFrom_79 (lv_at hl 3 rfl) ?_
        refine lv_istore_n (lv' := [(3, .int x4), (0, .ref h), (1, .int x1), (2, .int x2), (4, .int x4)]) hx hb dX12_nextFrom_81 rfl hl (by decide) rfl (fun ls hl => ?_)
        exact b82 x1 x2 x4 x4 _ _ _ hf hP hD hS (lv_sub hl [1, 2, 3, 0, 4] rfl)
      intro x1 x2 x3 x4 H locs ls hf hP hD hS hl
      rw [f_X12_nextFrom_5.eq_2] at hf
      refine lv_iload hx hb dX12_nextFrom_5 (lv_at hl 4 rfl) ?_
      refine lv_aload_n hx hb dX12_nextFrom_7 rfl (lv_at hl 0 rfl) ?_
      refine gfX12_7 hx hb hts hown hK hP 0 rfl rfl dX12_nextFrom_8 ?_
      refine lv_iconst (v := (0 : Int32)) hx hb dX12_nextFrom_11 (by decide) ?_
      refine xiald hx hb hK hP 1 0 rfl rfl dX12_nextFrom_12 hf (fun v12 hf => ?_)
      refine xicmp_ge hx hb 88 dX12_nextFrom_13 (by decide) hf (fun hf => ?_) (fun hf => ?_)
      · refine lv_iload_n hx hb dX12_nextFrom_88 rfl (lv_at hl 3 rfl) ?_
        cases hf
        exact mret_i hx hb hr hlocks hP hD hS dX12_nextFrom_89 rfl trivial
      · refine lv_aload_n hx hb dX12_nextFrom_16 rfl (lv_at hl 0 rfl) ?_
        refine lv_iload_n hx hb dX12_nextFrom_17 rfl (lv_at hl 1 rfl) ?_
        obtain ⟨r18, hg18, hf⟩ := ob1_some hf
        refine mcV1_i (As := [.int x1]) (rest := []) hx hb hml hown hts hK hP hD hS hA (k_X12_reachOf l N D cI cJ cZ cB cT h q v_a v_image v_texts v_tape v_taped v_fault v_faultPlace v_at v_place v_token v_number v_word v_text0 v_written v_sort0 v_pile v_piled v_opens v_isWhole v_once v_named v_values v_truth v_isWritten v_died v_aside v_likely v_safe v_headOf x1 r18 hg18) (kwX12_436 hts rfl rfl ⟨Nat.le_of_ble_eq_true rfl, Nat.le_of_ble_eq_true rfl⟩) 0 rfl rfl rfl rfl hl.1 rfl (Nat.le_of_ble_eq_true rfl) dX12_nextFrom_18 ⟨Nat.zero_le _, Nat.zero_le _⟩ (fun hB18 H locs hP hD hS => ?_)
        have hP : va_P D vwCl (WM h q cI cJ cZ v_a v_image v_texts v_tape v_taped v_fault v_faultPlace v_at v_place v_token v_number v_word v_text0 v_written v_sort0 v_pile v_piled v_opens v_isWhole v_once v_named v_values v_truth v_isWritten v_died v_aside v_likely v_safe v_headOf) H := hP
        have hD : va_D A (WM h q cI cJ cZ v_a v_image v_texts v_tape v_taped v_fault v_faultPlace v_at v_place v_token v_number v_word v_text0 v_written v_sort0 v_pile v_piled v_opens v_isWhole v_once v_named v_values v_truth v_isWritten v_died v_aside v_likely v_safe v_headOf) := hD
        refine lv_iload hx hb dX12_nextFrom_21 (lv_at hl 4 rfl) ?_
        obtain ⟨r23, hg23, hf⟩ := ob1_some hf
        refine mcS0_i (As := [.int r18, .int x4]) (rest := []) hx hb hml hown hts hK hP hD hS hA (k_X12_isWith l N D cI cJ cZ cB cT r18 x4 r23 hg23) (kwX12_78 hts rfl rfl ⟨Nat.le_of_ble_eq_true rfl, Nat.le_of_ble_eq_true rfl⟩) rfl hl.1 rfl (Nat.le_of_ble_eq_true rfl) dX12_nextFrom_23 ⟨Nat.zero_le _, Nat.zero_le _⟩ (fun hB23 H locs hP hD hS => ?_)
        refine xif_eq hx hb 82 dX12_nextFrom_26 (by decide) hf (fun hf => ?_) (fun hf => ?_)
        · exact b82 x1 x2 x3 x4 _ _ _ hf hP hD hS (lv_sub hl [0, 1, 2, 3, 4] rfl)
        · refine lv_iload_n hx hb dX12_nextFrom_29 rfl (lv_at hl 3 rfl) ?_
          refine lv_iconst (v := (-1 : Int32)) hx hb dX12_nextFrom_30 (by decide) ?_
          refine xicmp_eq hx hb 79 dX12_nextFrom_31 (by decide) hf (fun hf => ?_) (fun hf => ?_)
          · exact b79 x1 x2 x4 _ _ _ hf hP hD hS (lv_sub hl [0, 1, 2, 4] rfl)
          · refine lv_aload_n hx hb dX12_nextFrom_34 rfl (lv_at hl 0 rfl) ?_
            refine gfX12_53 hx hb hts hown hK hP 0 rfl rfl dX12_nextFrom_35 ?_
            refine lv_iload hx hb dX12_nextFrom_38 (lv_at hl 4 rfl) ?_
            refine xiald hx hb hK hP 11 0 rfl rfl dX12_nextFrom_40 hf (fun v40 hf => ?_)
            refine lv_aload_n hx hb dX12_nextFrom_41 rfl (lv_at hl 0 rfl) ?_
            refine gfX12_50 hx hb hts hown hK hP 0 rfl rfl dX12_nextFrom_42 ?_
            refine lv_bipush (v := (8 : Int32)) hx hb dX12_nextFrom_45 (by decide) ?_
            refine lv_iload_n hx hb dX12_nextFrom_47 rfl (lv_at hl 2 rfl) ?_
            refine lv_iconst (v := (1 : Int32)) hx hb dX12_nextFrom_48 (by decide) ?_
            refine lv_isub hx hb dX12_nextFrom_49 ?_
            refine lv_imul hx hb dX12_nextFrom_50 ?_
            refine lv_iload hx hb dX12_nextFrom_51 (lv_at hl 4 rfl) ?_
            refine lv_iadd hx hb dX12_nextFrom_53 ?_
            refine xiald hx hb hK hP 10 0 rfl rfl dX12_nextFrom_54 hf (fun v54 hf => ?_)
            refine lv_imul hx hb dX12_nextFrom_55 ?_
            refine lv_aload_n hx hb dX12_nextFrom_56 rfl (lv_at hl 0 rfl) ?_
            refine gfX12_53 hx hb hts hown hK hP 0 rfl rfl dX12_nextFrom_57 ?_
            refine lv_iload_n hx hb dX12_nextFrom_60 rfl (lv_at hl 3 rfl) ?_
            refine xiald hx hb hK hP 11 0 rfl rfl dX12_nextFrom_61 hf (fun v61 hf => ?_)
            refine lv_aload_n hx hb dX12_nextFrom_62 rfl (lv_at hl 0 rfl) ?_
            refine gfX12_50 hx hb hts hown hK hP 0 rfl rfl dX12_nextFrom_63 ?_
            refine lv_bipush (v := (8 : Int32)) hx hb dX12_nextFrom_66 (by decide) ?_
            refine lv_iload_n hx hb dX12_nextFrom_68 rfl (lv_at hl 2 rfl) ?_
            refine lv_iconst (v := (1 : Int32)) hx hb dX12_nextFrom_69 (by decide) ?_
            refine lv_isub hx hb dX12_nextFrom_70 ?_
            refine lv_imul hx hb dX12_nextFrom_71 ?_
            refine lv_iload_n hx hb dX12_nextFrom_72 rfl (lv_at hl 3 rfl) ?_
            refine lv_iadd hx hb dX12_nextFrom_73 ?_
            refine xiald hx hb hK hP 10 0 rfl rfl dX12_nextFrom_74 hf (fun v74 hf => ?_)
            refine lv_imul hx hb dX12_nextFrom_75 ?_
            refine xicmp_le hx hb 82 dX12_nextFrom_76 (by decide) hf (fun hf => ?_) (fun hf => ?_)
            · exact b82 x1 x2 x3 x4 _ _ _ hf hP hD hS (lv_sub hl [0, 1, 2, 3, 4] rfl)
            · exact b79 x1 x2 x4 _ _ _ hf hP hD hS (lv_sub hl [0, 1, 2, 4] rfl)
  unfold f_X12_nextFrom at hf
  refine lv_iconst (v := (-1 : Int32)) hx hb dX12_nextFrom_0 (by decide) ?_
  refine lv_istore_n (lv' := [(3, .int (-1 : Int32)), (0, .ref h), (1, .int p1), (2, .int p2)]) hx hb dX12_nextFrom_1 rfl hl (by decide) rfl (fun ls hl => ?_)
  refine lv_iconst (v := (0 : Int32)) hx hb dX12_nextFrom_2 (by decide) ?_
  refine lv_istore (lv' := [(4, .int (0 : Int32)), (3, .int (-1 : Int32)), (0, .ref h), (1, .int p1), (2, .int p2)]) hx hb dX12_nextFrom_3 hl (by decide) rfl (fun ls hl => ?_)
  exact b5 N p1 p2 (-1 : Int32) (0 : Int32) _ _ _ hf hP hD hS (lv_sub hl [2, 3, 4, 1, 0] rfl)
theorem dX12_lowestFrom_0 : decode cX12_lowestFrom 0 = .ok (.iconst 0, 1) := by decide +kernel
theorem dX12_lowestFrom_1 : decode cX12_lowestFrom 1 = .ok (.istore_n 2, 1) := by decide +kernel
theorem dX12_lowestFrom_2 : decode cX12_lowestFrom 2 = .ok (.aload_n 0, 1) := by decide +kernel
theorem dX12_lowestFrom_3 : decode cX12_lowestFrom 3 = .ok (.iload_n 1, 1) := by decide +kernel
theorem dX12_lowestFrom_4 : decode cX12_lowestFrom 4 = .ok (.invokevirtual 436, 3) := by decide +kernel
theorem dX12_lowestFrom_7 : decode cX12_lowestFrom 7 = .ok (.iload_n 2, 1) := by decide +kernel
theorem dX12_lowestFrom_8 : decode cX12_lowestFrom 8 = .ok (.invokestatic 78, 3) := by decide +kernel
theorem dX12_lowestFrom_11 : decode cX12_lowestFrom 11 = .ok (.ifCond .ne 9, 3) := by decide +kernel
theorem dX12_lowestFrom_14 : decode cX12_lowestFrom 14 = .ok (.iinc 2 1, 3) := by decide +kernel
theorem dX12_lowestFrom_17 : decode cX12_lowestFrom 17 = .ok (.goto (-15), 3) := by decide +kernel
theorem dX12_lowestFrom_20 : decode cX12_lowestFrom 20 = .ok (.iload_n 2, 1) := by decide +kernel
theorem dX12_lowestFrom_21 : decode cX12_lowestFrom 21 = .ok (.ireturn, 1) := by decide +kernel
def f_X12_lowestFrom_2 (N : Nat) : Nat → (Nat → Int32) → Int32 → Int32 → Option (Int32)
  | 0, _, _, _ => none
  | n + 1, v_a, x1, x2 => ob1 (f_X12_reachOf N v_a x1) fun r4 => ob1 (f_X12_isWith N r4 x2) fun r8 => if r8 = 0 then ((f_X12_lowestFrom_2 N n) v_a x1 (x2 + (1 : Int32))) else (some x2)
def f_X12_lowestFrom (N : Nat) (v_a : Nat → Int32) (p1 : Int32) : Option (Int32) := f_X12_lowestFrom_2 N N v_a p1 (0 : Int32)
set_option maxHeartbeats 4000000 in
set_option maxRecDepth 100000 in
theorem k_X12_lowestFrom (l : Launch) (N : Nat) (D : va_G) (cI cJ cZ cB cT : ClassId) (h : Nat) (q : Nat → Nat) (v_a : Nat → Int32) (v_image : Nat → Int32) (v_texts : Nat → Int32) (v_tape : Nat → Int32) (v_taped : Int32) (v_fault : Int32) (v_faultPlace : Int32) (v_at : Int32) (v_place : Int32) (v_token : Int32) (v_number : Int32) (v_word : Int64) (v_text0 : Int32) (v_written : Int32) (v_sort0 : Int32) (v_pile : Nat → Int32) (v_piled : Int32) (v_opens : Int32) (v_isWhole : Int32) (v_once : Int32) (v_named : Nat → Int32) (v_values : Nat → Int64) (v_truth : Nat → Int32) (v_isWritten : Int32) (v_died : Int32) (v_aside : Nat → Int32) (v_likely : Nat → Int32) (v_safe : Nat → Int32) (v_headOf : Nat → Int32) (p1 : Int32) (o_r : Int32) (hf : f_X12_lowestFrom N v_a p1 = some o_r) : ∀ sz, Met l yX12_lowestFrom (mw yX12_lowestFrom cX12_lowestFrom 3 (some .int)) ({ frames := 1, cells := 0, slots := 0, locals := 21 } : Room) (mPre D (mT cI cJ cZ cB cT) (WM h q cI cJ cZ v_a v_image v_texts v_tape v_taped v_fault v_faultPlace v_at v_place v_token v_number v_word v_text0 v_written v_sort0 v_pile v_piled v_opens v_isWhole v_once v_named v_values v_truth v_isWritten v_died v_aside v_likely v_safe v_headOf) sz [.ref h, .int p1]) ((mQi D (WM h q cI cJ cZ v_a v_image v_texts v_tape v_taped v_fault v_faultPlace v_at v_place v_token v_number v_word v_text0 v_written v_sort0 v_pile v_piled v_opens v_isWhole v_once v_named v_values v_truth v_isWritten v_died v_aside v_likely v_safe v_headOf) o_r True) (va_A (WM h q cI cJ cZ v_a v_image v_texts v_tape v_taped v_fault v_faultPlace v_at v_place v_token v_number v_word v_text0 v_written v_sort0 v_pile v_piled v_opens v_isWhole v_once v_named v_values v_truth v_isWritten v_died v_aside v_likely v_safe v_headOf) sz)) 0 0 (va_A (WM h q cI cJ cZ v_a v_image v_texts v_tape v_taped v_fault v_faultPlace v_at v_place v_token v_number v_word v_text0 v_written v_sort0 v_pile v_piled v_opens v_isWhole v_once v_named v_values v_truth v_isWritten v_died v_aside v_likely v_safe v_headOf) sz) := by
  refine mMet (Qc := (mQi D (WM h q cI cJ cZ v_a v_image v_texts v_tape v_taped v_fault v_faultPlace v_at v_place v_token v_number v_word v_text0 v_written v_sort0 v_pile v_piled v_opens v_isWhole v_once v_named v_values v_truth v_isWritten v_died v_aside v_likely v_safe v_headOf) o_r True)) (by decide) (Nat.le_of_ble_eq_true rfl) (fun p e s m below meth c A ls hx hb hr hml hts hown hlocks hK hA hP hD hl => ?_)
  have hown : s.vm.findClass RX12 = some m.cls := hown
  have hl : lv_has ls 3 [(0, .ref h), (1, .int p1)] := hl
  have hS : va_S A s.heap s.heap [] := va_S.rf
  have b2 : ∀ n2 : Nat, ∀ (x1 : Int32) (x2 : Int32) (H : Heap) (locs : List Loc) (ls : Array Slot), f_X12_lowestFrom_2 N n2 v_a x1 x2 = some o_r → va_P D vwCl (WM h q cI cJ cZ v_a v_image v_texts v_tape v_taped v_fault v_faultPlace v_at v_place v_token v_number v_word v_text0 v_written v_sort0 v_pile v_piled v_opens v_isWhole v_once v_named v_values v_truth v_isWritten v_died v_aside v_likely v_safe v_headOf) H → va_D A (WM h q cI cJ cZ v_a v_image v_texts v_tape v_taped v_fault v_faultPlace v_at v_place v_token v_number v_word v_text0 v_written v_sort0 v_pile v_piled v_opens v_isWhole v_once v_named v_values v_truth v_isWritten v_died v_aside v_likely v_safe v_headOf) → va_S A s.heap H locs → lv_has ls 3 [(0, .ref h), (1, .int x1), (2, .int x2)] → W p l e ({ frames := 1, cells := 0, slots := 0, locals := 21 } : Room) s m ([.ref h, .int p1] : List Value).toArray below meth c H locs 0 0 (MQ below ((mQi D (WM h q cI cJ cZ v_a v_image v_texts v_tape v_taped v_fault v_faultPlace v_at v_place v_token v_number v_word v_text0 v_written v_sort0 v_pile v_piled v_opens v_isWhole v_once v_named v_values v_truth v_isWritten v_died v_aside v_likely v_safe v_headOf) o_r True) A) ([.ref h, .int p1] : List Value).toArray s 0 0 A) (F0 m 2 ls []) := by
    intro n2
    induction n2 with
    | zero =>
      intro x1 x2 H locs ls hf hP hD hS hl
      simp [f_X12_lowestFrom_2] at hf
    | succ n2 ih2 =>
      intro x1 x2 H locs ls hf hP hD hS hl
      rw [f_X12_lowestFrom_2.eq_2] at hf
      refine lv_aload_n hx hb dX12_lowestFrom_2 rfl (lv_at hl 0 rfl) ?_
      refine lv_iload_n hx hb dX12_lowestFrom_3 rfl (lv_at hl 1 rfl) ?_
      obtain ⟨r4, hg4, hf⟩ := ob1_some hf
      refine mcV1_i (As := [.int x1]) (rest := []) hx hb hml hown hts hK hP hD hS hA (k_X12_reachOf l N D cI cJ cZ cB cT h q v_a v_image v_texts v_tape v_taped v_fault v_faultPlace v_at v_place v_token v_number v_word v_text0 v_written v_sort0 v_pile v_piled v_opens v_isWhole v_once v_named v_values v_truth v_isWritten v_died v_aside v_likely v_safe v_headOf x1 r4 hg4) (kwX12_436 hts rfl rfl ⟨Nat.le_of_ble_eq_true rfl, Nat.le_of_ble_eq_true rfl⟩) 0 rfl rfl rfl rfl hl.1 rfl (Nat.le_of_ble_eq_true rfl) dX12_lowestFrom_4 ⟨Nat.zero_le _, Nat.zero_le _⟩ (fun hB4 H locs hP hD hS => ?_)
      have hP : va_P D vwCl (WM h q cI cJ cZ v_a v_image v_texts v_tape v_taped v_fault v_faultPlace v_at v_place v_token v_number v_word v_text0 v_written v_sort0 v_pile v_piled v_opens v_isWhole v_once v_named v_values v_truth v_isWritten v_died v_aside v_likely v_safe v_headOf) H := hP
      have hD : va_D A (WM h q cI cJ cZ v_a v_image v_texts v_tape v_taped v_fault v_faultPlace v_at v_place v_token v_number v_word v_text0 v_written v_sort0 v_pile v_piled v_opens v_isWhole v_once v_named v_values v_truth v_isWritten v_died v_aside v_likely v_safe v_headOf) := hD
      refine lv_iload_n hx hb dX12_lowestFrom_7 rfl (lv_at hl 2 rfl) ?_
      obtain ⟨r8, hg8, hf⟩ := ob1_some hf
      refine mcS0_i (As := [.int r4, .int x2]) (rest := []) hx hb hml hown hts hK hP hD hS hA (k_X12_isWith l N D cI cJ cZ cB cT r4 x2 r8 hg8) (kwX12_78 hts rfl rfl ⟨Nat.le_of_ble_eq_true rfl, Nat.le_of_ble_eq_true rfl⟩) rfl hl.1 rfl (Nat.le_of_ble_eq_true rfl) dX12_lowestFrom_8 ⟨Nat.zero_le _, Nat.zero_le _⟩ (fun hB8 H locs hP hD hS => ?_)
      refine xif_ne hx hb 20 dX12_lowestFrom_11 (by decide) hf (fun hf => ?_) (fun hf => ?_)
      · refine lv_iinc (v := (x2 + (1 : Int32))) (lv' := [(2, .int (x2 + (1 : Int32))), (0, .ref h), (1, .int x1)]) hx hb dX12_lowestFrom_14 hl (k := 2) rfl rfl (by decide) rfl (fun ls hl => ?_)
        refine lv_goto (tgt := 2) hx hb dX12_lowestFrom_17 (by decide) ?_
        exact ih2 x1 (x2 + (1 : Int32)) _ _ _ hf hP hD hS (lv_sub hl [1, 2, 0] rfl)
      · refine lv_iload_n hx hb dX12_lowestFrom_20 rfl (lv_at hl 2 rfl) ?_
        cases hf
        exact mret_i hx hb hr hlocks hP hD hS dX12_lowestFrom_21 rfl trivial
  unfold f_X12_lowestFrom at hf
  refine lv_iconst (v := (0 : Int32)) hx hb dX12_lowestFrom_0 (by decide) ?_
  refine lv_istore_n (lv' := [(2, .int (0 : Int32)), (0, .ref h), (1, .int p1)]) hx hb dX12_lowestFrom_1 rfl hl (by decide) rfl (fun ls hl => ?_)
  exact b2 N p1 (0 : Int32) _ _ _ hf hP hD hS (lv_sub hl [1, 2, 0] rfl)
theorem dX12_layLikely_0 : decode cX12_layLikely 0 = .ok (.iconst 0, 1) := by decide +kernel
theorem dX12_layLikely_1 : decode cX12_layLikely 1 = .ok (.istore_n 3, 1) := by decide +kernel
theorem dX12_layLikely_2 : decode cX12_layLikely 2 = .ok (.iload_n 3, 1) := by decide +kernel
theorem dX12_layLikely_3 : decode cX12_layLikely 3 = .ok (.aload_n 0, 1) := by decide +kernel
theorem dX12_layLikely_4 : decode cX12_layLikely 4 = .ok (.getfield 7, 3) := by decide +kernel
theorem dX12_layLikely_7 : decode cX12_layLikely 7 = .ok (.iconst 0, 1) := by decide +kernel
theorem dX12_layLikely_8 : decode cX12_layLikely 8 = .ok (.iaload, 1) := by decide +kernel
theorem dX12_layLikely_9 : decode cX12_layLikely 9 = .ok (.if_icmp .ge 31, 3) := by decide +kernel
theorem dX12_layLikely_12 : decode cX12_layLikely 12 = .ok (.aload_n 0, 1) := by decide +kernel
theorem dX12_layLikely_13 : decode cX12_layLikely 13 = .ok (.getfield 53, 3) := by decide +kernel
theorem dX12_layLikely_16 : decode cX12_layLikely 16 = .ok (.iload_n 3, 1) := by decide +kernel
theorem dX12_layLikely_17 : decode cX12_layLikely 17 = .ok (.bipush 10, 2) := by decide +kernel
theorem dX12_layLikely_19 : decode cX12_layLikely 19 = .ok (.aload_n 0, 1) := by decide +kernel
theorem dX12_layLikely_20 : decode cX12_layLikely 20 = .ok (.iload_n 1, 1) := by decide +kernel
theorem dX12_layLikely_21 : decode cX12_layLikely 21 = .ok (.iload_n 3, 1) := by decide +kernel
theorem dX12_layLikely_22 : decode cX12_layLikely 22 = .ok (.invokevirtual 307, 3) := by decide +kernel
theorem dX12_layLikely_25 : decode cX12_layLikely 25 = .ok (.isub, 1) := by decide +kernel
theorem dX12_layLikely_26 : decode cX12_layLikely 26 = .ok (.iastore, 1) := by decide +kernel
theorem dX12_layLikely_27 : decode cX12_layLikely 27 = .ok (.aload_n 0, 1) := by decide +kernel
theorem dX12_layLikely_28 : decode cX12_layLikely 28 = .ok (.getfield 50, 3) := by decide +kernel
theorem dX12_layLikely_31 : decode cX12_layLikely 31 = .ok (.iload_n 3, 1) := by decide +kernel
theorem dX12_layLikely_32 : decode cX12_layLikely 32 = .ok (.iconst 1, 1) := by decide +kernel
theorem dX12_layLikely_33 : decode cX12_layLikely 33 = .ok (.iastore, 1) := by decide +kernel
theorem dX12_layLikely_34 : decode cX12_layLikely 34 = .ok (.iinc 3 1, 3) := by decide +kernel
theorem dX12_layLikely_37 : decode cX12_layLikely 37 = .ok (.goto (-35), 3) := by decide +kernel
theorem dX12_layLikely_40 : decode cX12_layLikely 40 = .ok (.iconst 1, 1) := by decide +kernel
theorem dX12_layLikely_41 : decode cX12_layLikely 41 = .ok (.istore_n 3, 1) := by decide +kernel
theorem dX12_layLikely_42 : decode cX12_layLikely 42 = .ok (.iload_n 3, 1) := by decide +kernel
theorem dX12_layLikely_43 : decode cX12_layLikely 43 = .ok (.iload_n 2, 1) := by decide +kernel
theorem dX12_layLikely_44 : decode cX12_layLikely 44 = .ok (.if_icmp .gt 72, 3) := by decide +kernel
theorem dX12_layLikely_47 : decode cX12_layLikely 47 = .ok (.iconst 0, 1) := by decide +kernel
theorem dX12_layLikely_48 : decode cX12_layLikely 48 = .ok (.istore 4, 2) := by decide +kernel
theorem dX12_layLikely_50 : decode cX12_layLikely 50 = .ok (.iload 4, 2) := by decide +kernel
theorem dX12_layLikely_52 : decode cX12_layLikely 52 = .ok (.aload_n 0, 1) := by decide +kernel
theorem dX12_layLikely_53 : decode cX12_layLikely 53 = .ok (.getfield 7, 3) := by decide +kernel
theorem dX12_layLikely_56 : decode cX12_layLikely 56 = .ok (.iconst 0, 1) := by decide +kernel
theorem dX12_layLikely_57 : decode cX12_layLikely 57 = .ok (.iaload, 1) := by decide +kernel
theorem dX12_layLikely_58 : decode cX12_layLikely 58 = .ok (.if_icmp .ge 52, 3) := by decide +kernel
theorem dX12_layLikely_61 : decode cX12_layLikely 61 = .ok (.aload_n 0, 1) := by decide +kernel
theorem dX12_layLikely_62 : decode cX12_layLikely 62 = .ok (.iload 4, 2) := by decide +kernel
theorem dX12_layLikely_64 : decode cX12_layLikely 64 = .ok (.iload_n 3, 1) := by decide +kernel
theorem dX12_layLikely_65 : decode cX12_layLikely 65 = .ok (.invokevirtual 439, 3) := by decide +kernel
theorem dX12_layLikely_68 : decode cX12_layLikely 68 = .ok (.istore 5, 2) := by decide +kernel
theorem dX12_layLikely_70 : decode cX12_layLikely 70 = .ok (.aload_n 0, 1) := by decide +kernel
theorem dX12_layLikely_71 : decode cX12_layLikely 71 = .ok (.getfield 50, 3) := by decide +kernel
theorem dX12_layLikely_74 : decode cX12_layLikely 74 = .ok (.bipush 8, 2) := by decide +kernel
theorem dX12_layLikely_76 : decode cX12_layLikely 76 = .ok (.iload_n 3, 1) := by decide +kernel
theorem dX12_layLikely_77 : decode cX12_layLikely 77 = .ok (.imul, 1) := by decide +kernel
theorem dX12_layLikely_78 : decode cX12_layLikely 78 = .ok (.iload 4, 2) := by decide +kernel
theorem dX12_layLikely_80 : decode cX12_layLikely 80 = .ok (.iadd, 1) := by decide +kernel
theorem dX12_layLikely_81 : decode cX12_layLikely 81 = .ok (.aload_n 0, 1) := by decide +kernel
theorem dX12_layLikely_82 : decode cX12_layLikely 82 = .ok (.getfield 53, 3) := by decide +kernel
theorem dX12_layLikely_85 : decode cX12_layLikely 85 = .ok (.iload 5, 2) := by decide +kernel
theorem dX12_layLikely_87 : decode cX12_layLikely 87 = .ok (.iaload, 1) := by decide +kernel
theorem dX12_layLikely_88 : decode cX12_layLikely 88 = .ok (.aload_n 0, 1) := by decide +kernel
theorem dX12_layLikely_89 : decode cX12_layLikely 89 = .ok (.getfield 50, 3) := by decide +kernel
theorem dX12_layLikely_92 : decode cX12_layLikely 92 = .ok (.bipush 8, 2) := by decide +kernel
theorem dX12_layLikely_94 : decode cX12_layLikely 94 = .ok (.iload_n 3, 1) := by decide +kernel
theorem dX12_layLikely_95 : decode cX12_layLikely 95 = .ok (.iconst 1, 1) := by decide +kernel
theorem dX12_layLikely_96 : decode cX12_layLikely 96 = .ok (.isub, 1) := by decide +kernel
theorem dX12_layLikely_97 : decode cX12_layLikely 97 = .ok (.imul, 1) := by decide +kernel
theorem dX12_layLikely_98 : decode cX12_layLikely 98 = .ok (.iload 5, 2) := by decide +kernel
theorem dX12_layLikely_100 : decode cX12_layLikely 100 = .ok (.iadd, 1) := by decide +kernel
theorem dX12_layLikely_101 : decode cX12_layLikely 101 = .ok (.iaload, 1) := by decide +kernel
theorem dX12_layLikely_102 : decode cX12_layLikely 102 = .ok (.imul, 1) := by decide +kernel
theorem dX12_layLikely_103 : decode cX12_layLikely 103 = .ok (.iastore, 1) := by decide +kernel
theorem dX12_layLikely_104 : decode cX12_layLikely 104 = .ok (.iinc 4 1, 3) := by decide +kernel
theorem dX12_layLikely_107 : decode cX12_layLikely 107 = .ok (.goto (-57), 3) := by decide +kernel
theorem dX12_layLikely_110 : decode cX12_layLikely 110 = .ok (.iinc 3 1, 3) := by decide +kernel
theorem dX12_layLikely_113 : decode cX12_layLikely 113 = .ok (.goto (-71), 3) := by decide +kernel
theorem dX12_layLikely_116 : decode cX12_layLikely 116 = .ok (.return_, 1) := by decide +kernel
def f_X12_layLikely_50 (N : Nat) (k_42 : (Nat → Int32) → (Nat → Int32) → (Nat → Int32) → (Nat → Int64) → (Nat → Int32) → (Nat → Int32) → (Nat → Int32) → Int32 → Int32 → Option ((Nat → Int32) × (Nat → Int64) × (Nat → Int32) × (Nat → Int32) × (Nat → Int32))) : Nat → (Nat → Int32) → (Nat → Int32) → (Nat → Int32) → (Nat → Int64) → (Nat → Int32) → (Nat → Int32) → (Nat → Int32) → Int32 → Int32 → Int32 → Option ((Nat → Int32) × (Nat → Int64) × (Nat → Int32) × (Nat → Int32) × (Nat → Int32))
  | 0, _, _, _, _, _, _, _, _, _, _ => none
  | n + 1, v_a, v_texts, v_named, v_values, v_truth, v_likely, v_safe, x2, x3, x4 => gA v_a 8762 (0 : Int32) fun v57 => if v57 ≤ x4 then (k_42 v_a v_texts v_named v_values v_truth v_likely v_safe x2 (x3 + (1 : Int32))) else (ob1 (f_X12_nextFrom N v_a v_likely v_safe x4 x3) fun r65 => gA v_safe 8 r65 fun v87 => gA v_likely 56 (((8 : Int32) * (x3 - (1 : Int32))) + r65) fun v101 => sA v_likely 56 (((8 : Int32) * x3) + x4) (v87 * v101) fun v_likely_103 => (f_X12_layLikely_50 N k_42 n) v_a v_texts v_named v_values v_truth v_likely_103 v_safe x2 x3 (x4 + (1 : Int32)))
def f_X12_layLikely_42 (N : Nat) : Nat → (Nat → Int32) → (Nat → Int32) → (Nat → Int32) → (Nat → Int64) → (Nat → Int32) → (Nat → Int32) → (Nat → Int32) → Int32 → Int32 → Option ((Nat → Int32) × (Nat → Int64) × (Nat → Int32) × (Nat → Int32) × (Nat → Int32))
  | 0, _, _, _, _, _, _, _, _, _ => none
  | n + 1, v_a, v_texts, v_named, v_values, v_truth, v_likely, v_safe, x2, x3 => if x2 < x3 then (some (v_named, v_values, v_truth, v_likely, v_safe)) else (f_X12_layLikely_50 N (f_X12_layLikely_42 N n) N v_a v_texts v_named v_values v_truth v_likely v_safe x2 x3 (0 : Int32))
def f_X12_layLikely_2 (N : Nat) : Nat → (Nat → Int32) → (Nat → Int32) → (Nat → Int32) → (Nat → Int64) → (Nat → Int32) → (Nat → Int32) → (Nat → Int32) → Int32 → Int32 → Int32 → Option ((Nat → Int32) × (Nat → Int64) × (Nat → Int32) × (Nat → Int32) × (Nat → Int32))
  | 0, _, _, _, _, _, _, _, _, _, _ => none
  | n + 1, v_a, v_texts, v_named, v_values, v_truth, v_likely, v_safe, x1, x2, x3 => gA v_a 8762 (0 : Int32) fun v8 => if v8 ≤ x3 then (f_X12_layLikely_42 N N v_a v_texts v_named v_values v_truth v_likely v_safe x2 (1 : Int32)) else (ob4 (f_X12_findsIn N v_a v_texts v_named v_values v_truth x1 x3) fun r22 v_named_22 v_values_22 v_truth_22 => sA v_safe 8 x3 ((10 : Int32) - r22) fun v_safe_26 => sA v_likely 56 x3 (1 : Int32) fun v_likely_33 => (f_X12_layLikely_2 N n) v_a v_texts v_named_22 v_values_22 v_truth_22 v_likely_33 v_safe_26 x1 x2 (x3 + (1 : Int32)))
def f_X12_layLikely (N : Nat) (v_a : Nat → Int32) (v_texts : Nat → Int32) (v_named : Nat → Int32) (v_values : Nat → Int64) (v_truth : Nat → Int32) (v_likely : Nat → Int32) (v_safe : Nat → Int32) (p1 : Int32) (p2 : Int32) : Option ((Nat → Int32) × (Nat → Int64) × (Nat → Int32) × (Nat → Int32) × (Nat → Int32)) := f_X12_layLikely_2 N N v_a v_texts v_named v_values v_truth v_likely v_safe p1 p2 (0 : Int32)
set_option maxHeartbeats 4000000 in
set_option maxRecDepth 100000 in
theorem k_X12_layLikely (l : Launch) (N : Nat) (D : va_G) (cI cJ cZ cB cT : ClassId) (h : Nat) (q : Nat → Nat) (v_a : Nat → Int32) (v_image : Nat → Int32) (v_texts : Nat → Int32) (v_tape : Nat → Int32) (v_taped : Int32) (v_fault : Int32) (v_faultPlace : Int32) (v_at : Int32) (v_place : Int32) (v_token : Int32) (v_number : Int32) (v_word : Int64) (v_text0 : Int32) (v_written : Int32) (v_sort0 : Int32) (v_pile : Nat → Int32) (v_piled : Int32) (v_opens : Int32) (v_isWhole : Int32) (v_once : Int32) (v_named : Nat → Int32) (v_values : Nat → Int64) (v_truth : Nat → Int32) (v_isWritten : Int32) (v_died : Int32) (v_aside : Nat → Int32) (v_likely : Nat → Int32) (v_safe : Nat → Int32) (v_headOf : Nat → Int32) (p1 : Int32) (p2 : Int32) (o_v_named : Nat → Int32) (o_v_values : Nat → Int64) (o_v_truth : Nat → Int32) (o_v_likely : Nat → Int32) (o_v_safe : Nat → Int32) (hf : f_X12_layLikely N v_a v_texts v_named v_values v_truth v_likely v_safe p1 p2 = some (o_v_named, o_v_values, o_v_truth, o_v_likely, o_v_safe)) : ∀ sz, Met l yX12_layLikely (mw yX12_layLikely cX12_layLikely 6 none) ({ frames := 6, cells := 0, slots := 0, locals := 143 } : Room) (mPre D (mT cI cJ cZ cB cT) (WM h q cI cJ cZ v_a v_image v_texts v_tape v_taped v_fault v_faultPlace v_at v_place v_token v_number v_word v_text0 v_written v_sort0 v_pile v_piled v_opens v_isWhole v_once v_named v_values v_truth v_isWritten v_died v_aside v_likely v_safe v_headOf) sz [.ref h, .int p1, .int p2]) ((mQv D (WM h q cI cJ cZ v_a v_image v_texts v_tape v_taped v_fault v_faultPlace v_at v_place v_token v_number v_word v_text0 v_written v_sort0 v_pile v_piled v_opens v_isWhole v_once o_v_named o_v_values o_v_truth v_isWritten v_died v_aside o_v_likely o_v_safe v_headOf)) (va_A (WM h q cI cJ cZ v_a v_image v_texts v_tape v_taped v_fault v_faultPlace v_at v_place v_token v_number v_word v_text0 v_written v_sort0 v_pile v_piled v_opens v_isWhole v_once v_named v_values v_truth v_isWritten v_died v_aside v_likely v_safe v_headOf) sz)) 0 0 (va_A (WM h q cI cJ cZ v_a v_image v_texts v_tape v_taped v_fault v_faultPlace v_at v_place v_token v_number v_word v_text0 v_written v_sort0 v_pile v_piled v_opens v_isWhole v_once v_named v_values v_truth v_isWritten v_died v_aside v_likely v_safe v_headOf) sz) := by
  refine mMet (Qc := (mQv D (WM h q cI cJ cZ v_a v_image v_texts v_tape v_taped v_fault v_faultPlace v_at v_place v_token v_number v_word v_text0 v_written v_sort0 v_pile v_piled v_opens v_isWhole v_once o_v_named o_v_values o_v_truth v_isWritten v_died v_aside o_v_likely o_v_safe v_headOf))) (by decide) (Nat.le_of_ble_eq_true rfl) (fun p e s m below meth c A ls hx hb hr hml hts hown hlocks hK hA hP hD hl => ?_)
  have hown : s.vm.findClass RX12 = some m.cls := hown
  have hl : lv_has ls 6 [(0, .ref h), (1, .int p1), (2, .int p2)] := hl
  have hS : va_S A s.heap s.heap [] := va_S.rf
  have b42 : ∀ n42 : Nat, ∀ (v_named : Nat → Int32) (v_values : Nat → Int64) (v_truth : Nat → Int32) (v_likely : Nat → Int32) (v_safe : Nat → Int32) (x2 : Int32) (x3 : Int32) (H : Heap) (locs : List Loc) (ls : Array Slot), f_X12_layLikely_42 N n42 v_a v_texts v_named v_values v_truth v_likely v_safe x2 x3 = some (o_v_named, o_v_values, o_v_truth, o_v_likely, o_v_safe) → va_P D vwCl (WM h q cI cJ cZ v_a v_image v_texts v_tape v_taped v_fault v_faultPlace v_at v_place v_token v_number v_word v_text0 v_written v_sort0 v_pile v_piled v_opens v_isWhole v_once v_named v_values v_truth v_isWritten v_died v_aside v_likely v_safe v_headOf) H → va_D A (WM h q cI cJ cZ v_a v_image v_texts v_tape v_taped v_fault v_faultPlace v_at v_place v_token v_number v_word v_text0 v_written v_sort0 v_pile v_piled v_opens v_isWhole v_once v_named v_values v_truth v_isWritten v_died v_aside v_likely v_safe v_headOf) → va_S A s.heap H locs → lv_has ls 6 [(0, .ref h), (2, .int x2), (3, .int x3)] → W p l e ({ frames := 6, cells := 0, slots := 0, locals := 143 } : Room) s m ([.ref h, .int p1, .int p2] : List Value).toArray below meth c H locs 0 0 (MQ below ((mQv D (WM h q cI cJ cZ v_a v_image v_texts v_tape v_taped v_fault v_faultPlace v_at v_place v_token v_number v_word v_text0 v_written v_sort0 v_pile v_piled v_opens v_isWhole v_once o_v_named o_v_values o_v_truth v_isWritten v_died v_aside o_v_likely o_v_safe v_headOf)) A) ([.ref h, .int p1, .int p2] : List Value).toArray s 0 0 A) (F0 m 42 ls []) := by
    intro n42
    induction n42 with
    | zero =>
      intro v_named v_values v_truth v_likely v_safe x2 x3 H locs ls hf hP hD hS hl
      simp [f_X12_layLikely_42] at hf
    | succ n42 ih42 =>
      have b50 : ∀ n50 : Nat, ∀ (v_named : Nat → Int32) (v_values : Nat → Int64) (v_truth : Nat → Int32) (v_likely : Nat → Int32) (v_safe : Nat → Int32) (x2 : Int32) (x3 : Int32) (x4 : Int32) (H : Heap) (locs : List Loc) (ls : Array Slot), f_X12_layLikely_50 N (f_X12_layLikely_42 N n42) n50 v_a v_texts v_named v_values v_truth v_likely v_safe x2 x3 x4 = some (o_v_named, o_v_values, o_v_truth, o_v_likely, o_v_safe) → va_P D vwCl (WM h q cI cJ cZ v_a v_image v_texts v_tape v_taped v_fault v_faultPlace v_at v_place v_token v_number v_word v_text0 v_written v_sort0 v_pile v_piled v_opens v_isWhole v_once v_named v_values v_truth v_isWritten v_died v_aside v_likely v_safe v_headOf) H → va_D A (WM h q cI cJ cZ v_a v_image v_texts v_tape v_taped v_fault v_faultPlace v_at v_place v_token v_number v_word v_text0 v_written v_sort0 v_pile v_piled v_opens v_isWhole v_once v_named v_values v_truth v_isWritten v_died v_aside v_likely v_safe v_headOf) → va_S A s.heap H locs → lv_has ls 6 [(0, .ref h), (2, .int x2), (3, .int x3), (4, .int x4)] → W p l e ({ frames := 6, cells := 0, slots := 0, locals := 143 } : Room) s m ([.ref h, .int p1, .int p2] : List Value).toArray below meth c H locs 0 0 (MQ below ((mQv D (WM h q cI cJ cZ v_a v_image v_texts v_tape v_taped v_fault v_faultPlace v_at v_place v_token v_number v_word v_text0 v_written v_sort0 v_pile v_piled v_opens v_isWhole v_once o_v_named o_v_values o_v_truth v_isWritten v_died v_aside o_v_likely o_v_safe v_headOf)) A) ([.ref h, .int p1, .int p2] : List Value).toArray s 0 0 A) (F0 m 50 ls []) := by
        intro n50
        induction n50 with
        | zero =>
          intro v_named v_values v_truth v_likely v_safe x2 x3 x4 H locs ls hf hP hD hS hl
          simp [f_X12_layLikely_50] at hf
        | succ n50 ih50 =>
          intro v_named v_values v_truth v_likely v_safe x2 x3 x4 H locs ls hf hP hD hS hl
          rw [f_X12_layLikely_50.eq_2] at hf
          refine lv_iload hx hb dX12_layLikely_50 (lv_at hl 3 rfl) ?_
          refine lv_aload_n hx hb dX12_layLikely_52 rfl (lv_at hl 0 rfl) ?_
          refine gfX12_7 hx hb hts hown hK hP 0 rfl rfl dX12_layLikely_53 ?_
          refine lv_iconst (v := (0 : Int32)) hx hb dX12_layLikely_56 (by decide) ?_
          refine xiald hx hb hK hP 1 0 rfl rfl dX12_layLikely_57 hf (fun v57 hf => ?_)
          refine xicmp_ge hx hb 110 dX12_layLikely_58 (by decide) hf (fun hf => ?_) (fun hf => ?_)
          · refine lv_iinc (v := (x3 + (1 : Int32))) (lv' := [(3, .int (x3 + (1 : Int32))), (0, .ref h), (2, .int x2), (4, .int x4)]) hx hb dX12_layLikely_110 hl (k := 2) rfl rfl (by decide) rfl (fun ls hl => ?_)
            refine lv_goto (tgt := 42) hx hb dX12_layLikely_113 (by decide) ?_
            exact ih42 v_named v_values v_truth v_likely v_safe x2 (x3 + (1 : Int32)) _ _ _ hf hP hD hS (lv_sub hl [1, 2, 0] rfl)
          · refine lv_aload_n hx hb dX12_layLikely_61 rfl (lv_at hl 0 rfl) ?_
            refine lv_iload hx hb dX12_layLikely_62 (lv_at hl 3 rfl) ?_
            refine lv_iload_n hx hb dX12_layLikely_64 rfl (lv_at hl 2 rfl) ?_
            obtain ⟨r65, hg65, hf⟩ := ob1_some hf
            refine mcV1_i (As := [.int x4, .int x3]) (rest := []) hx hb hml hown hts hK hP hD hS hA (k_X12_nextFrom l N D cI cJ cZ cB cT h q v_a v_image v_texts v_tape v_taped v_fault v_faultPlace v_at v_place v_token v_number v_word v_text0 v_written v_sort0 v_pile v_piled v_opens v_isWhole v_once v_named v_values v_truth v_isWritten v_died v_aside v_likely v_safe v_headOf x4 x3 r65 hg65) (kwX12_439 hts rfl rfl ⟨Nat.le_of_ble_eq_true rfl, Nat.le_of_ble_eq_true rfl⟩) 0 rfl rfl rfl rfl hl.1 rfl (Nat.le_of_ble_eq_true rfl) dX12_layLikely_65 ⟨Nat.zero_le _, Nat.zero_le _⟩ (fun hB65 H locs hP hD hS => ?_)
            have hP : va_P D vwCl (WM h q cI cJ cZ v_a v_image v_texts v_tape v_taped v_fault v_faultPlace v_at v_place v_token v_number v_word v_text0 v_written v_sort0 v_pile v_piled v_opens v_isWhole v_once v_named v_values v_truth v_isWritten v_died v_aside v_likely v_safe v_headOf) H := hP
            have hD : va_D A (WM h q cI cJ cZ v_a v_image v_texts v_tape v_taped v_fault v_faultPlace v_at v_place v_token v_number v_word v_text0 v_written v_sort0 v_pile v_piled v_opens v_isWhole v_once v_named v_values v_truth v_isWritten v_died v_aside v_likely v_safe v_headOf) := hD
            refine lv_istore (lv' := [(5, .int r65), (0, .ref h), (2, .int x2), (3, .int x3), (4, .int x4)]) hx hb dX12_layLikely_68 hl (by decide) rfl (fun ls hl => ?_)
            refine lv_aload_n hx hb dX12_layLikely_70 rfl (lv_at hl 1 rfl) ?_
            refine gfX12_50 hx hb hts hown hK hP 0 rfl rfl dX12_layLikely_71 ?_
            refine lv_bipush (v := (8 : Int32)) hx hb dX12_layLikely_74 (by decide) ?_
            refine lv_iload_n hx hb dX12_layLikely_76 rfl (lv_at hl 3 rfl) ?_
            refine lv_imul hx hb dX12_layLikely_77 ?_
            refine lv_iload hx hb dX12_layLikely_78 (lv_at hl 4 rfl) ?_
            refine lv_iadd hx hb dX12_layLikely_80 ?_
            refine lv_aload_n hx hb dX12_layLikely_81 rfl (lv_at hl 1 rfl) ?_
            refine gfX12_53 hx hb hts hown hK hP 0 rfl rfl dX12_layLikely_82 ?_
            refine lv_iload hx hb dX12_layLikely_85 (lv_at hl 0 rfl) ?_
            refine xiald hx hb hK hP 11 0 rfl rfl dX12_layLikely_87 hf (fun v87 hf => ?_)
            refine lv_aload_n hx hb dX12_layLikely_88 rfl (lv_at hl 1 rfl) ?_
            refine gfX12_50 hx hb hts hown hK hP 0 rfl rfl dX12_layLikely_89 ?_
            refine lv_bipush (v := (8 : Int32)) hx hb dX12_layLikely_92 (by decide) ?_
            refine lv_iload_n hx hb dX12_layLikely_94 rfl (lv_at hl 3 rfl) ?_
            refine lv_iconst (v := (1 : Int32)) hx hb dX12_layLikely_95 (by decide) ?_
            refine lv_isub hx hb dX12_layLikely_96 ?_
            refine lv_imul hx hb dX12_layLikely_97 ?_
            refine lv_iload hx hb dX12_layLikely_98 (lv_at hl 0 rfl) ?_
            refine lv_iadd hx hb dX12_layLikely_100 ?_
            refine xiald hx hb hK hP 10 0 rfl rfl dX12_layLikely_101 hf (fun v101 hf => ?_)
            refine lv_imul hx hb dX12_layLikely_102 ?_
            refine xiast hx hb hK hP hD hS 10 0 rfl rfl dX12_layLikely_103 hf (fun v_likely_103 hf H locs hP hD hS => ?_)
            have hP : va_P D vwCl (WM h q cI cJ cZ v_a v_image v_texts v_tape v_taped v_fault v_faultPlace v_at v_place v_token v_number v_word v_text0 v_written v_sort0 v_pile v_piled v_opens v_isWhole v_once v_named v_values v_truth v_isWritten v_died v_aside v_likely_103 v_safe v_headOf) H := hP
            have hD : va_D A (WM h q cI cJ cZ v_a v_image v_texts v_tape v_taped v_fault v_faultPlace v_at v_place v_token v_number v_word v_text0 v_written v_sort0 v_pile v_piled v_opens v_isWhole v_once v_named v_values v_truth v_isWritten v_died v_aside v_likely_103 v_safe v_headOf) := hD
            refine lv_iinc (v := (x4 + (1 : Int32))) (lv' := [(4, .int (x4 + (1 : Int32))), (5, .int r65), (0, .ref h), (2, .int x2), (3, .int x3)]) hx hb dX12_layLikely_104 hl (k := 4) rfl rfl (by decide) rfl (fun ls hl => ?_)
            refine lv_goto (tgt := 50) hx hb dX12_layLikely_107 (by decide) ?_
            exact ih50 v_named v_values v_truth v_likely_103 v_safe x2 x3 (x4 + (1 : Int32)) _ _ _ hf hP hD hS (lv_sub hl [2, 3, 4, 0] rfl)
      intro v_named v_values v_truth v_likely v_safe x2 x3 H locs ls hf hP hD hS hl
      rw [f_X12_layLikely_42.eq_2] at hf
      refine lv_iload_n hx hb dX12_layLikely_42 rfl (lv_at hl 2 rfl) ?_
      refine lv_iload_n hx hb dX12_layLikely_43 rfl (lv_at hl 1 rfl) ?_
      refine xicmp_gt hx hb 116 dX12_layLikely_44 (by decide) hf (fun hf => ?_) (fun hf => ?_)
      · cases hf
        exact mret_v hx hb hr hlocks hP hD hS dX12_layLikely_116
      · refine lv_iconst (v := (0 : Int32)) hx hb dX12_layLikely_47 (by decide) ?_
        refine lv_istore (lv' := [(4, .int (0 : Int32)), (0, .ref h), (2, .int x2), (3, .int x3)]) hx hb dX12_layLikely_48 hl (by decide) rfl (fun ls hl => ?_)
        exact b50 N v_named v_values v_truth v_likely v_safe x2 x3 (0 : Int32) _ _ _ hf hP hD hS (lv_sub hl [1, 2, 3, 0] rfl)
  have b2 : ∀ n2 : Nat, ∀ (v_named : Nat → Int32) (v_values : Nat → Int64) (v_truth : Nat → Int32) (v_likely : Nat → Int32) (v_safe : Nat → Int32) (x1 : Int32) (x2 : Int32) (x3 : Int32) (H : Heap) (locs : List Loc) (ls : Array Slot), f_X12_layLikely_2 N n2 v_a v_texts v_named v_values v_truth v_likely v_safe x1 x2 x3 = some (o_v_named, o_v_values, o_v_truth, o_v_likely, o_v_safe) → va_P D vwCl (WM h q cI cJ cZ v_a v_image v_texts v_tape v_taped v_fault v_faultPlace v_at v_place v_token v_number v_word v_text0 v_written v_sort0 v_pile v_piled v_opens v_isWhole v_once v_named v_values v_truth v_isWritten v_died v_aside v_likely v_safe v_headOf) H → va_D A (WM h q cI cJ cZ v_a v_image v_texts v_tape v_taped v_fault v_faultPlace v_at v_place v_token v_number v_word v_text0 v_written v_sort0 v_pile v_piled v_opens v_isWhole v_once v_named v_values v_truth v_isWritten v_died v_aside v_likely v_safe v_headOf) → va_S A s.heap H locs → lv_has ls 6 [(0, .ref h), (1, .int x1), (2, .int x2), (3, .int x3)] → W p l e ({ frames := 6, cells := 0, slots := 0, locals := 143 } : Room) s m ([.ref h, .int p1, .int p2] : List Value).toArray below meth c H locs 0 0 (MQ below ((mQv D (WM h q cI cJ cZ v_a v_image v_texts v_tape v_taped v_fault v_faultPlace v_at v_place v_token v_number v_word v_text0 v_written v_sort0 v_pile v_piled v_opens v_isWhole v_once o_v_named o_v_values o_v_truth v_isWritten v_died v_aside o_v_likely o_v_safe v_headOf)) A) ([.ref h, .int p1, .int p2] : List Value).toArray s 0 0 A) (F0 m 2 ls []) := by
    intro n2
    induction n2 with
    | zero =>
      intro v_named v_values v_truth v_likely v_safe x1 x2 x3 H locs ls hf hP hD hS hl
      simp [f_X12_layLikely_2] at hf
    | succ n2 ih2 =>
      intro v_named v_values v_truth v_likely v_safe x1 x2 x3 H locs ls hf hP hD hS hl
      rw [f_X12_layLikely_2.eq_2] at hf
      refine lv_iload_n hx hb dX12_layLikely_2 rfl (lv_at hl 3 rfl) ?_
      refine lv_aload_n hx hb dX12_layLikely_3 rfl (lv_at hl 0 rfl) ?_
      refine gfX12_7 hx hb hts hown hK hP 0 rfl rfl dX12_layLikely_4 ?_
      refine lv_iconst (v := (0 : Int32)) hx hb dX12_layLikely_7 (by decide) ?_
      refine xiald hx hb hK hP 1 0 rfl rfl dX12_layLikely_8 hf (fun v8 hf => ?_)
      refine xicmp_ge hx hb 40 dX12_layLikely_9 (by decide) hf (fun hf => ?_) (fun hf => ?_)
      · refine lv_iconst (v := (1 : Int32)) hx hb dX12_layLikely_40 (by decide) ?_
        refine lv_istore_n (lv' := [(3, .int (1 : Int32)), (0, .ref h), (1, .int x1), (2, .int x2)]) hx hb dX12_layLikely_41 rfl hl (by decide) rfl (fun ls hl => ?_)
        exact b42 N v_named v_values v_truth v_likely v_safe x2 (1 : Int32) _ _ _ hf hP hD hS (lv_sub hl [1, 3, 0] rfl)
      · refine lv_aload_n hx hb dX12_layLikely_12 rfl (lv_at hl 0 rfl) ?_
        refine gfX12_53 hx hb hts hown hK hP 0 rfl rfl dX12_layLikely_13 ?_
        refine lv_iload_n hx hb dX12_layLikely_16 rfl (lv_at hl 3 rfl) ?_
        refine lv_bipush (v := (10 : Int32)) hx hb dX12_layLikely_17 (by decide) ?_
        refine lv_aload_n hx hb dX12_layLikely_19 rfl (lv_at hl 0 rfl) ?_
        refine lv_iload_n hx hb dX12_layLikely_20 rfl (lv_at hl 1 rfl) ?_
        refine lv_iload_n hx hb dX12_layLikely_21 rfl (lv_at hl 3 rfl) ?_
        obtain ⟨r22, v_named_22, v_values_22, v_truth_22, hg22, hf⟩ := ob4_some hf
        refine mcV1_i (As := [.int x1, .int x3]) (rest := [.int (10 : Int32), .int x3, .ref (q 10)]) hx hb hml hown hts hK hP hD hS hA (k_X12_findsIn l N D cI cJ cZ cB cT h q v_a v_image v_texts v_tape v_taped v_fault v_faultPlace v_at v_place v_token v_number v_word v_text0 v_written v_sort0 v_pile v_piled v_opens v_isWhole v_once v_named v_values v_truth v_isWritten v_died v_aside v_likely v_safe v_headOf x1 x3 r22 v_named_22 v_values_22 v_truth_22 hg22) (kwX12_307 hts rfl rfl ⟨Nat.le_of_ble_eq_true rfl, Nat.le_of_ble_eq_true rfl⟩) 0 rfl rfl rfl rfl hl.1 rfl (Nat.le_of_ble_eq_true rfl) dX12_layLikely_22 ⟨Nat.zero_le _, Nat.zero_le _⟩ (fun hB22 H locs hP hD hS => ?_)
        have hP : va_P D vwCl (WM h q cI cJ cZ v_a v_image v_texts v_tape v_taped v_fault v_faultPlace v_at v_place v_token v_number v_word v_text0 v_written v_sort0 v_pile v_piled v_opens v_isWhole v_once v_named_22 v_values_22 v_truth_22 v_isWritten v_died v_aside v_likely v_safe v_headOf) H := hP
        have hD : va_D A (WM h q cI cJ cZ v_a v_image v_texts v_tape v_taped v_fault v_faultPlace v_at v_place v_token v_number v_word v_text0 v_written v_sort0 v_pile v_piled v_opens v_isWhole v_once v_named_22 v_values_22 v_truth_22 v_isWritten v_died v_aside v_likely v_safe v_headOf) := hD
        refine lv_isub hx hb dX12_layLikely_25 ?_
        refine xiast hx hb hK hP hD hS 11 0 rfl rfl dX12_layLikely_26 hf (fun v_safe_26 hf H locs hP hD hS => ?_)
        have hP : va_P D vwCl (WM h q cI cJ cZ v_a v_image v_texts v_tape v_taped v_fault v_faultPlace v_at v_place v_token v_number v_word v_text0 v_written v_sort0 v_pile v_piled v_opens v_isWhole v_once v_named_22 v_values_22 v_truth_22 v_isWritten v_died v_aside v_likely v_safe_26 v_headOf) H := hP
        have hD : va_D A (WM h q cI cJ cZ v_a v_image v_texts v_tape v_taped v_fault v_faultPlace v_at v_place v_token v_number v_word v_text0 v_written v_sort0 v_pile v_piled v_opens v_isWhole v_once v_named_22 v_values_22 v_truth_22 v_isWritten v_died v_aside v_likely v_safe_26 v_headOf) := hD
        refine lv_aload_n hx hb dX12_layLikely_27 rfl (lv_at hl 0 rfl) ?_
        refine gfX12_50 hx hb hts hown hK hP 0 rfl rfl dX12_layLikely_28 ?_
        refine lv_iload_n hx hb dX12_layLikely_31 rfl (lv_at hl 3 rfl) ?_
        refine lv_iconst (v := (1 : Int32)) hx hb dX12_layLikely_32 (by decide) ?_
        refine xiast hx hb hK hP hD hS 10 0 rfl rfl dX12_layLikely_33 hf (fun v_likely_33 hf H locs hP hD hS => ?_)
        have hP : va_P D vwCl (WM h q cI cJ cZ v_a v_image v_texts v_tape v_taped v_fault v_faultPlace v_at v_place v_token v_number v_word v_text0 v_written v_sort0 v_pile v_piled v_opens v_isWhole v_once v_named_22 v_values_22 v_truth_22 v_isWritten v_died v_aside v_likely_33 v_safe_26 v_headOf) H := hP
        have hD : va_D A (WM h q cI cJ cZ v_a v_image v_texts v_tape v_taped v_fault v_faultPlace v_at v_place v_token v_number v_word v_text0 v_written v_sort0 v_pile v_piled v_opens v_isWhole v_once v_named_22 v_values_22 v_truth_22 v_isWritten v_died v_aside v_likely_33 v_safe_26 v_headOf) := hD
        refine lv_iinc (v := (x3 + (1 : Int32))) (lv' := [(3, .int (x3 + (1 : Int32))), (0, .ref h), (1, .int x1), (2, .int x2)]) hx hb dX12_layLikely_34 hl (k := 3) rfl rfl (by decide) rfl (fun ls hl => ?_)
        refine lv_goto (tgt := 2) hx hb dX12_layLikely_37 (by decide) ?_
        exact ih2 v_named_22 v_values_22 v_truth_22 v_likely_33 v_safe_26 x1 x2 (x3 + (1 : Int32)) _ _ _ hf hP hD hS (lv_sub hl [1, 2, 3, 0] rfl)
  unfold f_X12_layLikely at hf
  refine lv_iconst (v := (0 : Int32)) hx hb dX12_layLikely_0 (by decide) ?_
  refine lv_istore_n (lv' := [(3, .int (0 : Int32)), (0, .ref h), (1, .int p1), (2, .int p2)]) hx hb dX12_layLikely_1 rfl hl (by decide) rfl (fun ls hl => ?_)
  exact b2 N v_named v_values v_truth v_likely v_safe p1 p2 (0 : Int32) _ _ _ hf hP hD hS (lv_sub hl [1, 2, 3, 0] rfl)
theorem dX12_common_0 : decode cX12_common 0 = .ok (.iload_n 0, 1) := by decide +kernel
theorem dX12_common_1 : decode cX12_common 1 = .ok (.istore_n 2, 1) := by decide +kernel
theorem dX12_common_2 : decode cX12_common 2 = .ok (.iload_n 1, 1) := by decide +kernel
theorem dX12_common_3 : decode cX12_common 3 = .ok (.istore_n 3, 1) := by decide +kernel
theorem dX12_common_4 : decode cX12_common 4 = .ok (.iload_n 3, 1) := by decide +kernel
theorem dX12_common_5 : decode cX12_common 5 = .ok (.ifCond .eq 16, 3) := by decide +kernel
theorem dX12_common_8 : decode cX12_common 8 = .ok (.iload_n 2, 1) := by decide +kernel
theorem dX12_common_9 : decode cX12_common 9 = .ok (.iload_n 3, 1) := by decide +kernel
theorem dX12_common_10 : decode cX12_common 10 = .ok (.irem, 1) := by decide +kernel
theorem dX12_common_11 : decode cX12_common 11 = .ok (.istore 4, 2) := by decide +kernel
theorem dX12_common_13 : decode cX12_common 13 = .ok (.iload_n 3, 1) := by decide +kernel
theorem dX12_common_14 : decode cX12_common 14 = .ok (.istore_n 2, 1) := by decide +kernel
theorem dX12_common_15 : decode cX12_common 15 = .ok (.iload 4, 2) := by decide +kernel
theorem dX12_common_17 : decode cX12_common 17 = .ok (.istore_n 3, 1) := by decide +kernel
theorem dX12_common_18 : decode cX12_common 18 = .ok (.goto (-14), 3) := by decide +kernel
theorem dX12_common_21 : decode cX12_common 21 = .ok (.iload_n 2, 1) := by decide +kernel
theorem dX12_common_22 : decode cX12_common 22 = .ok (.ireturn, 1) := by decide +kernel
def f_X12_common_4 (N : Nat) : Nat → Int32 → Int32 → Option (Int32)
  | 0, _, _ => none
  | n + 1, x2, x3 => if x3 = 0 then (some x2) else (rmI x2 x3 fun v10 => (f_X12_common_4 N n) x3 v10)
def f_X12_common (N : Nat) (p0 : Int32) (p1 : Int32) : Option (Int32) := f_X12_common_4 N N p0 p1
set_option maxHeartbeats 4000000 in
set_option maxRecDepth 100000 in
theorem k_X12_common (l : Launch) (N : Nat) (D : va_G) (cI cJ cZ cB cT : ClassId) (p0 : Int32) (p1 : Int32) (o_r : Int32) (hf : f_X12_common N p0 p1 = some o_r) : ∀ sz, Met l yX12_common (mw yX12_common cX12_common 5 (some .int)) ({ frames := 0, cells := 0, slots := 0, locals := 0 } : Room) (mPre D (mT cI cJ cZ cB cT) [] sz [.int p0, .int p1]) ((mQi D [] o_r True) (va_A [] sz)) 0 0 (va_A [] sz) := by
  refine mMet (Qc := (mQi D [] o_r True)) (by decide) (Nat.le_of_ble_eq_true rfl) (fun p e s m below meth c A ls hx hb hr hml hts hown hlocks hK hA hP hD hl => ?_)
  have hown : s.vm.findClass RX12 = some m.cls := hown
  have hl : lv_has ls 5 [(0, .int p0), (1, .int p1)] := hl
  have hS : va_S A s.heap s.heap [] := va_S.rf
  have b4 : ∀ n4 : Nat, ∀ (x2 : Int32) (x3 : Int32) (H : Heap) (locs : List Loc) (ls : Array Slot), f_X12_common_4 N n4 x2 x3 = some o_r → va_P D vwCl [] H → va_D A [] → va_S A s.heap H locs → lv_has ls 5 [(2, .int x2), (3, .int x3)] → W p l e ({ frames := 0, cells := 0, slots := 0, locals := 0 } : Room) s m ([.int p0, .int p1] : List Value).toArray below meth c H locs 0 0 (MQ below ((mQi D [] o_r True) A) ([.int p0, .int p1] : List Value).toArray s 0 0 A) (F0 m 4 ls []) := by
    intro n4
    induction n4 with
    | zero =>
      intro x2 x3 H locs ls hf hP hD hS hl
      simp [f_X12_common_4] at hf
    | succ n4 ih4 =>
      intro x2 x3 H locs ls hf hP hD hS hl
      rw [f_X12_common_4.eq_2] at hf
      refine lv_iload_n hx hb dX12_common_4 rfl (lv_at hl 1 rfl) ?_
      refine xif_eq hx hb 21 dX12_common_5 (by decide) hf (fun hf => ?_) (fun hf => ?_)
      · refine lv_iload_n hx hb dX12_common_21 rfl (lv_at hl 0 rfl) ?_
        cases hf
        exact mret_i hx hb hr hlocks hP hD hS dX12_common_22 rfl trivial
      · refine lv_iload_n hx hb dX12_common_8 rfl (lv_at hl 0 rfl) ?_
        refine lv_iload_n hx hb dX12_common_9 rfl (lv_at hl 1 rfl) ?_
        refine xirem hx hb dX12_common_10 hf (fun v10 hf => ?_)
        refine lv_istore (lv' := [(4, .int v10), (2, .int x2), (3, .int x3)]) hx hb dX12_common_11 hl (by decide) rfl (fun ls hl => ?_)
        refine lv_iload_n hx hb dX12_common_13 rfl (lv_at hl 2 rfl) ?_
        refine lv_istore_n (lv' := [(2, .int x3), (4, .int v10), (3, .int x3)]) hx hb dX12_common_14 rfl hl (by decide) rfl (fun ls hl => ?_)
        refine lv_iload hx hb dX12_common_15 (lv_at hl 1 rfl) ?_
        refine lv_istore_n (lv' := [(3, .int v10), (2, .int x3), (4, .int v10)]) hx hb dX12_common_17 rfl hl (by decide) rfl (fun ls hl => ?_)
        refine lv_goto (tgt := 4) hx hb dX12_common_18 (by decide) ?_
        exact ih4 x3 v10 _ _ _ hf hP hD hS (lv_sub hl [1, 0] rfl)
  unfold f_X12_common at hf
  refine lv_iload_n hx hb dX12_common_0 rfl (lv_at hl 0 rfl) ?_
  refine lv_istore_n (lv' := [(2, .int p0), (0, .int p0), (1, .int p1)]) hx hb dX12_common_1 rfl hl (by decide) rfl (fun ls hl => ?_)
  refine lv_iload_n hx hb dX12_common_2 rfl (lv_at hl 2 rfl) ?_
  refine lv_istore_n (lv' := [(3, .int p1), (2, .int p0), (0, .int p0), (1, .int p1)]) hx hb dX12_common_3 rfl hl (by decide) rfl (fun ls hl => ?_)
  exact b4 N p0 p1 _ _ _ hf hP hD hS (lv_sub hl [1, 0] rfl)
theorem dX12_surest_0 : decode cX12_surest 0 = .ok (.aload_n 0, 1) := by decide +kernel
theorem dX12_surest_1 : decode cX12_surest 1 = .ok (.iload_n 1, 1) := by decide +kernel
theorem dX12_surest_2 : decode cX12_surest 2 = .ok (.invokevirtual 358, 3) := by decide +kernel
theorem dX12_surest_5 : decode cX12_surest 5 = .ok (.ifCond .eq 25, 3) := by decide +kernel
theorem dX12_surest_8 : decode cX12_surest 8 = .ok (.iload_n 2, 1) := by decide +kernel
theorem dX12_surest_9 : decode cX12_surest 9 = .ok (.iconst 1, 1) := by decide +kernel
theorem dX12_surest_10 : decode cX12_surest 10 = .ok (.bipush 6, 2) := by decide +kernel
theorem dX12_surest_12 : decode cX12_surest 12 = .ok (.invokestatic 63, 3) := by decide +kernel
theorem dX12_surest_15 : decode cX12_surest 15 = .ok (.ifCond .eq 15, 3) := by decide +kernel
theorem dX12_surest_18 : decode cX12_surest 18 = .ok (.iload_n 3, 1) := by decide +kernel
theorem dX12_surest_19 : decode cX12_surest 19 = .ok (.bipush (-2), 2) := by decide +kernel
theorem dX12_surest_21 : decode cX12_surest 21 = .ok (.iload_n 2, 1) := by decide +kernel
theorem dX12_surest_22 : decode cX12_surest 22 = .ok (.iconst 1, 1) := by decide +kernel
theorem dX12_surest_23 : decode cX12_surest 23 = .ok (.isub, 1) := by decide +kernel
theorem dX12_surest_24 : decode cX12_surest 24 = .ok (.invokestatic 63, 3) := by decide +kernel
theorem dX12_surest_27 : decode cX12_surest 27 = .ok (.ifCond .ne 6, 3) := by decide +kernel
theorem dX12_surest_30 : decode cX12_surest 30 = .ok (.bipush (-3), 2) := by decide +kernel
theorem dX12_surest_32 : decode cX12_surest 32 = .ok (.ireturn, 1) := by decide +kernel
theorem dX12_surest_33 : decode cX12_surest 33 = .ok (.aload_n 0, 1) := by decide +kernel
theorem dX12_surest_34 : decode cX12_surest 34 = .ok (.iload_n 1, 1) := by decide +kernel
theorem dX12_surest_35 : decode cX12_surest 35 = .ok (.iload_n 2, 1) := by decide +kernel
theorem dX12_surest_36 : decode cX12_surest 36 = .ok (.invokevirtual 442, 3) := by decide +kernel
theorem dX12_surest_39 : decode cX12_surest 39 = .ok (.aload_n 0, 1) := by decide +kernel
theorem dX12_surest_40 : decode cX12_surest 40 = .ok (.iload_n 1, 1) := by decide +kernel
theorem dX12_surest_41 : decode cX12_surest 41 = .ok (.iconst 0, 1) := by decide +kernel
theorem dX12_surest_42 : decode cX12_surest 42 = .ok (.invokevirtual 71, 3) := by decide +kernel
theorem dX12_surest_45 : decode cX12_surest 45 = .ok (.istore 4, 2) := by decide +kernel
theorem dX12_surest_47 : decode cX12_surest 47 = .ok (.aload_n 0, 1) := by decide +kernel
theorem dX12_surest_48 : decode cX12_surest 48 = .ok (.getfield 50, 3) := by decide +kernel
theorem dX12_surest_51 : decode cX12_surest 51 = .ok (.bipush 8, 2) := by decide +kernel
theorem dX12_surest_53 : decode cX12_surest 53 = .ok (.iload_n 2, 1) := by decide +kernel
theorem dX12_surest_54 : decode cX12_surest 54 = .ok (.imul, 1) := by decide +kernel
theorem dX12_surest_55 : decode cX12_surest 55 = .ok (.iload 4, 2) := by decide +kernel
theorem dX12_surest_57 : decode cX12_surest 57 = .ok (.iadd, 1) := by decide +kernel
theorem dX12_surest_58 : decode cX12_surest 58 = .ok (.iaload, 1) := by decide +kernel
theorem dX12_surest_59 : decode cX12_surest 59 = .ok (.istore 5, 2) := by decide +kernel
theorem dX12_surest_61 : decode cX12_surest 61 = .ok (.iconst 1, 1) := by decide +kernel
theorem dX12_surest_62 : decode cX12_surest 62 = .ok (.istore 6, 2) := by decide +kernel
theorem dX12_surest_64 : decode cX12_surest 64 = .ok (.iconst 0, 1) := by decide +kernel
theorem dX12_surest_65 : decode cX12_surest 65 = .ok (.istore 7, 2) := by decide +kernel
theorem dX12_surest_67 : decode cX12_surest 67 = .ok (.iload 7, 2) := by decide +kernel
theorem dX12_surest_69 : decode cX12_surest 69 = .ok (.iload_n 2, 1) := by decide +kernel
theorem dX12_surest_70 : decode cX12_surest 70 = .ok (.if_icmp .ge 16, 3) := by decide +kernel
theorem dX12_surest_73 : decode cX12_surest 73 = .ok (.iload 6, 2) := by decide +kernel
theorem dX12_surest_75 : decode cX12_surest 75 = .ok (.bipush 10, 2) := by decide +kernel
theorem dX12_surest_77 : decode cX12_surest 77 = .ok (.imul, 1) := by decide +kernel
theorem dX12_surest_78 : decode cX12_surest 78 = .ok (.istore 6, 2) := by decide +kernel
theorem dX12_surest_80 : decode cX12_surest 80 = .ok (.iinc 7 1, 3) := by decide +kernel
theorem dX12_surest_83 : decode cX12_surest 83 = .ok (.goto (-16), 3) := by decide +kernel
theorem dX12_surest_86 : decode cX12_surest 86 = .ok (.iload_n 3, 1) := by decide +kernel
theorem dX12_surest_87 : decode cX12_surest 87 = .ok (.ifCond .ge 25, 3) := by decide +kernel
theorem dX12_surest_90 : decode cX12_surest 90 = .ok (.iload_n 3, 1) := by decide +kernel
theorem dX12_surest_91 : decode cX12_surest 91 = .ok (.bipush (-2), 2) := by decide +kernel
theorem dX12_surest_93 : decode cX12_surest 93 = .ok (.if_icmp .ne 8, 3) := by decide +kernel
theorem dX12_surest_96 : decode cX12_surest 96 = .ok (.iload 5, 2) := by decide +kernel
theorem dX12_surest_98 : decode cX12_surest 98 = .ok (.goto 5, 3) := by decide +kernel
theorem dX12_surest_101 : decode cX12_surest 101 = .ok (.iload 6, 2) := by decide +kernel
theorem dX12_surest_103 : decode cX12_surest 103 = .ok (.iload 5, 2) := by decide +kernel
theorem dX12_surest_105 : decode cX12_surest 105 = .ok (.iload 6, 2) := by decide +kernel
theorem dX12_surest_107 : decode cX12_surest 107 = .ok (.invokestatic 445, 3) := by decide +kernel
theorem dX12_surest_110 : decode cX12_surest 110 = .ok (.idiv, 1) := by decide +kernel
theorem dX12_surest_111 : decode cX12_surest 111 = .ok (.ireturn, 1) := by decide +kernel
theorem dX12_surest_112 : decode cX12_surest 112 = .ok (.iconst 0, 1) := by decide +kernel
theorem dX12_surest_113 : decode cX12_surest 113 = .ok (.istore 7, 2) := by decide +kernel
theorem dX12_surest_115 : decode cX12_surest 115 = .ok (.iload 7, 2) := by decide +kernel
theorem dX12_surest_117 : decode cX12_surest 117 = .ok (.iload_n 3, 1) := by decide +kernel
theorem dX12_surest_118 : decode cX12_surest 118 = .ok (.if_icmp .gt 35, 3) := by decide +kernel
theorem dX12_surest_121 : decode cX12_surest 121 = .ok (.iload 5, 2) := by decide +kernel
theorem dX12_surest_123 : decode cX12_surest 123 = .ok (.ifCond .ne 12, 3) := by decide +kernel
theorem dX12_surest_126 : decode cX12_surest 126 = .ok (.aload_n 0, 1) := by decide +kernel
theorem dX12_surest_127 : decode cX12_surest 127 = .ok (.iload 4, 2) := by decide +kernel
theorem dX12_surest_129 : decode cX12_surest 129 = .ok (.invokevirtual 448, 3) := by decide +kernel
theorem dX12_surest_132 : decode cX12_surest 132 = .ok (.goto 13, 3) := by decide +kernel
theorem dX12_surest_135 : decode cX12_surest 135 = .ok (.aload_n 0, 1) := by decide +kernel
theorem dX12_surest_136 : decode cX12_surest 136 = .ok (.iload 4, 2) := by decide +kernel
theorem dX12_surest_138 : decode cX12_surest 138 = .ok (.iload_n 2, 1) := by decide +kernel
theorem dX12_surest_139 : decode cX12_surest 139 = .ok (.iload 7, 2) := by decide +kernel
theorem dX12_surest_141 : decode cX12_surest 141 = .ok (.isub, 1) := by decide +kernel
theorem dX12_surest_142 : decode cX12_surest 142 = .ok (.invokevirtual 439, 3) := by decide +kernel
theorem dX12_surest_145 : decode cX12_surest 145 = .ok (.istore 4, 2) := by decide +kernel
theorem dX12_surest_147 : decode cX12_surest 147 = .ok (.iinc 7 1, 3) := by decide +kernel
theorem dX12_surest_150 : decode cX12_surest 150 = .ok (.goto (-35), 3) := by decide +kernel
theorem dX12_surest_153 : decode cX12_surest 153 = .ok (.iload 4, 2) := by decide +kernel
theorem dX12_surest_155 : decode cX12_surest 155 = .ok (.ireturn, 1) := by decide +kernel
def f_X12_surest_145 (N : Nat) (k_115 : (Nat → Int32) → (Nat → Int32) → (Nat → Int32) → (Nat → Int64) → (Nat → Int32) → (Nat → Int32) → (Nat → Int32) → Int32 → Int32 → Int32 → Int32 → Int32 → Option (Int32 × (Nat → Int32) × (Nat → Int64) × (Nat → Int32) × (Nat → Int32) × (Nat → Int32))) (v_a : Nat → Int32) (v_texts : Nat → Int32) (v_named : Nat → Int32) (v_values : Nat → Int64) (v_truth : Nat → Int32) (v_likely : Nat → Int32) (v_safe : Nat → Int32) (x2 : Int32) (x3 : Int32) (x5 : Int32) (x7 : Int32) (s0 : Int32) : Option (Int32 × (Nat → Int32) × (Nat → Int64) × (Nat → Int32) × (Nat → Int32) × (Nat → Int32)) := k_115 v_a v_texts v_named v_values v_truth v_likely v_safe x2 x3 s0 x5 (x7 + (1 : Int32))
def f_X12_surest_115 (N : Nat) : Nat → (Nat → Int32) → (Nat → Int32) → (Nat → Int32) → (Nat → Int64) → (Nat → Int32) → (Nat → Int32) → (Nat → Int32) → Int32 → Int32 → Int32 → Int32 → Int32 → Option (Int32 × (Nat → Int32) × (Nat → Int64) × (Nat → Int32) × (Nat → Int32) × (Nat → Int32))
  | 0, _, _, _, _, _, _, _, _, _, _, _, _ => none
  | n + 1, v_a, v_texts, v_named, v_values, v_truth, v_likely, v_safe, x2, x3, x4, x5, x7 => if x3 < x7 then (some (x4, v_named, v_values, v_truth, v_likely, v_safe)) else (if x5 = 0 then (ob1 (f_X12_lowestFrom N v_a x4) fun r129 => f_X12_surest_145 N (f_X12_surest_115 N n) v_a v_texts v_named v_values v_truth v_likely v_safe x2 x3 x5 x7 r129) else (ob1 (f_X12_nextFrom N v_a v_likely v_safe x4 (x2 - x7)) fun r142 => f_X12_surest_145 N (f_X12_surest_115 N n) v_a v_texts v_named v_values v_truth v_likely v_safe x2 x3 x5 x7 r142))
def f_X12_surest_103 (N : Nat) (v_a : Nat → Int32) (v_texts : Nat → Int32) (v_named : Nat → Int32) (v_values : Nat → Int64) (v_truth : Nat → Int32) (v_likely : Nat → Int32) (v_safe : Nat → Int32) (x5 : Int32) (x6 : Int32) (s0 : Int32) : Option (Int32 × (Nat → Int32) × (Nat → Int64) × (Nat → Int32) × (Nat → Int32) × (Nat → Int32)) := ob1 (f_X12_common N x5 x6) fun r107 => dvI s0 r107 fun v110 => some (v110, v_named, v_values, v_truth, v_likely, v_safe)
def f_X12_surest_67 (N : Nat) : Nat → (Nat → Int32) → (Nat → Int32) → (Nat → Int32) → (Nat → Int64) → (Nat → Int32) → (Nat → Int32) → (Nat → Int32) → Int32 → Int32 → Int32 → Int32 → Int32 → Int32 → Option (Int32 × (Nat → Int32) × (Nat → Int64) × (Nat → Int32) × (Nat → Int32) × (Nat → Int32))
  | 0, _, _, _, _, _, _, _, _, _, _, _, _, _ => none
  | n + 1, v_a, v_texts, v_named, v_values, v_truth, v_likely, v_safe, x2, x3, x4, x5, x6, x7 => if x2 ≤ x7 then (if 0 ≤ x3 then (f_X12_surest_115 N N v_a v_texts v_named v_values v_truth v_likely v_safe x2 x3 x4 x5 (0 : Int32)) else (if x3 = (-2 : Int32) then (f_X12_surest_103 N v_a v_texts v_named v_values v_truth v_likely v_safe x5 x6 x5) else (f_X12_surest_103 N v_a v_texts v_named v_values v_truth v_likely v_safe x5 x6 x6))) else ((f_X12_surest_67 N n) v_a v_texts v_named v_values v_truth v_likely v_safe x2 x3 x4 x5 (x6 * (10 : Int32)) (x7 + (1 : Int32)))
def f_X12_surest (N : Nat) (v_a : Nat → Int32) (v_texts : Nat → Int32) (v_named : Nat → Int32) (v_values : Nat → Int64) (v_truth : Nat → Int32) (v_likely : Nat → Int32) (v_safe : Nat → Int32) (p1 : Int32) (p2 : Int32) (p3 : Int32) : Option (Int32 × (Nat → Int32) × (Nat → Int64) × (Nat → Int32) × (Nat → Int32) × (Nat → Int32)) := ob1 (f_X12_isOutlaw N v_a p1) fun r2 => if r2 = 0 then (some ((-3 : Int32), v_named, v_values, v_truth, v_likely, v_safe)) else (ob1 (f_X12_isIn N p2 (1 : Int32) (6 : Int32)) fun r12 => if r12 = 0 then (some ((-3 : Int32), v_named, v_values, v_truth, v_likely, v_safe)) else (ob1 (f_X12_isIn N p3 (-2 : Int32) (p2 - (1 : Int32))) fun r24 => if r24 = 0 then (some ((-3 : Int32), v_named, v_values, v_truth, v_likely, v_safe)) else (ob5 (f_X12_layLikely N v_a v_texts v_named v_values v_truth v_likely v_safe p1 p2) fun v_named_36 v_values_36 v_truth_36 v_likely_36 v_safe_36 => ob1 (f_X12_get N v_a p1 (0 : Int32)) fun r42 => gA v_likely_36 56 (((8 : Int32) * p2) + r42) fun v58 => f_X12_surest_67 N N v_a v_texts v_named_36 v_values_36 v_truth_36 v_likely_36 v_safe_36 p2 p3 r42 v58 (1 : Int32) (0 : Int32))))
set_option maxHeartbeats 4000000 in
set_option maxRecDepth 100000 in
theorem k_X12_surest (l : Launch) (N : Nat) (D : va_G) (cI cJ cZ cB cT : ClassId) (h : Nat) (q : Nat → Nat) (v_a : Nat → Int32) (v_image : Nat → Int32) (v_texts : Nat → Int32) (v_tape : Nat → Int32) (v_taped : Int32) (v_fault : Int32) (v_faultPlace : Int32) (v_at : Int32) (v_place : Int32) (v_token : Int32) (v_number : Int32) (v_word : Int64) (v_text0 : Int32) (v_written : Int32) (v_sort0 : Int32) (v_pile : Nat → Int32) (v_piled : Int32) (v_opens : Int32) (v_isWhole : Int32) (v_once : Int32) (v_named : Nat → Int32) (v_values : Nat → Int64) (v_truth : Nat → Int32) (v_isWritten : Int32) (v_died : Int32) (v_aside : Nat → Int32) (v_likely : Nat → Int32) (v_safe : Nat → Int32) (v_headOf : Nat → Int32) (p1 : Int32) (p2 : Int32) (p3 : Int32) (o_r : Int32) (o_v_named : Nat → Int32) (o_v_values : Nat → Int64) (o_v_truth : Nat → Int32) (o_v_likely : Nat → Int32) (o_v_safe : Nat → Int32) (hf : f_X12_surest N v_a v_texts v_named v_values v_truth v_likely v_safe p1 p2 p3 = some (o_r, o_v_named, o_v_values, o_v_truth, o_v_likely, o_v_safe)) : ∀ sz, Met l yX12_surest (mw yX12_surest cX12_surest 8 (some .int)) ({ frames := 7, cells := 0, slots := 0, locals := 168 } : Room) (mPre D (mT cI cJ cZ cB cT) (WM h q cI cJ cZ v_a v_image v_texts v_tape v_taped v_fault v_faultPlace v_at v_place v_token v_number v_word v_text0 v_written v_sort0 v_pile v_piled v_opens v_isWhole v_once v_named v_values v_truth v_isWritten v_died v_aside v_likely v_safe v_headOf) sz [.ref h, .int p1, .int p2, .int p3]) ((mQi D (WM h q cI cJ cZ v_a v_image v_texts v_tape v_taped v_fault v_faultPlace v_at v_place v_token v_number v_word v_text0 v_written v_sort0 v_pile v_piled v_opens v_isWhole v_once o_v_named o_v_values o_v_truth v_isWritten v_died v_aside o_v_likely o_v_safe v_headOf) o_r True) (va_A (WM h q cI cJ cZ v_a v_image v_texts v_tape v_taped v_fault v_faultPlace v_at v_place v_token v_number v_word v_text0 v_written v_sort0 v_pile v_piled v_opens v_isWhole v_once v_named v_values v_truth v_isWritten v_died v_aside v_likely v_safe v_headOf) sz)) 0 0 (va_A (WM h q cI cJ cZ v_a v_image v_texts v_tape v_taped v_fault v_faultPlace v_at v_place v_token v_number v_word v_text0 v_written v_sort0 v_pile v_piled v_opens v_isWhole v_once v_named v_values v_truth v_isWritten v_died v_aside v_likely v_safe v_headOf) sz) := by
  refine mMet (Qc := (mQi D (WM h q cI cJ cZ v_a v_image v_texts v_tape v_taped v_fault v_faultPlace v_at v_place v_token v_number v_word v_text0 v_written v_sort0 v_pile v_piled v_opens v_isWhole v_once o_v_named o_v_values o_v_truth v_isWritten v_died v_aside o_v_likely o_v_safe v_headOf) o_r True)) (by decide) (Nat.le_of_ble_eq_true rfl) (fun p e s m below meth c A ls hx hb hr hml hts hown hlocks hK hA hP hD hl => ?_)
  have hown : s.vm.findClass RX12 = some m.cls := hown
  have hl : lv_has ls 8 [(0, .ref h), (1, .int p1), (2, .int p2), (3, .int p3)] := hl
  have hS : va_S A s.heap s.heap [] := va_S.rf
  have b115 : ∀ n115 : Nat, ∀ (v_named : Nat → Int32) (v_values : Nat → Int64) (v_truth : Nat → Int32) (v_likely : Nat → Int32) (v_safe : Nat → Int32) (x2 : Int32) (x3 : Int32) (x4 : Int32) (x5 : Int32) (x7 : Int32) (H : Heap) (locs : List Loc) (ls : Array Slot), f_X12_surest_115 N n115 v_a v_texts v_named v_values v_truth v_likely v_safe x2 x3 x4 x5 x7 = some (o_r, o_v_named, o_v_values, o_v_truth, o_v_likely, o_v_safe) → va_P D vwCl (WM h q cI cJ cZ v_a v_image v_texts v_tape v_taped v_fault v_faultPlace v_at v_place v_token v_number v_word v_text0 v_written v_sort0 v_pile v_piled v_opens v_isWhole v_once v_named v_values v_truth v_isWritten v_died v_aside v_likely v_safe v_headOf) H → va_D A (WM h q cI cJ cZ v_a v_image v_texts v_tape v_taped v_fault v_faultPlace v_at v_place v_token v_number v_word v_text0 v_written v_sort0 v_pile v_piled v_opens v_isWhole v_once v_named v_values v_truth v_isWritten v_died v_aside v_likely v_safe v_headOf) → va_S A s.heap H locs → lv_has ls 8 [(0, .ref h), (2, .int x2), (3, .int x3), (4, .int x4), (5, .int x5), (7, .int x7)] → W p l e ({ frames := 7, cells := 0, slots := 0, locals := 168 } : Room) s m ([.ref h, .int p1, .int p2, .int p3] : List Value).toArray below meth c H locs 0 0 (MQ below ((mQi D (WM h q cI cJ cZ v_a v_image v_texts v_tape v_taped v_fault v_faultPlace v_at v_place v_token v_number v_word v_text0 v_written v_sort0 v_pile v_piled v_opens v_isWhole v_once o_v_named o_v_values o_v_truth v_isWritten v_died v_aside o_v_likely o_v_safe v_headOf) o_r True) A) ([.ref h, .int p1, .int p2, .int p3] : List Value).toArray s 0 0 A) (F0 m 115 ls []) := by
    intro n115
    induction n115 with
    | zero =>
      intro v_named v_values v_truth v_likely v_safe x2 x3 x4 x5 x7 H locs ls hf hP hD hS hl
      simp [f_X12_surest_115] at hf
    | succ n115 ih115 =>
      have b145 : ∀ (v_named : Nat → Int32) (v_values : Nat → Int64) (v_truth : Nat → Int32) (v_likely : Nat → Int32) (v_safe : Nat → Int32) (x2 : Int32) (x3 : Int32) (x5 : Int32) (x7 : Int32) (s0 : Int32) (H : Heap) (locs : List Loc) (ls : Array Slot), f_X12_surest_145 N (f_X12_surest_115 N n115) v_a v_texts v_named v_values v_truth v_likely v_safe x2 x3 x5 x7 s0 = some (o_r, o_v_named, o_v_values, o_v_truth, o_v_likely, o_v_safe) → va_P D vwCl (WM h q cI cJ cZ v_a v_image v_texts v_tape v_taped v_fault v_faultPlace v_at v_place v_token v_number v_word v_text0 v_written v_sort0 v_pile v_piled v_opens v_isWhole v_once v_named v_values v_truth v_isWritten v_died v_aside v_likely v_safe v_headOf) H → va_D A (WM h q cI cJ cZ v_a v_image v_texts v_tape v_taped v_fault v_faultPlace v_at v_place v_token v_number v_word v_text0 v_written v_sort0 v_pile v_piled v_opens v_isWhole v_once v_named v_values v_truth v_isWritten v_died v_aside v_likely v_safe v_headOf) → va_S A s.heap H locs → lv_has ls 8 [(0, .ref h), (2, .int x2), (3, .int x3), (5, .int x5), (7, .int x7)] → W p l e ({ frames := 7, cells := 0, slots := 0, locals := 168 } : Room) s m ([.ref h, .int p1, .int p2, .int p3] : List Value).toArray below meth c H locs 0 0 (MQ below ((mQi D (WM h q cI cJ cZ v_a v_image v_texts v_tape v_taped v_fault v_faultPlace v_at v_place v_token v_number v_word v_text0 v_written v_sort0 v_pile v_piled v_opens v_isWhole v_once o_v_named o_v_values o_v_truth v_isWritten v_died v_aside o_v_likely o_v_safe v_headOf) o_r True) A) ([.ref h, .int p1, .int p2, .int p3] : List Value).toArray s 0 0 A) (F0 m 145 ls [.int s0]) := by
        intro v_named v_values v_truth v_likely v_safe x2 x3 x5 x7 s0 H locs ls hf hP hD hS hl
        unfold f_X12_surest_145 at hf
        refine lv_istore (lv' := [(4, .int s0), (0, .ref h), (2, .int x2), (3, .int x3), (5, .int x5), (7, .int x7)]) hx hb dX12_surest_145 hl (by decide) rfl (fun ls hl => ?_)
        refine lv_iinc (v := (x7 + (1 : Int32))) (lv' := [(7, .int (x7 + (1 : Int32))), (4, .int s0), (0, .ref h), (2, .int x2), (3, .int x3), (5, .int x5)]) hx hb dX12_surest_147 hl (k := 5) rfl rfl (by decide) rfl (fun ls hl => ?_)
        refine lv_goto (tgt := 115) hx hb dX12_surest_150 (by decide) ?_
        exact ih115 v_named v_values v_truth v_likely v_safe x2 x3 s0 x5 (x7 + (1 : Int32)) _ _ _ hf hP hD hS (lv_sub hl [2, 3, 4, 1, 5, 0] rfl)
      intro v_named v_values v_truth v_likely v_safe x2 x3 x4 x5 x7 H locs ls hf hP hD hS hl
      rw [f_X12_surest_115.eq_2] at hf
      refine lv_iload hx hb dX12_surest_115 (lv_at hl 5 rfl) ?_
      refine lv_iload_n hx hb dX12_surest_117 rfl (lv_at hl 2 rfl) ?_
      refine xicmp_gt hx hb 153 dX12_surest_118 (by decide) hf (fun hf => ?_) (fun hf => ?_)
      · refine lv_iload hx hb dX12_surest_153 (lv_at hl 3 rfl) ?_
        cases hf
        exact mret_i hx hb hr hlocks hP hD hS dX12_surest_155 rfl trivial
      · refine lv_iload hx hb dX12_surest_121 (lv_at hl 4 rfl) ?_
        refine xif_ne hx hb 135 dX12_surest_123 (by decide) hf (fun hf => ?_) (fun hf => ?_)
        · refine lv_aload_n hx hb dX12_surest_126 rfl (lv_at hl 0 rfl) ?_
          refine lv_iload hx hb dX12_surest_127 (lv_at hl 3 rfl) ?_
          obtain ⟨r129, hg129, hf⟩ := ob1_some hf
          refine mcV1_i (As := [.int x4]) (rest := []) hx hb hml hown hts hK hP hD hS hA (k_X12_lowestFrom l N D cI cJ cZ cB cT h q v_a v_image v_texts v_tape v_taped v_fault v_faultPlace v_at v_place v_token v_number v_word v_text0 v_written v_sort0 v_pile v_piled v_opens v_isWhole v_once v_named v_values v_truth v_isWritten v_died v_aside v_likely v_safe v_headOf x4 r129 hg129) (kwX12_448 hts rfl rfl ⟨Nat.le_of_ble_eq_true rfl, Nat.le_of_ble_eq_true rfl⟩) 0 rfl rfl rfl rfl hl.1 rfl (Nat.le_of_ble_eq_true rfl) dX12_surest_129 ⟨Nat.zero_le _, Nat.zero_le _⟩ (fun hB129 H locs hP hD hS => ?_)
          have hP : va_P D vwCl (WM h q cI cJ cZ v_a v_image v_texts v_tape v_taped v_fault v_faultPlace v_at v_place v_token v_number v_word v_text0 v_written v_sort0 v_pile v_piled v_opens v_isWhole v_once v_named v_values v_truth v_isWritten v_died v_aside v_likely v_safe v_headOf) H := hP
          have hD : va_D A (WM h q cI cJ cZ v_a v_image v_texts v_tape v_taped v_fault v_faultPlace v_at v_place v_token v_number v_word v_text0 v_written v_sort0 v_pile v_piled v_opens v_isWhole v_once v_named v_values v_truth v_isWritten v_died v_aside v_likely v_safe v_headOf) := hD
          refine lv_goto (tgt := 145) hx hb dX12_surest_132 (by decide) ?_
          exact b145 v_named v_values v_truth v_likely v_safe x2 x3 x5 x7 r129 _ _ _ hf hP hD hS (lv_sub hl [0, 1, 2, 4, 5] rfl)
        · refine lv_aload_n hx hb dX12_surest_135 rfl (lv_at hl 0 rfl) ?_
          refine lv_iload hx hb dX12_surest_136 (lv_at hl 3 rfl) ?_
          refine lv_iload_n hx hb dX12_surest_138 rfl (lv_at hl 1 rfl) ?_
          refine lv_iload hx hb dX12_surest_139 (lv_at hl 5 rfl) ?_
          refine lv_isub hx hb dX12_surest_141 ?_
          obtain ⟨r142, hg142, hf⟩ := ob1_some hf
          refine mcV1_i (As := [.int x4, .int (x2 - x7)]) (rest := []) hx hb hml hown hts hK hP hD hS hA (k_X12_nextFrom l N D cI cJ cZ cB cT h q v_a v_image v_texts v_tape v_taped v_fault v_faultPlace v_at v_place v_token v_number v_word v_text0 v_written v_sort0 v_pile v_piled v_opens v_isWhole v_once v_named v_values v_truth v_isWritten v_died v_aside v_likely v_safe v_headOf x4 (x2 - x7) r142 hg142) (kwX12_439 hts rfl rfl ⟨Nat.le_of_ble_eq_true rfl, Nat.le_of_ble_eq_true rfl⟩) 0 rfl rfl rfl rfl hl.1 rfl (Nat.le_of_ble_eq_true rfl) dX12_surest_142 ⟨Nat.zero_le _, Nat.zero_le _⟩ (fun hB142 H locs hP hD hS => ?_)
          have hP : va_P D vwCl (WM h q cI cJ cZ v_a v_image v_texts v_tape v_taped v_fault v_faultPlace v_at v_place v_token v_number v_word v_text0 v_written v_sort0 v_pile v_piled v_opens v_isWhole v_once v_named v_values v_truth v_isWritten v_died v_aside v_likely v_safe v_headOf) H := hP
          have hD : va_D A (WM h q cI cJ cZ v_a v_image v_texts v_tape v_taped v_fault v_faultPlace v_at v_place v_token v_number v_word v_text0 v_written v_sort0 v_pile v_piled v_opens v_isWhole v_once v_named v_values v_truth v_isWritten v_died v_aside v_likely v_safe v_headOf) := hD
          exact b145 v_named v_values v_truth v_likely v_safe x2 x3 x5 x7 r142 _ _ _ hf hP hD hS (lv_sub hl [0, 1, 2, 4, 5] rfl)
  have b103 : ∀ (v_named : Nat → Int32) (v_values : Nat → Int64) (v_truth : Nat → Int32) (v_likely : Nat → Int32) (v_safe : Nat → Int32) (x5 : Int32) (x6 : Int32) (s0 : Int32) (H : Heap) (locs : List Loc) (ls : Array Slot), f_X12_surest_103 N v_a v_texts v_named v_values v_truth v_likely v_safe x5 x6 s0 = some (o_r, o_v_named, o_v_values, o_v_truth, o_v_likely, o_v_safe) → va_P D vwCl (WM h q cI cJ cZ v_a v_image v_texts v_tape v_taped v_fault v_faultPlace v_at v_place v_token v_number v_word v_text0 v_written v_sort0 v_pile v_piled v_opens v_isWhole v_once v_named v_values v_truth v_isWritten v_died v_aside v_likely v_safe v_headOf) H → va_D A (WM h q cI cJ cZ v_a v_image v_texts v_tape v_taped v_fault v_faultPlace v_at v_place v_token v_number v_word v_text0 v_written v_sort0 v_pile v_piled v_opens v_isWhole v_once v_named v_values v_truth v_isWritten v_died v_aside v_likely v_safe v_headOf) → va_S A s.heap H locs → lv_has ls 8 [(5, .int x5), (6, .int x6)] → W p l e ({ frames := 7, cells := 0, slots := 0, locals := 168 } : Room) s m ([.ref h, .int p1, .int p2, .int p3] : List Value).toArray below meth c H locs 0 0 (MQ below ((mQi D (WM h q cI cJ cZ v_a v_image v_texts v_tape v_taped v_fault v_faultPlace v_at v_place v_token v_number v_word v_text0 v_written v_sort0 v_pile v_piled v_opens v_isWhole v_once o_v_named o_v_values o_v_truth v_isWritten v_died v_aside o_v_likely o_v_safe v_headOf) o_r True) A) ([.ref h, .int p1, .int p2, .int p3] : List Value).toArray s 0 0 A) (F0 m 103 ls [.int s0]) := by
    intro v_named v_values v_truth v_likely v_safe x5 x6 s0 H locs ls hf hP hD hS hl
    unfold f_X12_surest_103 at hf
    refine lv_iload hx hb dX12_surest_103 (lv_at hl 0 rfl) ?_
    refine lv_iload hx hb dX12_surest_105 (lv_at hl 1 rfl) ?_
    obtain ⟨r107, hg107, hf⟩ := ob1_some hf
    refine mcS0_i (As := [.int x5, .int x6]) (rest := [.int s0]) hx hb hml hown hts hK hP hD hS hA (k_X12_common l N D cI cJ cZ cB cT x5 x6 r107 hg107) (kwX12_445 hts rfl rfl ⟨Nat.le_of_ble_eq_true rfl, Nat.le_of_ble_eq_true rfl⟩) rfl hl.1 rfl (Nat.le_of_ble_eq_true rfl) dX12_surest_107 ⟨Nat.zero_le _, Nat.zero_le _⟩ (fun hB107 H locs hP hD hS => ?_)
    refine xidiv hx hb dX12_surest_110 hf (fun v110 hf => ?_)
    cases hf
    exact mret_i hx hb hr hlocks hP hD hS dX12_surest_111 rfl trivial
  have b67 : ∀ n67 : Nat, ∀ (v_named : Nat → Int32) (v_values : Nat → Int64) (v_truth : Nat → Int32) (v_likely : Nat → Int32) (v_safe : Nat → Int32) (x2 : Int32) (x3 : Int32) (x4 : Int32) (x5 : Int32) (x6 : Int32) (x7 : Int32) (H : Heap) (locs : List Loc) (ls : Array Slot), f_X12_surest_67 N n67 v_a v_texts v_named v_values v_truth v_likely v_safe x2 x3 x4 x5 x6 x7 = some (o_r, o_v_named, o_v_values, o_v_truth, o_v_likely, o_v_safe) → va_P D vwCl (WM h q cI cJ cZ v_a v_image v_texts v_tape v_taped v_fault v_faultPlace v_at v_place v_token v_number v_word v_text0 v_written v_sort0 v_pile v_piled v_opens v_isWhole v_once v_named v_values v_truth v_isWritten v_died v_aside v_likely v_safe v_headOf) H → va_D A (WM h q cI cJ cZ v_a v_image v_texts v_tape v_taped v_fault v_faultPlace v_at v_place v_token v_number v_word v_text0 v_written v_sort0 v_pile v_piled v_opens v_isWhole v_once v_named v_values v_truth v_isWritten v_died v_aside v_likely v_safe v_headOf) → va_S A s.heap H locs → lv_has ls 8 [(0, .ref h), (2, .int x2), (3, .int x3), (4, .int x4), (5, .int x5), (6, .int x6), (7, .int x7)] → W p l e ({ frames := 7, cells := 0, slots := 0, locals := 168 } : Room) s m ([.ref h, .int p1, .int p2, .int p3] : List Value).toArray below meth c H locs 0 0 (MQ below ((mQi D (WM h q cI cJ cZ v_a v_image v_texts v_tape v_taped v_fault v_faultPlace v_at v_place v_token v_number v_word v_text0 v_written v_sort0 v_pile v_piled v_opens v_isWhole v_once o_v_named o_v_values o_v_truth v_isWritten v_died v_aside o_v_likely o_v_safe v_headOf) o_r True) A) ([.ref h, .int p1, .int p2, .int p3] : List Value).toArray s 0 0 A) (F0 m 67 ls []) := by
    intro n67
    induction n67 with
    | zero =>
      intro v_named v_values v_truth v_likely v_safe x2 x3 x4 x5 x6 x7 H locs ls hf hP hD hS hl
      simp [f_X12_surest_67] at hf
    | succ n67 ih67 =>
      intro v_named v_values v_truth v_likely v_safe x2 x3 x4 x5 x6 x7 H locs ls hf hP hD hS hl
      rw [f_X12_surest_67.eq_2] at hf
      refine lv_iload hx hb dX12_surest_67 (lv_at hl 6 rfl) ?_
      refine lv_iload_n hx hb dX12_surest_69 rfl (lv_at hl 1 rfl) ?_
      refine xicmp_ge hx hb 86 dX12_surest_70 (by decide) hf (fun hf => ?_) (fun hf => ?_)
      · refine lv_iload_n hx hb dX12_surest_86 rfl (lv_at hl 2 rfl) ?_
        refine xif_ge hx hb 112 dX12_surest_87 (by decide) hf (fun hf => ?_) (fun hf => ?_)
        · refine lv_iconst (v := (0 : Int32)) hx hb dX12_surest_112 (by decide) ?_
          refine lv_istore (lv' := [(7, .int (0 : Int32)), (0, .ref h), (2, .int x2), (3, .int x3), (4, .int x4), (5, .int x5), (6, .int x6)]) hx hb dX12_surest_113 hl (by decide) rfl (fun ls hl => ?_)
          exact b115 N v_named v_values v_truth v_likely v_safe x2 x3 x4 x5 (0 : Int32) _ _ _ hf hP hD hS (lv_sub hl [1, 2, 3, 4, 5, 0] rfl)
        · refine lv_iload_n hx hb dX12_surest_90 rfl (lv_at hl 2 rfl) ?_
          refine lv_bipush (v := (-2 : Int32)) hx hb dX12_surest_91 (by decide) ?_
          refine xicmp_ne hx hb 101 dX12_surest_93 (by decide) hf (fun hf => ?_) (fun hf => ?_)
          · refine lv_iload hx hb dX12_surest_96 (lv_at hl 4 rfl) ?_
            refine lv_goto (tgt := 103) hx hb dX12_surest_98 (by decide) ?_
            exact b103 v_named v_values v_truth v_likely v_safe x5 x6 x5 _ _ _ hf hP hD hS (lv_sub hl [4, 5] rfl)
          · refine lv_iload hx hb dX12_surest_101 (lv_at hl 5 rfl) ?_
            exact b103 v_named v_values v_truth v_likely v_safe x5 x6 x6 _ _ _ hf hP hD hS (lv_sub hl [4, 5] rfl)
      · refine lv_iload hx hb dX12_surest_73 (lv_at hl 5 rfl) ?_
        refine lv_bipush (v := (10 : Int32)) hx hb dX12_surest_75 (by decide) ?_
        refine lv_imul hx hb dX12_surest_77 ?_
        refine lv_istore (lv' := [(6, .int (x6 * (10 : Int32))), (0, .ref h), (2, .int x2), (3, .int x3), (4, .int x4), (5, .int x5), (7, .int x7)]) hx hb dX12_surest_78 hl (by decide) rfl (fun ls hl => ?_)
        refine lv_iinc (v := (x7 + (1 : Int32))) (lv' := [(7, .int (x7 + (1 : Int32))), (6, .int (x6 * (10 : Int32))), (0, .ref h), (2, .int x2), (3, .int x3), (4, .int x4), (5, .int x5)]) hx hb dX12_surest_80 hl (k := 6) rfl rfl (by decide) rfl (fun ls hl => ?_)
        refine lv_goto (tgt := 67) hx hb dX12_surest_83 (by decide) ?_
        exact ih67 v_named v_values v_truth v_likely v_safe x2 x3 x4 x5 (x6 * (10 : Int32)) (x7 + (1 : Int32)) _ _ _ hf hP hD hS (lv_sub hl [2, 3, 4, 5, 6, 1, 0] rfl)
  unfold f_X12_surest at hf
  refine lv_aload_n hx hb dX12_surest_0 rfl (lv_at hl 0 rfl) ?_
  refine lv_iload_n hx hb dX12_surest_1 rfl (lv_at hl 1 rfl) ?_
  obtain ⟨r2, hg2, hf⟩ := ob1_some hf
  refine mcV1_i (As := [.int p1]) (rest := []) hx hb hml hown hts hK hP hD hS hA (k_X12_isOutlaw l N D cI cJ cZ cB cT h q v_a v_image v_texts v_tape v_taped v_fault v_faultPlace v_at v_place v_token v_number v_word v_text0 v_written v_sort0 v_pile v_piled v_opens v_isWhole v_once v_named v_values v_truth v_isWritten v_died v_aside v_likely v_safe v_headOf p1 r2 hg2) (kwX12_358 hts rfl rfl ⟨Nat.le_of_ble_eq_true rfl, Nat.le_of_ble_eq_true rfl⟩) 0 rfl rfl rfl rfl hl.1 rfl (Nat.le_of_ble_eq_true rfl) dX12_surest_2 ⟨Nat.zero_le _, Nat.zero_le _⟩ (fun hB2 H locs hP hD hS => ?_)
  have hP : va_P D vwCl (WM h q cI cJ cZ v_a v_image v_texts v_tape v_taped v_fault v_faultPlace v_at v_place v_token v_number v_word v_text0 v_written v_sort0 v_pile v_piled v_opens v_isWhole v_once v_named v_values v_truth v_isWritten v_died v_aside v_likely v_safe v_headOf) H := hP
  have hD : va_D A (WM h q cI cJ cZ v_a v_image v_texts v_tape v_taped v_fault v_faultPlace v_at v_place v_token v_number v_word v_text0 v_written v_sort0 v_pile v_piled v_opens v_isWhole v_once v_named v_values v_truth v_isWritten v_died v_aside v_likely v_safe v_headOf) := hD
  refine xif_eq hx hb 30 dX12_surest_5 (by decide) hf (fun hf => ?_) (fun hf => ?_)
  · refine lv_bipush (v := (-3 : Int32)) hx hb dX12_surest_30 (by decide) ?_
    cases hf
    exact mret_i hx hb hr hlocks hP hD hS dX12_surest_32 rfl trivial
  · refine lv_iload_n hx hb dX12_surest_8 rfl (lv_at hl 2 rfl) ?_
    refine lv_iconst (v := (1 : Int32)) hx hb dX12_surest_9 (by decide) ?_
    refine lv_bipush (v := (6 : Int32)) hx hb dX12_surest_10 (by decide) ?_
    obtain ⟨r12, hg12, hf⟩ := ob1_some hf
    refine mcS0_i (As := [.int p2, .int (1 : Int32), .int (6 : Int32)]) (rest := []) hx hb hml hown hts hK hP hD hS hA (k_X12_isIn l N D cI cJ cZ cB cT p2 (1 : Int32) (6 : Int32) r12 hg12) (kwX12_63 hts rfl rfl ⟨Nat.le_of_ble_eq_true rfl, Nat.le_of_ble_eq_true rfl⟩) rfl hl.1 rfl (Nat.le_of_ble_eq_true rfl) dX12_surest_12 ⟨Nat.zero_le _, Nat.zero_le _⟩ (fun hB12 H locs hP hD hS => ?_)
    refine xif_eq hx hb 30 dX12_surest_15 (by decide) hf (fun hf => ?_) (fun hf => ?_)
    · refine lv_bipush (v := (-3 : Int32)) hx hb dX12_surest_30 (by decide) ?_
      cases hf
      exact mret_i hx hb hr hlocks hP hD hS dX12_surest_32 rfl trivial
    · refine lv_iload_n hx hb dX12_surest_18 rfl (lv_at hl 3 rfl) ?_
      refine lv_bipush (v := (-2 : Int32)) hx hb dX12_surest_19 (by decide) ?_
      refine lv_iload_n hx hb dX12_surest_21 rfl (lv_at hl 2 rfl) ?_
      refine lv_iconst (v := (1 : Int32)) hx hb dX12_surest_22 (by decide) ?_
      refine lv_isub hx hb dX12_surest_23 ?_
      obtain ⟨r24, hg24, hf⟩ := ob1_some hf
      refine mcS0_i (As := [.int p3, .int (-2 : Int32), .int (p2 - (1 : Int32))]) (rest := []) hx hb hml hown hts hK hP hD hS hA (k_X12_isIn l N D cI cJ cZ cB cT p3 (-2 : Int32) (p2 - (1 : Int32)) r24 hg24) (kwX12_63 hts rfl rfl ⟨Nat.le_of_ble_eq_true rfl, Nat.le_of_ble_eq_true rfl⟩) rfl hl.1 rfl (Nat.le_of_ble_eq_true rfl) dX12_surest_24 ⟨Nat.zero_le _, Nat.zero_le _⟩ (fun hB24 H locs hP hD hS => ?_)
      refine xif_ne hx hb 33 dX12_surest_27 (by decide) hf (fun hf => ?_) (fun hf => ?_)
      · refine lv_bipush (v := (-3 : Int32)) hx hb dX12_surest_30 (by decide) ?_
        cases hf
        exact mret_i hx hb hr hlocks hP hD hS dX12_surest_32 rfl trivial
      · refine lv_aload_n hx hb dX12_surest_33 rfl (lv_at hl 0 rfl) ?_
        refine lv_iload_n hx hb dX12_surest_34 rfl (lv_at hl 1 rfl) ?_
        refine lv_iload_n hx hb dX12_surest_35 rfl (lv_at hl 2 rfl) ?_
        obtain ⟨v_named_36, v_values_36, v_truth_36, v_likely_36, v_safe_36, hg36, hf⟩ := ob5_some hf
        refine mcV1_v (As := [.int p1, .int p2]) (rest := []) hx hb hml hown hts hK hP hD hS hA (k_X12_layLikely l N D cI cJ cZ cB cT h q v_a v_image v_texts v_tape v_taped v_fault v_faultPlace v_at v_place v_token v_number v_word v_text0 v_written v_sort0 v_pile v_piled v_opens v_isWhole v_once v_named v_values v_truth v_isWritten v_died v_aside v_likely v_safe v_headOf p1 p2 v_named_36 v_values_36 v_truth_36 v_likely_36 v_safe_36 hg36) (kwX12_442 hts rfl rfl ⟨Nat.le_of_ble_eq_true rfl, Nat.le_of_ble_eq_true rfl⟩) 0 rfl rfl rfl rfl hl.1 rfl (Nat.le_of_ble_eq_true rfl) dX12_surest_36 ⟨Nat.zero_le _, Nat.zero_le _⟩ (fun H locs hP hD hS => ?_)
        have hP : va_P D vwCl (WM h q cI cJ cZ v_a v_image v_texts v_tape v_taped v_fault v_faultPlace v_at v_place v_token v_number v_word v_text0 v_written v_sort0 v_pile v_piled v_opens v_isWhole v_once v_named_36 v_values_36 v_truth_36 v_isWritten v_died v_aside v_likely_36 v_safe_36 v_headOf) H := hP
        have hD : va_D A (WM h q cI cJ cZ v_a v_image v_texts v_tape v_taped v_fault v_faultPlace v_at v_place v_token v_number v_word v_text0 v_written v_sort0 v_pile v_piled v_opens v_isWhole v_once v_named_36 v_values_36 v_truth_36 v_isWritten v_died v_aside v_likely_36 v_safe_36 v_headOf) := hD
        refine lv_aload_n hx hb dX12_surest_39 rfl (lv_at hl 0 rfl) ?_
        refine lv_iload_n hx hb dX12_surest_40 rfl (lv_at hl 1 rfl) ?_
        refine lv_iconst (v := (0 : Int32)) hx hb dX12_surest_41 (by decide) ?_
        obtain ⟨r42, hg42, hf⟩ := ob1_some hf
        refine mcV1_i (As := [.int p1, .int (0 : Int32)]) (rest := []) hx hb hml hown hts hK hP hD hS hA (k_X12_get l N D cI cJ cZ cB cT h q v_a v_image v_texts v_tape v_taped v_fault v_faultPlace v_at v_place v_token v_number v_word v_text0 v_written v_sort0 v_pile v_piled v_opens v_isWhole v_once v_named_36 v_values_36 v_truth_36 v_isWritten v_died v_aside v_likely_36 v_safe_36 v_headOf p1 (0 : Int32) r42 hg42) (kwX12_71 hts rfl rfl ⟨Nat.le_of_ble_eq_true rfl, Nat.le_of_ble_eq_true rfl⟩) 0 rfl rfl rfl rfl hl.1 rfl (Nat.le_of_ble_eq_true rfl) dX12_surest_42 ⟨Nat.zero_le _, Nat.zero_le _⟩ (fun hB42 H locs hP hD hS => ?_)
        have hP : va_P D vwCl (WM h q cI cJ cZ v_a v_image v_texts v_tape v_taped v_fault v_faultPlace v_at v_place v_token v_number v_word v_text0 v_written v_sort0 v_pile v_piled v_opens v_isWhole v_once v_named_36 v_values_36 v_truth_36 v_isWritten v_died v_aside v_likely_36 v_safe_36 v_headOf) H := hP
        have hD : va_D A (WM h q cI cJ cZ v_a v_image v_texts v_tape v_taped v_fault v_faultPlace v_at v_place v_token v_number v_word v_text0 v_written v_sort0 v_pile v_piled v_opens v_isWhole v_once v_named_36 v_values_36 v_truth_36 v_isWritten v_died v_aside v_likely_36 v_safe_36 v_headOf) := hD
        refine lv_istore (lv' := [(4, .int r42), (0, .ref h), (1, .int p1), (2, .int p2), (3, .int p3)]) hx hb dX12_surest_45 hl (by decide) rfl (fun ls hl => ?_)
        refine lv_aload_n hx hb dX12_surest_47 rfl (lv_at hl 1 rfl) ?_
        refine gfX12_50 hx hb hts hown hK hP 0 rfl rfl dX12_surest_48 ?_
        refine lv_bipush (v := (8 : Int32)) hx hb dX12_surest_51 (by decide) ?_
        refine lv_iload_n hx hb dX12_surest_53 rfl (lv_at hl 3 rfl) ?_
        refine lv_imul hx hb dX12_surest_54 ?_
        refine lv_iload hx hb dX12_surest_55 (lv_at hl 0 rfl) ?_
        refine lv_iadd hx hb dX12_surest_57 ?_
        refine xiald hx hb hK hP 10 0 rfl rfl dX12_surest_58 hf (fun v58 hf => ?_)
        refine lv_istore (lv' := [(5, .int v58), (4, .int r42), (0, .ref h), (1, .int p1), (2, .int p2), (3, .int p3)]) hx hb dX12_surest_59 hl (by decide) rfl (fun ls hl => ?_)
        refine lv_iconst (v := (1 : Int32)) hx hb dX12_surest_61 (by decide) ?_
        refine lv_istore (lv' := [(6, .int (1 : Int32)), (5, .int v58), (4, .int r42), (0, .ref h), (1, .int p1), (2, .int p2), (3, .int p3)]) hx hb dX12_surest_62 hl (by decide) rfl (fun ls hl => ?_)
        refine lv_iconst (v := (0 : Int32)) hx hb dX12_surest_64 (by decide) ?_
        refine lv_istore (lv' := [(7, .int (0 : Int32)), (6, .int (1 : Int32)), (5, .int v58), (4, .int r42), (0, .ref h), (1, .int p1), (2, .int p2), (3, .int p3)]) hx hb dX12_surest_65 hl (by decide) rfl (fun ls hl => ?_)
        exact b67 N v_named_36 v_values_36 v_truth_36 v_likely_36 v_safe_36 p2 p3 r42 v58 (1 : Int32) (0 : Int32) _ _ _ hf hP hD hS (lv_sub hl [4, 6, 7, 3, 2, 1, 0] rfl)
theorem dX12_spread_0 : decode cX12_spread 0 = .ok (.iload_n 1, 1) := by decide +kernel
theorem dX12_spread_1 : decode cX12_spread 1 = .ok (.istore_n 3, 1) := by decide +kernel
theorem dX12_spread_2 : decode cX12_spread 2 = .ok (.iconst 0, 1) := by decide +kernel
theorem dX12_spread_3 : decode cX12_spread 3 = .ok (.istore 4, 2) := by decide +kernel
theorem dX12_spread_5 : decode cX12_spread 5 = .ok (.iload 4, 2) := by decide +kernel
theorem dX12_spread_7 : decode cX12_spread 7 = .ok (.aload_n 0, 1) := by decide +kernel
theorem dX12_spread_8 : decode cX12_spread 8 = .ok (.getfield 7, 3) := by decide +kernel
theorem dX12_spread_11 : decode cX12_spread 11 = .ok (.iconst 0, 1) := by decide +kernel
theorem dX12_spread_12 : decode cX12_spread 12 = .ok (.iaload, 1) := by decide +kernel
theorem dX12_spread_13 : decode cX12_spread 13 = .ok (.if_icmp .ge 31, 3) := by decide +kernel
theorem dX12_spread_16 : decode cX12_spread 16 = .ok (.iload_n 1, 1) := by decide +kernel
theorem dX12_spread_17 : decode cX12_spread 17 = .ok (.iload 4, 2) := by decide +kernel
theorem dX12_spread_19 : decode cX12_spread 19 = .ok (.invokestatic 78, 3) := by decide +kernel
theorem dX12_spread_22 : decode cX12_spread 22 = .ok (.ifCond .eq 16, 3) := by decide +kernel
theorem dX12_spread_25 : decode cX12_spread 25 = .ok (.iload_n 3, 1) := by decide +kernel
theorem dX12_spread_26 : decode cX12_spread 26 = .ok (.aload_n 0, 1) := by decide +kernel
theorem dX12_spread_27 : decode cX12_spread 27 = .ok (.getfield 7, 3) := by decide +kernel
theorem dX12_spread_30 : decode cX12_spread 30 = .ok (.bipush 88, 2) := by decide +kernel
theorem dX12_spread_32 : decode cX12_spread 32 = .ok (.iload 4, 2) := by decide +kernel
theorem dX12_spread_34 : decode cX12_spread 34 = .ok (.iadd, 1) := by decide +kernel
theorem dX12_spread_35 : decode cX12_spread 35 = .ok (.iaload, 1) := by decide +kernel
theorem dX12_spread_36 : decode cX12_spread 36 = .ok (.ior, 1) := by decide +kernel
theorem dX12_spread_37 : decode cX12_spread 37 = .ok (.istore_n 3, 1) := by decide +kernel
theorem dX12_spread_38 : decode cX12_spread 38 = .ok (.iinc 4 1, 3) := by decide +kernel
theorem dX12_spread_41 : decode cX12_spread 41 = .ok (.goto (-36), 3) := by decide +kernel
theorem dX12_spread_44 : decode cX12_spread 44 = .ok (.iload_n 3, 1) := by decide +kernel
theorem dX12_spread_45 : decode cX12_spread 45 = .ok (.iload_n 2, 1) := by decide +kernel
theorem dX12_spread_46 : decode cX12_spread 46 = .ok (.iconst (-1), 1) := by decide +kernel
theorem dX12_spread_47 : decode cX12_spread 47 = .ok (.ixor, 1) := by decide +kernel
theorem dX12_spread_48 : decode cX12_spread 48 = .ok (.iand, 1) := by decide +kernel
theorem dX12_spread_49 : decode cX12_spread 49 = .ok (.ireturn, 1) := by decide +kernel
def f_X12_spread_38 (N : Nat) (k_5 : (Nat → Int32) → Int32 → Int32 → Int32 → Int32 → Option (Int32)) (v_a : Nat → Int32) (x1 : Int32) (x2 : Int32) (x3 : Int32) (x4 : Int32) : Option (Int32) := k_5 v_a x1 x2 x3 (x4 + (1 : Int32))
def f_X12_spread_5 (N : Nat) : Nat → (Nat → Int32) → Int32 → Int32 → Int32 → Int32 → Option (Int32)
  | 0, _, _, _, _, _ => none
  | n + 1, v_a, x1, x2, x3, x4 => gA v_a 8762 (0 : Int32) fun v12 => if v12 ≤ x4 then (some (x3 &&& (x2 ^^^ (-1 : Int32)))) else (ob1 (f_X12_isWith N x1 x4) fun r19 => if r19 = 0 then (f_X12_spread_38 N (f_X12_spread_5 N n) v_a x1 x2 x3 x4) else (gA v_a 8762 ((88 : Int32) + x4) fun v35 => f_X12_spread_38 N (f_X12_spread_5 N n) v_a x1 x2 (x3 ||| v35) x4))
def f_X12_spread (N : Nat) (v_a : Nat → Int32) (p1 : Int32) (p2 : Int32) : Option (Int32) := f_X12_spread_5 N N v_a p1 p2 p1 (0 : Int32)
set_option maxHeartbeats 4000000 in
set_option maxRecDepth 100000 in
theorem k_X12_spread (l : Launch) (N : Nat) (D : va_G) (cI cJ cZ cB cT : ClassId) (h : Nat) (q : Nat → Nat) (v_a : Nat → Int32) (v_image : Nat → Int32) (v_texts : Nat → Int32) (v_tape : Nat → Int32) (v_taped : Int32) (v_fault : Int32) (v_faultPlace : Int32) (v_at : Int32) (v_place : Int32) (v_token : Int32) (v_number : Int32) (v_word : Int64) (v_text0 : Int32) (v_written : Int32) (v_sort0 : Int32) (v_pile : Nat → Int32) (v_piled : Int32) (v_opens : Int32) (v_isWhole : Int32) (v_once : Int32) (v_named : Nat → Int32) (v_values : Nat → Int64) (v_truth : Nat → Int32) (v_isWritten : Int32) (v_died : Int32) (v_aside : Nat → Int32) (v_likely : Nat → Int32) (v_safe : Nat → Int32) (v_headOf : Nat → Int32) (p1 : Int32) (p2 : Int32) (o_r : Int32) (hf : f_X12_spread N v_a p1 p2 = some o_r) : ∀ sz, Met l yX12_spread (mw yX12_spread cX12_spread 5 (some .int)) ({ frames := 1, cells := 0, slots := 0, locals := 21 } : Room) (mPre D (mT cI cJ cZ cB cT) (WM h q cI cJ cZ v_a v_image v_texts v_tape v_taped v_fault v_faultPlace v_at v_place v_token v_number v_word v_text0 v_written v_sort0 v_pile v_piled v_opens v_isWhole v_once v_named v_values v_truth v_isWritten v_died v_aside v_likely v_safe v_headOf) sz [.ref h, .int p1, .int p2]) ((mQi D (WM h q cI cJ cZ v_a v_image v_texts v_tape v_taped v_fault v_faultPlace v_at v_place v_token v_number v_word v_text0 v_written v_sort0 v_pile v_piled v_opens v_isWhole v_once v_named v_values v_truth v_isWritten v_died v_aside v_likely v_safe v_headOf) o_r True) (va_A (WM h q cI cJ cZ v_a v_image v_texts v_tape v_taped v_fault v_faultPlace v_at v_place v_token v_number v_word v_text0 v_written v_sort0 v_pile v_piled v_opens v_isWhole v_once v_named v_values v_truth v_isWritten v_died v_aside v_likely v_safe v_headOf) sz)) 0 0 (va_A (WM h q cI cJ cZ v_a v_image v_texts v_tape v_taped v_fault v_faultPlace v_at v_place v_token v_number v_word v_text0 v_written v_sort0 v_pile v_piled v_opens v_isWhole v_once v_named v_values v_truth v_isWritten v_died v_aside v_likely v_safe v_headOf) sz) := by
  refine mMet (Qc := (mQi D (WM h q cI cJ cZ v_a v_image v_texts v_tape v_taped v_fault v_faultPlace v_at v_place v_token v_number v_word v_text0 v_written v_sort0 v_pile v_piled v_opens v_isWhole v_once v_named v_values v_truth v_isWritten v_died v_aside v_likely v_safe v_headOf) o_r True)) (by decide) (Nat.le_of_ble_eq_true rfl) (fun p e s m below meth c A ls hx hb hr hml hts hown hlocks hK hA hP hD hl => ?_)
  have hown : s.vm.findClass RX12 = some m.cls := hown
  have hl : lv_has ls 5 [(0, .ref h), (1, .int p1), (2, .int p2)] := hl
  have hS : va_S A s.heap s.heap [] := va_S.rf
  have b5 : ∀ n5 : Nat, ∀ (x1 : Int32) (x2 : Int32) (x3 : Int32) (x4 : Int32) (H : Heap) (locs : List Loc) (ls : Array Slot), f_X12_spread_5 N n5 v_a x1 x2 x3 x4 = some o_r → va_P D vwCl (WM h q cI cJ cZ v_a v_image v_texts v_tape v_taped v_fault v_faultPlace v_at v_place v_token v_number v_word v_text0 v_written v_sort0 v_pile v_piled v_opens v_isWhole v_once v_named v_values v_truth v_isWritten v_died v_aside v_likely v_safe v_headOf) H → va_D A (WM h q cI cJ cZ v_a v_image v_texts v_tape v_taped v_fault v_faultPlace v_at v_place v_token v_number v_word v_text0 v_written v_sort0 v_pile v_piled v_opens v_isWhole v_once v_named v_values v_truth v_isWritten v_died v_aside v_likely v_safe v_headOf) → va_S A s.heap H locs → lv_has ls 5 [(0, .ref h), (1, .int x1), (2, .int x2), (3, .int x3), (4, .int x4)] → W p l e ({ frames := 1, cells := 0, slots := 0, locals := 21 } : Room) s m ([.ref h, .int p1, .int p2] : List Value).toArray below meth c H locs 0 0 (MQ below ((mQi D (WM h q cI cJ cZ v_a v_image v_texts v_tape v_taped v_fault v_faultPlace v_at v_place v_token v_number v_word v_text0 v_written v_sort0 v_pile v_piled v_opens v_isWhole v_once v_named v_values v_truth v_isWritten v_died v_aside v_likely v_safe v_headOf) o_r True) A) ([.ref h, .int p1, .int p2] : List Value).toArray s 0 0 A) (F0 m 5 ls []) := by
    intro n5
    induction n5 with
    | zero =>
      intro x1 x2 x3 x4 H locs ls hf hP hD hS hl
      simp [f_X12_spread_5] at hf
    | succ n5 ih5 =>
      have b38 : ∀ (x1 : Int32) (x2 : Int32) (x3 : Int32) (x4 : Int32) (H : Heap) (locs : List Loc) (ls : Array Slot), f_X12_spread_38 N (f_X12_spread_5 N n5) v_a x1 x2 x3 x4 = some o_r → va_P D vwCl (WM h q cI cJ cZ v_a v_image v_texts v_tape v_taped v_fault v_faultPlace v_at v_place v_token v_number v_word v_text0 v_written v_sort0 v_pile v_piled v_opens v_isWhole v_once v_named v_values v_truth v_isWritten v_died v_aside v_likely v_safe v_headOf) H → va_D A (WM h q cI cJ cZ v_a v_image v_texts v_tape v_taped v_fault v_faultPlace v_at v_place v_token v_number v_word v_text0 v_written v_sort0 v_pile v_piled v_opens v_isWhole v_once v_named v_values v_truth v_isWritten v_died v_aside v_likely v_safe v_headOf) → va_S A s.heap H locs → lv_has ls 5 [(0, .ref h), (1, .int x1), (2, .int x2), (3, .int x3), (4, .int x4)] → W p l e ({ frames := 1, cells := 0, slots := 0, locals := 21 } : Room) s m ([.ref h, .int p1, .int p2] : List Value).toArray below meth c H locs 0 0 (MQ below ((mQi D (WM h q cI cJ cZ v_a v_image v_texts v_tape v_taped v_fault v_faultPlace v_at v_place v_token v_number v_word v_text0 v_written v_sort0 v_pile v_piled v_opens v_isWhole v_once v_named v_values v_truth v_isWritten v_died v_aside v_likely v_safe v_headOf) o_r True) A) ([.ref h, .int p1, .int p2] : List Value).toArray s 0 0 A) (F0 m 38 ls []) := by
        intro x1 x2 x3 x4 H locs ls hf hP hD hS hl
        unfold f_X12_spread_38 at hf
        refine lv_iinc (v := (x4 + (1 : Int32))) (lv' := [(4, .int (x4 + (1 : Int32))), (0, .ref h), (1, .int x1), (2, .int x2), (3, .int x3)]) hx hb dX12_spread_38 hl (k := 4) rfl rfl (by decide) rfl (fun ls hl => ?_)
        refine lv_goto (tgt := 5) hx hb dX12_spread_41 (by decide) ?_
        exact ih5 x1 x2 x3 (x4 + (1 : Int32)) _ _ _ hf hP hD hS (lv_sub hl [1, 2, 3, 4, 0] rfl)
      intro x1 x2 x3 x4 H locs ls hf hP hD hS hl
      rw [f_X12_spread_5.eq_2] at hf
      refine lv_iload hx hb dX12_spread_5 (lv_at hl 4 rfl) ?_
      refine lv_aload_n hx hb dX12_spread_7 rfl (lv_at hl 0 rfl) ?_
      refine gfX12_7 hx hb hts hown hK hP 0 rfl rfl dX12_spread_8 ?_
      refine lv_iconst (v := (0 : Int32)) hx hb dX12_spread_11 (by decide) ?_
      refine xiald hx hb hK hP 1 0 rfl rfl dX12_spread_12 hf (fun v12 hf => ?_)
      refine xicmp_ge hx hb 44 dX12_spread_13 (by decide) hf (fun hf => ?_) (fun hf => ?_)
      · refine lv_iload_n hx hb dX12_spread_44 rfl (lv_at hl 3 rfl) ?_
        refine lv_iload_n hx hb dX12_spread_45 rfl (lv_at hl 2 rfl) ?_
        refine lv_iconst (v := (-1 : Int32)) hx hb dX12_spread_46 (by decide) ?_
        refine lv_ixor hx hb dX12_spread_47 ?_
        refine lv_iand hx hb dX12_spread_48 ?_
        cases hf
        exact mret_i hx hb hr hlocks hP hD hS dX12_spread_49 rfl trivial
      · refine lv_iload_n hx hb dX12_spread_16 rfl (lv_at hl 1 rfl) ?_
        refine lv_iload hx hb dX12_spread_17 (lv_at hl 4 rfl) ?_
        obtain ⟨r19, hg19, hf⟩ := ob1_some hf
        refine mcS0_i (As := [.int x1, .int x4]) (rest := []) hx hb hml hown hts hK hP hD hS hA (k_X12_isWith l N D cI cJ cZ cB cT x1 x4 r19 hg19) (kwX12_78 hts rfl rfl ⟨Nat.le_of_ble_eq_true rfl, Nat.le_of_ble_eq_true rfl⟩) rfl hl.1 rfl (Nat.le_of_ble_eq_true rfl) dX12_spread_19 ⟨Nat.zero_le _, Nat.zero_le _⟩ (fun hB19 H locs hP hD hS => ?_)
        refine xif_eq hx hb 38 dX12_spread_22 (by decide) hf (fun hf => ?_) (fun hf => ?_)
        · exact b38 x1 x2 x3 x4 _ _ _ hf hP hD hS (lv_sub hl [0, 1, 2, 3, 4] rfl)
        · refine lv_iload_n hx hb dX12_spread_25 rfl (lv_at hl 3 rfl) ?_
          refine lv_aload_n hx hb dX12_spread_26 rfl (lv_at hl 0 rfl) ?_
          refine gfX12_7 hx hb hts hown hK hP 0 rfl rfl dX12_spread_27 ?_
          refine lv_bipush (v := (88 : Int32)) hx hb dX12_spread_30 (by decide) ?_
          refine lv_iload hx hb dX12_spread_32 (lv_at hl 4 rfl) ?_
          refine lv_iadd hx hb dX12_spread_34 ?_
          refine xiald hx hb hK hP 1 0 rfl rfl dX12_spread_35 hf (fun v35 hf => ?_)
          refine lv_ior hx hb dX12_spread_36 ?_
          refine lv_istore_n (lv' := [(3, .int (x3 ||| v35)), (0, .ref h), (1, .int x1), (2, .int x2), (4, .int x4)]) hx hb dX12_spread_37 rfl hl (by decide) rfl (fun ls hl => ?_)
          exact b38 x1 x2 (x3 ||| v35) x4 _ _ _ hf hP hD hS (lv_sub hl [1, 2, 3, 0, 4] rfl)
  unfold f_X12_spread at hf
  refine lv_iload_n hx hb dX12_spread_0 rfl (lv_at hl 1 rfl) ?_
  refine lv_istore_n (lv' := [(3, .int p1), (0, .ref h), (1, .int p1), (2, .int p2)]) hx hb dX12_spread_1 rfl hl (by decide) rfl (fun ls hl => ?_)
  refine lv_iconst (v := (0 : Int32)) hx hb dX12_spread_2 (by decide) ?_
  refine lv_istore (lv' := [(4, .int (0 : Int32)), (3, .int p1), (0, .ref h), (1, .int p1), (2, .int p2)]) hx hb dX12_spread_3 hl (by decide) rfl (fun ls hl => ?_)
  exact b5 N p1 p2 p1 (0 : Int32) _ _ _ hf hP hD hS (lv_sub hl [2, 3, 4, 1, 0] rfl)
theorem dX12_steps_0 : decode cX12_steps 0 = .ok (.aload_n 0, 1) := by decide +kernel
theorem dX12_steps_1 : decode cX12_steps 1 = .ok (.iload_n 1, 1) := by decide +kernel
theorem dX12_steps_2 : decode cX12_steps 2 = .ok (.invokevirtual 75, 3) := by decide +kernel
theorem dX12_steps_5 : decode cX12_steps 5 = .ok (.ifCond .eq 11, 3) := by decide +kernel
theorem dX12_steps_8 : decode cX12_steps 8 = .ok (.aload_n 0, 1) := by decide +kernel
theorem dX12_steps_9 : decode cX12_steps 9 = .ok (.iload_n 2, 1) := by decide +kernel
theorem dX12_steps_10 : decode cX12_steps 10 = .ok (.invokevirtual 75, 3) := by decide +kernel
theorem dX12_steps_13 : decode cX12_steps 13 = .ok (.ifCond .ne 5, 3) := by decide +kernel
theorem dX12_steps_16 : decode cX12_steps 16 = .ok (.iconst (-1), 1) := by decide +kernel
theorem dX12_steps_17 : decode cX12_steps 17 = .ok (.ireturn, 1) := by decide +kernel
theorem dX12_steps_18 : decode cX12_steps 18 = .ok (.iconst 1, 1) := by decide +kernel
theorem dX12_steps_19 : decode cX12_steps 19 = .ok (.iload_n 1, 1) := by decide +kernel
theorem dX12_steps_20 : decode cX12_steps 20 = .ok (.ishl, 1) := by decide +kernel
theorem dX12_steps_21 : decode cX12_steps 21 = .ok (.istore_n 3, 1) := by decide +kernel
theorem dX12_steps_22 : decode cX12_steps 22 = .ok (.iconst 0, 1) := by decide +kernel
theorem dX12_steps_23 : decode cX12_steps 23 = .ok (.istore 4, 2) := by decide +kernel
theorem dX12_steps_25 : decode cX12_steps 25 = .ok (.iload 4, 2) := by decide +kernel
theorem dX12_steps_27 : decode cX12_steps 27 = .ok (.bipush 8, 2) := by decide +kernel
theorem dX12_steps_29 : decode cX12_steps 29 = .ok (.if_icmp .ge 27, 3) := by decide +kernel
theorem dX12_steps_32 : decode cX12_steps 32 = .ok (.iload_n 3, 1) := by decide +kernel
theorem dX12_steps_33 : decode cX12_steps 33 = .ok (.iload_n 2, 1) := by decide +kernel
theorem dX12_steps_34 : decode cX12_steps 34 = .ok (.invokestatic 78, 3) := by decide +kernel
theorem dX12_steps_37 : decode cX12_steps 37 = .ok (.ifCond .eq 6, 3) := by decide +kernel
theorem dX12_steps_40 : decode cX12_steps 40 = .ok (.iload 4, 2) := by decide +kernel
theorem dX12_steps_42 : decode cX12_steps 42 = .ok (.ireturn, 1) := by decide +kernel
theorem dX12_steps_43 : decode cX12_steps 43 = .ok (.aload_n 0, 1) := by decide +kernel
theorem dX12_steps_44 : decode cX12_steps 44 = .ok (.iload_n 3, 1) := by decide +kernel
theorem dX12_steps_45 : decode cX12_steps 45 = .ok (.iconst 0, 1) := by decide +kernel
theorem dX12_steps_46 : decode cX12_steps 46 = .ok (.invokevirtual 451, 3) := by decide +kernel
theorem dX12_steps_49 : decode cX12_steps 49 = .ok (.istore_n 3, 1) := by decide +kernel
theorem dX12_steps_50 : decode cX12_steps 50 = .ok (.iinc 4 1, 3) := by decide +kernel
theorem dX12_steps_53 : decode cX12_steps 53 = .ok (.goto (-28), 3) := by decide +kernel
theorem dX12_steps_56 : decode cX12_steps 56 = .ok (.iconst (-1), 1) := by decide +kernel
theorem dX12_steps_57 : decode cX12_steps 57 = .ok (.ireturn, 1) := by decide +kernel
def f_X12_steps_25 (N : Nat) : Nat → (Nat → Int32) → Int32 → Int32 → Int32 → Option (Int32)
  | 0, _, _, _, _ => none
  | n + 1, v_a, x2, x3, x4 => if (8 : Int32) ≤ x4 then (some (-1 : Int32)) else (ob1 (f_X12_isWith N x3 x2) fun r34 => if r34 = 0 then (ob1 (f_X12_spread N v_a x3 (0 : Int32)) fun r46 => (f_X12_steps_25 N n) v_a x2 r46 (x4 + (1 : Int32))) else (some x4))
def f_X12_steps (N : Nat) (v_a : Nat → Int32) (p1 : Int32) (p2 : Int32) : Option (Int32) := ob1 (f_X12_isLand N v_a p1) fun r2 => if r2 = 0 then (some (-1 : Int32)) else (ob1 (f_X12_isLand N v_a p2) fun r10 => if r10 = 0 then (some (-1 : Int32)) else (f_X12_steps_25 N N v_a p2 ((1 : Int32) <<< (p1 &&& 31)) (0 : Int32)))
set_option maxHeartbeats 4000000 in
set_option maxRecDepth 100000 in
theorem k_X12_steps (l : Launch) (N : Nat) (D : va_G) (cI cJ cZ cB cT : ClassId) (h : Nat) (q : Nat → Nat) (v_a : Nat → Int32) (v_image : Nat → Int32) (v_texts : Nat → Int32) (v_tape : Nat → Int32) (v_taped : Int32) (v_fault : Int32) (v_faultPlace : Int32) (v_at : Int32) (v_place : Int32) (v_token : Int32) (v_number : Int32) (v_word : Int64) (v_text0 : Int32) (v_written : Int32) (v_sort0 : Int32) (v_pile : Nat → Int32) (v_piled : Int32) (v_opens : Int32) (v_isWhole : Int32) (v_once : Int32) (v_named : Nat → Int32) (v_values : Nat → Int64) (v_truth : Nat → Int32) (v_isWritten : Int32) (v_died : Int32) (v_aside : Nat → Int32) (v_likely : Nat → Int32) (v_safe : Nat → Int32) (v_headOf : Nat → Int32) (p1 : Int32) (p2 : Int32) (o_r : Int32) (hf : f_X12_steps N v_a p1 p2 = some o_r) : ∀ sz, Met l yX12_steps (mw yX12_steps cX12_steps 5 (some .int)) ({ frames := 2, cells := 0, slots := 0, locals := 45 } : Room) (mPre D (mT cI cJ cZ cB cT) (WM h q cI cJ cZ v_a v_image v_texts v_tape v_taped v_fault v_faultPlace v_at v_place v_token v_number v_word v_text0 v_written v_sort0 v_pile v_piled v_opens v_isWhole v_once v_named v_values v_truth v_isWritten v_died v_aside v_likely v_safe v_headOf) sz [.ref h, .int p1, .int p2]) ((mQi D (WM h q cI cJ cZ v_a v_image v_texts v_tape v_taped v_fault v_faultPlace v_at v_place v_token v_number v_word v_text0 v_written v_sort0 v_pile v_piled v_opens v_isWhole v_once v_named v_values v_truth v_isWritten v_died v_aside v_likely v_safe v_headOf) o_r True) (va_A (WM h q cI cJ cZ v_a v_image v_texts v_tape v_taped v_fault v_faultPlace v_at v_place v_token v_number v_word v_text0 v_written v_sort0 v_pile v_piled v_opens v_isWhole v_once v_named v_values v_truth v_isWritten v_died v_aside v_likely v_safe v_headOf) sz)) 0 0 (va_A (WM h q cI cJ cZ v_a v_image v_texts v_tape v_taped v_fault v_faultPlace v_at v_place v_token v_number v_word v_text0 v_written v_sort0 v_pile v_piled v_opens v_isWhole v_once v_named v_values v_truth v_isWritten v_died v_aside v_likely v_safe v_headOf) sz) := by
  refine mMet (Qc := (mQi D (WM h q cI cJ cZ v_a v_image v_texts v_tape v_taped v_fault v_faultPlace v_at v_place v_token v_number v_word v_text0 v_written v_sort0 v_pile v_piled v_opens v_isWhole v_once v_named v_values v_truth v_isWritten v_died v_aside v_likely v_safe v_headOf) o_r True)) (by decide) (Nat.le_of_ble_eq_true rfl) (fun p e s m below meth c A ls hx hb hr hml hts hown hlocks hK hA hP hD hl => ?_)
  have hown : s.vm.findClass RX12 = some m.cls := hown
  have hl : lv_has ls 5 [(0, .ref h), (1, .int p1), (2, .int p2)] := hl
  have hS : va_S A s.heap s.heap [] := va_S.rf
  have b25 : ∀ n25 : Nat, ∀ (x2 : Int32) (x3 : Int32) (x4 : Int32) (H : Heap) (locs : List Loc) (ls : Array Slot), f_X12_steps_25 N n25 v_a x2 x3 x4 = some o_r → va_P D vwCl (WM h q cI cJ cZ v_a v_image v_texts v_tape v_taped v_fault v_faultPlace v_at v_place v_token v_number v_word v_text0 v_written v_sort0 v_pile v_piled v_opens v_isWhole v_once v_named v_values v_truth v_isWritten v_died v_aside v_likely v_safe v_headOf) H → va_D A (WM h q cI cJ cZ v_a v_image v_texts v_tape v_taped v_fault v_faultPlace v_at v_place v_token v_number v_word v_text0 v_written v_sort0 v_pile v_piled v_opens v_isWhole v_once v_named v_values v_truth v_isWritten v_died v_aside v_likely v_safe v_headOf) → va_S A s.heap H locs → lv_has ls 5 [(0, .ref h), (2, .int x2), (3, .int x3), (4, .int x4)] → W p l e ({ frames := 2, cells := 0, slots := 0, locals := 45 } : Room) s m ([.ref h, .int p1, .int p2] : List Value).toArray below meth c H locs 0 0 (MQ below ((mQi D (WM h q cI cJ cZ v_a v_image v_texts v_tape v_taped v_fault v_faultPlace v_at v_place v_token v_number v_word v_text0 v_written v_sort0 v_pile v_piled v_opens v_isWhole v_once v_named v_values v_truth v_isWritten v_died v_aside v_likely v_safe v_headOf) o_r True) A) ([.ref h, .int p1, .int p2] : List Value).toArray s 0 0 A) (F0 m 25 ls []) := by
    intro n25
    induction n25 with
    | zero =>
      intro x2 x3 x4 H locs ls hf hP hD hS hl
      simp [f_X12_steps_25] at hf
    | succ n25 ih25 =>
      intro x2 x3 x4 H locs ls hf hP hD hS hl
      rw [f_X12_steps_25.eq_2] at hf
      refine lv_iload hx hb dX12_steps_25 (lv_at hl 3 rfl) ?_
      refine lv_bipush (v := (8 : Int32)) hx hb dX12_steps_27 (by decide) ?_
      refine xicmp_ge hx hb 56 dX12_steps_29 (by decide) hf (fun hf => ?_) (fun hf => ?_)
      · refine lv_iconst (v := (-1 : Int32)) hx hb dX12_steps_56 (by decide) ?_
        cases hf
        exact mret_i hx hb hr hlocks hP hD hS dX12_steps_57 rfl trivial
      · refine lv_iload_n hx hb dX12_steps_32 rfl (lv_at hl 2 rfl) ?_
        refine lv_iload_n hx hb dX12_steps_33 rfl (lv_at hl 1 rfl) ?_
        obtain ⟨r34, hg34, hf⟩ := ob1_some hf
        refine mcS0_i (As := [.int x3, .int x2]) (rest := []) hx hb hml hown hts hK hP hD hS hA (k_X12_isWith l N D cI cJ cZ cB cT x3 x2 r34 hg34) (kwX12_78 hts rfl rfl ⟨Nat.le_of_ble_eq_true rfl, Nat.le_of_ble_eq_true rfl⟩) rfl hl.1 rfl (Nat.le_of_ble_eq_true rfl) dX12_steps_34 ⟨Nat.zero_le _, Nat.zero_le _⟩ (fun hB34 H locs hP hD hS => ?_)
        refine xif_eq hx hb 43 dX12_steps_37 (by decide) hf (fun hf => ?_) (fun hf => ?_)
        · refine lv_aload_n hx hb dX12_steps_43 rfl (lv_at hl 0 rfl) ?_
          refine lv_iload_n hx hb dX12_steps_44 rfl (lv_at hl 2 rfl) ?_
          refine lv_iconst (v := (0 : Int32)) hx hb dX12_steps_45 (by decide) ?_
          obtain ⟨r46, hg46, hf⟩ := ob1_some hf
          refine mcV1_i (As := [.int x3, .int (0 : Int32)]) (rest := []) hx hb hml hown hts hK hP hD hS hA (k_X12_spread l N D cI cJ cZ cB cT h q v_a v_image v_texts v_tape v_taped v_fault v_faultPlace v_at v_place v_token v_number v_word v_text0 v_written v_sort0 v_pile v_piled v_opens v_isWhole v_once v_named v_values v_truth v_isWritten v_died v_aside v_likely v_safe v_headOf x3 (0 : Int32) r46 hg46) (kwX12_451 hts rfl rfl ⟨Nat.le_of_ble_eq_true rfl, Nat.le_of_ble_eq_true rfl⟩) 0 rfl rfl rfl rfl hl.1 rfl (Nat.le_of_ble_eq_true rfl) dX12_steps_46 ⟨Nat.zero_le _, Nat.zero_le _⟩ (fun hB46 H locs hP hD hS => ?_)
          have hP : va_P D vwCl (WM h q cI cJ cZ v_a v_image v_texts v_tape v_taped v_fault v_faultPlace v_at v_place v_token v_number v_word v_text0 v_written v_sort0 v_pile v_piled v_opens v_isWhole v_once v_named v_values v_truth v_isWritten v_died v_aside v_likely v_safe v_headOf) H := hP
          have hD : va_D A (WM h q cI cJ cZ v_a v_image v_texts v_tape v_taped v_fault v_faultPlace v_at v_place v_token v_number v_word v_text0 v_written v_sort0 v_pile v_piled v_opens v_isWhole v_once v_named v_values v_truth v_isWritten v_died v_aside v_likely v_safe v_headOf) := hD
          refine lv_istore_n (lv' := [(3, .int r46), (0, .ref h), (2, .int x2), (4, .int x4)]) hx hb dX12_steps_49 rfl hl (by decide) rfl (fun ls hl => ?_)
          refine lv_iinc (v := (x4 + (1 : Int32))) (lv' := [(4, .int (x4 + (1 : Int32))), (3, .int r46), (0, .ref h), (2, .int x2)]) hx hb dX12_steps_50 hl (k := 3) rfl rfl (by decide) rfl (fun ls hl => ?_)
          refine lv_goto (tgt := 25) hx hb dX12_steps_53 (by decide) ?_
          exact ih25 x2 r46 (x4 + (1 : Int32)) _ _ _ hf hP hD hS (lv_sub hl [2, 3, 1, 0] rfl)
        · refine lv_iload hx hb dX12_steps_40 (lv_at hl 3 rfl) ?_
          cases hf
          exact mret_i hx hb hr hlocks hP hD hS dX12_steps_42 rfl trivial
  unfold f_X12_steps at hf
  refine lv_aload_n hx hb dX12_steps_0 rfl (lv_at hl 0 rfl) ?_
  refine lv_iload_n hx hb dX12_steps_1 rfl (lv_at hl 1 rfl) ?_
  obtain ⟨r2, hg2, hf⟩ := ob1_some hf
  refine mcV1_i (As := [.int p1]) (rest := []) hx hb hml hown hts hK hP hD hS hA (k_X12_isLand l N D cI cJ cZ cB cT h q v_a v_image v_texts v_tape v_taped v_fault v_faultPlace v_at v_place v_token v_number v_word v_text0 v_written v_sort0 v_pile v_piled v_opens v_isWhole v_once v_named v_values v_truth v_isWritten v_died v_aside v_likely v_safe v_headOf p1 r2 hg2) (kwX12_75 hts rfl rfl ⟨Nat.le_of_ble_eq_true rfl, Nat.le_of_ble_eq_true rfl⟩) 0 rfl rfl rfl rfl hl.1 rfl (Nat.le_of_ble_eq_true rfl) dX12_steps_2 ⟨Nat.zero_le _, Nat.zero_le _⟩ (fun hB2 H locs hP hD hS => ?_)
  have hP : va_P D vwCl (WM h q cI cJ cZ v_a v_image v_texts v_tape v_taped v_fault v_faultPlace v_at v_place v_token v_number v_word v_text0 v_written v_sort0 v_pile v_piled v_opens v_isWhole v_once v_named v_values v_truth v_isWritten v_died v_aside v_likely v_safe v_headOf) H := hP
  have hD : va_D A (WM h q cI cJ cZ v_a v_image v_texts v_tape v_taped v_fault v_faultPlace v_at v_place v_token v_number v_word v_text0 v_written v_sort0 v_pile v_piled v_opens v_isWhole v_once v_named v_values v_truth v_isWritten v_died v_aside v_likely v_safe v_headOf) := hD
  refine xif_eq hx hb 16 dX12_steps_5 (by decide) hf (fun hf => ?_) (fun hf => ?_)
  · refine lv_iconst (v := (-1 : Int32)) hx hb dX12_steps_16 (by decide) ?_
    cases hf
    exact mret_i hx hb hr hlocks hP hD hS dX12_steps_17 rfl trivial
  · refine lv_aload_n hx hb dX12_steps_8 rfl (lv_at hl 0 rfl) ?_
    refine lv_iload_n hx hb dX12_steps_9 rfl (lv_at hl 2 rfl) ?_
    obtain ⟨r10, hg10, hf⟩ := ob1_some hf
    refine mcV1_i (As := [.int p2]) (rest := []) hx hb hml hown hts hK hP hD hS hA (k_X12_isLand l N D cI cJ cZ cB cT h q v_a v_image v_texts v_tape v_taped v_fault v_faultPlace v_at v_place v_token v_number v_word v_text0 v_written v_sort0 v_pile v_piled v_opens v_isWhole v_once v_named v_values v_truth v_isWritten v_died v_aside v_likely v_safe v_headOf p2 r10 hg10) (kwX12_75 hts rfl rfl ⟨Nat.le_of_ble_eq_true rfl, Nat.le_of_ble_eq_true rfl⟩) 0 rfl rfl rfl rfl hl.1 rfl (Nat.le_of_ble_eq_true rfl) dX12_steps_10 ⟨Nat.zero_le _, Nat.zero_le _⟩ (fun hB10 H locs hP hD hS => ?_)
    have hP : va_P D vwCl (WM h q cI cJ cZ v_a v_image v_texts v_tape v_taped v_fault v_faultPlace v_at v_place v_token v_number v_word v_text0 v_written v_sort0 v_pile v_piled v_opens v_isWhole v_once v_named v_values v_truth v_isWritten v_died v_aside v_likely v_safe v_headOf) H := hP
    have hD : va_D A (WM h q cI cJ cZ v_a v_image v_texts v_tape v_taped v_fault v_faultPlace v_at v_place v_token v_number v_word v_text0 v_written v_sort0 v_pile v_piled v_opens v_isWhole v_once v_named v_values v_truth v_isWritten v_died v_aside v_likely v_safe v_headOf) := hD
    refine xif_ne hx hb 18 dX12_steps_13 (by decide) hf (fun hf => ?_) (fun hf => ?_)
    · refine lv_iconst (v := (-1 : Int32)) hx hb dX12_steps_16 (by decide) ?_
      cases hf
      exact mret_i hx hb hr hlocks hP hD hS dX12_steps_17 rfl trivial
    · refine lv_iconst (v := (1 : Int32)) hx hb dX12_steps_18 (by decide) ?_
      refine lv_iload_n hx hb dX12_steps_19 rfl (lv_at hl 1 rfl) ?_
      refine lv_ishl hx hb dX12_steps_20 ?_
      refine lv_istore_n (lv' := [(3, .int ((1 : Int32) <<< (p1 &&& 31))), (0, .ref h), (1, .int p1), (2, .int p2)]) hx hb dX12_steps_21 rfl hl (by decide) rfl (fun ls hl => ?_)
      refine lv_iconst (v := (0 : Int32)) hx hb dX12_steps_22 (by decide) ?_
      refine lv_istore (lv' := [(4, .int (0 : Int32)), (3, .int ((1 : Int32) <<< (p1 &&& 31))), (0, .ref h), (1, .int p1), (2, .int p2)]) hx hb dX12_steps_23 hl (by decide) rfl (fun ls hl => ?_)
      exact b25 N p2 ((1 : Int32) <<< (p1 &&& 31)) (0 : Int32) _ _ _ hf hP hD hS (lv_sub hl [2, 4, 1, 0] rfl)
theorem dX12_unheard_0 : decode cX12_unheard 0 = .ok (.aload_n 0, 1) := by decide +kernel
theorem dX12_unheard_1 : decode cX12_unheard 1 = .ok (.iload_n 1, 1) := by decide +kernel
theorem dX12_unheard_2 : decode cX12_unheard 2 = .ok (.invokevirtual 75, 3) := by decide +kernel
theorem dX12_unheard_5 : decode cX12_unheard 5 = .ok (.ifCond .eq 13, 3) := by decide +kernel
theorem dX12_unheard_8 : decode cX12_unheard 8 = .ok (.iload_n 2, 1) := by decide +kernel
theorem dX12_unheard_9 : decode cX12_unheard 9 = .ok (.iconst 0, 1) := by decide +kernel
theorem dX12_unheard_10 : decode cX12_unheard 10 = .ok (.bipush 9, 2) := by decide +kernel
theorem dX12_unheard_12 : decode cX12_unheard 12 = .ok (.invokestatic 63, 3) := by decide +kernel
theorem dX12_unheard_15 : decode cX12_unheard 15 = .ok (.ifCond .ne 5, 3) := by decide +kernel
theorem dX12_unheard_18 : decode cX12_unheard 18 = .ok (.iconst (-1), 1) := by decide +kernel
theorem dX12_unheard_19 : decode cX12_unheard 19 = .ok (.ireturn, 1) := by decide +kernel
theorem dX12_unheard_20 : decode cX12_unheard 20 = .ok (.iconst 1, 1) := by decide +kernel
theorem dX12_unheard_21 : decode cX12_unheard 21 = .ok (.iload_n 1, 1) := by decide +kernel
theorem dX12_unheard_22 : decode cX12_unheard 22 = .ok (.ishl, 1) := by decide +kernel
theorem dX12_unheard_23 : decode cX12_unheard 23 = .ok (.istore_n 3, 1) := by decide +kernel
theorem dX12_unheard_24 : decode cX12_unheard 24 = .ok (.iconst 0, 1) := by decide +kernel
theorem dX12_unheard_25 : decode cX12_unheard 25 = .ok (.istore 4, 2) := by decide +kernel
theorem dX12_unheard_27 : decode cX12_unheard 27 = .ok (.iload 4, 2) := by decide +kernel
theorem dX12_unheard_29 : decode cX12_unheard 29 = .ok (.iload_n 2, 1) := by decide +kernel
theorem dX12_unheard_30 : decode cX12_unheard 30 = .ok (.if_icmp .ge 16, 3) := by decide +kernel
theorem dX12_unheard_33 : decode cX12_unheard 33 = .ok (.aload_n 0, 1) := by decide +kernel
theorem dX12_unheard_34 : decode cX12_unheard 34 = .ok (.iload_n 3, 1) := by decide +kernel
theorem dX12_unheard_35 : decode cX12_unheard 35 = .ok (.iconst 0, 1) := by decide +kernel
theorem dX12_unheard_36 : decode cX12_unheard 36 = .ok (.invokevirtual 451, 3) := by decide +kernel
theorem dX12_unheard_39 : decode cX12_unheard 39 = .ok (.istore_n 3, 1) := by decide +kernel
theorem dX12_unheard_40 : decode cX12_unheard 40 = .ok (.iinc 4 1, 3) := by decide +kernel
theorem dX12_unheard_43 : decode cX12_unheard 43 = .ok (.goto (-16), 3) := by decide +kernel
theorem dX12_unheard_46 : decode cX12_unheard 46 = .ok (.iconst 1, 1) := by decide +kernel
theorem dX12_unheard_47 : decode cX12_unheard 47 = .ok (.aload_n 0, 1) := by decide +kernel
theorem dX12_unheard_48 : decode cX12_unheard 48 = .ok (.getfield 7, 3) := by decide +kernel
theorem dX12_unheard_51 : decode cX12_unheard 51 = .ok (.iconst 0, 1) := by decide +kernel
theorem dX12_unheard_52 : decode cX12_unheard 52 = .ok (.iaload, 1) := by decide +kernel
theorem dX12_unheard_53 : decode cX12_unheard 53 = .ok (.ishl, 1) := by decide +kernel
theorem dX12_unheard_54 : decode cX12_unheard 54 = .ok (.iconst 1, 1) := by decide +kernel
theorem dX12_unheard_55 : decode cX12_unheard 55 = .ok (.isub, 1) := by decide +kernel
theorem dX12_unheard_56 : decode cX12_unheard 56 = .ok (.iload_n 3, 1) := by decide +kernel
theorem dX12_unheard_57 : decode cX12_unheard 57 = .ok (.iconst (-1), 1) := by decide +kernel
theorem dX12_unheard_58 : decode cX12_unheard 58 = .ok (.ixor, 1) := by decide +kernel
theorem dX12_unheard_59 : decode cX12_unheard 59 = .ok (.iand, 1) := by decide +kernel
theorem dX12_unheard_60 : decode cX12_unheard 60 = .ok (.ireturn, 1) := by decide +kernel
def f_X12_unheard_27 (N : Nat) : Nat → (Nat → Int32) → Int32 → Int32 → Int32 → Option (Int32)
  | 0, _, _, _, _ => none
  | n + 1, v_a, x2, x3, x4 => if x2 ≤ x4 then (gA v_a 8762 (0 : Int32) fun v52 => some ((((1 : Int32) <<< (v52 &&& 31)) - (1 : Int32)) &&& (x3 ^^^ (-1 : Int32)))) else (ob1 (f_X12_spread N v_a x3 (0 : Int32)) fun r36 => (f_X12_unheard_27 N n) v_a x2 r36 (x4 + (1 : Int32)))
def f_X12_unheard (N : Nat) (v_a : Nat → Int32) (p1 : Int32) (p2 : Int32) : Option (Int32) := ob1 (f_X12_isLand N v_a p1) fun r2 => if r2 = 0 then (some (-1 : Int32)) else (ob1 (f_X12_isIn N p2 (0 : Int32) (9 : Int32)) fun r12 => if r12 = 0 then (some (-1 : Int32)) else (f_X12_unheard_27 N N v_a p2 ((1 : Int32) <<< (p1 &&& 31)) (0 : Int32)))
set_option maxHeartbeats 4000000 in
set_option maxRecDepth 100000 in
theorem k_X12_unheard (l : Launch) (N : Nat) (D : va_G) (cI cJ cZ cB cT : ClassId) (h : Nat) (q : Nat → Nat) (v_a : Nat → Int32) (v_image : Nat → Int32) (v_texts : Nat → Int32) (v_tape : Nat → Int32) (v_taped : Int32) (v_fault : Int32) (v_faultPlace : Int32) (v_at : Int32) (v_place : Int32) (v_token : Int32) (v_number : Int32) (v_word : Int64) (v_text0 : Int32) (v_written : Int32) (v_sort0 : Int32) (v_pile : Nat → Int32) (v_piled : Int32) (v_opens : Int32) (v_isWhole : Int32) (v_once : Int32) (v_named : Nat → Int32) (v_values : Nat → Int64) (v_truth : Nat → Int32) (v_isWritten : Int32) (v_died : Int32) (v_aside : Nat → Int32) (v_likely : Nat → Int32) (v_safe : Nat → Int32) (v_headOf : Nat → Int32) (p1 : Int32) (p2 : Int32) (o_r : Int32) (hf : f_X12_unheard N v_a p1 p2 = some o_r) : ∀ sz, Met l yX12_unheard (mw yX12_unheard cX12_unheard 5 (some .int)) ({ frames := 2, cells := 0, slots := 0, locals := 45 } : Room) (mPre D (mT cI cJ cZ cB cT) (WM h q cI cJ cZ v_a v_image v_texts v_tape v_taped v_fault v_faultPlace v_at v_place v_token v_number v_word v_text0 v_written v_sort0 v_pile v_piled v_opens v_isWhole v_once v_named v_values v_truth v_isWritten v_died v_aside v_likely v_safe v_headOf) sz [.ref h, .int p1, .int p2]) ((mQi D (WM h q cI cJ cZ v_a v_image v_texts v_tape v_taped v_fault v_faultPlace v_at v_place v_token v_number v_word v_text0 v_written v_sort0 v_pile v_piled v_opens v_isWhole v_once v_named v_values v_truth v_isWritten v_died v_aside v_likely v_safe v_headOf) o_r True) (va_A (WM h q cI cJ cZ v_a v_image v_texts v_tape v_taped v_fault v_faultPlace v_at v_place v_token v_number v_word v_text0 v_written v_sort0 v_pile v_piled v_opens v_isWhole v_once v_named v_values v_truth v_isWritten v_died v_aside v_likely v_safe v_headOf) sz)) 0 0 (va_A (WM h q cI cJ cZ v_a v_image v_texts v_tape v_taped v_fault v_faultPlace v_at v_place v_token v_number v_word v_text0 v_written v_sort0 v_pile v_piled v_opens v_isWhole v_once v_named v_values v_truth v_isWritten v_died v_aside v_likely v_safe v_headOf) sz) := by
  refine mMet (Qc := (mQi D (WM h q cI cJ cZ v_a v_image v_texts v_tape v_taped v_fault v_faultPlace v_at v_place v_token v_number v_word v_text0 v_written v_sort0 v_pile v_piled v_opens v_isWhole v_once v_named v_values v_truth v_isWritten v_died v_aside v_likely v_safe v_headOf) o_r True)) (by decide) (Nat.le_of_ble_eq_true rfl) (fun p e s m below meth c A ls hx hb hr hml hts hown hlocks hK hA hP hD hl => ?_)
  have hown : s.vm.findClass RX12 = some m.cls := hown
  have hl : lv_has ls 5 [(0, .ref h), (1, .int p1), (2, .int p2)] := hl
  have hS : va_S A s.heap s.heap [] := va_S.rf
  have b27 : ∀ n27 : Nat, ∀ (x2 : Int32) (x3 : Int32) (x4 : Int32) (H : Heap) (locs : List Loc) (ls : Array Slot), f_X12_unheard_27 N n27 v_a x2 x3 x4 = some o_r → va_P D vwCl (WM h q cI cJ cZ v_a v_image v_texts v_tape v_taped v_fault v_faultPlace v_at v_place v_token v_number v_word v_text0 v_written v_sort0 v_pile v_piled v_opens v_isWhole v_once v_named v_values v_truth v_isWritten v_died v_aside v_likely v_safe v_headOf) H → va_D A (WM h q cI cJ cZ v_a v_image v_texts v_tape v_taped v_fault v_faultPlace v_at v_place v_token v_number v_word v_text0 v_written v_sort0 v_pile v_piled v_opens v_isWhole v_once v_named v_values v_truth v_isWritten v_died v_aside v_likely v_safe v_headOf) → va_S A s.heap H locs → lv_has ls 5 [(0, .ref h), (2, .int x2), (3, .int x3), (4, .int x4)] → W p l e ({ frames := 2, cells := 0, slots := 0, locals := 45 } : Room) s m ([.ref h, .int p1, .int p2] : List Value).toArray below meth c H locs 0 0 (MQ below ((mQi D (WM h q cI cJ cZ v_a v_image v_texts v_tape v_taped v_fault v_faultPlace v_at v_place v_token v_number v_word v_text0 v_written v_sort0 v_pile v_piled v_opens v_isWhole v_once v_named v_values v_truth v_isWritten v_died v_aside v_likely v_safe v_headOf) o_r True) A) ([.ref h, .int p1, .int p2] : List Value).toArray s 0 0 A) (F0 m 27 ls []) := by
    intro n27
    induction n27 with
    | zero =>
      intro x2 x3 x4 H locs ls hf hP hD hS hl
      simp [f_X12_unheard_27] at hf
    | succ n27 ih27 =>
      intro x2 x3 x4 H locs ls hf hP hD hS hl
      rw [f_X12_unheard_27.eq_2] at hf
      refine lv_iload hx hb dX12_unheard_27 (lv_at hl 3 rfl) ?_
      refine lv_iload_n hx hb dX12_unheard_29 rfl (lv_at hl 1 rfl) ?_
      refine xicmp_ge hx hb 46 dX12_unheard_30 (by decide) hf (fun hf => ?_) (fun hf => ?_)
      · refine lv_iconst (v := (1 : Int32)) hx hb dX12_unheard_46 (by decide) ?_
        refine lv_aload_n hx hb dX12_unheard_47 rfl (lv_at hl 0 rfl) ?_
        refine gfX12_7 hx hb hts hown hK hP 0 rfl rfl dX12_unheard_48 ?_
        refine lv_iconst (v := (0 : Int32)) hx hb dX12_unheard_51 (by decide) ?_
        refine xiald hx hb hK hP 1 0 rfl rfl dX12_unheard_52 hf (fun v52 hf => ?_)
        refine lv_ishl hx hb dX12_unheard_53 ?_
        refine lv_iconst (v := (1 : Int32)) hx hb dX12_unheard_54 (by decide) ?_
        refine lv_isub hx hb dX12_unheard_55 ?_
        refine lv_iload_n hx hb dX12_unheard_56 rfl (lv_at hl 2 rfl) ?_
        refine lv_iconst (v := (-1 : Int32)) hx hb dX12_unheard_57 (by decide) ?_
        refine lv_ixor hx hb dX12_unheard_58 ?_
        refine lv_iand hx hb dX12_unheard_59 ?_
        cases hf
        exact mret_i hx hb hr hlocks hP hD hS dX12_unheard_60 rfl trivial
      · refine lv_aload_n hx hb dX12_unheard_33 rfl (lv_at hl 0 rfl) ?_
        refine lv_iload_n hx hb dX12_unheard_34 rfl (lv_at hl 2 rfl) ?_
        refine lv_iconst (v := (0 : Int32)) hx hb dX12_unheard_35 (by decide) ?_
        obtain ⟨r36, hg36, hf⟩ := ob1_some hf
        refine mcV1_i (As := [.int x3, .int (0 : Int32)]) (rest := []) hx hb hml hown hts hK hP hD hS hA (k_X12_spread l N D cI cJ cZ cB cT h q v_a v_image v_texts v_tape v_taped v_fault v_faultPlace v_at v_place v_token v_number v_word v_text0 v_written v_sort0 v_pile v_piled v_opens v_isWhole v_once v_named v_values v_truth v_isWritten v_died v_aside v_likely v_safe v_headOf x3 (0 : Int32) r36 hg36) (kwX12_451 hts rfl rfl ⟨Nat.le_of_ble_eq_true rfl, Nat.le_of_ble_eq_true rfl⟩) 0 rfl rfl rfl rfl hl.1 rfl (Nat.le_of_ble_eq_true rfl) dX12_unheard_36 ⟨Nat.zero_le _, Nat.zero_le _⟩ (fun hB36 H locs hP hD hS => ?_)
        have hP : va_P D vwCl (WM h q cI cJ cZ v_a v_image v_texts v_tape v_taped v_fault v_faultPlace v_at v_place v_token v_number v_word v_text0 v_written v_sort0 v_pile v_piled v_opens v_isWhole v_once v_named v_values v_truth v_isWritten v_died v_aside v_likely v_safe v_headOf) H := hP
        have hD : va_D A (WM h q cI cJ cZ v_a v_image v_texts v_tape v_taped v_fault v_faultPlace v_at v_place v_token v_number v_word v_text0 v_written v_sort0 v_pile v_piled v_opens v_isWhole v_once v_named v_values v_truth v_isWritten v_died v_aside v_likely v_safe v_headOf) := hD
        refine lv_istore_n (lv' := [(3, .int r36), (0, .ref h), (2, .int x2), (4, .int x4)]) hx hb dX12_unheard_39 rfl hl (by decide) rfl (fun ls hl => ?_)
        refine lv_iinc (v := (x4 + (1 : Int32))) (lv' := [(4, .int (x4 + (1 : Int32))), (3, .int r36), (0, .ref h), (2, .int x2)]) hx hb dX12_unheard_40 hl (k := 3) rfl rfl (by decide) rfl (fun ls hl => ?_)
        refine lv_goto (tgt := 27) hx hb dX12_unheard_43 (by decide) ?_
        exact ih27 x2 r36 (x4 + (1 : Int32)) _ _ _ hf hP hD hS (lv_sub hl [2, 3, 1, 0] rfl)
  unfold f_X12_unheard at hf
  refine lv_aload_n hx hb dX12_unheard_0 rfl (lv_at hl 0 rfl) ?_
  refine lv_iload_n hx hb dX12_unheard_1 rfl (lv_at hl 1 rfl) ?_
  obtain ⟨r2, hg2, hf⟩ := ob1_some hf
  refine mcV1_i (As := [.int p1]) (rest := []) hx hb hml hown hts hK hP hD hS hA (k_X12_isLand l N D cI cJ cZ cB cT h q v_a v_image v_texts v_tape v_taped v_fault v_faultPlace v_at v_place v_token v_number v_word v_text0 v_written v_sort0 v_pile v_piled v_opens v_isWhole v_once v_named v_values v_truth v_isWritten v_died v_aside v_likely v_safe v_headOf p1 r2 hg2) (kwX12_75 hts rfl rfl ⟨Nat.le_of_ble_eq_true rfl, Nat.le_of_ble_eq_true rfl⟩) 0 rfl rfl rfl rfl hl.1 rfl (Nat.le_of_ble_eq_true rfl) dX12_unheard_2 ⟨Nat.zero_le _, Nat.zero_le _⟩ (fun hB2 H locs hP hD hS => ?_)
  have hP : va_P D vwCl (WM h q cI cJ cZ v_a v_image v_texts v_tape v_taped v_fault v_faultPlace v_at v_place v_token v_number v_word v_text0 v_written v_sort0 v_pile v_piled v_opens v_isWhole v_once v_named v_values v_truth v_isWritten v_died v_aside v_likely v_safe v_headOf) H := hP
  have hD : va_D A (WM h q cI cJ cZ v_a v_image v_texts v_tape v_taped v_fault v_faultPlace v_at v_place v_token v_number v_word v_text0 v_written v_sort0 v_pile v_piled v_opens v_isWhole v_once v_named v_values v_truth v_isWritten v_died v_aside v_likely v_safe v_headOf) := hD
  refine xif_eq hx hb 18 dX12_unheard_5 (by decide) hf (fun hf => ?_) (fun hf => ?_)
  · refine lv_iconst (v := (-1 : Int32)) hx hb dX12_unheard_18 (by decide) ?_
    cases hf
    exact mret_i hx hb hr hlocks hP hD hS dX12_unheard_19 rfl trivial
  · refine lv_iload_n hx hb dX12_unheard_8 rfl (lv_at hl 2 rfl) ?_
    refine lv_iconst (v := (0 : Int32)) hx hb dX12_unheard_9 (by decide) ?_
    refine lv_bipush (v := (9 : Int32)) hx hb dX12_unheard_10 (by decide) ?_
    obtain ⟨r12, hg12, hf⟩ := ob1_some hf
    refine mcS0_i (As := [.int p2, .int (0 : Int32), .int (9 : Int32)]) (rest := []) hx hb hml hown hts hK hP hD hS hA (k_X12_isIn l N D cI cJ cZ cB cT p2 (0 : Int32) (9 : Int32) r12 hg12) (kwX12_63 hts rfl rfl ⟨Nat.le_of_ble_eq_true rfl, Nat.le_of_ble_eq_true rfl⟩) rfl hl.1 rfl (Nat.le_of_ble_eq_true rfl) dX12_unheard_12 ⟨Nat.zero_le _, Nat.zero_le _⟩ (fun hB12 H locs hP hD hS => ?_)
    refine xif_ne hx hb 20 dX12_unheard_15 (by decide) hf (fun hf => ?_) (fun hf => ?_)
    · refine lv_iconst (v := (-1 : Int32)) hx hb dX12_unheard_18 (by decide) ?_
      cases hf
      exact mret_i hx hb hr hlocks hP hD hS dX12_unheard_19 rfl trivial
    · refine lv_iconst (v := (1 : Int32)) hx hb dX12_unheard_20 (by decide) ?_
      refine lv_iload_n hx hb dX12_unheard_21 rfl (lv_at hl 1 rfl) ?_
      refine lv_ishl hx hb dX12_unheard_22 ?_
      refine lv_istore_n (lv' := [(3, .int ((1 : Int32) <<< (p1 &&& 31))), (0, .ref h), (1, .int p1), (2, .int p2)]) hx hb dX12_unheard_23 rfl hl (by decide) rfl (fun ls hl => ?_)
      refine lv_iconst (v := (0 : Int32)) hx hb dX12_unheard_24 (by decide) ?_
      refine lv_istore (lv' := [(4, .int (0 : Int32)), (3, .int ((1 : Int32) <<< (p1 &&& 31))), (0, .ref h), (1, .int p1), (2, .int p2)]) hx hb dX12_unheard_25 hl (by decide) rfl (fun ls hl => ?_)
      exact b27 N p2 ((1 : Int32) <<< (p1 &&& 31)) (0 : Int32) _ _ _ hf hP hD hS (lv_sub hl [2, 4, 1, 0] rfl)
theorem dX12_borders_0 : decode cX12_borders 0 = .ok (.iload_n 1, 1) := by decide +kernel
theorem dX12_borders_1 : decode cX12_borders 1 = .ok (.iconst 0, 1) := by decide +kernel
theorem dX12_borders_2 : decode cX12_borders 2 = .ok (.sipush 255, 3) := by decide +kernel
theorem dX12_borders_5 : decode cX12_borders 5 = .ok (.invokestatic 63, 3) := by decide +kernel
theorem dX12_borders_8 : decode cX12_borders 8 = .ok (.ifCond .ne 5, 3) := by decide +kernel
theorem dX12_borders_11 : decode cX12_borders 11 = .ok (.iconst 0, 1) := by decide +kernel
theorem dX12_borders_12 : decode cX12_borders 12 = .ok (.ireturn, 1) := by decide +kernel
theorem dX12_borders_13 : decode cX12_borders 13 = .ok (.aload_n 0, 1) := by decide +kernel
theorem dX12_borders_14 : decode cX12_borders 14 = .ok (.getfield 7, 3) := by decide +kernel
theorem dX12_borders_17 : decode cX12_borders 17 = .ok (.bipush 9, 2) := by decide +kernel
theorem dX12_borders_19 : decode cX12_borders 19 = .ok (.iload_n 1, 1) := by decide +kernel
theorem dX12_borders_20 : decode cX12_borders 20 = .ok (.iastore, 1) := by decide +kernel
theorem dX12_borders_21 : decode cX12_borders 21 = .ok (.iconst 1, 1) := by decide +kernel
theorem dX12_borders_22 : decode cX12_borders 22 = .ok (.ireturn, 1) := by decide +kernel
def f_X12_borders (N : Nat) (v_a : Nat → Int32) (p1 : Int32) : Option (Int32 × (Nat → Int32)) := ob1 (f_X12_isIn N p1 (0 : Int32) (255 : Int32)) fun r5 => if r5 = 0 then (some ((0 : Int32), v_a)) else (sA v_a 8762 (9 : Int32) p1 fun v_a_20 => some ((1 : Int32), v_a_20))
set_option maxHeartbeats 4000000 in
set_option maxRecDepth 100000 in
theorem k_X12_borders (l : Launch) (N : Nat) (D : va_G) (cI cJ cZ cB cT : ClassId) (h : Nat) (q : Nat → Nat) (v_a : Nat → Int32) (v_image : Nat → Int32) (v_texts : Nat → Int32) (v_tape : Nat → Int32) (v_taped : Int32) (v_fault : Int32) (v_faultPlace : Int32) (v_at : Int32) (v_place : Int32) (v_token : Int32) (v_number : Int32) (v_word : Int64) (v_text0 : Int32) (v_written : Int32) (v_sort0 : Int32) (v_pile : Nat → Int32) (v_piled : Int32) (v_opens : Int32) (v_isWhole : Int32) (v_once : Int32) (v_named : Nat → Int32) (v_values : Nat → Int64) (v_truth : Nat → Int32) (v_isWritten : Int32) (v_died : Int32) (v_aside : Nat → Int32) (v_likely : Nat → Int32) (v_safe : Nat → Int32) (v_headOf : Nat → Int32) (p1 : Int32) (o_r : Int32) (o_v_a : Nat → Int32) (hf : f_X12_borders N v_a p1 = some (o_r, o_v_a)) : ∀ sz, Met l yX12_borders (mw yX12_borders cX12_borders 2 (some .boolean)) ({ frames := 1, cells := 0, slots := 0, locals := 22 } : Room) (mPre D (mT cI cJ cZ cB cT) (WM h q cI cJ cZ v_a v_image v_texts v_tape v_taped v_fault v_faultPlace v_at v_place v_token v_number v_word v_text0 v_written v_sort0 v_pile v_piled v_opens v_isWhole v_once v_named v_values v_truth v_isWritten v_died v_aside v_likely v_safe v_headOf) sz [.ref h, .int p1]) ((mQi D (WM h q cI cJ cZ o_v_a v_image v_texts v_tape v_taped v_fault v_faultPlace v_at v_place v_token v_number v_word v_text0 v_written v_sort0 v_pile v_piled v_opens v_isWhole v_once v_named v_values v_truth v_isWritten v_died v_aside v_likely v_safe v_headOf) o_r (mB o_r)) (va_A (WM h q cI cJ cZ v_a v_image v_texts v_tape v_taped v_fault v_faultPlace v_at v_place v_token v_number v_word v_text0 v_written v_sort0 v_pile v_piled v_opens v_isWhole v_once v_named v_values v_truth v_isWritten v_died v_aside v_likely v_safe v_headOf) sz)) 0 0 (va_A (WM h q cI cJ cZ v_a v_image v_texts v_tape v_taped v_fault v_faultPlace v_at v_place v_token v_number v_word v_text0 v_written v_sort0 v_pile v_piled v_opens v_isWhole v_once v_named v_values v_truth v_isWritten v_died v_aside v_likely v_safe v_headOf) sz) := by
  refine mMet (Qc := (mQi D (WM h q cI cJ cZ o_v_a v_image v_texts v_tape v_taped v_fault v_faultPlace v_at v_place v_token v_number v_word v_text0 v_written v_sort0 v_pile v_piled v_opens v_isWhole v_once v_named v_values v_truth v_isWritten v_died v_aside v_likely v_safe v_headOf) o_r (mB o_r))) (by decide) (Nat.le_of_ble_eq_true rfl) (fun p e s m below meth c A ls hx hb hr hml hts hown hlocks hK hA hP hD hl => ?_)
  have hown : s.vm.findClass RX12 = some m.cls := hown
  have hl : lv_has ls 2 [(0, .ref h), (1, .int p1)] := hl
  have hS : va_S A s.heap s.heap [] := va_S.rf
  unfold f_X12_borders at hf
  refine lv_iload_n hx hb dX12_borders_0 rfl (lv_at hl 1 rfl) ?_
  refine lv_iconst (v := (0 : Int32)) hx hb dX12_borders_1 (by decide) ?_
  refine lv_sipush (v := (255 : Int32)) hx hb dX12_borders_2 (by decide) ?_
  obtain ⟨r5, hg5, hf⟩ := ob1_some hf
  refine mcS0_i (As := [.int p1, .int (0 : Int32), .int (255 : Int32)]) (rest := []) hx hb hml hown hts hK hP hD hS hA (k_X12_isIn l N D cI cJ cZ cB cT p1 (0 : Int32) (255 : Int32) r5 hg5) (kwX12_63 hts rfl rfl ⟨Nat.le_of_ble_eq_true rfl, Nat.le_of_ble_eq_true rfl⟩) rfl hl.1 rfl (Nat.le_of_ble_eq_true rfl) dX12_borders_5 ⟨Nat.zero_le _, Nat.zero_le _⟩ (fun hB5 H locs hP hD hS => ?_)
  refine xif_ne hx hb 13 dX12_borders_8 (by decide) hf (fun hf => ?_) (fun hf => ?_)
  · refine lv_iconst (v := (0 : Int32)) hx hb dX12_borders_11 (by decide) ?_
    cases hf
    exact mret_z hx hb hr hlocks hP hD hS dX12_borders_12 rfl rfl
  · refine lv_aload_n hx hb dX12_borders_13 rfl (lv_at hl 0 rfl) ?_
    refine gfX12_7 hx hb hts hown hK hP 0 rfl rfl dX12_borders_14 ?_
    refine lv_bipush (v := (9 : Int32)) hx hb dX12_borders_17 (by decide) ?_
    refine lv_iload_n hx hb dX12_borders_19 rfl (lv_at hl 1 rfl) ?_
    refine xiast hx hb hK hP hD hS 1 0 rfl rfl dX12_borders_20 hf (fun v_a_20 hf H locs hP hD hS => ?_)
    have hP : va_P D vwCl (WM h q cI cJ cZ v_a_20 v_image v_texts v_tape v_taped v_fault v_faultPlace v_at v_place v_token v_number v_word v_text0 v_written v_sort0 v_pile v_piled v_opens v_isWhole v_once v_named v_values v_truth v_isWritten v_died v_aside v_likely v_safe v_headOf) H := hP
    have hD : va_D A (WM h q cI cJ cZ v_a_20 v_image v_texts v_tape v_taped v_fault v_faultPlace v_at v_place v_token v_number v_word v_text0 v_written v_sort0 v_pile v_piled v_opens v_isWhole v_once v_named v_values v_truth v_isWritten v_died v_aside v_likely v_safe v_headOf) := hD
    refine lv_iconst (v := (1 : Int32)) hx hb dX12_borders_21 (by decide) ?_
    cases hf
    exact mret_z hx hb hr hlocks hP hD hS dX12_borders_22 rfl rfl
theorem dX12_toBorder_0 : decode cX12_toBorder 0 = .ok (.aload_n 0, 1) := by decide +kernel
theorem dX12_toBorder_1 : decode cX12_toBorder 1 = .ok (.iload_n 1, 1) := by decide +kernel
theorem dX12_toBorder_2 : decode cX12_toBorder 2 = .ok (.invokevirtual 75, 3) := by decide +kernel
theorem dX12_toBorder_5 : decode cX12_toBorder 5 = .ok (.ifCond .ne 5, 3) := by decide +kernel
theorem dX12_toBorder_8 : decode cX12_toBorder 8 = .ok (.iconst (-1), 1) := by decide +kernel
theorem dX12_toBorder_9 : decode cX12_toBorder 9 = .ok (.ireturn, 1) := by decide +kernel
theorem dX12_toBorder_10 : decode cX12_toBorder 10 = .ok (.iconst 1, 1) := by decide +kernel
theorem dX12_toBorder_11 : decode cX12_toBorder 11 = .ok (.iload_n 1, 1) := by decide +kernel
theorem dX12_toBorder_12 : decode cX12_toBorder 12 = .ok (.ishl, 1) := by decide +kernel
theorem dX12_toBorder_13 : decode cX12_toBorder 13 = .ok (.istore_n 2, 1) := by decide +kernel
theorem dX12_toBorder_14 : decode cX12_toBorder 14 = .ok (.iconst 0, 1) := by decide +kernel
theorem dX12_toBorder_15 : decode cX12_toBorder 15 = .ok (.istore_n 3, 1) := by decide +kernel
theorem dX12_toBorder_16 : decode cX12_toBorder 16 = .ok (.iload_n 3, 1) := by decide +kernel
theorem dX12_toBorder_17 : decode cX12_toBorder 17 = .ok (.bipush 8, 2) := by decide +kernel
theorem dX12_toBorder_19 : decode cX12_toBorder 19 = .ok (.if_icmp .ge 30, 3) := by decide +kernel
theorem dX12_toBorder_22 : decode cX12_toBorder 22 = .ok (.iload_n 2, 1) := by decide +kernel
theorem dX12_toBorder_23 : decode cX12_toBorder 23 = .ok (.aload_n 0, 1) := by decide +kernel
theorem dX12_toBorder_24 : decode cX12_toBorder 24 = .ok (.getfield 7, 3) := by decide +kernel
theorem dX12_toBorder_27 : decode cX12_toBorder 27 = .ok (.bipush 9, 2) := by decide +kernel
theorem dX12_toBorder_29 : decode cX12_toBorder 29 = .ok (.iaload, 1) := by decide +kernel
theorem dX12_toBorder_30 : decode cX12_toBorder 30 = .ok (.iand, 1) := by decide +kernel
theorem dX12_toBorder_31 : decode cX12_toBorder 31 = .ok (.ifCond .eq 5, 3) := by decide +kernel
theorem dX12_toBorder_34 : decode cX12_toBorder 34 = .ok (.iload_n 3, 1) := by decide +kernel
theorem dX12_toBorder_35 : decode cX12_toBorder 35 = .ok (.ireturn, 1) := by decide +kernel
theorem dX12_toBorder_36 : decode cX12_toBorder 36 = .ok (.aload_n 0, 1) := by decide +kernel
theorem dX12_toBorder_37 : decode cX12_toBorder 37 = .ok (.iload_n 2, 1) := by decide +kernel
theorem dX12_toBorder_38 : decode cX12_toBorder 38 = .ok (.iconst 0, 1) := by decide +kernel
theorem dX12_toBorder_39 : decode cX12_toBorder 39 = .ok (.invokevirtual 451, 3) := by decide +kernel
theorem dX12_toBorder_42 : decode cX12_toBorder 42 = .ok (.istore_n 2, 1) := by decide +kernel
theorem dX12_toBorder_43 : decode cX12_toBorder 43 = .ok (.iinc 3 1, 3) := by decide +kernel
theorem dX12_toBorder_46 : decode cX12_toBorder 46 = .ok (.goto (-30), 3) := by decide +kernel
theorem dX12_toBorder_49 : decode cX12_toBorder 49 = .ok (.iconst (-1), 1) := by decide +kernel
theorem dX12_toBorder_50 : decode cX12_toBorder 50 = .ok (.ireturn, 1) := by decide +kernel
def f_X12_toBorder_16 (N : Nat) : Nat → (Nat → Int32) → Int32 → Int32 → Option (Int32)
  | 0, _, _, _ => none
  | n + 1, v_a, x2, x3 => if (8 : Int32) ≤ x3 then (some (-1 : Int32)) else (gA v_a 8762 (9 : Int32) fun v29 => if (x2 &&& v29) = 0 then (ob1 (f_X12_spread N v_a x2 (0 : Int32)) fun r39 => (f_X12_toBorder_16 N n) v_a r39 (x3 + (1 : Int32))) else (some x3))
def f_X12_toBorder (N : Nat) (v_a : Nat → Int32) (p1 : Int32) : Option (Int32) := ob1 (f_X12_isLand N v_a p1) fun r2 => if r2 = 0 then (some (-1 : Int32)) else (f_X12_toBorder_16 N N v_a ((1 : Int32) <<< (p1 &&& 31)) (0 : Int32))
set_option maxHeartbeats 4000000 in
set_option maxRecDepth 100000 in
theorem k_X12_toBorder (l : Launch) (N : Nat) (D : va_G) (cI cJ cZ cB cT : ClassId) (h : Nat) (q : Nat → Nat) (v_a : Nat → Int32) (v_image : Nat → Int32) (v_texts : Nat → Int32) (v_tape : Nat → Int32) (v_taped : Int32) (v_fault : Int32) (v_faultPlace : Int32) (v_at : Int32) (v_place : Int32) (v_token : Int32) (v_number : Int32) (v_word : Int64) (v_text0 : Int32) (v_written : Int32) (v_sort0 : Int32) (v_pile : Nat → Int32) (v_piled : Int32) (v_opens : Int32) (v_isWhole : Int32) (v_once : Int32) (v_named : Nat → Int32) (v_values : Nat → Int64) (v_truth : Nat → Int32) (v_isWritten : Int32) (v_died : Int32) (v_aside : Nat → Int32) (v_likely : Nat → Int32) (v_safe : Nat → Int32) (v_headOf : Nat → Int32) (p1 : Int32) (o_r : Int32) (hf : f_X12_toBorder N v_a p1 = some o_r) : ∀ sz, Met l yX12_toBorder (mw yX12_toBorder cX12_toBorder 4 (some .int)) ({ frames := 2, cells := 0, slots := 0, locals := 45 } : Room) (mPre D (mT cI cJ cZ cB cT) (WM h q cI cJ cZ v_a v_image v_texts v_tape v_taped v_fault v_faultPlace v_at v_place v_token v_number v_word v_text0 v_written v_sort0 v_pile v_piled v_opens v_isWhole v_once v_named v_values v_truth v_isWritten v_died v_aside v_likely v_safe v_headOf) sz [.ref h, .int p1]) ((mQi D (WM h q cI cJ cZ v_a v_image v_texts v_tape v_taped v_fault v_faultPlace v_at v_place v_token v_number v_word v_text0 v_written v_sort0 v_pile v_piled v_opens v_isWhole v_once v_named v_values v_truth v_isWritten v_died v_aside v_likely v_safe v_headOf) o_r True) (va_A (WM h q cI cJ cZ v_a v_image v_texts v_tape v_taped v_fault v_faultPlace v_at v_place v_token v_number v_word v_text0 v_written v_sort0 v_pile v_piled v_opens v_isWhole v_once v_named v_values v_truth v_isWritten v_died v_aside v_likely v_safe v_headOf) sz)) 0 0 (va_A (WM h q cI cJ cZ v_a v_image v_texts v_tape v_taped v_fault v_faultPlace v_at v_place v_token v_number v_word v_text0 v_written v_sort0 v_pile v_piled v_opens v_isWhole v_once v_named v_values v_truth v_isWritten v_died v_aside v_likely v_safe v_headOf) sz) := by
  refine mMet (Qc := (mQi D (WM h q cI cJ cZ v_a v_image v_texts v_tape v_taped v_fault v_faultPlace v_at v_place v_token v_number v_word v_text0 v_written v_sort0 v_pile v_piled v_opens v_isWhole v_once v_named v_values v_truth v_isWritten v_died v_aside v_likely v_safe v_headOf) o_r True)) (by decide) (Nat.le_of_ble_eq_true rfl) (fun p e s m below meth c A ls hx hb hr hml hts hown hlocks hK hA hP hD hl => ?_)
  have hown : s.vm.findClass RX12 = some m.cls := hown
  have hl : lv_has ls 4 [(0, .ref h), (1, .int p1)] := hl
  have hS : va_S A s.heap s.heap [] := va_S.rf
  have b16 : ∀ n16 : Nat, ∀ (x2 : Int32) (x3 : Int32) (H : Heap) (locs : List Loc) (ls : Array Slot), f_X12_toBorder_16 N n16 v_a x2 x3 = some o_r → va_P D vwCl (WM h q cI cJ cZ v_a v_image v_texts v_tape v_taped v_fault v_faultPlace v_at v_place v_token v_number v_word v_text0 v_written v_sort0 v_pile v_piled v_opens v_isWhole v_once v_named v_values v_truth v_isWritten v_died v_aside v_likely v_safe v_headOf) H → va_D A (WM h q cI cJ cZ v_a v_image v_texts v_tape v_taped v_fault v_faultPlace v_at v_place v_token v_number v_word v_text0 v_written v_sort0 v_pile v_piled v_opens v_isWhole v_once v_named v_values v_truth v_isWritten v_died v_aside v_likely v_safe v_headOf) → va_S A s.heap H locs → lv_has ls 4 [(0, .ref h), (2, .int x2), (3, .int x3)] → W p l e ({ frames := 2, cells := 0, slots := 0, locals := 45 } : Room) s m ([.ref h, .int p1] : List Value).toArray below meth c H locs 0 0 (MQ below ((mQi D (WM h q cI cJ cZ v_a v_image v_texts v_tape v_taped v_fault v_faultPlace v_at v_place v_token v_number v_word v_text0 v_written v_sort0 v_pile v_piled v_opens v_isWhole v_once v_named v_values v_truth v_isWritten v_died v_aside v_likely v_safe v_headOf) o_r True) A) ([.ref h, .int p1] : List Value).toArray s 0 0 A) (F0 m 16 ls []) := by
    intro n16
    induction n16 with
    | zero =>
      intro x2 x3 H locs ls hf hP hD hS hl
      simp [f_X12_toBorder_16] at hf
    | succ n16 ih16 =>
      intro x2 x3 H locs ls hf hP hD hS hl
      rw [f_X12_toBorder_16.eq_2] at hf
      refine lv_iload_n hx hb dX12_toBorder_16 rfl (lv_at hl 2 rfl) ?_
      refine lv_bipush (v := (8 : Int32)) hx hb dX12_toBorder_17 (by decide) ?_
      refine xicmp_ge hx hb 49 dX12_toBorder_19 (by decide) hf (fun hf => ?_) (fun hf => ?_)
      · refine lv_iconst (v := (-1 : Int32)) hx hb dX12_toBorder_49 (by decide) ?_
        cases hf
        exact mret_i hx hb hr hlocks hP hD hS dX12_toBorder_50 rfl trivial
      · refine lv_iload_n hx hb dX12_toBorder_22 rfl (lv_at hl 1 rfl) ?_
        refine lv_aload_n hx hb dX12_toBorder_23 rfl (lv_at hl 0 rfl) ?_
        refine gfX12_7 hx hb hts hown hK hP 0 rfl rfl dX12_toBorder_24 ?_
        refine lv_bipush (v := (9 : Int32)) hx hb dX12_toBorder_27 (by decide) ?_
        refine xiald hx hb hK hP 1 0 rfl rfl dX12_toBorder_29 hf (fun v29 hf => ?_)
        refine lv_iand hx hb dX12_toBorder_30 ?_
        refine xif_eq hx hb 36 dX12_toBorder_31 (by decide) hf (fun hf => ?_) (fun hf => ?_)
        · refine lv_aload_n hx hb dX12_toBorder_36 rfl (lv_at hl 0 rfl) ?_
          refine lv_iload_n hx hb dX12_toBorder_37 rfl (lv_at hl 1 rfl) ?_
          refine lv_iconst (v := (0 : Int32)) hx hb dX12_toBorder_38 (by decide) ?_
          obtain ⟨r39, hg39, hf⟩ := ob1_some hf
          refine mcV1_i (As := [.int x2, .int (0 : Int32)]) (rest := []) hx hb hml hown hts hK hP hD hS hA (k_X12_spread l N D cI cJ cZ cB cT h q v_a v_image v_texts v_tape v_taped v_fault v_faultPlace v_at v_place v_token v_number v_word v_text0 v_written v_sort0 v_pile v_piled v_opens v_isWhole v_once v_named v_values v_truth v_isWritten v_died v_aside v_likely v_safe v_headOf x2 (0 : Int32) r39 hg39) (kwX12_451 hts rfl rfl ⟨Nat.le_of_ble_eq_true rfl, Nat.le_of_ble_eq_true rfl⟩) 0 rfl rfl rfl rfl hl.1 rfl (Nat.le_of_ble_eq_true rfl) dX12_toBorder_39 ⟨Nat.zero_le _, Nat.zero_le _⟩ (fun hB39 H locs hP hD hS => ?_)
          have hP : va_P D vwCl (WM h q cI cJ cZ v_a v_image v_texts v_tape v_taped v_fault v_faultPlace v_at v_place v_token v_number v_word v_text0 v_written v_sort0 v_pile v_piled v_opens v_isWhole v_once v_named v_values v_truth v_isWritten v_died v_aside v_likely v_safe v_headOf) H := hP
          have hD : va_D A (WM h q cI cJ cZ v_a v_image v_texts v_tape v_taped v_fault v_faultPlace v_at v_place v_token v_number v_word v_text0 v_written v_sort0 v_pile v_piled v_opens v_isWhole v_once v_named v_values v_truth v_isWritten v_died v_aside v_likely v_safe v_headOf) := hD
          refine lv_istore_n (lv' := [(2, .int r39), (0, .ref h), (3, .int x3)]) hx hb dX12_toBorder_42 rfl hl (by decide) rfl (fun ls hl => ?_)
          refine lv_iinc (v := (x3 + (1 : Int32))) (lv' := [(3, .int (x3 + (1 : Int32))), (2, .int r39), (0, .ref h)]) hx hb dX12_toBorder_43 hl (k := 2) rfl rfl (by decide) rfl (fun ls hl => ?_)
          refine lv_goto (tgt := 16) hx hb dX12_toBorder_46 (by decide) ?_
          exact ih16 r39 (x3 + (1 : Int32)) _ _ _ hf hP hD hS (lv_sub hl [2, 1, 0] rfl)
        · refine lv_iload_n hx hb dX12_toBorder_34 rfl (lv_at hl 2 rfl) ?_
          cases hf
          exact mret_i hx hb hr hlocks hP hD hS dX12_toBorder_35 rfl trivial
  unfold f_X12_toBorder at hf
  refine lv_aload_n hx hb dX12_toBorder_0 rfl (lv_at hl 0 rfl) ?_
  refine lv_iload_n hx hb dX12_toBorder_1 rfl (lv_at hl 1 rfl) ?_
  obtain ⟨r2, hg2, hf⟩ := ob1_some hf
  refine mcV1_i (As := [.int p1]) (rest := []) hx hb hml hown hts hK hP hD hS hA (k_X12_isLand l N D cI cJ cZ cB cT h q v_a v_image v_texts v_tape v_taped v_fault v_faultPlace v_at v_place v_token v_number v_word v_text0 v_written v_sort0 v_pile v_piled v_opens v_isWhole v_once v_named v_values v_truth v_isWritten v_died v_aside v_likely v_safe v_headOf p1 r2 hg2) (kwX12_75 hts rfl rfl ⟨Nat.le_of_ble_eq_true rfl, Nat.le_of_ble_eq_true rfl⟩) 0 rfl rfl rfl rfl hl.1 rfl (Nat.le_of_ble_eq_true rfl) dX12_toBorder_2 ⟨Nat.zero_le _, Nat.zero_le _⟩ (fun hB2 H locs hP hD hS => ?_)
  have hP : va_P D vwCl (WM h q cI cJ cZ v_a v_image v_texts v_tape v_taped v_fault v_faultPlace v_at v_place v_token v_number v_word v_text0 v_written v_sort0 v_pile v_piled v_opens v_isWhole v_once v_named v_values v_truth v_isWritten v_died v_aside v_likely v_safe v_headOf) H := hP
  have hD : va_D A (WM h q cI cJ cZ v_a v_image v_texts v_tape v_taped v_fault v_faultPlace v_at v_place v_token v_number v_word v_text0 v_written v_sort0 v_pile v_piled v_opens v_isWhole v_once v_named v_values v_truth v_isWritten v_died v_aside v_likely v_safe v_headOf) := hD
  refine xif_ne hx hb 10 dX12_toBorder_5 (by decide) hf (fun hf => ?_) (fun hf => ?_)
  · refine lv_iconst (v := (-1 : Int32)) hx hb dX12_toBorder_8 (by decide) ?_
    cases hf
    exact mret_i hx hb hr hlocks hP hD hS dX12_toBorder_9 rfl trivial
  · refine lv_iconst (v := (1 : Int32)) hx hb dX12_toBorder_10 (by decide) ?_
    refine lv_iload_n hx hb dX12_toBorder_11 rfl (lv_at hl 1 rfl) ?_
    refine lv_ishl hx hb dX12_toBorder_12 ?_
    refine lv_istore_n (lv' := [(2, .int ((1 : Int32) <<< (p1 &&& 31))), (0, .ref h), (1, .int p1)]) hx hb dX12_toBorder_13 rfl hl (by decide) rfl (fun ls hl => ?_)
    refine lv_iconst (v := (0 : Int32)) hx hb dX12_toBorder_14 (by decide) ?_
    refine lv_istore_n (lv' := [(3, .int (0 : Int32)), (2, .int ((1 : Int32) <<< (p1 &&& 31))), (0, .ref h), (1, .int p1)]) hx hb dX12_toBorder_15 rfl hl (by decide) rfl (fun ls hl => ?_)
    exact b16 N ((1 : Int32) <<< (p1 &&& 31)) (0 : Int32) _ _ _ hf hP hD hS (lv_sub hl [2, 1, 0] rfl)
theorem dX12_helpers_0 : decode cX12_helpers 0 = .ok (.iconst 1, 1) := by decide +kernel
theorem dX12_helpers_1 : decode cX12_helpers 1 = .ok (.aload_n 0, 1) := by decide +kernel
theorem dX12_helpers_2 : decode cX12_helpers 2 = .ok (.getfield 7, 3) := by decide +kernel
theorem dX12_helpers_5 : decode cX12_helpers 5 = .ok (.iconst 0, 1) := by decide +kernel
theorem dX12_helpers_6 : decode cX12_helpers 6 = .ok (.iaload, 1) := by decide +kernel
theorem dX12_helpers_7 : decode cX12_helpers 7 = .ok (.ishl, 1) := by decide +kernel
theorem dX12_helpers_8 : decode cX12_helpers 8 = .ok (.iconst 1, 1) := by decide +kernel
theorem dX12_helpers_9 : decode cX12_helpers 9 = .ok (.isub, 1) := by decide +kernel
theorem dX12_helpers_10 : decode cX12_helpers 10 = .ok (.istore_n 1, 1) := by decide +kernel
theorem dX12_helpers_11 : decode cX12_helpers 11 = .ok (.iload_n 1, 1) := by decide +kernel
theorem dX12_helpers_12 : decode cX12_helpers 12 = .ok (.istore_n 2, 1) := by decide +kernel
theorem dX12_helpers_13 : decode cX12_helpers 13 = .ok (.iload_n 1, 1) := by decide +kernel
theorem dX12_helpers_14 : decode cX12_helpers 14 = .ok (.istore_n 3, 1) := by decide +kernel
theorem dX12_helpers_15 : decode cX12_helpers 15 = .ok (.iload_n 3, 1) := by decide +kernel
theorem dX12_helpers_16 : decode cX12_helpers 16 = .ok (.ifCond .lt 34, 3) := by decide +kernel
theorem dX12_helpers_19 : decode cX12_helpers 19 = .ok (.iload_n 3, 1) := by decide +kernel
theorem dX12_helpers_20 : decode cX12_helpers 20 = .ok (.i2l, 1) := by decide +kernel
theorem dX12_helpers_21 : decode cX12_helpers 21 = .ok (.invokestatic 268, 3) := by decide +kernel
theorem dX12_helpers_24 : decode cX12_helpers 24 = .ok (.iload_n 2, 1) := by decide +kernel
theorem dX12_helpers_25 : decode cX12_helpers 25 = .ok (.i2l, 1) := by decide +kernel
theorem dX12_helpers_26 : decode cX12_helpers 26 = .ok (.invokestatic 268, 3) := by decide +kernel
theorem dX12_helpers_29 : decode cX12_helpers 29 = .ok (.if_icmp .gt 15, 3) := by decide +kernel
theorem dX12_helpers_32 : decode cX12_helpers 32 = .ok (.aload_n 0, 1) := by decide +kernel
theorem dX12_helpers_33 : decode cX12_helpers 33 = .ok (.iload_n 3, 1) := by decide +kernel
theorem dX12_helpers_34 : decode cX12_helpers 34 = .ok (.iconst 0, 1) := by decide +kernel
theorem dX12_helpers_35 : decode cX12_helpers 35 = .ok (.invokevirtual 451, 3) := by decide +kernel
theorem dX12_helpers_38 : decode cX12_helpers 38 = .ok (.iload_n 1, 1) := by decide +kernel
theorem dX12_helpers_39 : decode cX12_helpers 39 = .ok (.if_icmp .ne 5, 3) := by decide +kernel
theorem dX12_helpers_42 : decode cX12_helpers 42 = .ok (.iload_n 3, 1) := by decide +kernel
theorem dX12_helpers_43 : decode cX12_helpers 43 = .ok (.istore_n 2, 1) := by decide +kernel
theorem dX12_helpers_44 : decode cX12_helpers 44 = .ok (.iinc 3 (-1), 3) := by decide +kernel
theorem dX12_helpers_47 : decode cX12_helpers 47 = .ok (.goto (-32), 3) := by decide +kernel
theorem dX12_helpers_50 : decode cX12_helpers 50 = .ok (.iload_n 2, 1) := by decide +kernel
theorem dX12_helpers_51 : decode cX12_helpers 51 = .ok (.ireturn, 1) := by decide +kernel
def f_X12_helpers_44 (N : Nat) (k_15 : (Nat → Int32) → Int32 → Int32 → Int32 → Option (Int32)) (v_a : Nat → Int32) (x1 : Int32) (x2 : Int32) (x3 : Int32) : Option (Int32) := k_15 v_a x1 x2 (x3 + (-1 : Int32))
def f_X12_helpers_15 (N : Nat) : Nat → (Nat → Int32) → Int32 → Int32 → Int32 → Option (Int32)
  | 0, _, _, _, _ => none
  | n + 1, v_a, x1, x2, x3 => if x3 < 0 then (some x2) else (ob1 (f_X12_bits N x3.toInt64) fun r21 => ob1 (f_X12_bits N x2.toInt64) fun r26 => if r26 < r21 then (f_X12_helpers_44 N (f_X12_helpers_15 N n) v_a x1 x2 x3) else (ob1 (f_X12_spread N v_a x3 (0 : Int32)) fun r35 => if r35 = x1 then (f_X12_helpers_44 N (f_X12_helpers_15 N n) v_a x1 x3 x3) else (f_X12_helpers_44 N (f_X12_helpers_15 N n) v_a x1 x2 x3)))
def f_X12_helpers (N : Nat) (v_a : Nat → Int32) : Option (Int32) := gA v_a 8762 (0 : Int32) fun v6 => f_X12_helpers_15 N N v_a (((1 : Int32) <<< (v6 &&& 31)) - (1 : Int32)) (((1 : Int32) <<< (v6 &&& 31)) - (1 : Int32)) (((1 : Int32) <<< (v6 &&& 31)) - (1 : Int32))
set_option maxHeartbeats 4000000 in
set_option maxRecDepth 100000 in
theorem k_X12_helpers (l : Launch) (N : Nat) (D : va_G) (cI cJ cZ cB cT : ClassId) (h : Nat) (q : Nat → Nat) (v_a : Nat → Int32) (v_image : Nat → Int32) (v_texts : Nat → Int32) (v_tape : Nat → Int32) (v_taped : Int32) (v_fault : Int32) (v_faultPlace : Int32) (v_at : Int32) (v_place : Int32) (v_token : Int32) (v_number : Int32) (v_word : Int64) (v_text0 : Int32) (v_written : Int32) (v_sort0 : Int32) (v_pile : Nat → Int32) (v_piled : Int32) (v_opens : Int32) (v_isWhole : Int32) (v_once : Int32) (v_named : Nat → Int32) (v_values : Nat → Int64) (v_truth : Nat → Int32) (v_isWritten : Int32) (v_died : Int32) (v_aside : Nat → Int32) (v_likely : Nat → Int32) (v_safe : Nat → Int32) (v_headOf : Nat → Int32) (o_r : Int32) (hf : f_X12_helpers N v_a = some o_r) : ∀ sz, Met l yX12_helpers (mw yX12_helpers cX12_helpers 4 (some .int)) ({ frames := 2, cells := 0, slots := 0, locals := 45 } : Room) (mPre D (mT cI cJ cZ cB cT) (WM h q cI cJ cZ v_a v_image v_texts v_tape v_taped v_fault v_faultPlace v_at v_place v_token v_number v_word v_text0 v_written v_sort0 v_pile v_piled v_opens v_isWhole v_once v_named v_values v_truth v_isWritten v_died v_aside v_likely v_safe v_headOf) sz [.ref h]) ((mQi D (WM h q cI cJ cZ v_a v_image v_texts v_tape v_taped v_fault v_faultPlace v_at v_place v_token v_number v_word v_text0 v_written v_sort0 v_pile v_piled v_opens v_isWhole v_once v_named v_values v_truth v_isWritten v_died v_aside v_likely v_safe v_headOf) o_r True) (va_A (WM h q cI cJ cZ v_a v_image v_texts v_tape v_taped v_fault v_faultPlace v_at v_place v_token v_number v_word v_text0 v_written v_sort0 v_pile v_piled v_opens v_isWhole v_once v_named v_values v_truth v_isWritten v_died v_aside v_likely v_safe v_headOf) sz)) 0 0 (va_A (WM h q cI cJ cZ v_a v_image v_texts v_tape v_taped v_fault v_faultPlace v_at v_place v_token v_number v_word v_text0 v_written v_sort0 v_pile v_piled v_opens v_isWhole v_once v_named v_values v_truth v_isWritten v_died v_aside v_likely v_safe v_headOf) sz) := by
  refine mMet (Qc := (mQi D (WM h q cI cJ cZ v_a v_image v_texts v_tape v_taped v_fault v_faultPlace v_at v_place v_token v_number v_word v_text0 v_written v_sort0 v_pile v_piled v_opens v_isWhole v_once v_named v_values v_truth v_isWritten v_died v_aside v_likely v_safe v_headOf) o_r True)) (by decide) (Nat.le_of_ble_eq_true rfl) (fun p e s m below meth c A ls hx hb hr hml hts hown hlocks hK hA hP hD hl => ?_)
  have hown : s.vm.findClass RX12 = some m.cls := hown
  have hl : lv_has ls 4 [(0, .ref h)] := hl
  have hS : va_S A s.heap s.heap [] := va_S.rf
  have b15 : ∀ n15 : Nat, ∀ (x1 : Int32) (x2 : Int32) (x3 : Int32) (H : Heap) (locs : List Loc) (ls : Array Slot), f_X12_helpers_15 N n15 v_a x1 x2 x3 = some o_r → va_P D vwCl (WM h q cI cJ cZ v_a v_image v_texts v_tape v_taped v_fault v_faultPlace v_at v_place v_token v_number v_word v_text0 v_written v_sort0 v_pile v_piled v_opens v_isWhole v_once v_named v_values v_truth v_isWritten v_died v_aside v_likely v_safe v_headOf) H → va_D A (WM h q cI cJ cZ v_a v_image v_texts v_tape v_taped v_fault v_faultPlace v_at v_place v_token v_number v_word v_text0 v_written v_sort0 v_pile v_piled v_opens v_isWhole v_once v_named v_values v_truth v_isWritten v_died v_aside v_likely v_safe v_headOf) → va_S A s.heap H locs → lv_has ls 4 [(0, .ref h), (1, .int x1), (2, .int x2), (3, .int x3)] → W p l e ({ frames := 2, cells := 0, slots := 0, locals := 45 } : Room) s m ([.ref h] : List Value).toArray below meth c H locs 0 0 (MQ below ((mQi D (WM h q cI cJ cZ v_a v_image v_texts v_tape v_taped v_fault v_faultPlace v_at v_place v_token v_number v_word v_text0 v_written v_sort0 v_pile v_piled v_opens v_isWhole v_once v_named v_values v_truth v_isWritten v_died v_aside v_likely v_safe v_headOf) o_r True) A) ([.ref h] : List Value).toArray s 0 0 A) (F0 m 15 ls []) := by
    intro n15
    induction n15 with
    | zero =>
      intro x1 x2 x3 H locs ls hf hP hD hS hl
      simp [f_X12_helpers_15] at hf
    | succ n15 ih15 =>
      have b44 : ∀ (x1 : Int32) (x2 : Int32) (x3 : Int32) (H : Heap) (locs : List Loc) (ls : Array Slot), f_X12_helpers_44 N (f_X12_helpers_15 N n15) v_a x1 x2 x3 = some o_r → va_P D vwCl (WM h q cI cJ cZ v_a v_image v_texts v_tape v_taped v_fault v_faultPlace v_at v_place v_token v_number v_word v_text0 v_written v_sort0 v_pile v_piled v_opens v_isWhole v_once v_named v_values v_truth v_isWritten v_died v_aside v_likely v_safe v_headOf) H → va_D A (WM h q cI cJ cZ v_a v_image v_texts v_tape v_taped v_fault v_faultPlace v_at v_place v_token v_number v_word v_text0 v_written v_sort0 v_pile v_piled v_opens v_isWhole v_once v_named v_values v_truth v_isWritten v_died v_aside v_likely v_safe v_headOf) → va_S A s.heap H locs → lv_has ls 4 [(0, .ref h), (1, .int x1), (2, .int x2), (3, .int x3)] → W p l e ({ frames := 2, cells := 0, slots := 0, locals := 45 } : Room) s m ([.ref h] : List Value).toArray below meth c H locs 0 0 (MQ below ((mQi D (WM h q cI cJ cZ v_a v_image v_texts v_tape v_taped v_fault v_faultPlace v_at v_place v_token v_number v_word v_text0 v_written v_sort0 v_pile v_piled v_opens v_isWhole v_once v_named v_values v_truth v_isWritten v_died v_aside v_likely v_safe v_headOf) o_r True) A) ([.ref h] : List Value).toArray s 0 0 A) (F0 m 44 ls []) := by
        intro x1 x2 x3 H locs ls hf hP hD hS hl
        unfold f_X12_helpers_44 at hf
        refine lv_iinc (v := (x3 + (-1 : Int32))) (lv' := [(3, .int (x3 + (-1 : Int32))), (0, .ref h), (1, .int x1), (2, .int x2)]) hx hb dX12_helpers_44 hl (k := 3) rfl rfl (by decide) rfl (fun ls hl => ?_)
        refine lv_goto (tgt := 15) hx hb dX12_helpers_47 (by decide) ?_
        exact ih15 x1 x2 (x3 + (-1 : Int32)) _ _ _ hf hP hD hS (lv_sub hl [1, 2, 3, 0] rfl)
      intro x1 x2 x3 H locs ls hf hP hD hS hl
      rw [f_X12_helpers_15.eq_2] at hf
      refine lv_iload_n hx hb dX12_helpers_15 rfl (lv_at hl 3 rfl) ?_
      refine xif_lt hx hb 50 dX12_helpers_16 (by decide) hf (fun hf => ?_) (fun hf => ?_)
      · refine lv_iload_n hx hb dX12_helpers_50 rfl (lv_at hl 2 rfl) ?_
        cases hf
        exact mret_i hx hb hr hlocks hP hD hS dX12_helpers_51 rfl trivial
      · refine lv_iload_n hx hb dX12_helpers_19 rfl (lv_at hl 3 rfl) ?_
        refine lv_i2l hx hb dX12_helpers_20 rfl ?_
        obtain ⟨r21, hg21, hf⟩ := ob1_some hf
        refine mcS0_i (As := [.long x3.toInt64]) (rest := []) hx hb hml hown hts hK hP hD hS hA (k_X12_bits l N D cI cJ cZ cB cT x3.toInt64 r21 hg21) (kwX12_268 hts rfl rfl ⟨Nat.le_of_ble_eq_true rfl, Nat.le_of_ble_eq_true rfl⟩) rfl hl.1 rfl (Nat.le_of_ble_eq_true rfl) dX12_helpers_21 ⟨Nat.zero_le _, Nat.zero_le _⟩ (fun hB21 H locs hP hD hS => ?_)
        refine lv_iload_n hx hb dX12_helpers_24 rfl (lv_at hl 2 rfl) ?_
        refine lv_i2l hx hb dX12_helpers_25 rfl ?_
        obtain ⟨r26, hg26, hf⟩ := ob1_some hf
        refine mcS0_i (As := [.long x2.toInt64]) (rest := [.int r21]) hx hb hml hown hts hK hP hD hS hA (k_X12_bits l N D cI cJ cZ cB cT x2.toInt64 r26 hg26) (kwX12_268 hts rfl rfl ⟨Nat.le_of_ble_eq_true rfl, Nat.le_of_ble_eq_true rfl⟩) rfl hl.1 rfl (Nat.le_of_ble_eq_true rfl) dX12_helpers_26 ⟨Nat.zero_le _, Nat.zero_le _⟩ (fun hB26 H locs hP hD hS => ?_)
        refine xicmp_gt hx hb 44 dX12_helpers_29 (by decide) hf (fun hf => ?_) (fun hf => ?_)
        · exact b44 x1 x2 x3 _ _ _ hf hP hD hS (lv_sub hl [0, 1, 2, 3] rfl)
        · refine lv_aload_n hx hb dX12_helpers_32 rfl (lv_at hl 0 rfl) ?_
          refine lv_iload_n hx hb dX12_helpers_33 rfl (lv_at hl 3 rfl) ?_
          refine lv_iconst (v := (0 : Int32)) hx hb dX12_helpers_34 (by decide) ?_
          obtain ⟨r35, hg35, hf⟩ := ob1_some hf
          refine mcV1_i (As := [.int x3, .int (0 : Int32)]) (rest := []) hx hb hml hown hts hK hP hD hS hA (k_X12_spread l N D cI cJ cZ cB cT h q v_a v_image v_texts v_tape v_taped v_fault v_faultPlace v_at v_place v_token v_number v_word v_text0 v_written v_sort0 v_pile v_piled v_opens v_isWhole v_once v_named v_values v_truth v_isWritten v_died v_aside v_likely v_safe v_headOf x3 (0 : Int32) r35 hg35) (kwX12_451 hts rfl rfl ⟨Nat.le_of_ble_eq_true rfl, Nat.le_of_ble_eq_true rfl⟩) 0 rfl rfl rfl rfl hl.1 rfl (Nat.le_of_ble_eq_true rfl) dX12_helpers_35 ⟨Nat.zero_le _, Nat.zero_le _⟩ (fun hB35 H locs hP hD hS => ?_)
          have hP : va_P D vwCl (WM h q cI cJ cZ v_a v_image v_texts v_tape v_taped v_fault v_faultPlace v_at v_place v_token v_number v_word v_text0 v_written v_sort0 v_pile v_piled v_opens v_isWhole v_once v_named v_values v_truth v_isWritten v_died v_aside v_likely v_safe v_headOf) H := hP
          have hD : va_D A (WM h q cI cJ cZ v_a v_image v_texts v_tape v_taped v_fault v_faultPlace v_at v_place v_token v_number v_word v_text0 v_written v_sort0 v_pile v_piled v_opens v_isWhole v_once v_named v_values v_truth v_isWritten v_died v_aside v_likely v_safe v_headOf) := hD
          refine lv_iload_n hx hb dX12_helpers_38 rfl (lv_at hl 1 rfl) ?_
          refine xicmp_ne hx hb 44 dX12_helpers_39 (by decide) hf (fun hf => ?_) (fun hf => ?_)
          · refine lv_iload_n hx hb dX12_helpers_42 rfl (lv_at hl 3 rfl) ?_
            refine lv_istore_n (lv' := [(2, .int x3), (0, .ref h), (1, .int x1), (3, .int x3)]) hx hb dX12_helpers_43 rfl hl (by decide) rfl (fun ls hl => ?_)
            exact b44 x1 x3 x3 _ _ _ hf hP hD hS (lv_sub hl [1, 2, 0, 3] rfl)
          · exact b44 x1 x2 x3 _ _ _ hf hP hD hS (lv_sub hl [0, 1, 2, 3] rfl)
  unfold f_X12_helpers at hf
  refine lv_iconst (v := (1 : Int32)) hx hb dX12_helpers_0 (by decide) ?_
  refine lv_aload_n hx hb dX12_helpers_1 rfl (lv_at hl 0 rfl) ?_
  refine gfX12_7 hx hb hts hown hK hP 0 rfl rfl dX12_helpers_2 ?_
  refine lv_iconst (v := (0 : Int32)) hx hb dX12_helpers_5 (by decide) ?_
  refine xiald hx hb hK hP 1 0 rfl rfl dX12_helpers_6 hf (fun v6 hf => ?_)
  refine lv_ishl hx hb dX12_helpers_7 ?_
  refine lv_iconst (v := (1 : Int32)) hx hb dX12_helpers_8 (by decide) ?_
  refine lv_isub hx hb dX12_helpers_9 ?_
  refine lv_istore_n (lv' := [(1, .int (((1 : Int32) <<< (v6 &&& 31)) - (1 : Int32))), (0, .ref h)]) hx hb dX12_helpers_10 rfl hl (by decide) rfl (fun ls hl => ?_)
  refine lv_iload_n hx hb dX12_helpers_11 rfl (lv_at hl 0 rfl) ?_
  refine lv_istore_n (lv' := [(2, .int (((1 : Int32) <<< (v6 &&& 31)) - (1 : Int32))), (1, .int (((1 : Int32) <<< (v6 &&& 31)) - (1 : Int32))), (0, .ref h)]) hx hb dX12_helpers_12 rfl hl (by decide) rfl (fun ls hl => ?_)
  refine lv_iload_n hx hb dX12_helpers_13 rfl (lv_at hl 1 rfl) ?_
  refine lv_istore_n (lv' := [(3, .int (((1 : Int32) <<< (v6 &&& 31)) - (1 : Int32))), (2, .int (((1 : Int32) <<< (v6 &&& 31)) - (1 : Int32))), (1, .int (((1 : Int32) <<< (v6 &&& 31)) - (1 : Int32))), (0, .ref h)]) hx hb dX12_helpers_14 rfl hl (by decide) rfl (fun ls hl => ?_)
  exact b15 N (((1 : Int32) <<< (v6 &&& 31)) - (1 : Int32)) (((1 : Int32) <<< (v6 &&& 31)) - (1 : Int32)) (((1 : Int32) <<< (v6 &&& 31)) - (1 : Int32)) _ _ _ hf hP hD hS (lv_sub hl [3, 2, 1, 0] rfl)
theorem dX12_isJoined_0 : decode cX12_isJoined 0 = .ok (.iconst 1, 1) := by decide +kernel
theorem dX12_isJoined_1 : decode cX12_isJoined 1 = .ok (.iload_n 1, 1) := by decide +kernel
theorem dX12_isJoined_2 : decode cX12_isJoined 2 = .ok (.ishl, 1) := by decide +kernel
theorem dX12_isJoined_3 : decode cX12_isJoined 3 = .ok (.istore 4, 2) := by decide +kernel
theorem dX12_isJoined_5 : decode cX12_isJoined 5 = .ok (.iconst 0, 1) := by decide +kernel
theorem dX12_isJoined_6 : decode cX12_isJoined 6 = .ok (.istore 5, 2) := by decide +kernel
theorem dX12_isJoined_8 : decode cX12_isJoined 8 = .ok (.iload 5, 2) := by decide +kernel
theorem dX12_isJoined_10 : decode cX12_isJoined 10 = .ok (.bipush 8, 2) := by decide +kernel
theorem dX12_isJoined_12 : decode cX12_isJoined 12 = .ok (.if_icmp .ge 18, 3) := by decide +kernel
theorem dX12_isJoined_15 : decode cX12_isJoined 15 = .ok (.aload_n 0, 1) := by decide +kernel
theorem dX12_isJoined_16 : decode cX12_isJoined 16 = .ok (.iload 4, 2) := by decide +kernel
theorem dX12_isJoined_18 : decode cX12_isJoined 18 = .ok (.iload_n 3, 1) := by decide +kernel
theorem dX12_isJoined_19 : decode cX12_isJoined 19 = .ok (.invokevirtual 451, 3) := by decide +kernel
theorem dX12_isJoined_22 : decode cX12_isJoined 22 = .ok (.istore 4, 2) := by decide +kernel
theorem dX12_isJoined_24 : decode cX12_isJoined 24 = .ok (.iinc 5 1, 3) := by decide +kernel
theorem dX12_isJoined_27 : decode cX12_isJoined 27 = .ok (.goto (-19), 3) := by decide +kernel
theorem dX12_isJoined_30 : decode cX12_isJoined 30 = .ok (.iload 4, 2) := by decide +kernel
theorem dX12_isJoined_32 : decode cX12_isJoined 32 = .ok (.iload_n 2, 1) := by decide +kernel
theorem dX12_isJoined_33 : decode cX12_isJoined 33 = .ok (.invokestatic 78, 3) := by decide +kernel
theorem dX12_isJoined_36 : decode cX12_isJoined 36 = .ok (.ireturn, 1) := by decide +kernel
def f_X12_isJoined_8 (N : Nat) : Nat → (Nat → Int32) → Int32 → Int32 → Int32 → Int32 → Option (Int32)
  | 0, _, _, _, _, _ => none
  | n + 1, v_a, x2, x3, x4, x5 => if (8 : Int32) ≤ x5 then (ob1 (f_X12_isWith N x4 x2) fun r33 => some r33) else (ob1 (f_X12_spread N v_a x4 x3) fun r19 => (f_X12_isJoined_8 N n) v_a x2 x3 r19 (x5 + (1 : Int32)))
def f_X12_isJoined (N : Nat) (v_a : Nat → Int32) (p1 : Int32) (p2 : Int32) (p3 : Int32) : Option (Int32) := f_X12_isJoined_8 N N v_a p2 p3 ((1 : Int32) <<< (p1 &&& 31)) (0 : Int32)
set_option maxHeartbeats 4000000 in
set_option maxRecDepth 100000 in
theorem k_X12_isJoined (l : Launch) (N : Nat) (D : va_G) (cI cJ cZ cB cT : ClassId) (h : Nat) (q : Nat → Nat) (v_a : Nat → Int32) (v_image : Nat → Int32) (v_texts : Nat → Int32) (v_tape : Nat → Int32) (v_taped : Int32) (v_fault : Int32) (v_faultPlace : Int32) (v_at : Int32) (v_place : Int32) (v_token : Int32) (v_number : Int32) (v_word : Int64) (v_text0 : Int32) (v_written : Int32) (v_sort0 : Int32) (v_pile : Nat → Int32) (v_piled : Int32) (v_opens : Int32) (v_isWhole : Int32) (v_once : Int32) (v_named : Nat → Int32) (v_values : Nat → Int64) (v_truth : Nat → Int32) (v_isWritten : Int32) (v_died : Int32) (v_aside : Nat → Int32) (v_likely : Nat → Int32) (v_safe : Nat → Int32) (v_headOf : Nat → Int32) (p1 : Int32) (p2 : Int32) (p3 : Int32) (o_r : Int32) (hf : f_X12_isJoined N v_a p1 p2 p3 = some o_r) : ∀ sz, Met l yX12_isJoined (mw yX12_isJoined cX12_isJoined 6 (some .boolean)) ({ frames := 2, cells := 0, slots := 0, locals := 45 } : Room) (mPre D (mT cI cJ cZ cB cT) (WM h q cI cJ cZ v_a v_image v_texts v_tape v_taped v_fault v_faultPlace v_at v_place v_token v_number v_word v_text0 v_written v_sort0 v_pile v_piled v_opens v_isWhole v_once v_named v_values v_truth v_isWritten v_died v_aside v_likely v_safe v_headOf) sz [.ref h, .int p1, .int p2, .int p3]) ((mQi D (WM h q cI cJ cZ v_a v_image v_texts v_tape v_taped v_fault v_faultPlace v_at v_place v_token v_number v_word v_text0 v_written v_sort0 v_pile v_piled v_opens v_isWhole v_once v_named v_values v_truth v_isWritten v_died v_aside v_likely v_safe v_headOf) o_r (mB o_r)) (va_A (WM h q cI cJ cZ v_a v_image v_texts v_tape v_taped v_fault v_faultPlace v_at v_place v_token v_number v_word v_text0 v_written v_sort0 v_pile v_piled v_opens v_isWhole v_once v_named v_values v_truth v_isWritten v_died v_aside v_likely v_safe v_headOf) sz)) 0 0 (va_A (WM h q cI cJ cZ v_a v_image v_texts v_tape v_taped v_fault v_faultPlace v_at v_place v_token v_number v_word v_text0 v_written v_sort0 v_pile v_piled v_opens v_isWhole v_once v_named v_values v_truth v_isWritten v_died v_aside v_likely v_safe v_headOf) sz) := by
  refine mMet (Qc := (mQi D (WM h q cI cJ cZ v_a v_image v_texts v_tape v_taped v_fault v_faultPlace v_at v_place v_token v_number v_word v_text0 v_written v_sort0 v_pile v_piled v_opens v_isWhole v_once v_named v_values v_truth v_isWritten v_died v_aside v_likely v_safe v_headOf) o_r (mB o_r))) (by decide) (Nat.le_of_ble_eq_true rfl) (fun p e s m below meth c A ls hx hb hr hml hts hown hlocks hK hA hP hD hl => ?_)
  have hown : s.vm.findClass RX12 = some m.cls := hown
  have hl : lv_has ls 6 [(0, .ref h), (1, .int p1), (2, .int p2), (3, .int p3)] := hl
  have hS : va_S A s.heap s.heap [] := va_S.rf
  have b8 : ∀ n8 : Nat, ∀ (x2 : Int32) (x3 : Int32) (x4 : Int32) (x5 : Int32) (H : Heap) (locs : List Loc) (ls : Array Slot), f_X12_isJoined_8 N n8 v_a x2 x3 x4 x5 = some o_r → va_P D vwCl (WM h q cI cJ cZ v_a v_image v_texts v_tape v_taped v_fault v_faultPlace v_at v_place v_token v_number v_word v_text0 v_written v_sort0 v_pile v_piled v_opens v_isWhole v_once v_named v_values v_truth v_isWritten v_died v_aside v_likely v_safe v_headOf) H → va_D A (WM h q cI cJ cZ v_a v_image v_texts v_tape v_taped v_fault v_faultPlace v_at v_place v_token v_number v_word v_text0 v_written v_sort0 v_pile v_piled v_opens v_isWhole v_once v_named v_values v_truth v_isWritten v_died v_aside v_likely v_safe v_headOf) → va_S A s.heap H locs → lv_has ls 6 [(0, .ref h), (2, .int x2), (3, .int x3), (4, .int x4), (5, .int x5)] → W p l e ({ frames := 2, cells := 0, slots := 0, locals := 45 } : Room) s m ([.ref h, .int p1, .int p2, .int p3] : List Value).toArray below meth c H locs 0 0 (MQ below ((mQi D (WM h q cI cJ cZ v_a v_image v_texts v_tape v_taped v_fault v_faultPlace v_at v_place v_token v_number v_word v_text0 v_written v_sort0 v_pile v_piled v_opens v_isWhole v_once v_named v_values v_truth v_isWritten v_died v_aside v_likely v_safe v_headOf) o_r (mB o_r)) A) ([.ref h, .int p1, .int p2, .int p3] : List Value).toArray s 0 0 A) (F0 m 8 ls []) := by
    intro n8
    induction n8 with
    | zero =>
      intro x2 x3 x4 x5 H locs ls hf hP hD hS hl
      simp [f_X12_isJoined_8] at hf
    | succ n8 ih8 =>
      intro x2 x3 x4 x5 H locs ls hf hP hD hS hl
      rw [f_X12_isJoined_8.eq_2] at hf
      refine lv_iload hx hb dX12_isJoined_8 (lv_at hl 4 rfl) ?_
      refine lv_bipush (v := (8 : Int32)) hx hb dX12_isJoined_10 (by decide) ?_
      refine xicmp_ge hx hb 30 dX12_isJoined_12 (by decide) hf (fun hf => ?_) (fun hf => ?_)
      · refine lv_iload hx hb dX12_isJoined_30 (lv_at hl 3 rfl) ?_
        refine lv_iload_n hx hb dX12_isJoined_32 rfl (lv_at hl 1 rfl) ?_
        obtain ⟨r33, hg33, hf⟩ := ob1_some hf
        refine mcS0_i (As := [.int x4, .int x2]) (rest := []) hx hb hml hown hts hK hP hD hS hA (k_X12_isWith l N D cI cJ cZ cB cT x4 x2 r33 hg33) (kwX12_78 hts rfl rfl ⟨Nat.le_of_ble_eq_true rfl, Nat.le_of_ble_eq_true rfl⟩) rfl hl.1 rfl (Nat.le_of_ble_eq_true rfl) dX12_isJoined_33 ⟨Nat.zero_le _, Nat.zero_le _⟩ (fun hB33 H locs hP hD hS => ?_)
        cases hf
        exact mret_z hx hb hr hlocks hP hD hS dX12_isJoined_36 rfl hB33
      · refine lv_aload_n hx hb dX12_isJoined_15 rfl (lv_at hl 0 rfl) ?_
        refine lv_iload hx hb dX12_isJoined_16 (lv_at hl 3 rfl) ?_
        refine lv_iload_n hx hb dX12_isJoined_18 rfl (lv_at hl 2 rfl) ?_
        obtain ⟨r19, hg19, hf⟩ := ob1_some hf
        refine mcV1_i (As := [.int x4, .int x3]) (rest := []) hx hb hml hown hts hK hP hD hS hA (k_X12_spread l N D cI cJ cZ cB cT h q v_a v_image v_texts v_tape v_taped v_fault v_faultPlace v_at v_place v_token v_number v_word v_text0 v_written v_sort0 v_pile v_piled v_opens v_isWhole v_once v_named v_values v_truth v_isWritten v_died v_aside v_likely v_safe v_headOf x4 x3 r19 hg19) (kwX12_451 hts rfl rfl ⟨Nat.le_of_ble_eq_true rfl, Nat.le_of_ble_eq_true rfl⟩) 0 rfl rfl rfl rfl hl.1 rfl (Nat.le_of_ble_eq_true rfl) dX12_isJoined_19 ⟨Nat.zero_le _, Nat.zero_le _⟩ (fun hB19 H locs hP hD hS => ?_)
        have hP : va_P D vwCl (WM h q cI cJ cZ v_a v_image v_texts v_tape v_taped v_fault v_faultPlace v_at v_place v_token v_number v_word v_text0 v_written v_sort0 v_pile v_piled v_opens v_isWhole v_once v_named v_values v_truth v_isWritten v_died v_aside v_likely v_safe v_headOf) H := hP
        have hD : va_D A (WM h q cI cJ cZ v_a v_image v_texts v_tape v_taped v_fault v_faultPlace v_at v_place v_token v_number v_word v_text0 v_written v_sort0 v_pile v_piled v_opens v_isWhole v_once v_named v_values v_truth v_isWritten v_died v_aside v_likely v_safe v_headOf) := hD
        refine lv_istore (lv' := [(4, .int r19), (0, .ref h), (2, .int x2), (3, .int x3), (5, .int x5)]) hx hb dX12_isJoined_22 hl (by decide) rfl (fun ls hl => ?_)
        refine lv_iinc (v := (x5 + (1 : Int32))) (lv' := [(5, .int (x5 + (1 : Int32))), (4, .int r19), (0, .ref h), (2, .int x2), (3, .int x3)]) hx hb dX12_isJoined_24 hl (k := 4) rfl rfl (by decide) rfl (fun ls hl => ?_)
        refine lv_goto (tgt := 8) hx hb dX12_isJoined_27 (by decide) ?_
        exact ih8 x2 x3 r19 (x5 + (1 : Int32)) _ _ _ hf hP hD hS (lv_sub hl [2, 3, 4, 1, 0] rfl)
  unfold f_X12_isJoined at hf
  refine lv_iconst (v := (1 : Int32)) hx hb dX12_isJoined_0 (by decide) ?_
  refine lv_iload_n hx hb dX12_isJoined_1 rfl (lv_at hl 1 rfl) ?_
  refine lv_ishl hx hb dX12_isJoined_2 ?_
  refine lv_istore (lv' := [(4, .int ((1 : Int32) <<< (p1 &&& 31))), (0, .ref h), (1, .int p1), (2, .int p2), (3, .int p3)]) hx hb dX12_isJoined_3 hl (by decide) rfl (fun ls hl => ?_)
  refine lv_iconst (v := (0 : Int32)) hx hb dX12_isJoined_5 (by decide) ?_
  refine lv_istore (lv' := [(5, .int (0 : Int32)), (4, .int ((1 : Int32) <<< (p1 &&& 31))), (0, .ref h), (1, .int p1), (2, .int p2), (3, .int p3)]) hx hb dX12_isJoined_6 hl (by decide) rfl (fun ls hl => ?_)
  exact b8 N p2 p3 ((1 : Int32) <<< (p1 &&& 31)) (0 : Int32) _ _ _ hf hP hD hS (lv_sub hl [2, 4, 5, 1, 0] rfl)
theorem dX12_watch_0 : decode cX12_watch 0 = .ok (.aload_n 0, 1) := by decide +kernel
theorem dX12_watch_1 : decode cX12_watch 1 = .ok (.iload_n 1, 1) := by decide +kernel
theorem dX12_watch_2 : decode cX12_watch 2 = .ok (.invokevirtual 75, 3) := by decide +kernel
theorem dX12_watch_5 : decode cX12_watch 5 = .ok (.ifCond .eq 32, 3) := by decide +kernel
theorem dX12_watch_8 : decode cX12_watch 8 = .ok (.aload_n 0, 1) := by decide +kernel
theorem dX12_watch_9 : decode cX12_watch 9 = .ok (.iload_n 2, 1) := by decide +kernel
theorem dX12_watch_10 : decode cX12_watch 10 = .ok (.invokevirtual 75, 3) := by decide +kernel
theorem dX12_watch_13 : decode cX12_watch 13 = .ok (.ifCond .eq 24, 3) := by decide +kernel
theorem dX12_watch_16 : decode cX12_watch 16 = .ok (.iload_n 1, 1) := by decide +kernel
theorem dX12_watch_17 : decode cX12_watch 17 = .ok (.iload_n 2, 1) := by decide +kernel
theorem dX12_watch_18 : decode cX12_watch 18 = .ok (.if_icmp .eq 19, 3) := by decide +kernel
theorem dX12_watch_21 : decode cX12_watch 21 = .ok (.aload_n 0, 1) := by decide +kernel
theorem dX12_watch_22 : decode cX12_watch 22 = .ok (.getfield 7, 3) := by decide +kernel
theorem dX12_watch_25 : decode cX12_watch 25 = .ok (.bipush 88, 2) := by decide +kernel
theorem dX12_watch_27 : decode cX12_watch 27 = .ok (.iload_n 1, 1) := by decide +kernel
theorem dX12_watch_28 : decode cX12_watch 28 = .ok (.iadd, 1) := by decide +kernel
theorem dX12_watch_29 : decode cX12_watch 29 = .ok (.iaload, 1) := by decide +kernel
theorem dX12_watch_30 : decode cX12_watch 30 = .ok (.iload_n 2, 1) := by decide +kernel
theorem dX12_watch_31 : decode cX12_watch 31 = .ok (.invokestatic 78, 3) := by decide +kernel
theorem dX12_watch_34 : decode cX12_watch 34 = .ok (.ifCond .eq 5, 3) := by decide +kernel
theorem dX12_watch_37 : decode cX12_watch 37 = .ok (.iconst (-1), 1) := by decide +kernel
theorem dX12_watch_38 : decode cX12_watch 38 = .ok (.ireturn, 1) := by decide +kernel
theorem dX12_watch_39 : decode cX12_watch 39 = .ok (.iconst (-1), 1) := by decide +kernel
theorem dX12_watch_40 : decode cX12_watch 40 = .ok (.istore_n 3, 1) := by decide +kernel
theorem dX12_watch_41 : decode cX12_watch 41 = .ok (.iconst 0, 1) := by decide +kernel
theorem dX12_watch_42 : decode cX12_watch 42 = .ok (.istore 4, 2) := by decide +kernel
theorem dX12_watch_44 : decode cX12_watch 44 = .ok (.iload 4, 2) := by decide +kernel
theorem dX12_watch_46 : decode cX12_watch 46 = .ok (.iconst 1, 1) := by decide +kernel
theorem dX12_watch_47 : decode cX12_watch 47 = .ok (.aload_n 0, 1) := by decide +kernel
theorem dX12_watch_48 : decode cX12_watch 48 = .ok (.getfield 7, 3) := by decide +kernel
theorem dX12_watch_51 : decode cX12_watch 51 = .ok (.iconst 0, 1) := by decide +kernel
theorem dX12_watch_52 : decode cX12_watch 52 = .ok (.iaload, 1) := by decide +kernel
theorem dX12_watch_53 : decode cX12_watch 53 = .ok (.ishl, 1) := by decide +kernel
theorem dX12_watch_54 : decode cX12_watch 54 = .ok (.if_icmp .ge 63, 3) := by decide +kernel
theorem dX12_watch_57 : decode cX12_watch 57 = .ok (.iload 4, 2) := by decide +kernel
theorem dX12_watch_59 : decode cX12_watch 59 = .ok (.iload_n 1, 1) := by decide +kernel
theorem dX12_watch_60 : decode cX12_watch 60 = .ok (.invokestatic 78, 3) := by decide +kernel
theorem dX12_watch_63 : decode cX12_watch 63 = .ok (.ifCond .ne 48, 3) := by decide +kernel
theorem dX12_watch_66 : decode cX12_watch 66 = .ok (.iload 4, 2) := by decide +kernel
theorem dX12_watch_68 : decode cX12_watch 68 = .ok (.iload_n 2, 1) := by decide +kernel
theorem dX12_watch_69 : decode cX12_watch 69 = .ok (.invokestatic 78, 3) := by decide +kernel
theorem dX12_watch_72 : decode cX12_watch 72 = .ok (.ifCond .ne 39, 3) := by decide +kernel
theorem dX12_watch_75 : decode cX12_watch 75 = .ok (.iload_n 3, 1) := by decide +kernel
theorem dX12_watch_76 : decode cX12_watch 76 = .ok (.iconst (-1), 1) := by decide +kernel
theorem dX12_watch_77 : decode cX12_watch 77 = .ok (.if_icmp .eq 20, 3) := by decide +kernel
theorem dX12_watch_80 : decode cX12_watch 80 = .ok (.iload 4, 2) := by decide +kernel
theorem dX12_watch_82 : decode cX12_watch 82 = .ok (.i2l, 1) := by decide +kernel
theorem dX12_watch_83 : decode cX12_watch 83 = .ok (.invokestatic 268, 3) := by decide +kernel
theorem dX12_watch_86 : decode cX12_watch 86 = .ok (.iload_n 3, 1) := by decide +kernel
theorem dX12_watch_87 : decode cX12_watch 87 = .ok (.i2l, 1) := by decide +kernel
theorem dX12_watch_88 : decode cX12_watch 88 = .ok (.invokestatic 268, 3) := by decide +kernel
theorem dX12_watch_91 : decode cX12_watch 91 = .ok (.if_icmp .lt 6, 3) := by decide +kernel
theorem dX12_watch_94 : decode cX12_watch 94 = .ok (.goto 17, 3) := by decide +kernel
theorem dX12_watch_97 : decode cX12_watch 97 = .ok (.aload_n 0, 1) := by decide +kernel
theorem dX12_watch_98 : decode cX12_watch 98 = .ok (.iload_n 1, 1) := by decide +kernel
theorem dX12_watch_99 : decode cX12_watch 99 = .ok (.iload_n 2, 1) := by decide +kernel
theorem dX12_watch_100 : decode cX12_watch 100 = .ok (.iload 4, 2) := by decide +kernel
theorem dX12_watch_102 : decode cX12_watch 102 = .ok (.invokevirtual 454, 3) := by decide +kernel
theorem dX12_watch_105 : decode cX12_watch 105 = .ok (.ifCond .ne 6, 3) := by decide +kernel
theorem dX12_watch_108 : decode cX12_watch 108 = .ok (.iload 4, 2) := by decide +kernel
theorem dX12_watch_110 : decode cX12_watch 110 = .ok (.istore_n 3, 1) := by decide +kernel
theorem dX12_watch_111 : decode cX12_watch 111 = .ok (.iinc 4 1, 3) := by decide +kernel
theorem dX12_watch_114 : decode cX12_watch 114 = .ok (.goto (-70), 3) := by decide +kernel
theorem dX12_watch_117 : decode cX12_watch 117 = .ok (.iload_n 3, 1) := by decide +kernel
theorem dX12_watch_118 : decode cX12_watch 118 = .ok (.ireturn, 1) := by decide +kernel
def f_X12_watch_111 (N : Nat) (k_44 : (Nat → Int32) → Int32 → Int32 → Int32 → Int32 → Option (Int32)) (v_a : Nat → Int32) (x1 : Int32) (x2 : Int32) (x3 : Int32) (x4 : Int32) : Option (Int32) := k_44 v_a x1 x2 x3 (x4 + (1 : Int32))
def f_X12_watch_97 (N : Nat) (k_44 : (Nat → Int32) → Int32 → Int32 → Int32 → Int32 → Option (Int32)) (v_a : Nat → Int32) (x1 : Int32) (x2 : Int32) (x3 : Int32) (x4 : Int32) : Option (Int32) := ob1 (f_X12_isJoined N v_a x1 x2 x4) fun r102 => if r102 = 0 then (f_X12_watch_111 N k_44 v_a x1 x2 x4 x4) else (f_X12_watch_111 N k_44 v_a x1 x2 x3 x4)
def f_X12_watch_44 (N : Nat) : Nat → (Nat → Int32) → Int32 → Int32 → Int32 → Int32 → Option (Int32)
  | 0, _, _, _, _, _ => none
  | n + 1, v_a, x1, x2, x3, x4 => gA v_a 8762 (0 : Int32) fun v52 => if ((1 : Int32) <<< (v52 &&& 31)) ≤ x4 then (some x3) else (ob1 (f_X12_isWith N x4 x1) fun r60 => if r60 = 0 then (ob1 (f_X12_isWith N x4 x2) fun r69 => if r69 = 0 then (if x3 = (-1 : Int32) then (f_X12_watch_97 N (f_X12_watch_44 N n) v_a x1 x2 x3 x4) else (ob1 (f_X12_bits N x4.toInt64) fun r83 => ob1 (f_X12_bits N x3.toInt64) fun r88 => if r83 < r88 then (f_X12_watch_97 N (f_X12_watch_44 N n) v_a x1 x2 x3 x4) else (f_X12_watch_111 N (f_X12_watch_44 N n) v_a x1 x2 x3 x4))) else (f_X12_watch_111 N (f_X12_watch_44 N n) v_a x1 x2 x3 x4)) else (f_X12_watch_111 N (f_X12_watch_44 N n) v_a x1 x2 x3 x4))
def f_X12_watch (N : Nat) (v_a : Nat → Int32) (p1 : Int32) (p2 : Int32) : Option (Int32) := ob1 (f_X12_isLand N v_a p1) fun r2 => if r2 = 0 then (some (-1 : Int32)) else (ob1 (f_X12_isLand N v_a p2) fun r10 => if r10 = 0 then (some (-1 : Int32)) else (if p1 = p2 then (some (-1 : Int32)) else (gA v_a 8762 ((88 : Int32) + p1) fun v29 => ob1 (f_X12_isWith N v29 p2) fun r31 => if r31 = 0 then (f_X12_watch_44 N N v_a p1 p2 (-1 : Int32) (0 : Int32)) else (some (-1 : Int32)))))
set_option maxHeartbeats 4000000 in
set_option maxRecDepth 100000 in
theorem k_X12_watch (l : Launch) (N : Nat) (D : va_G) (cI cJ cZ cB cT : ClassId) (h : Nat) (q : Nat → Nat) (v_a : Nat → Int32) (v_image : Nat → Int32) (v_texts : Nat → Int32) (v_tape : Nat → Int32) (v_taped : Int32) (v_fault : Int32) (v_faultPlace : Int32) (v_at : Int32) (v_place : Int32) (v_token : Int32) (v_number : Int32) (v_word : Int64) (v_text0 : Int32) (v_written : Int32) (v_sort0 : Int32) (v_pile : Nat → Int32) (v_piled : Int32) (v_opens : Int32) (v_isWhole : Int32) (v_once : Int32) (v_named : Nat → Int32) (v_values : Nat → Int64) (v_truth : Nat → Int32) (v_isWritten : Int32) (v_died : Int32) (v_aside : Nat → Int32) (v_likely : Nat → Int32) (v_safe : Nat → Int32) (v_headOf : Nat → Int32) (p1 : Int32) (p2 : Int32) (o_r : Int32) (hf : f_X12_watch N v_a p1 p2 = some o_r) : ∀ sz, Met l yX12_watch (mw yX12_watch cX12_watch 5 (some .int)) ({ frames := 3, cells := 0, slots := 0, locals := 70 } : Room) (mPre D (mT cI cJ cZ cB cT) (WM h q cI cJ cZ v_a v_image v_texts v_tape v_taped v_fault v_faultPlace v_at v_place v_token v_number v_word v_text0 v_written v_sort0 v_pile v_piled v_opens v_isWhole v_once v_named v_values v_truth v_isWritten v_died v_aside v_likely v_safe v_headOf) sz [.ref h, .int p1, .int p2]) ((mQi D (WM h q cI cJ cZ v_a v_image v_texts v_tape v_taped v_fault v_faultPlace v_at v_place v_token v_number v_word v_text0 v_written v_sort0 v_pile v_piled v_opens v_isWhole v_once v_named v_values v_truth v_isWritten v_died v_aside v_likely v_safe v_headOf) o_r True) (va_A (WM h q cI cJ cZ v_a v_image v_texts v_tape v_taped v_fault v_faultPlace v_at v_place v_token v_number v_word v_text0 v_written v_sort0 v_pile v_piled v_opens v_isWhole v_once v_named v_values v_truth v_isWritten v_died v_aside v_likely v_safe v_headOf) sz)) 0 0 (va_A (WM h q cI cJ cZ v_a v_image v_texts v_tape v_taped v_fault v_faultPlace v_at v_place v_token v_number v_word v_text0 v_written v_sort0 v_pile v_piled v_opens v_isWhole v_once v_named v_values v_truth v_isWritten v_died v_aside v_likely v_safe v_headOf) sz) := by
  refine mMet (Qc := (mQi D (WM h q cI cJ cZ v_a v_image v_texts v_tape v_taped v_fault v_faultPlace v_at v_place v_token v_number v_word v_text0 v_written v_sort0 v_pile v_piled v_opens v_isWhole v_once v_named v_values v_truth v_isWritten v_died v_aside v_likely v_safe v_headOf) o_r True)) (by decide) (Nat.le_of_ble_eq_true rfl) (fun p e s m below meth c A ls hx hb hr hml hts hown hlocks hK hA hP hD hl => ?_)
  have hown : s.vm.findClass RX12 = some m.cls := hown
  have hl : lv_has ls 5 [(0, .ref h), (1, .int p1), (2, .int p2)] := hl
  have hS : va_S A s.heap s.heap [] := va_S.rf
  have b44 : ∀ n44 : Nat, ∀ (x1 : Int32) (x2 : Int32) (x3 : Int32) (x4 : Int32) (H : Heap) (locs : List Loc) (ls : Array Slot), f_X12_watch_44 N n44 v_a x1 x2 x3 x4 = some o_r → va_P D vwCl (WM h q cI cJ cZ v_a v_image v_texts v_tape v_taped v_fault v_faultPlace v_at v_place v_token v_number v_word v_text0 v_written v_sort0 v_pile v_piled v_opens v_isWhole v_once v_named v_values v_truth v_isWritten v_died v_aside v_likely v_safe v_headOf) H → va_D A (WM h q cI cJ cZ v_a v_image v_texts v_tape v_taped v_fault v_faultPlace v_at v_place v_token v_number v_word v_text0 v_written v_sort0 v_pile v_piled v_opens v_isWhole v_once v_named v_values v_truth v_isWritten v_died v_aside v_likely v_safe v_headOf) → va_S A s.heap H locs → lv_has ls 5 [(0, .ref h), (1, .int x1), (2, .int x2), (3, .int x3), (4, .int x4)] → W p l e ({ frames := 3, cells := 0, slots := 0, locals := 70 } : Room) s m ([.ref h, .int p1, .int p2] : List Value).toArray below meth c H locs 0 0 (MQ below ((mQi D (WM h q cI cJ cZ v_a v_image v_texts v_tape v_taped v_fault v_faultPlace v_at v_place v_token v_number v_word v_text0 v_written v_sort0 v_pile v_piled v_opens v_isWhole v_once v_named v_values v_truth v_isWritten v_died v_aside v_likely v_safe v_headOf) o_r True) A) ([.ref h, .int p1, .int p2] : List Value).toArray s 0 0 A) (F0 m 44 ls []) := by
    intro n44
    induction n44 with
    | zero =>
      intro x1 x2 x3 x4 H locs ls hf hP hD hS hl
      simp [f_X12_watch_44] at hf
    | succ n44 ih44 =>
      have b111 : ∀ (x1 : Int32) (x2 : Int32) (x3 : Int32) (x4 : Int32) (H : Heap) (locs : List Loc) (ls : Array Slot), f_X12_watch_111 N (f_X12_watch_44 N n44) v_a x1 x2 x3 x4 = some o_r → va_P D vwCl (WM h q cI cJ cZ v_a v_image v_texts v_tape v_taped v_fault v_faultPlace v_at v_place v_token v_number v_word v_text0 v_written v_sort0 v_pile v_piled v_opens v_isWhole v_once v_named v_values v_truth v_isWritten v_died v_aside v_likely v_safe v_headOf) H → va_D A (WM h q cI cJ cZ v_a v_image v_texts v_tape v_taped v_fault v_faultPlace v_at v_place v_token v_number v_word v_text0 v_written v_sort0 v_pile v_piled v_opens v_isWhole v_once v_named v_values v_truth v_isWritten v_died v_aside v_likely v_safe v_headOf) → va_S A s.heap H locs → lv_has ls 5 [(0, .ref h), (1, .int x1), (2, .int x2), (3, .int x3), (4, .int x4)] → W p l e ({ frames := 3, cells := 0, slots := 0, locals := 70 } : Room) s m ([.ref h, .int p1, .int p2] : List Value).toArray below meth c H locs 0 0 (MQ below ((mQi D (WM h q cI cJ cZ v_a v_image v_texts v_tape v_taped v_fault v_faultPlace v_at v_place v_token v_number v_word v_text0 v_written v_sort0 v_pile v_piled v_opens v_isWhole v_once v_named v_values v_truth v_isWritten v_died v_aside v_likely v_safe v_headOf) o_r True) A) ([.ref h, .int p1, .int p2] : List Value).toArray s 0 0 A) (F0 m 111 ls []) := by
        intro x1 x2 x3 x4 H locs ls hf hP hD hS hl
        unfold f_X12_watch_111 at hf
        refine lv_iinc (v := (x4 + (1 : Int32))) (lv' := [(4, .int (x4 + (1 : Int32))), (0, .ref h), (1, .int x1), (2, .int x2), (3, .int x3)]) hx hb dX12_watch_111 hl (k := 4) rfl rfl (by decide) rfl (fun ls hl => ?_)
        refine lv_goto (tgt := 44) hx hb dX12_watch_114 (by decide) ?_
        exact ih44 x1 x2 x3 (x4 + (1 : Int32)) _ _ _ hf hP hD hS (lv_sub hl [1, 2, 3, 4, 0] rfl)
      have b97 : ∀ (x1 : Int32) (x2 : Int32) (x3 : Int32) (x4 : Int32) (H : Heap) (locs : List Loc) (ls : Array Slot), f_X12_watch_97 N (f_X12_watch_44 N n44) v_a x1 x2 x3 x4 = some o_r → va_P D vwCl (WM h q cI cJ cZ v_a v_image v_texts v_tape v_taped v_fault v_faultPlace v_at v_place v_token v_number v_word v_text0 v_written v_sort0 v_pile v_piled v_opens v_isWhole v_once v_named v_values v_truth v_isWritten v_died v_aside v_likely v_safe v_headOf) H → va_D A (WM h q cI cJ cZ v_a v_image v_texts v_tape v_taped v_fault v_faultPlace v_at v_place v_token v_number v_word v_text0 v_written v_sort0 v_pile v_piled v_opens v_isWhole v_once v_named v_values v_truth v_isWritten v_died v_aside v_likely v_safe v_headOf) → va_S A s.heap H locs → lv_has ls 5 [(0, .ref h), (1, .int x1), (2, .int x2), (3, .int x3), (4, .int x4)] → W p l e ({ frames := 3, cells := 0, slots := 0, locals := 70 } : Room) s m ([.ref h, .int p1, .int p2] : List Value).toArray below meth c H locs 0 0 (MQ below ((mQi D (WM h q cI cJ cZ v_a v_image v_texts v_tape v_taped v_fault v_faultPlace v_at v_place v_token v_number v_word v_text0 v_written v_sort0 v_pile v_piled v_opens v_isWhole v_once v_named v_values v_truth v_isWritten v_died v_aside v_likely v_safe v_headOf) o_r True) A) ([.ref h, .int p1, .int p2] : List Value).toArray s 0 0 A) (F0 m 97 ls []) := by
        intro x1 x2 x3 x4 H locs ls hf hP hD hS hl
        unfold f_X12_watch_97 at hf
        refine lv_aload_n hx hb dX12_watch_97 rfl (lv_at hl 0 rfl) ?_
        refine lv_iload_n hx hb dX12_watch_98 rfl (lv_at hl 1 rfl) ?_
        refine lv_iload_n hx hb dX12_watch_99 rfl (lv_at hl 2 rfl) ?_
        refine lv_iload hx hb dX12_watch_100 (lv_at hl 4 rfl) ?_
        obtain ⟨r102, hg102, hf⟩ := ob1_some hf
        refine mcV1_i (As := [.int x1, .int x2, .int x4]) (rest := []) hx hb hml hown hts hK hP hD hS hA (k_X12_isJoined l N D cI cJ cZ cB cT h q v_a v_image v_texts v_tape v_taped v_fault v_faultPlace v_at v_place v_token v_number v_word v_text0 v_written v_sort0 v_pile v_piled v_opens v_isWhole v_once v_named v_values v_truth v_isWritten v_died v_aside v_likely v_safe v_headOf x1 x2 x4 r102 hg102) (kwX12_454 hts rfl rfl ⟨Nat.le_of_ble_eq_true rfl, Nat.le_of_ble_eq_true rfl⟩) 0 rfl rfl rfl rfl hl.1 rfl (Nat.le_of_ble_eq_true rfl) dX12_watch_102 ⟨Nat.zero_le _, Nat.zero_le _⟩ (fun hB102 H locs hP hD hS => ?_)
        have hP : va_P D vwCl (WM h q cI cJ cZ v_a v_image v_texts v_tape v_taped v_fault v_faultPlace v_at v_place v_token v_number v_word v_text0 v_written v_sort0 v_pile v_piled v_opens v_isWhole v_once v_named v_values v_truth v_isWritten v_died v_aside v_likely v_safe v_headOf) H := hP
        have hD : va_D A (WM h q cI cJ cZ v_a v_image v_texts v_tape v_taped v_fault v_faultPlace v_at v_place v_token v_number v_word v_text0 v_written v_sort0 v_pile v_piled v_opens v_isWhole v_once v_named v_values v_truth v_isWritten v_died v_aside v_likely v_safe v_headOf) := hD
        refine xif_ne hx hb 111 dX12_watch_105 (by decide) hf (fun hf => ?_) (fun hf => ?_)
        · refine lv_iload hx hb dX12_watch_108 (lv_at hl 4 rfl) ?_
          refine lv_istore_n (lv' := [(3, .int x4), (0, .ref h), (1, .int x1), (2, .int x2), (4, .int x4)]) hx hb dX12_watch_110 rfl hl (by decide) rfl (fun ls hl => ?_)
          exact b111 x1 x2 x4 x4 _ _ _ hf hP hD hS (lv_sub hl [1, 2, 3, 0, 4] rfl)
        · exact b111 x1 x2 x3 x4 _ _ _ hf hP hD hS (lv_sub hl [0, 1, 2, 3, 4] rfl)
      intro x1 x2 x3 x4 H locs ls hf hP hD hS hl
      rw [f_X12_watch_44.eq_2] at hf
      refine lv_iload hx hb dX12_watch_44 (lv_at hl 4 rfl) ?_
      refine lv_iconst (v := (1 : Int32)) hx hb dX12_watch_46 (by decide) ?_
      refine lv_aload_n hx hb dX12_watch_47 rfl (lv_at hl 0 rfl) ?_
      refine gfX12_7 hx hb hts hown hK hP 0 rfl rfl dX12_watch_48 ?_
      refine lv_iconst (v := (0 : Int32)) hx hb dX12_watch_51 (by decide) ?_
      refine xiald hx hb hK hP 1 0 rfl rfl dX12_watch_52 hf (fun v52 hf => ?_)
      refine lv_ishl hx hb dX12_watch_53 ?_
      refine xicmp_ge hx hb 117 dX12_watch_54 (by decide) hf (fun hf => ?_) (fun hf => ?_)
      · refine lv_iload_n hx hb dX12_watch_117 rfl (lv_at hl 3 rfl) ?_
        cases hf
        exact mret_i hx hb hr hlocks hP hD hS dX12_watch_118 rfl trivial
      · refine lv_iload hx hb dX12_watch_57 (lv_at hl 4 rfl) ?_
        refine lv_iload_n hx hb dX12_watch_59 rfl (lv_at hl 1 rfl) ?_
        obtain ⟨r60, hg60, hf⟩ := ob1_some hf
        refine mcS0_i (As := [.int x4, .int x1]) (rest := []) hx hb hml hown hts hK hP hD hS hA (k_X12_isWith l N D cI cJ cZ cB cT x4 x1 r60 hg60) (kwX12_78 hts rfl rfl ⟨Nat.le_of_ble_eq_true rfl, Nat.le_of_ble_eq_true rfl⟩) rfl hl.1 rfl (Nat.le_of_ble_eq_true rfl) dX12_watch_60 ⟨Nat.zero_le _, Nat.zero_le _⟩ (fun hB60 H locs hP hD hS => ?_)
        refine xif_ne hx hb 111 dX12_watch_63 (by decide) hf (fun hf => ?_) (fun hf => ?_)
        · refine lv_iload hx hb dX12_watch_66 (lv_at hl 4 rfl) ?_
          refine lv_iload_n hx hb dX12_watch_68 rfl (lv_at hl 2 rfl) ?_
          obtain ⟨r69, hg69, hf⟩ := ob1_some hf
          refine mcS0_i (As := [.int x4, .int x2]) (rest := []) hx hb hml hown hts hK hP hD hS hA (k_X12_isWith l N D cI cJ cZ cB cT x4 x2 r69 hg69) (kwX12_78 hts rfl rfl ⟨Nat.le_of_ble_eq_true rfl, Nat.le_of_ble_eq_true rfl⟩) rfl hl.1 rfl (Nat.le_of_ble_eq_true rfl) dX12_watch_69 ⟨Nat.zero_le _, Nat.zero_le _⟩ (fun hB69 H locs hP hD hS => ?_)
          refine xif_ne hx hb 111 dX12_watch_72 (by decide) hf (fun hf => ?_) (fun hf => ?_)
          · refine lv_iload_n hx hb dX12_watch_75 rfl (lv_at hl 3 rfl) ?_
            refine lv_iconst (v := (-1 : Int32)) hx hb dX12_watch_76 (by decide) ?_
            refine xicmp_eq hx hb 97 dX12_watch_77 (by decide) hf (fun hf => ?_) (fun hf => ?_)
            · exact b97 x1 x2 x3 x4 _ _ _ hf hP hD hS (lv_sub hl [0, 1, 2, 3, 4] rfl)
            · refine lv_iload hx hb dX12_watch_80 (lv_at hl 4 rfl) ?_
              refine lv_i2l hx hb dX12_watch_82 rfl ?_
              obtain ⟨r83, hg83, hf⟩ := ob1_some hf
              refine mcS0_i (As := [.long x4.toInt64]) (rest := []) hx hb hml hown hts hK hP hD hS hA (k_X12_bits l N D cI cJ cZ cB cT x4.toInt64 r83 hg83) (kwX12_268 hts rfl rfl ⟨Nat.le_of_ble_eq_true rfl, Nat.le_of_ble_eq_true rfl⟩) rfl hl.1 rfl (Nat.le_of_ble_eq_true rfl) dX12_watch_83 ⟨Nat.zero_le _, Nat.zero_le _⟩ (fun hB83 H locs hP hD hS => ?_)
              refine lv_iload_n hx hb dX12_watch_86 rfl (lv_at hl 3 rfl) ?_
              refine lv_i2l hx hb dX12_watch_87 rfl ?_
              obtain ⟨r88, hg88, hf⟩ := ob1_some hf
              refine mcS0_i (As := [.long x3.toInt64]) (rest := [.int r83]) hx hb hml hown hts hK hP hD hS hA (k_X12_bits l N D cI cJ cZ cB cT x3.toInt64 r88 hg88) (kwX12_268 hts rfl rfl ⟨Nat.le_of_ble_eq_true rfl, Nat.le_of_ble_eq_true rfl⟩) rfl hl.1 rfl (Nat.le_of_ble_eq_true rfl) dX12_watch_88 ⟨Nat.zero_le _, Nat.zero_le _⟩ (fun hB88 H locs hP hD hS => ?_)
              refine xicmp_lt hx hb 97 dX12_watch_91 (by decide) hf (fun hf => ?_) (fun hf => ?_)
              · exact b97 x1 x2 x3 x4 _ _ _ hf hP hD hS (lv_sub hl [0, 1, 2, 3, 4] rfl)
              · refine lv_goto (tgt := 111) hx hb dX12_watch_94 (by decide) ?_
                exact b111 x1 x2 x3 x4 _ _ _ hf hP hD hS (lv_sub hl [0, 1, 2, 3, 4] rfl)
          · exact b111 x1 x2 x3 x4 _ _ _ hf hP hD hS (lv_sub hl [0, 1, 2, 3, 4] rfl)
        · exact b111 x1 x2 x3 x4 _ _ _ hf hP hD hS (lv_sub hl [0, 1, 2, 3, 4] rfl)
  unfold f_X12_watch at hf
  refine lv_aload_n hx hb dX12_watch_0 rfl (lv_at hl 0 rfl) ?_
  refine lv_iload_n hx hb dX12_watch_1 rfl (lv_at hl 1 rfl) ?_
  obtain ⟨r2, hg2, hf⟩ := ob1_some hf
  refine mcV1_i (As := [.int p1]) (rest := []) hx hb hml hown hts hK hP hD hS hA (k_X12_isLand l N D cI cJ cZ cB cT h q v_a v_image v_texts v_tape v_taped v_fault v_faultPlace v_at v_place v_token v_number v_word v_text0 v_written v_sort0 v_pile v_piled v_opens v_isWhole v_once v_named v_values v_truth v_isWritten v_died v_aside v_likely v_safe v_headOf p1 r2 hg2) (kwX12_75 hts rfl rfl ⟨Nat.le_of_ble_eq_true rfl, Nat.le_of_ble_eq_true rfl⟩) 0 rfl rfl rfl rfl hl.1 rfl (Nat.le_of_ble_eq_true rfl) dX12_watch_2 ⟨Nat.zero_le _, Nat.zero_le _⟩ (fun hB2 H locs hP hD hS => ?_)
  have hP : va_P D vwCl (WM h q cI cJ cZ v_a v_image v_texts v_tape v_taped v_fault v_faultPlace v_at v_place v_token v_number v_word v_text0 v_written v_sort0 v_pile v_piled v_opens v_isWhole v_once v_named v_values v_truth v_isWritten v_died v_aside v_likely v_safe v_headOf) H := hP
  have hD : va_D A (WM h q cI cJ cZ v_a v_image v_texts v_tape v_taped v_fault v_faultPlace v_at v_place v_token v_number v_word v_text0 v_written v_sort0 v_pile v_piled v_opens v_isWhole v_once v_named v_values v_truth v_isWritten v_died v_aside v_likely v_safe v_headOf) := hD
  refine xif_eq hx hb 37 dX12_watch_5 (by decide) hf (fun hf => ?_) (fun hf => ?_)
  · refine lv_iconst (v := (-1 : Int32)) hx hb dX12_watch_37 (by decide) ?_
    cases hf
    exact mret_i hx hb hr hlocks hP hD hS dX12_watch_38 rfl trivial
  · refine lv_aload_n hx hb dX12_watch_8 rfl (lv_at hl 0 rfl) ?_
    refine lv_iload_n hx hb dX12_watch_9 rfl (lv_at hl 2 rfl) ?_
    obtain ⟨r10, hg10, hf⟩ := ob1_some hf
    refine mcV1_i (As := [.int p2]) (rest := []) hx hb hml hown hts hK hP hD hS hA (k_X12_isLand l N D cI cJ cZ cB cT h q v_a v_image v_texts v_tape v_taped v_fault v_faultPlace v_at v_place v_token v_number v_word v_text0 v_written v_sort0 v_pile v_piled v_opens v_isWhole v_once v_named v_values v_truth v_isWritten v_died v_aside v_likely v_safe v_headOf p2 r10 hg10) (kwX12_75 hts rfl rfl ⟨Nat.le_of_ble_eq_true rfl, Nat.le_of_ble_eq_true rfl⟩) 0 rfl rfl rfl rfl hl.1 rfl (Nat.le_of_ble_eq_true rfl) dX12_watch_10 ⟨Nat.zero_le _, Nat.zero_le _⟩ (fun hB10 H locs hP hD hS => ?_)
    have hP : va_P D vwCl (WM h q cI cJ cZ v_a v_image v_texts v_tape v_taped v_fault v_faultPlace v_at v_place v_token v_number v_word v_text0 v_written v_sort0 v_pile v_piled v_opens v_isWhole v_once v_named v_values v_truth v_isWritten v_died v_aside v_likely v_safe v_headOf) H := hP
    have hD : va_D A (WM h q cI cJ cZ v_a v_image v_texts v_tape v_taped v_fault v_faultPlace v_at v_place v_token v_number v_word v_text0 v_written v_sort0 v_pile v_piled v_opens v_isWhole v_once v_named v_values v_truth v_isWritten v_died v_aside v_likely v_safe v_headOf) := hD
    refine xif_eq hx hb 37 dX12_watch_13 (by decide) hf (fun hf => ?_) (fun hf => ?_)
    · refine lv_iconst (v := (-1 : Int32)) hx hb dX12_watch_37 (by decide) ?_
      cases hf
      exact mret_i hx hb hr hlocks hP hD hS dX12_watch_38 rfl trivial
    · refine lv_iload_n hx hb dX12_watch_16 rfl (lv_at hl 1 rfl) ?_
      refine lv_iload_n hx hb dX12_watch_17 rfl (lv_at hl 2 rfl) ?_
      refine xicmp_eq hx hb 37 dX12_watch_18 (by decide) hf (fun hf => ?_) (fun hf => ?_)
      · refine lv_iconst (v := (-1 : Int32)) hx hb dX12_watch_37 (by decide) ?_
        cases hf
        exact mret_i hx hb hr hlocks hP hD hS dX12_watch_38 rfl trivial
      · refine lv_aload_n hx hb dX12_watch_21 rfl (lv_at hl 0 rfl) ?_
        refine gfX12_7 hx hb hts hown hK hP 0 rfl rfl dX12_watch_22 ?_
        refine lv_bipush (v := (88 : Int32)) hx hb dX12_watch_25 (by decide) ?_
        refine lv_iload_n hx hb dX12_watch_27 rfl (lv_at hl 1 rfl) ?_
        refine lv_iadd hx hb dX12_watch_28 ?_
        refine xiald hx hb hK hP 1 0 rfl rfl dX12_watch_29 hf (fun v29 hf => ?_)
        refine lv_iload_n hx hb dX12_watch_30 rfl (lv_at hl 2 rfl) ?_
        obtain ⟨r31, hg31, hf⟩ := ob1_some hf
        refine mcS0_i (As := [.int v29, .int p2]) (rest := []) hx hb hml hown hts hK hP hD hS hA (k_X12_isWith l N D cI cJ cZ cB cT v29 p2 r31 hg31) (kwX12_78 hts rfl rfl ⟨Nat.le_of_ble_eq_true rfl, Nat.le_of_ble_eq_true rfl⟩) rfl hl.1 rfl (Nat.le_of_ble_eq_true rfl) dX12_watch_31 ⟨Nat.zero_le _, Nat.zero_le _⟩ (fun hB31 H locs hP hD hS => ?_)
        refine xif_eq hx hb 39 dX12_watch_34 (by decide) hf (fun hf => ?_) (fun hf => ?_)
        · refine lv_iconst (v := (-1 : Int32)) hx hb dX12_watch_39 (by decide) ?_
          refine lv_istore_n (lv' := [(3, .int (-1 : Int32)), (0, .ref h), (1, .int p1), (2, .int p2)]) hx hb dX12_watch_40 rfl hl (by decide) rfl (fun ls hl => ?_)
          refine lv_iconst (v := (0 : Int32)) hx hb dX12_watch_41 (by decide) ?_
          refine lv_istore (lv' := [(4, .int (0 : Int32)), (3, .int (-1 : Int32)), (0, .ref h), (1, .int p1), (2, .int p2)]) hx hb dX12_watch_42 hl (by decide) rfl (fun ls hl => ?_)
          exact b44 N p1 p2 (-1 : Int32) (0 : Int32) _ _ _ hf hP hD hS (lv_sub hl [2, 3, 4, 1, 0] rfl)
        · refine lv_iconst (v := (-1 : Int32)) hx hb dX12_watch_37 (by decide) ?_
          cases hf
          exact mret_i hx hb hr hlocks hP hD hS dX12_watch_38 rfl trivial
