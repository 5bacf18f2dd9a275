theorem dX1_become_0 : decode cX1_become 0 = .ok (.aload_n 1, 1) := by decide +kernel
theorem dX1_become_1 : decode cX1_become 1 = .ok (.getfield 11, 3) := by decide +kernel
theorem dX1_become_4 : decode cX1_become 4 = .ok (.iconst 0, 1) := by decide +kernel
theorem dX1_become_5 : decode cX1_become 5 = .ok (.aload_n 0, 1) := by decide +kernel
theorem dX1_become_6 : decode cX1_become 6 = .ok (.getfield 11, 3) := by decide +kernel
theorem dX1_become_9 : decode cX1_become 9 = .ok (.iconst 0, 1) := by decide +kernel
theorem dX1_become_10 : decode cX1_become 10 = .ok (.bipush 76, 2) := by decide +kernel
theorem dX1_become_12 : decode cX1_become 12 = .ok (.invokestatic 21, 3) := by decide +kernel
theorem dX1_become_15 : decode cX1_become 15 = .ok (.aload_n 1, 1) := by decide +kernel
theorem dX1_become_16 : decode cX1_become 16 = .ok (.getfield 15, 3) := by decide +kernel
theorem dX1_become_19 : decode cX1_become 19 = .ok (.iconst 0, 1) := by decide +kernel
theorem dX1_become_20 : decode cX1_become 20 = .ok (.aload_n 0, 1) := by decide +kernel
theorem dX1_become_21 : decode cX1_become 21 = .ok (.getfield 15, 3) := by decide +kernel
theorem dX1_become_24 : decode cX1_become 24 = .ok (.iconst 0, 1) := by decide +kernel
theorem dX1_become_25 : decode cX1_become 25 = .ok (.bipush 6, 2) := by decide +kernel
theorem dX1_become_27 : decode cX1_become 27 = .ok (.invokestatic 21, 3) := by decide +kernel
theorem dX1_become_30 : decode cX1_become 30 = .ok (.aload_n 1, 1) := by decide +kernel
theorem dX1_become_31 : decode cX1_become 31 = .ok (.getfield 18, 3) := by decide +kernel
theorem dX1_become_34 : decode cX1_become 34 = .ok (.iconst 0, 1) := by decide +kernel
theorem dX1_become_35 : decode cX1_become 35 = .ok (.aload_n 0, 1) := by decide +kernel
theorem dX1_become_36 : decode cX1_become 36 = .ok (.getfield 18, 3) := by decide +kernel
theorem dX1_become_39 : decode cX1_become 39 = .ok (.iconst 0, 1) := by decide +kernel
theorem dX1_become_40 : decode cX1_become 40 = .ok (.bipush 18, 2) := by decide +kernel
theorem dX1_become_42 : decode cX1_become 42 = .ok (.invokestatic 21, 3) := by decide +kernel
theorem dX1_become_45 : decode cX1_become 45 = .ok (.return_, 1) := by decide +kernel
def f_X1_become (N : Nat) (f_row : Nat → Int32) (f_fears : Nat → Int32) (f_told : Nat → Int32) (g_row : Nat → Int32) (g_fears : Nat → Int32) (g_told : Nat → Int32) : Option ((Nat → Int32) × (Nat → Int32) × (Nat → Int32)) := cpI g_row 76 f_row 76 (0 : Int32) (0 : Int32) (76 : Int32) fun f_row_12 => cpI g_fears 6 f_fears 6 (0 : Int32) (0 : Int32) (6 : Int32) fun f_fears_27 => cpI g_told 18 f_told 18 (0 : Int32) (0 : Int32) (18 : Int32) fun f_told_42 => some (f_row_12, f_fears_27, f_told_42)
set_option maxHeartbeats 4000000 in
set_option maxRecDepth 100000 in
theorem k_X1_become (l : Launch) (N : Nat) (D : va_G) (cI cJ cZ cB cT : ClassId) (qf0 : Nat) (qf1 : Nat) (qf2 : Nat) (qf3 : Nat) (qg0 : Nat) (qg1 : Nat) (qg2 : Nat) (qg3 : Nat) (f_row : Nat → Int32) (f_fears : Nat → Int32) (f_told : Nat → Int32) (g_row : Nat → Int32) (g_fears : Nat → Int32) (g_told : Nat → Int32) (o_f_row : Nat → Int32) (o_f_fears : Nat → Int32) (o_f_told : Nat → Int32) (hf : f_X1_become N f_row f_fears f_told g_row g_fears g_told = some (o_f_row, o_f_fears, o_f_told)) : ∀ sz, Met l yX1_become (mw yX1_become cX1_become 2 none) ({ frames := 1, cells := 0, slots := 0, locals := 60 } : Room) (mPre D (mT cI cJ cZ cB cT) (W_FF_0t7 qf0 qf1 qf2 qf3 qg0 qg1 qg2 qg3 cI cJ cZ cB cT f_row f_fears f_told g_row g_fears g_told) sz [.ref qf0, .ref qg0]) ((mQv D (W_FF_0t7 qf0 qf1 qf2 qf3 qg0 qg1 qg2 qg3 cI cJ cZ cB cT o_f_row o_f_fears o_f_told g_row g_fears g_told)) (va_A (W_FF_0t7 qf0 qf1 qf2 qf3 qg0 qg1 qg2 qg3 cI cJ cZ cB cT f_row f_fears f_told g_row g_fears g_told) sz)) 0 0 (va_A (W_FF_0t7 qf0 qf1 qf2 qf3 qg0 qg1 qg2 qg3 cI cJ cZ cB cT f_row f_fears f_told g_row g_fears g_told) sz) := by
  refine mMet (Qc := (mQv D (W_FF_0t7 qf0 qf1 qf2 qf3 qg0 qg1 qg2 qg3 cI cJ cZ cB cT o_f_row o_f_fears o_f_told g_row g_fears g_told))) (by decide) (Nat.le_of_ble_eq_true rfl) (fun p e s m below meth c A ls hx hb hr hml hts hown hlocks hK hA hP hD hl => ?_)
  have hown : s.vm.findClass RX1 = some m.cls := hown
  have hl : lv_has ls 2 [(0, .ref qf0), (1, .ref qg0)] := hl
  have hS : va_S A s.heap s.heap [] := va_S.rf
  unfold f_X1_become at hf
  refine lv_aload_n hx hb dX1_become_0 rfl (lv_at hl 1 rfl) ?_
  refine gfX1_11 hx hb hts hown hK hP 4 rfl rfl dX1_become_1 ?_
  refine lv_iconst (v := (0 : Int32)) hx hb dX1_become_4 (by decide) ?_
  refine lv_aload_n hx hb dX1_become_5 rfl (lv_at hl 0 rfl) ?_
  refine gfX1_11 hx hb hts hown hK hP 0 rfl rfl dX1_become_6 ?_
  refine lv_iconst (v := (0 : Int32)) hx hb dX1_become_9 (by decide) ?_
  refine lv_bipush (v := (76 : Int32)) hx hb dX1_become_10 (by decide) ?_
  refine xcopy hx hb hml hl.1 hown hts cpwX1_21 hK hP hD hS 5 1 0 0 rfl rfl rfl rfl (Nat.le_of_ble_eq_true rfl) (by decide) dX1_become_12 hf (fun f_row_12 hf H locs hP hD hS => ?_)
  have hP : va_P D vwCl (W_FF_0t7 qf0 qf1 qf2 qf3 qg0 qg1 qg2 qg3 cI cJ cZ cB cT f_row_12 f_fears f_told g_row g_fears g_told) H := hP
  have hD : va_D A (W_FF_0t7 qf0 qf1 qf2 qf3 qg0 qg1 qg2 qg3 cI cJ cZ cB cT f_row_12 f_fears f_told g_row g_fears g_told) := hD
  refine lv_aload_n hx hb dX1_become_15 rfl (lv_at hl 1 rfl) ?_
  refine gfX1_15 hx hb hts hown hK hP 4 rfl rfl dX1_become_16 ?_
  refine lv_iconst (v := (0 : Int32)) hx hb dX1_become_19 (by decide) ?_
  refine lv_aload_n hx hb dX1_become_20 rfl (lv_at hl 0 rfl) ?_
  refine gfX1_15 hx hb hts hown hK hP 0 rfl rfl dX1_become_21 ?_
  refine lv_iconst (v := (0 : Int32)) hx hb dX1_become_24 (by decide) ?_
  refine lv_bipush (v := (6 : Int32)) hx hb dX1_become_25 (by decide) ?_
  refine xcopy hx hb hml hl.1 hown hts cpwX1_21 hK hP hD hS 6 2 0 0 rfl rfl rfl rfl (Nat.le_of_ble_eq_true rfl) (by decide) dX1_become_27 hf (fun f_fears_27 hf H locs hP hD hS => ?_)
  have hP : va_P D vwCl (W_FF_0t7 qf0 qf1 qf2 qf3 qg0 qg1 qg2 qg3 cI cJ cZ cB cT f_row_12 f_fears_27 f_told g_row g_fears g_told) H := hP
  have hD : va_D A (W_FF_0t7 qf0 qf1 qf2 qf3 qg0 qg1 qg2 qg3 cI cJ cZ cB cT f_row_12 f_fears_27 f_told g_row g_fears g_told) := hD
  refine lv_aload_n hx hb dX1_become_30 rfl (lv_at hl 1 rfl) ?_
  refine gfX1_18 hx hb hts hown hK hP 4 rfl rfl dX1_become_31 ?_
  refine lv_iconst (v := (0 : Int32)) hx hb dX1_become_34 (by decide) ?_
  refine lv_aload_n hx hb dX1_become_35 rfl (lv_at hl 0 rfl) ?_
  refine gfX1_18 hx hb hts hown hK hP 0 rfl rfl dX1_become_36 ?_
  refine lv_iconst (v := (0 : Int32)) hx hb dX1_become_39 (by decide) ?_
  refine lv_bipush (v := (18 : Int32)) hx hb dX1_become_40 (by decide) ?_
  refine xcopy hx hb hml hl.1 hown hts cpwX1_21 hK hP hD hS 7 3 0 0 rfl rfl rfl rfl (Nat.le_of_ble_eq_true rfl) (by decide) dX1_become_42 hf (fun f_told_42 hf H locs hP hD hS => ?_)
  have hP : va_P D vwCl (W_FF_0t7 qf0 qf1 qf2 qf3 qg0 qg1 qg2 qg3 cI cJ cZ cB cT f_row_12 f_fears_27 f_told_42 g_row g_fears g_told) H := hP
  have hD : va_D A (W_FF_0t7 qf0 qf1 qf2 qf3 qg0 qg1 qg2 qg3 cI cJ cZ cB cT f_row_12 f_fears_27 f_told_42 g_row g_fears g_told) := hD
  cases hf
  exact mret_v hx hb hr hlocks hP hD hS dX1_become_45
theorem dX1_copyTo_0 : decode cX1_copyTo 0 = .ok (.iload_n 2, 1) := by decide +kernel
theorem dX1_copyTo_1 : decode cX1_copyTo 1 = .ok (.ifCond .lt 24, 3) := by decide +kernel
theorem dX1_copyTo_4 : decode cX1_copyTo 4 = .ok (.iload_n 2, 1) := by decide +kernel
theorem dX1_copyTo_5 : decode cX1_copyTo 5 = .ok (.aload_n 1, 1) := by decide +kernel
theorem dX1_copyTo_6 : decode cX1_copyTo 6 = .ok (.arraylength, 1) := by decide +kernel
theorem dX1_copyTo_7 : decode cX1_copyTo 7 = .ok (.bipush 76, 2) := by decide +kernel
theorem dX1_copyTo_9 : decode cX1_copyTo 9 = .ok (.isub, 1) := by decide +kernel
theorem dX1_copyTo_10 : decode cX1_copyTo 10 = .ok (.if_icmp .gt 15, 3) := by decide +kernel
theorem dX1_copyTo_13 : decode cX1_copyTo 13 = .ok (.aload_n 0, 1) := by decide +kernel
theorem dX1_copyTo_14 : decode cX1_copyTo 14 = .ok (.getfield 11, 3) := by decide +kernel
theorem dX1_copyTo_17 : decode cX1_copyTo 17 = .ok (.iconst 0, 1) := by decide +kernel
theorem dX1_copyTo_18 : decode cX1_copyTo 18 = .ok (.aload_n 1, 1) := by decide +kernel
theorem dX1_copyTo_19 : decode cX1_copyTo 19 = .ok (.iload_n 2, 1) := by decide +kernel
theorem dX1_copyTo_20 : decode cX1_copyTo 20 = .ok (.bipush 76, 2) := by decide +kernel
theorem dX1_copyTo_22 : decode cX1_copyTo 22 = .ok (.invokestatic 21, 3) := by decide +kernel
theorem dX1_copyTo_25 : decode cX1_copyTo 25 = .ok (.return_, 1) := by decide +kernel
def f_X1_copyTo (N : Nat) (f_row : Nat → Int32) (z_store : Nat → Int32) (p2 : Int32) : Option ((Nat → Int32)) := if p2 < 0 then (some z_store) else (if ((2356 : Int32) - (76 : Int32)) < p2 then (some z_store) else (cpI f_row 76 z_store 2356 (0 : Int32) p2 (76 : Int32) fun z_store_22 => some z_store_22))
set_option maxHeartbeats 4000000 in
set_option maxRecDepth 100000 in
theorem k_X1_copyTo (l : Launch) (N : Nat) (D : va_G) (cI cJ cZ cB cT : ClassId) (qf0 : Nat) (qf1 : Nat) (qz1 : Nat) (qf2 : Nat) (qf3 : Nat) (f_row : Nat → Int32) (z_store : Nat → Int32) (p2 : Int32) (o_z_store : Nat → Int32) (hf : f_X1_copyTo N f_row z_store p2 = some o_z_store) : ∀ sz, Met l yX1_copyTo (mw yX1_copyTo cX1_copyTo 3 none) ({ frames := 1, cells := 0, slots := 0, locals := 60 } : Room) (mPre D (mT cI cJ cZ cB cT) (W_FS_0t1_4 qf0 qf1 qz1 qf2 qf3 cI cJ cZ cB cT f_row z_store) sz [.ref qf0, .ref qz1, .int p2]) ((mQv D (W_FS_0t1_4 qf0 qf1 qz1 qf2 qf3 cI cJ cZ cB cT f_row o_z_store)) (va_A (W_FS_0t1_4 qf0 qf1 qz1 qf2 qf3 cI cJ cZ cB cT f_row z_store) sz)) 0 0 (va_A (W_FS_0t1_4 qf0 qf1 qz1 qf2 qf3 cI cJ cZ cB cT f_row z_store) sz) := by
  refine mMet (Qc := (mQv D (W_FS_0t1_4 qf0 qf1 qz1 qf2 qf3 cI cJ cZ cB cT f_row o_z_store))) (by decide) (Nat.le_of_ble_eq_true rfl) (fun p e s m below meth c A ls hx hb hr hml hts hown hlocks hK hA hP hD hl => ?_)
  have hown : s.vm.findClass RX1 = some m.cls := hown
  have hl : lv_has ls 3 [(0, .ref qf0), (1, .ref qz1), (2, .int p2)] := hl
  have hS : va_S A s.heap s.heap [] := va_S.rf
  unfold f_X1_copyTo at hf
  refine lv_iload_n hx hb dX1_copyTo_0 rfl (lv_at hl 2 rfl) ?_
  refine xif_lt hx hb 25 dX1_copyTo_1 (by decide) hf (fun hf => ?_) (fun hf => ?_)
  · cases hf
    exact mret_v hx hb hr hlocks hP hD hS dX1_copyTo_25
  · refine lv_iload_n hx hb dX1_copyTo_4 rfl (lv_at hl 2 rfl) ?_
    refine lv_aload_n hx hb dX1_copyTo_5 rfl (lv_at hl 1 rfl) ?_
    refine va_alen (v := (2356 : Int32)) hx hb hK hP 2 0 rfl rfl rfl dX1_copyTo_6 ?_
    refine lv_bipush (v := (76 : Int32)) hx hb dX1_copyTo_7 (by decide) ?_
    refine lv_isub hx hb dX1_copyTo_9 ?_
    refine xicmp_gt hx hb 25 dX1_copyTo_10 (by decide) hf (fun hf => ?_) (fun hf => ?_)
    · cases hf
      exact mret_v hx hb hr hlocks hP hD hS dX1_copyTo_25
    · refine lv_aload_n hx hb dX1_copyTo_13 rfl (lv_at hl 0 rfl) ?_
      refine gfX1_11 hx hb hts hown hK hP 0 rfl rfl dX1_copyTo_14 ?_
      refine lv_iconst (v := (0 : Int32)) hx hb dX1_copyTo_17 (by decide) ?_
      refine lv_aload_n hx hb dX1_copyTo_18 rfl (lv_at hl 1 rfl) ?_
      refine lv_iload_n hx hb dX1_copyTo_19 rfl (lv_at hl 2 rfl) ?_
      refine lv_bipush (v := (76 : Int32)) hx hb dX1_copyTo_20 (by decide) ?_
      refine xcopy hx hb hml hl.1 hown hts cpwX1_21 hK hP hD hS 1 2 0 0 rfl rfl rfl rfl (Nat.le_of_ble_eq_true rfl) (by decide) dX1_copyTo_22 hf (fun z_store_22 hf H locs hP hD hS => ?_)
      have hP : va_P D vwCl (W_FS_0t1_4 qf0 qf1 qz1 qf2 qf3 cI cJ cZ cB cT f_row z_store_22) H := hP
      have hD : va_D A (W_FS_0t1_4 qf0 qf1 qz1 qf2 qf3 cI cJ cZ cB cT f_row z_store_22) := hD
      cases hf
      exact mret_v hx hb hr hlocks hP hD hS dX1_copyTo_25
theorem dX1_count_0 : decode cX1_count 0 = .ok (.aload_n 0, 1) := by decide +kernel
theorem dX1_count_1 : decode cX1_count 1 = .ok (.getfield 11, 3) := by decide +kernel
theorem dX1_count_4 : decode cX1_count 4 = .ok (.iconst 2, 1) := by decide +kernel
theorem dX1_count_5 : decode cX1_count 5 = .ok (.iaload, 1) := by decide +kernel
theorem dX1_count_6 : decode cX1_count 6 = .ok (.ireturn, 1) := by decide +kernel
def f_X1_count (N : Nat) (f_row : Nat → Int32) : Option (Int32) := gA f_row 76 (2 : Int32) fun v5 => some v5
set_option maxHeartbeats 4000000 in
set_option maxRecDepth 100000 in
theorem k_X1_count (l : Launch) (N : Nat) (D : va_G) (cI cJ cZ cB cT : ClassId) (qf0 : Nat) (qf1 : Nat) (qf2 : Nat) (qf3 : Nat) (f_row : Nat → Int32) (o_r : Int32) (hf : f_X1_count N f_row = some o_r) : ∀ sz, Met l yX1_count (mw yX1_count cX1_count 1 (some .int)) ({ frames := 0, cells := 0, slots := 0, locals := 0 } : Room) (mPre D (mT cI cJ cZ cB cT) (W_F_0t1 qf0 qf1 qf2 qf3 cI cJ cZ cB cT f_row) sz [.ref qf0]) ((mQi D (W_F_0t1 qf0 qf1 qf2 qf3 cI cJ cZ cB cT f_row) o_r True) (va_A (W_F_0t1 qf0 qf1 qf2 qf3 cI cJ cZ cB cT f_row) sz)) 0 0 (va_A (W_F_0t1 qf0 qf1 qf2 qf3 cI cJ cZ cB cT f_row) sz) := by
  refine mMet (Qc := (mQi D (W_F_0t1 qf0 qf1 qf2 qf3 cI cJ cZ cB cT f_row) o_r True)) (by decide) (Nat.le_of_ble_eq_true rfl) (fun p e s m below meth c A ls hx hb hr hml hts hown hlocks hK hA hP hD hl => ?_)
  have hown : s.vm.findClass RX1 = some m.cls := hown
  have hl : lv_has ls 1 [(0, .ref qf0)] := hl
  have hS : va_S A s.heap s.heap [] := va_S.rf
  unfold f_X1_count at hf
  refine lv_aload_n hx hb dX1_count_0 rfl (lv_at hl 0 rfl) ?_
  refine gfX1_11 hx hb hts hown hK hP 0 rfl rfl dX1_count_1 ?_
  refine lv_iconst (v := (2 : Int32)) hx hb dX1_count_4 (by decide) ?_
  refine xiald hx hb hK hP 1 0 rfl rfl dX1_count_5 hf (fun v5 hf => ?_)
  cases hf
  exact mret_i hx hb hr hlocks hP hD hS dX1_count_6 rfl trivial
theorem dX1_told_0 : decode cX1_told 0 = .ok (.iload_n 1, 1) := by decide +kernel
theorem dX1_told_1 : decode cX1_told 1 = .ok (.ifCond .lt 23, 3) := by decide +kernel
theorem dX1_told_4 : decode cX1_told 4 = .ok (.iload_n 1, 1) := by decide +kernel
theorem dX1_told_5 : decode cX1_told 5 = .ok (.aload_n 0, 1) := by decide +kernel
theorem dX1_told_6 : decode cX1_told 6 = .ok (.getfield 11, 3) := by decide +kernel
theorem dX1_told_9 : decode cX1_told 9 = .ok (.iconst 2, 1) := by decide +kernel
theorem dX1_told_10 : decode cX1_told 10 = .ok (.iaload, 1) := by decide +kernel
theorem dX1_told_11 : decode cX1_told 11 = .ok (.if_icmp .ge 13, 3) := by decide +kernel
theorem dX1_told_14 : decode cX1_told 14 = .ok (.iload_n 1, 1) := by decide +kernel
theorem dX1_told_15 : decode cX1_told 15 = .ok (.bipush 6, 2) := by decide +kernel
theorem dX1_told_17 : decode cX1_told 17 = .ok (.if_icmp .ge 7, 3) := by decide +kernel
theorem dX1_told_20 : decode cX1_told 20 = .ok (.iconst 1, 1) := by decide +kernel
theorem dX1_told_21 : decode cX1_told 21 = .ok (.goto 4, 3) := by decide +kernel
theorem dX1_told_24 : decode cX1_told 24 = .ok (.iconst 0, 1) := by decide +kernel
theorem dX1_told_25 : decode cX1_told 25 = .ok (.ireturn, 1) := by decide +kernel
def f_X1_told (N : Nat) (f_row : Nat → Int32) (p1 : Int32) : Option (Int32) := if p1 < 0 then (some (0 : Int32)) else (gA f_row 76 (2 : Int32) fun v10 => if v10 ≤ p1 then (some (0 : Int32)) else (if (6 : Int32) ≤ p1 then (some (0 : Int32)) else (some (1 : Int32))))
set_option maxHeartbeats 4000000 in
set_option maxRecDepth 100000 in
theorem k_X1_told (l : Launch) (N : Nat) (D : va_G) (cI cJ cZ cB cT : ClassId) (qf0 : Nat) (qf1 : Nat) (qf2 : Nat) (qf3 : Nat) (f_row : Nat → Int32) (p1 : Int32) (o_r : Int32) (hf : f_X1_told N f_row p1 = some o_r) : ∀ sz, Met l yX1_told (mw yX1_told cX1_told 2 (some .boolean)) ({ frames := 0, cells := 0, slots := 0, locals := 0 } : Room) (mPre D (mT cI cJ cZ cB cT) (W_F_0t1 qf0 qf1 qf2 qf3 cI cJ cZ cB cT f_row) sz [.ref qf0, .int p1]) ((mQi D (W_F_0t1 qf0 qf1 qf2 qf3 cI cJ cZ cB cT f_row) o_r (mB o_r)) (va_A (W_F_0t1 qf0 qf1 qf2 qf3 cI cJ cZ cB cT f_row) sz)) 0 0 (va_A (W_F_0t1 qf0 qf1 qf2 qf3 cI cJ cZ cB cT f_row) sz) := by
  refine mMet (Qc := (mQi D (W_F_0t1 qf0 qf1 qf2 qf3 cI cJ cZ cB cT f_row) o_r (mB o_r))) (by decide) (Nat.le_of_ble_eq_true rfl) (fun p e s m below meth c A ls hx hb hr hml hts hown hlocks hK hA hP hD hl => ?_)
  have hown : s.vm.findClass RX1 = some m.cls := hown
  have hl : lv_has ls 2 [(0, .ref qf0), (1, .int p1)] := hl
  have hS : va_S A s.heap s.heap [] := va_S.rf
  unfold f_X1_told at hf
  refine lv_iload_n hx hb dX1_told_0 rfl (lv_at hl 1 rfl) ?_
  refine xif_lt hx hb 24 dX1_told_1 (by decide) hf (fun hf => ?_) (fun hf => ?_)
  · refine lv_iconst (v := (0 : Int32)) hx hb dX1_told_24 (by decide) ?_
    cases hf
    exact mret_z hx hb hr hlocks hP hD hS dX1_told_25 rfl rfl
  · refine lv_iload_n hx hb dX1_told_4 rfl (lv_at hl 1 rfl) ?_
    refine lv_aload_n hx hb dX1_told_5 rfl (lv_at hl 0 rfl) ?_
    refine gfX1_11 hx hb hts hown hK hP 0 rfl rfl dX1_told_6 ?_
    refine lv_iconst (v := (2 : Int32)) hx hb dX1_told_9 (by decide) ?_
    refine xiald hx hb hK hP 1 0 rfl rfl dX1_told_10 hf (fun v10 hf => ?_)
    refine xicmp_ge hx hb 24 dX1_told_11 (by decide) hf (fun hf => ?_) (fun hf => ?_)
    · refine lv_iconst (v := (0 : Int32)) hx hb dX1_told_24 (by decide) ?_
      cases hf
      exact mret_z hx hb hr hlocks hP hD hS dX1_told_25 rfl rfl
    · refine lv_iload_n hx hb dX1_told_14 rfl (lv_at hl 1 rfl) ?_
      refine lv_bipush (v := (6 : Int32)) hx hb dX1_told_15 (by decide) ?_
      refine xicmp_ge hx hb 24 dX1_told_17 (by decide) hf (fun hf => ?_) (fun hf => ?_)
      · refine lv_iconst (v := (0 : Int32)) hx hb dX1_told_24 (by decide) ?_
        cases hf
        exact mret_z hx hb hr hlocks hP hD hS dX1_told_25 rfl rfl
      · refine lv_iconst (v := (1 : Int32)) hx hb dX1_told_20 (by decide) ?_
        refine lv_goto (tgt := 25) hx hb dX1_told_21 (by decide) ?_
        cases hf
        exact mret_z hx hb hr hlocks hP hD hS dX1_told_25 rfl rfl
theorem dX1_set_0 : decode cX1_set 0 = .ok (.aload_n 0, 1) := by decide +kernel
theorem dX1_set_1 : decode cX1_set 1 = .ok (.iload_n 1, 1) := by decide +kernel
theorem dX1_set_2 : decode cX1_set 2 = .ok (.invokevirtual 41, 3) := by decide +kernel
theorem dX1_set_5 : decode cX1_set 5 = .ok (.ifCond .eq 28, 3) := by decide +kernel
theorem dX1_set_8 : decode cX1_set 8 = .ok (.iload_n 2, 1) := by decide +kernel
theorem dX1_set_9 : decode cX1_set 9 = .ok (.ifCond .lt 24, 3) := by decide +kernel
theorem dX1_set_12 : decode cX1_set 12 = .ok (.iload_n 2, 1) := by decide +kernel
theorem dX1_set_13 : decode cX1_set 13 = .ok (.bipush 7, 2) := by decide +kernel
theorem dX1_set_15 : decode cX1_set 15 = .ok (.if_icmp .ge 18, 3) := by decide +kernel
theorem dX1_set_18 : decode cX1_set 18 = .ok (.aload_n 0, 1) := by decide +kernel
theorem dX1_set_19 : decode cX1_set 19 = .ok (.getfield 11, 3) := by decide +kernel
theorem dX1_set_22 : decode cX1_set 22 = .ok (.bipush 34, 2) := by decide +kernel
theorem dX1_set_24 : decode cX1_set 24 = .ok (.iload_n 1, 1) := by decide +kernel
theorem dX1_set_25 : decode cX1_set 25 = .ok (.bipush 7, 2) := by decide +kernel
theorem dX1_set_27 : decode cX1_set 27 = .ok (.imul, 1) := by decide +kernel
theorem dX1_set_28 : decode cX1_set 28 = .ok (.iadd, 1) := by decide +kernel
theorem dX1_set_29 : decode cX1_set 29 = .ok (.iload_n 2, 1) := by decide +kernel
theorem dX1_set_30 : decode cX1_set 30 = .ok (.iadd, 1) := by decide +kernel
theorem dX1_set_31 : decode cX1_set 31 = .ok (.iload_n 3, 1) := by decide +kernel
theorem dX1_set_32 : decode cX1_set 32 = .ok (.iastore, 1) := by decide +kernel
theorem dX1_set_33 : decode cX1_set 33 = .ok (.return_, 1) := by decide +kernel
def f_X1_set (N : Nat) (f_row : Nat → Int32) (p1 : Int32) (p2 : Int32) (p3 : Int32) : Option ((Nat → Int32)) := ob1 (f_X1_told N f_row p1) fun r2 => if r2 = 0 then (some f_row) else (if p2 < 0 then (some f_row) else (if (7 : Int32) ≤ p2 then (some f_row) else (sA f_row 76 (((34 : Int32) + (p1 * (7 : Int32))) + p2) p3 fun f_row_32 => some f_row_32)))
set_option maxHeartbeats 4000000 in
set_option maxRecDepth 100000 in
theorem k_X1_set (l : Launch) (N : Nat) (D : va_G) (cI cJ cZ cB cT : ClassId) (qf0 : Nat) (qf1 : Nat) (qf2 : Nat) (qf3 : Nat) (f_row : Nat → Int32) (p1 : Int32) (p2 : Int32) (p3 : Int32) (o_f_row : Nat → Int32) (hf : f_X1_set N f_row p1 p2 p3 = some o_f_row) : ∀ sz, Met l yX1_set (mw yX1_set cX1_set 4 none) ({ frames := 1, cells := 0, slots := 0, locals := 21 } : Room) (mPre D (mT cI cJ cZ cB cT) (W_F_0t1 qf0 qf1 qf2 qf3 cI cJ cZ cB cT f_row) sz [.ref qf0, .int p1, .int p2, .int p3]) ((mQv D (W_F_0t1 qf0 qf1 qf2 qf3 cI cJ cZ cB cT o_f_row)) (va_A (W_F_0t1 qf0 qf1 qf2 qf3 cI cJ cZ cB cT f_row) sz)) 0 0 (va_A (W_F_0t1 qf0 qf1 qf2 qf3 cI cJ cZ cB cT f_row) sz) := by
  refine mMet (Qc := (mQv D (W_F_0t1 qf0 qf1 qf2 qf3 cI cJ cZ cB cT o_f_row))) (by decide) (Nat.le_of_ble_eq_true rfl) (fun p e s m below meth c A ls hx hb hr hml hts hown hlocks hK hA hP hD hl => ?_)
  have hown : s.vm.findClass RX1 = some m.cls := hown
  have hl : lv_has ls 4 [(0, .ref qf0), (1, .int p1), (2, .int p2), (3, .int p3)] := hl
  have hS : va_S A s.heap s.heap [] := va_S.rf
  unfold f_X1_set at hf
  refine lv_aload_n hx hb dX1_set_0 rfl (lv_at hl 0 rfl) ?_
  refine lv_iload_n hx hb dX1_set_1 rfl (lv_at hl 1 rfl) ?_
  obtain ⟨r2, hg2, hf⟩ := ob1_some hf
  refine mcV1_i (As := [.int p1]) (rest := []) hx hb hml hown hts hK hP hD hS hA (k_X1_told l N D cI cJ cZ cB cT qf0 qf1 qf2 qf3 f_row p1 r2 hg2) (kwX1_41 hts rfl rfl ⟨Nat.le_of_ble_eq_true rfl, Nat.le_of_ble_eq_true rfl⟩) 0 rfl rfl rfl rfl hl.1 rfl (Nat.le_of_ble_eq_true rfl) dX1_set_2 ⟨Nat.zero_le _, Nat.zero_le _⟩ (fun hB2 H locs hP hD hS => ?_)
  have hP : va_P D vwCl (W_F_0t1 qf0 qf1 qf2 qf3 cI cJ cZ cB cT f_row) H := hP
  have hD : va_D A (W_F_0t1 qf0 qf1 qf2 qf3 cI cJ cZ cB cT f_row) := hD
  refine xif_eq hx hb 33 dX1_set_5 (by decide) hf (fun hf => ?_) (fun hf => ?_)
  · cases hf
    exact mret_v hx hb hr hlocks hP hD hS dX1_set_33
  · refine lv_iload_n hx hb dX1_set_8 rfl (lv_at hl 2 rfl) ?_
    refine xif_lt hx hb 33 dX1_set_9 (by decide) hf (fun hf => ?_) (fun hf => ?_)
    · cases hf
      exact mret_v hx hb hr hlocks hP hD hS dX1_set_33
    · refine lv_iload_n hx hb dX1_set_12 rfl (lv_at hl 2 rfl) ?_
      refine lv_bipush (v := (7 : Int32)) hx hb dX1_set_13 (by decide) ?_
      refine xicmp_ge hx hb 33 dX1_set_15 (by decide) hf (fun hf => ?_) (fun hf => ?_)
      · cases hf
        exact mret_v hx hb hr hlocks hP hD hS dX1_set_33
      · refine lv_aload_n hx hb dX1_set_18 rfl (lv_at hl 0 rfl) ?_
        refine gfX1_11 hx hb hts hown hK hP 0 rfl rfl dX1_set_19 ?_
        refine lv_bipush (v := (34 : Int32)) hx hb dX1_set_22 (by decide) ?_
        refine lv_iload_n hx hb dX1_set_24 rfl (lv_at hl 1 rfl) ?_
        refine lv_bipush (v := (7 : Int32)) hx hb dX1_set_25 (by decide) ?_
        refine lv_imul hx hb dX1_set_27 ?_
        refine lv_iadd hx hb dX1_set_28 ?_
        refine lv_iload_n hx hb dX1_set_29 rfl (lv_at hl 2 rfl) ?_
        refine lv_iadd hx hb dX1_set_30 ?_
        refine lv_iload_n hx hb dX1_set_31 rfl (lv_at hl 3 rfl) ?_
        refine xiast hx hb hK hP hD hS 1 0 rfl rfl dX1_set_32 hf (fun f_row_32 hf H locs hP hD hS => ?_)
        have hP : va_P D vwCl (W_F_0t1 qf0 qf1 qf2 qf3 cI cJ cZ cB cT f_row_32) H := hP
        have hD : va_D A (W_F_0t1 qf0 qf1 qf2 qf3 cI cJ cZ cB cT f_row_32) := hD
        cases hf
        exact mret_v hx hb hr hlocks hP hD hS dX1_set_33
theorem dX1_settle_0 : decode cX1_settle 0 = .ok (.aload_n 0, 1) := by decide +kernel
theorem dX1_settle_1 : decode cX1_settle 1 = .ok (.iload_n 1, 1) := by decide +kernel
theorem dX1_settle_2 : decode cX1_settle 2 = .ok (.invokevirtual 41, 3) := by decide +kernel
theorem dX1_settle_5 : decode cX1_settle 5 = .ok (.ifCond .ne 4, 3) := by decide +kernel
theorem dX1_settle_8 : decode cX1_settle 8 = .ok (.return_, 1) := by decide +kernel
theorem dX1_settle_9 : decode cX1_settle 9 = .ok (.aload_n 0, 1) := by decide +kernel
theorem dX1_settle_10 : decode cX1_settle 10 = .ok (.iload_n 1, 1) := by decide +kernel
theorem dX1_settle_11 : decode cX1_settle 11 = .ok (.iconst 0, 1) := by decide +kernel
theorem dX1_settle_12 : decode cX1_settle 12 = .ok (.aload_n 0, 1) := by decide +kernel
theorem dX1_settle_13 : decode cX1_settle 13 = .ok (.getfield 18, 3) := by decide +kernel
theorem dX1_settle_16 : decode cX1_settle 16 = .ok (.iload_n 1, 1) := by decide +kernel
theorem dX1_settle_17 : decode cX1_settle 17 = .ok (.iconst 3, 1) := by decide +kernel
theorem dX1_settle_18 : decode cX1_settle 18 = .ok (.imul, 1) := by decide +kernel
theorem dX1_settle_19 : decode cX1_settle 19 = .ok (.iaload, 1) := by decide +kernel
theorem dX1_settle_20 : decode cX1_settle 20 = .ok (.invokevirtual 45, 3) := by decide +kernel
theorem dX1_settle_23 : decode cX1_settle 23 = .ok (.aload_n 0, 1) := by decide +kernel
theorem dX1_settle_24 : decode cX1_settle 24 = .ok (.iload_n 1, 1) := by decide +kernel
theorem dX1_settle_25 : decode cX1_settle 25 = .ok (.iconst 1, 1) := by decide +kernel
theorem dX1_settle_26 : decode cX1_settle 26 = .ok (.aload_n 0, 1) := by decide +kernel
theorem dX1_settle_27 : decode cX1_settle 27 = .ok (.getfield 18, 3) := by decide +kernel
theorem dX1_settle_30 : decode cX1_settle 30 = .ok (.iload_n 1, 1) := by decide +kernel
theorem dX1_settle_31 : decode cX1_settle 31 = .ok (.iconst 3, 1) := by decide +kernel
theorem dX1_settle_32 : decode cX1_settle 32 = .ok (.imul, 1) := by decide +kernel
theorem dX1_settle_33 : decode cX1_settle 33 = .ok (.iconst 1, 1) := by decide +kernel
theorem dX1_settle_34 : decode cX1_settle 34 = .ok (.iadd, 1) := by decide +kernel
theorem dX1_settle_35 : decode cX1_settle 35 = .ok (.iaload, 1) := by decide +kernel
theorem dX1_settle_36 : decode cX1_settle 36 = .ok (.invokevirtual 45, 3) := by decide +kernel
theorem dX1_settle_39 : decode cX1_settle 39 = .ok (.aload_n 0, 1) := by decide +kernel
theorem dX1_settle_40 : decode cX1_settle 40 = .ok (.iload_n 1, 1) := by decide +kernel
theorem dX1_settle_41 : decode cX1_settle 41 = .ok (.iconst 2, 1) := by decide +kernel
theorem dX1_settle_42 : decode cX1_settle 42 = .ok (.aload_n 0, 1) := by decide +kernel
theorem dX1_settle_43 : decode cX1_settle 43 = .ok (.getfield 18, 3) := by decide +kernel
theorem dX1_settle_46 : decode cX1_settle 46 = .ok (.iload_n 1, 1) := by decide +kernel
theorem dX1_settle_47 : decode cX1_settle 47 = .ok (.iconst 3, 1) := by decide +kernel
theorem dX1_settle_48 : decode cX1_settle 48 = .ok (.imul, 1) := by decide +kernel
theorem dX1_settle_49 : decode cX1_settle 49 = .ok (.iconst 2, 1) := by decide +kernel
theorem dX1_settle_50 : decode cX1_settle 50 = .ok (.iadd, 1) := by decide +kernel
theorem dX1_settle_51 : decode cX1_settle 51 = .ok (.iaload, 1) := by decide +kernel
theorem dX1_settle_52 : decode cX1_settle 52 = .ok (.invokevirtual 45, 3) := by decide +kernel
theorem dX1_settle_55 : decode cX1_settle 55 = .ok (.aload_n 0, 1) := by decide +kernel
theorem dX1_settle_56 : decode cX1_settle 56 = .ok (.iload_n 1, 1) := by decide +kernel
theorem dX1_settle_57 : decode cX1_settle 57 = .ok (.iconst 3, 1) := by decide +kernel
theorem dX1_settle_58 : decode cX1_settle 58 = .ok (.iconst 0, 1) := by decide +kernel
theorem dX1_settle_59 : decode cX1_settle 59 = .ok (.invokevirtual 45, 3) := by decide +kernel
theorem dX1_settle_62 : decode cX1_settle 62 = .ok (.aload_n 0, 1) := by decide +kernel
theorem dX1_settle_63 : decode cX1_settle 63 = .ok (.iload_n 1, 1) := by decide +kernel
theorem dX1_settle_64 : decode cX1_settle 64 = .ok (.iconst 4, 1) := by decide +kernel
theorem dX1_settle_65 : decode cX1_settle 65 = .ok (.iconst 0, 1) := by decide +kernel
theorem dX1_settle_66 : decode cX1_settle 66 = .ok (.invokevirtual 45, 3) := by decide +kernel
theorem dX1_settle_69 : decode cX1_settle 69 = .ok (.aload_n 0, 1) := by decide +kernel
theorem dX1_settle_70 : decode cX1_settle 70 = .ok (.iload_n 1, 1) := by decide +kernel
theorem dX1_settle_71 : decode cX1_settle 71 = .ok (.iconst 5, 1) := by decide +kernel
theorem dX1_settle_72 : decode cX1_settle 72 = .ok (.iconst 0, 1) := by decide +kernel
theorem dX1_settle_73 : decode cX1_settle 73 = .ok (.invokevirtual 45, 3) := by decide +kernel
theorem dX1_settle_76 : decode cX1_settle 76 = .ok (.aload_n 0, 1) := by decide +kernel
theorem dX1_settle_77 : decode cX1_settle 77 = .ok (.iload_n 1, 1) := by decide +kernel
theorem dX1_settle_78 : decode cX1_settle 78 = .ok (.bipush 6, 2) := by decide +kernel
theorem dX1_settle_80 : decode cX1_settle 80 = .ok (.iconst 0, 1) := by decide +kernel
theorem dX1_settle_81 : decode cX1_settle 81 = .ok (.invokevirtual 45, 3) := by decide +kernel
theorem dX1_settle_84 : decode cX1_settle 84 = .ok (.return_, 1) := by decide +kernel
def f_X1_settle (N : Nat) (f_row : Nat → Int32) (f_told : Nat → Int32) (p1 : Int32) : Option ((Nat → Int32)) := ob1 (f_X1_told N f_row p1) fun r2 => if r2 = 0 then (some f_row) else (gA f_told 18 (p1 * (3 : Int32)) fun v19 => ob1 (f_X1_set N f_row p1 (0 : Int32) v19) fun f_row_20 => gA f_told 18 ((p1 * (3 : Int32)) + (1 : Int32)) fun v35 => ob1 (f_X1_set N f_row_20 p1 (1 : Int32) v35) fun f_row_36 => gA f_told 18 ((p1 * (3 : Int32)) + (2 : Int32)) fun v51 => ob1 (f_X1_set N f_row_36 p1 (2 : Int32) v51) fun f_row_52 => ob1 (f_X1_set N f_row_52 p1 (3 : Int32) (0 : Int32)) fun f_row_59 => ob1 (f_X1_set N f_row_59 p1 (4 : Int32) (0 : Int32)) fun f_row_66 => ob1 (f_X1_set N f_row_66 p1 (5 : Int32) (0 : Int32)) fun f_row_73 => ob1 (f_X1_set N f_row_73 p1 (6 : Int32) (0 : Int32)) fun f_row_81 => some f_row_81)
set_option maxHeartbeats 4000000 in
set_option maxRecDepth 100000 in
theorem k_X1_settle (l : Launch) (N : Nat) (D : va_G) (cI cJ cZ cB cT : ClassId) (qf0 : Nat) (qf1 : Nat) (qf3 : Nat) (qf2 : Nat) (f_row : Nat → Int32) (f_told : Nat → Int32) (p1 : Int32) (o_f_row : Nat → Int32) (hf : f_X1_settle N f_row f_told p1 = some o_f_row) : ∀ sz, Met l yX1_settle (mw yX1_settle cX1_settle 2 none) ({ frames := 2, cells := 0, slots := 0, locals := 44 } : Room) (mPre D (mT cI cJ cZ cB cT) (W_F_0t1_3 qf0 qf1 qf3 qf2 cI cJ cZ cB cT f_row f_told) sz [.ref qf0, .int p1]) ((mQv D (W_F_0t1_3 qf0 qf1 qf3 qf2 cI cJ cZ cB cT o_f_row f_told)) (va_A (W_F_0t1_3 qf0 qf1 qf3 qf2 cI cJ cZ cB cT f_row f_told) sz)) 0 0 (va_A (W_F_0t1_3 qf0 qf1 qf3 qf2 cI cJ cZ cB cT f_row f_told) sz) := by
  refine mMet (Qc := (mQv D (W_F_0t1_3 qf0 qf1 qf3 qf2 cI cJ cZ cB cT o_f_row f_told))) (by decide) (Nat.le_of_ble_eq_true rfl) (fun p e s m below meth c A ls hx hb hr hml hts hown hlocks hK hA hP hD hl => ?_)
  have hown : s.vm.findClass RX1 = some m.cls := hown
  have hl : lv_has ls 2 [(0, .ref qf0), (1, .int p1)] := hl
  have hS : va_S A s.heap s.heap [] := va_S.rf
  unfold f_X1_settle at hf
  refine lv_aload_n hx hb dX1_settle_0 rfl (lv_at hl 0 rfl) ?_
  refine lv_iload_n hx hb dX1_settle_1 rfl (lv_at hl 1 rfl) ?_
  obtain ⟨r2, hg2, hf⟩ := ob1_some hf
  refine mcV_i (wr := [(qf3, .inl (cI, 18, .inl f_told))]) (As := [.int p1]) (rest := []) hx hb hml hown hts hK hP hD hS hA (k_X1_told l N D cI cJ cZ cB cT qf0 qf1 qf2 qf3 f_row p1 r2 hg2) (kwX1_41 hts rfl rfl ⟨Nat.le_of_ble_eq_true rfl, Nat.le_of_ble_eq_true rfl⟩) [0, 1] [2] rfl rfl rfl (by decide) rfl 0 rfl rfl rfl rfl hl.1 rfl (Nat.le_of_ble_eq_true rfl) dX1_settle_2 ⟨Nat.zero_le _, Nat.zero_le _⟩ (fun hB2 H locs hP hD hS => ?_)
  have hP := mP_sub (wc := (W_F_0t1_3 qf0 qf1 qf3 qf2 cI cJ cZ cB cT f_row f_told)) hP [1, 2, 0] rfl
  have hD := hD.sub (ws' := (W_F_0t1_3 qf0 qf1 qf3 qf2 cI cJ cZ cB cT f_row f_told)) [1, 2, 0] rfl rfl
  refine xif_ne hx hb 9 dX1_settle_5 (by decide) hf (fun hf => ?_) (fun hf => ?_)
  · cases hf
    exact mret_v hx hb hr hlocks hP hD hS dX1_settle_8
  · refine lv_aload_n hx hb dX1_settle_9 rfl (lv_at hl 0 rfl) ?_
    refine lv_iload_n hx hb dX1_settle_10 rfl (lv_at hl 1 rfl) ?_
    refine lv_iconst (v := (0 : Int32)) hx hb dX1_settle_11 (by decide) ?_
    refine lv_aload_n hx hb dX1_settle_12 rfl (lv_at hl 0 rfl) ?_
    refine gfX1_18 hx hb hts hown hK hP 0 rfl rfl dX1_settle_13 ?_
    refine lv_iload_n hx hb dX1_settle_16 rfl (lv_at hl 1 rfl) ?_
    refine lv_iconst (v := (3 : Int32)) hx hb dX1_settle_17 (by decide) ?_
    refine lv_imul hx hb dX1_settle_18 ?_
    refine xiald hx hb hK hP 2 0 rfl rfl dX1_settle_19 hf (fun v19 hf => ?_)
    obtain ⟨f_row_20, hg20, hf⟩ := ob1_some hf
    refine mcV_v (wr := [(qf3, .inl (cI, 18, .inl f_told))]) (As := [.int p1, .int (0 : Int32), .int v19]) (rest := []) hx hb hml hown hts hK hP hD hS hA (k_X1_set l N D cI cJ cZ cB cT qf0 qf1 qf2 qf3 f_row p1 (0 : Int32) v19 f_row_20 hg20) (kwX1_45 hts rfl rfl ⟨Nat.le_of_ble_eq_true rfl, Nat.le_of_ble_eq_true rfl⟩) [0, 1] [2] rfl rfl rfl (by decide) rfl 0 rfl rfl rfl rfl hl.1 rfl (Nat.le_of_ble_eq_true rfl) dX1_settle_20 ⟨Nat.zero_le _, Nat.zero_le _⟩ (fun H locs hP hD hS => ?_)
    have hP := mP_sub (wc := (W_F_0t1_3 qf0 qf1 qf3 qf2 cI cJ cZ cB cT f_row_20 f_told)) hP [1, 2, 0] rfl
    have hD := hD.sub (ws' := (W_F_0t1_3 qf0 qf1 qf3 qf2 cI cJ cZ cB cT f_row_20 f_told)) [1, 2, 0] rfl rfl
    refine lv_aload_n hx hb dX1_settle_23 rfl (lv_at hl 0 rfl) ?_
    refine lv_iload_n hx hb dX1_settle_24 rfl (lv_at hl 1 rfl) ?_
    refine lv_iconst (v := (1 : Int32)) hx hb dX1_settle_25 (by decide) ?_
    refine lv_aload_n hx hb dX1_settle_26 rfl (lv_at hl 0 rfl) ?_
    refine gfX1_18 hx hb hts hown hK hP 0 rfl rfl dX1_settle_27 ?_
    refine lv_iload_n hx hb dX1_settle_30 rfl (lv_at hl 1 rfl) ?_
    refine lv_iconst (v := (3 : Int32)) hx hb dX1_settle_31 (by decide) ?_
    refine lv_imul hx hb dX1_settle_32 ?_
    refine lv_iconst (v := (1 : Int32)) hx hb dX1_settle_33 (by decide) ?_
    refine lv_iadd hx hb dX1_settle_34 ?_
    refine xiald hx hb hK hP 2 0 rfl rfl dX1_settle_35 hf (fun v35 hf => ?_)
    obtain ⟨f_row_36, hg36, hf⟩ := ob1_some hf
    refine mcV_v (wr := [(qf3, .inl (cI, 18, .inl f_told))]) (As := [.int p1, .int (1 : Int32), .int v35]) (rest := []) hx hb hml hown hts hK hP hD hS hA (k_X1_set l N D cI cJ cZ cB cT qf0 qf1 qf2 qf3 f_row_20 p1 (1 : Int32) v35 f_row_36 hg36) (kwX1_45 hts rfl rfl ⟨Nat.le_of_ble_eq_true rfl, Nat.le_of_ble_eq_true rfl⟩) [0, 1] [2] rfl rfl rfl (by decide) rfl 0 rfl rfl rfl rfl hl.1 rfl (Nat.le_of_ble_eq_true rfl) dX1_settle_36 ⟨Nat.zero_le _, Nat.zero_le _⟩ (fun H locs hP hD hS => ?_)
    have hP := mP_sub (wc := (W_F_0t1_3 qf0 qf1 qf3 qf2 cI cJ cZ cB cT f_row_36 f_told)) hP [1, 2, 0] rfl
    have hD := hD.sub (ws' := (W_F_0t1_3 qf0 qf1 qf3 qf2 cI cJ cZ cB cT f_row_36 f_told)) [1, 2, 0] rfl rfl
    refine lv_aload_n hx hb dX1_settle_39 rfl (lv_at hl 0 rfl) ?_
    refine lv_iload_n hx hb dX1_settle_40 rfl (lv_at hl 1 rfl) ?_
    refine lv_iconst (v := (2 : Int32)) hx hb dX1_settle_41 (by decide) ?_
    refine lv_aload_n hx hb dX1_settle_42 rfl (lv_at hl 0 rfl) ?_
    refine gfX1_18 hx hb hts hown hK hP 0 rfl rfl dX1_settle_43 ?_
    refine lv_iload_n hx hb dX1_settle_46 rfl (lv_at hl 1 rfl) ?_
    refine lv_iconst (v := (3 : Int32)) hx hb dX1_settle_47 (by decide) ?_
    refine lv_imul hx hb dX1_settle_48 ?_
    refine lv_iconst (v := (2 : Int32)) hx hb dX1_settle_49 (by decide) ?_
    refine lv_iadd hx hb dX1_settle_50 ?_
    refine xiald hx hb hK hP 2 0 rfl rfl dX1_settle_51 hf (fun v51 hf => ?_)
    obtain ⟨f_row_52, hg52, hf⟩ := ob1_some hf
    refine mcV_v (wr := [(qf3, .inl (cI, 18, .inl f_told))]) (As := [.int p1, .int (2 : Int32), .int v51]) (rest := []) hx hb hml hown hts hK hP hD hS hA (k_X1_set l N D cI cJ cZ cB cT qf0 qf1 qf2 qf3 f_row_36 p1 (2 : Int32) v51 f_row_52 hg52) (kwX1_45 hts rfl rfl ⟨Nat.le_of_ble_eq_true rfl, Nat.le_of_ble_eq_true rfl⟩) [0, 1] [2] rfl rfl rfl (by decide) rfl 0 rfl rfl rfl rfl hl.1 rfl (Nat.le_of_ble_eq_true rfl) dX1_settle_52 ⟨Nat.zero_le _, Nat.zero_le _⟩ (fun H locs hP hD hS => ?_)
    have hP := mP_sub (wc := (W_F_0t1_3 qf0 qf1 qf3 qf2 cI cJ cZ cB cT f_row_52 f_told)) hP [1, 2, 0] rfl
    have hD := hD.sub (ws' := (W_F_0t1_3 qf0 qf1 qf3 qf2 cI cJ cZ cB cT f_row_52 f_told)) [1, 2, 0] rfl rfl
    refine lv_aload_n hx hb dX1_settle_55 rfl (lv_at hl 0 rfl) ?_
    refine lv_iload_n hx hb dX1_settle_56 rfl (lv_at hl 1 rfl) ?_
    refine lv_iconst (v := (3 : Int32)) hx hb dX1_settle_57 (by decide) ?_
    refine lv_iconst (v := (0 : Int32)) hx hb dX1_settle_58 (by decide) ?_
    obtain ⟨f_row_59, hg59, hf⟩ := ob1_some hf
    refine mcV_v (wr := [(qf3, .inl (cI, 18, .inl f_told))]) (As := [.int p1, .int (3 : Int32), .int (0 : Int32)]) (rest := []) hx hb hml hown hts hK hP hD hS hA (k_X1_set l N D cI cJ cZ cB cT qf0 qf1 qf2 qf3 f_row_52 p1 (3 : Int32) (0 : Int32) f_row_59 hg59) (kwX1_45 hts rfl rfl ⟨Nat.le_of_ble_eq_true rfl, Nat.le_of_ble_eq_true rfl⟩) [0, 1] [2] rfl rfl rfl (by decide) rfl 0 rfl rfl rfl rfl hl.1 rfl (Nat.le_of_ble_eq_true rfl) dX1_settle_59 ⟨Nat.zero_le _, Nat.zero_le _⟩ (fun H locs hP hD hS => ?_)
    have hP := mP_sub (wc := (W_F_0t1_3 qf0 qf1 qf3 qf2 cI cJ cZ cB cT f_row_59 f_told)) hP [1, 2, 0] rfl
    have hD := hD.sub (ws' := (W_F_0t1_3 qf0 qf1 qf3 qf2 cI cJ cZ cB cT f_row_59 f_told)) [1, 2, 0] rfl rfl
    refine lv_aload_n hx hb dX1_settle_62 rfl (lv_at hl 0 rfl) ?_
    refine lv_iload_n hx hb dX1_settle_63 rfl (lv_at hl 1 rfl) ?_
    refine lv_iconst (v := (4 : Int32)) hx hb dX1_settle_64 (by decide) ?_
    refine lv_iconst (v := (0 : Int32)) hx hb dX1_settle_65 (by decide) ?_
    obtain ⟨f_row_66, hg66, hf⟩ := ob1_some hf
    refine mcV_v (wr := [(qf3, .inl (cI, 18, .inl f_told))]) (As := [.int p1, .int (4 : Int32), .int (0 : Int32)]) (rest := []) hx hb hml hown hts hK hP hD hS hA (k_X1_set l N D cI cJ cZ cB cT qf0 qf1 qf2 qf3 f_row_59 p1 (4 : Int32) (0 : Int32) f_row_66 hg66) (kwX1_45 hts rfl rfl ⟨Nat.le_of_ble_eq_true rfl, Nat.le_of_ble_eq_true rfl⟩) [0, 1] [2] rfl rfl rfl (by decide) rfl 0 rfl rfl rfl rfl hl.1 rfl (Nat.le_of_ble_eq_true rfl) dX1_settle_66 ⟨Nat.zero_le _, Nat.zero_le _⟩ (fun H locs hP hD hS => ?_)
    have hP := mP_sub (wc := (W_F_0t1_3 qf0 qf1 qf3 qf2 cI cJ cZ cB cT f_row_66 f_told)) hP [1, 2, 0] rfl
    have hD := hD.sub (ws' := (W_F_0t1_3 qf0 qf1 qf3 qf2 cI cJ cZ cB cT f_row_66 f_told)) [1, 2, 0] rfl rfl
    refine lv_aload_n hx hb dX1_settle_69 rfl (lv_at hl 0 rfl) ?_
    refine lv_iload_n hx hb dX1_settle_70 rfl (lv_at hl 1 rfl) ?_
    refine lv_iconst (v := (5 : Int32)) hx hb dX1_settle_71 (by decide) ?_
    refine lv_iconst (v := (0 : Int32)) hx hb dX1_settle_72 (by decide) ?_
    obtain ⟨f_row_73, hg73, hf⟩ := ob1_some hf
    refine mcV_v (wr := [(qf3, .inl (cI, 18, .inl f_told))]) (As := [.int p1, .int (5 : Int32), .int (0 : Int32)]) (rest := []) hx hb hml hown hts hK hP hD hS hA (k_X1_set l N D cI cJ cZ cB cT qf0 qf1 qf2 qf3 f_row_66 p1 (5 : Int32) (0 : Int32) f_row_73 hg73) (kwX1_45 hts rfl rfl ⟨Nat.le_of_ble_eq_true rfl, Nat.le_of_ble_eq_true rfl⟩) [0, 1] [2] rfl rfl rfl (by decide) rfl 0 rfl rfl rfl rfl hl.1 rfl (Nat.le_of_ble_eq_true rfl) dX1_settle_73 ⟨Nat.zero_le _, Nat.zero_le _⟩ (fun H locs hP hD hS => ?_)
    have hP := mP_sub (wc := (W_F_0t1_3 qf0 qf1 qf3 qf2 cI cJ cZ cB cT f_row_73 f_told)) hP [1, 2, 0] rfl
    have hD := hD.sub (ws' := (W_F_0t1_3 qf0 qf1 qf3 qf2 cI cJ cZ cB cT f_row_73 f_told)) [1, 2, 0] rfl rfl
    refine lv_aload_n hx hb dX1_settle_76 rfl (lv_at hl 0 rfl) ?_
    refine lv_iload_n hx hb dX1_settle_77 rfl (lv_at hl 1 rfl) ?_
    refine lv_bipush (v := (6 : Int32)) hx hb dX1_settle_78 (by decide) ?_
    refine lv_iconst (v := (0 : Int32)) hx hb dX1_settle_80 (by decide) ?_
    obtain ⟨f_row_81, hg81, hf⟩ := ob1_some hf
    refine mcV_v (wr := [(qf3, .inl (cI, 18, .inl f_told))]) (As := [.int p1, .int (6 : Int32), .int (0 : Int32)]) (rest := []) hx hb hml hown hts hK hP hD hS hA (k_X1_set l N D cI cJ cZ cB cT qf0 qf1 qf2 qf3 f_row_73 p1 (6 : Int32) (0 : Int32) f_row_81 hg81) (kwX1_45 hts rfl rfl ⟨Nat.le_of_ble_eq_true rfl, Nat.le_of_ble_eq_true rfl⟩) [0, 1] [2] rfl rfl rfl (by decide) rfl 0 rfl rfl rfl rfl hl.1 rfl (Nat.le_of_ble_eq_true rfl) dX1_settle_81 ⟨Nat.zero_le _, Nat.zero_le _⟩ (fun H locs hP hD hS => ?_)
    have hP := mP_sub (wc := (W_F_0t1_3 qf0 qf1 qf3 qf2 cI cJ cZ cB cT f_row_81 f_told)) hP [1, 2, 0] rfl
    have hD := hD.sub (ws' := (W_F_0t1_3 qf0 qf1 qf3 qf2 cI cJ cZ cB cT f_row_81 f_told)) [1, 2, 0] rfl rfl
    cases hf
    exact mret_v hx hb hr hlocks hP hD hS dX1_settle_84
theorem dX1_takeFrom_0 : decode cX1_takeFrom 0 = .ok (.iload_n 2, 1) := by decide +kernel
theorem dX1_takeFrom_1 : decode cX1_takeFrom 1 = .ok (.ifCond .lt 12, 3) := by decide +kernel
theorem dX1_takeFrom_4 : decode cX1_takeFrom 4 = .ok (.iload_n 2, 1) := by decide +kernel
theorem dX1_takeFrom_5 : decode cX1_takeFrom 5 = .ok (.aload_n 1, 1) := by decide +kernel
theorem dX1_takeFrom_6 : decode cX1_takeFrom 6 = .ok (.arraylength, 1) := by decide +kernel
theorem dX1_takeFrom_7 : decode cX1_takeFrom 7 = .ok (.bipush 76, 2) := by decide +kernel
theorem dX1_takeFrom_9 : decode cX1_takeFrom 9 = .ok (.isub, 1) := by decide +kernel
theorem dX1_takeFrom_10 : decode cX1_takeFrom 10 = .ok (.if_icmp .le 4, 3) := by decide +kernel
theorem dX1_takeFrom_13 : decode cX1_takeFrom 13 = .ok (.return_, 1) := by decide +kernel
theorem dX1_takeFrom_14 : decode cX1_takeFrom 14 = .ok (.aload_n 0, 1) := by decide +kernel
theorem dX1_takeFrom_15 : decode cX1_takeFrom 15 = .ok (.invokevirtual 27, 3) := by decide +kernel
theorem dX1_takeFrom_18 : decode cX1_takeFrom 18 = .ok (.istore_n 3, 1) := by decide +kernel
theorem dX1_takeFrom_19 : decode cX1_takeFrom 19 = .ok (.aload_n 1, 1) := by decide +kernel
theorem dX1_takeFrom_20 : decode cX1_takeFrom 20 = .ok (.iload_n 2, 1) := by decide +kernel
theorem dX1_takeFrom_21 : decode cX1_takeFrom 21 = .ok (.aload_n 0, 1) := by decide +kernel
theorem dX1_takeFrom_22 : decode cX1_takeFrom 22 = .ok (.getfield 11, 3) := by decide +kernel
theorem dX1_takeFrom_25 : decode cX1_takeFrom 25 = .ok (.iconst 0, 1) := by decide +kernel
theorem dX1_takeFrom_26 : decode cX1_takeFrom 26 = .ok (.bipush 76, 2) := by decide +kernel
theorem dX1_takeFrom_28 : decode cX1_takeFrom 28 = .ok (.invokestatic 21, 3) := by decide +kernel
theorem dX1_takeFrom_31 : decode cX1_takeFrom 31 = .ok (.aload_n 0, 1) := by decide +kernel
theorem dX1_takeFrom_32 : decode cX1_takeFrom 32 = .ok (.invokevirtual 27, 3) := by decide +kernel
theorem dX1_takeFrom_35 : decode cX1_takeFrom 35 = .ok (.istore 4, 2) := by decide +kernel
theorem dX1_takeFrom_37 : decode cX1_takeFrom 37 = .ok (.aload_n 0, 1) := by decide +kernel
theorem dX1_takeFrom_38 : decode cX1_takeFrom 38 = .ok (.getfield 11, 3) := by decide +kernel
theorem dX1_takeFrom_41 : decode cX1_takeFrom 41 = .ok (.iconst 2, 1) := by decide +kernel
theorem dX1_takeFrom_42 : decode cX1_takeFrom 42 = .ok (.iload_n 3, 1) := by decide +kernel
theorem dX1_takeFrom_43 : decode cX1_takeFrom 43 = .ok (.iload 4, 2) := by decide +kernel
theorem dX1_takeFrom_45 : decode cX1_takeFrom 45 = .ok (.invokestatic 31, 3) := by decide +kernel
theorem dX1_takeFrom_48 : decode cX1_takeFrom 48 = .ok (.iastore, 1) := by decide +kernel
theorem dX1_takeFrom_49 : decode cX1_takeFrom 49 = .ok (.iload 4, 2) := by decide +kernel
theorem dX1_takeFrom_51 : decode cX1_takeFrom 51 = .ok (.istore 5, 2) := by decide +kernel
theorem dX1_takeFrom_53 : decode cX1_takeFrom 53 = .ok (.iload 5, 2) := by decide +kernel
theorem dX1_takeFrom_55 : decode cX1_takeFrom 55 = .ok (.iload_n 3, 1) := by decide +kernel
theorem dX1_takeFrom_56 : decode cX1_takeFrom 56 = .ok (.if_icmp .ge 15, 3) := by decide +kernel
theorem dX1_takeFrom_59 : decode cX1_takeFrom 59 = .ok (.aload_n 0, 1) := by decide +kernel
theorem dX1_takeFrom_60 : decode cX1_takeFrom 60 = .ok (.iload 5, 2) := by decide +kernel
theorem dX1_takeFrom_62 : decode cX1_takeFrom 62 = .ok (.invokevirtual 37, 3) := by decide +kernel
theorem dX1_takeFrom_65 : decode cX1_takeFrom 65 = .ok (.iinc 5 1, 3) := by decide +kernel
theorem dX1_takeFrom_68 : decode cX1_takeFrom 68 = .ok (.goto (-15), 3) := by decide +kernel
theorem dX1_takeFrom_71 : decode cX1_takeFrom 71 = .ok (.return_, 1) := by decide +kernel
def f_X1_takeFrom_53 (N : Nat) : Nat → (Nat → Int32) → (Nat → Int32) → (Nat → Int32) → Int32 → Int32 → Option ((Nat → Int32))
  | 0, _, _, _, _, _ => none
  | n + 1, f_row, f_told, z_store, x3, x5 => if x3 ≤ x5 then (some f_row) else (ob1 (f_X1_settle N f_row f_told x5) fun f_row_62 => (f_X1_takeFrom_53 N n) f_row_62 f_told z_store x3 (x5 + (1 : Int32)))
def f_X1_takeFrom (N : Nat) (f_row : Nat → Int32) (f_told : Nat → Int32) (z_store : Nat → Int32) (p2 : Int32) : Option ((Nat → Int32)) := if p2 < 0 then (some f_row) else (if p2 ≤ ((2356 : Int32) - (76 : Int32)) then (ob1 (f_X1_count N f_row) fun r15 => cpI z_store 2356 f_row 76 p2 (0 : Int32) (76 : Int32) fun f_row_28 => ob1 (f_X1_count N f_row_28) fun r32 => sA f_row_28 76 (2 : Int32) (mxI r15 r32) fun f_row_48 => f_X1_takeFrom_53 N N f_row_48 f_told z_store r15 r32) else (some f_row))
set_option maxHeartbeats 4000000 in
set_option maxRecDepth 100000 in
theorem k_X1_takeFrom (l : Launch) (N : Nat) (D : va_G) (cI cJ cZ cB cT : ClassId) (qf0 : Nat) (qf1 : Nat) (qf3 : Nat) (qz1 : Nat) (qf2 : Nat) (f_row : Nat → Int32) (f_told : Nat → Int32) (z_store : Nat → Int32) (p2 : Int32) (o_f_row : Nat → Int32) (hf : f_X1_takeFrom N f_row f_told z_store p2 = some o_f_row) : ∀ sz, Met l yX1_takeFrom (mw yX1_takeFrom cX1_takeFrom 6 none) ({ frames := 3, cells := 0, slots := 0, locals := 65 } : Room) (mPre D (mT cI cJ cZ cB cT) (W_FS_0t1_3t4 qf0 qf1 qf3 qz1 qf2 cI cJ cZ cB cT f_row f_told z_store) sz [.ref qf0, .ref qz1, .int p2]) ((mQv D (W_FS_0t1_3t4 qf0 qf1 qf3 qz1 qf2 cI cJ cZ cB cT o_f_row f_told z_store)) (va_A (W_FS_0t1_3t4 qf0 qf1 qf3 qz1 qf2 cI cJ cZ cB cT f_row f_told z_store) sz)) 0 0 (va_A (W_FS_0t1_3t4 qf0 qf1 qf3 qz1 qf2 cI cJ cZ cB cT f_row f_told z_store) sz) := by
  refine mMet (Qc := (mQv D (W_FS_0t1_3t4 qf0 qf1 qf3 qz1 qf2 cI cJ cZ cB cT o_f_row f_told z_store))) (by decide) (Nat.le_of_ble_eq_true rfl) (fun p e s m below meth c A ls hx hb hr hml hts hown hlocks hK hA hP hD hl => ?_)
  have hown : s.vm.findClass RX1 = some m.cls := hown
  have hl : lv_has ls 6 [(0, .ref qf0), (1, .ref qz1), (2, .int p2)] := hl
  have hS : va_S A s.heap s.heap [] := va_S.rf
  have b53 : ∀ n53 : Nat, ∀ (f_row : Nat → Int32) (x3 : Int32) (x5 : Int32) (H : Heap) (locs : List Loc) (ls : Array Slot), f_X1_takeFrom_53 N n53 f_row f_told z_store x3 x5 = some o_f_row → va_P D vwCl (W_FS_0t1_3t4 qf0 qf1 qf3 qz1 qf2 cI cJ cZ cB cT f_row f_told z_store) H → va_D A (W_FS_0t1_3t4 qf0 qf1 qf3 qz1 qf2 cI cJ cZ cB cT f_row f_told z_store) → va_S A s.heap H locs → lv_has ls 6 [(0, .ref qf0), (3, .int x3), (5, .int x5)] → W p l e ({ frames := 3, cells := 0, slots := 0, locals := 65 } : Room) s m ([.ref qf0, .ref qz1, .int p2] : List Value).toArray below meth c H locs 0 0 (MQ below ((mQv D (W_FS_0t1_3t4 qf0 qf1 qf3 qz1 qf2 cI cJ cZ cB cT o_f_row f_told z_store)) A) ([.ref qf0, .ref qz1, .int p2] : List Value).toArray s 0 0 A) (F0 m 53 ls []) := by
    intro n53
    induction n53 with
    | zero =>
      intro f_row x3 x5 H locs ls hf hP hD hS hl
      simp [f_X1_takeFrom_53] at hf
    | succ n53 ih53 =>
      intro f_row x3 x5 H locs ls hf hP hD hS hl
      rw [f_X1_takeFrom_53.eq_2] at hf
      refine lv_iload hx hb dX1_takeFrom_53 (lv_at hl 2 rfl) ?_
      refine lv_iload_n hx hb dX1_takeFrom_55 rfl (lv_at hl 1 rfl) ?_
      refine xicmp_ge hx hb 71 dX1_takeFrom_56 (by decide) hf (fun hf => ?_) (fun hf => ?_)
      · cases hf
        exact mret_v hx hb hr hlocks hP hD hS dX1_takeFrom_71
      · refine lv_aload_n hx hb dX1_takeFrom_59 rfl (lv_at hl 0 rfl) ?_
        refine lv_iload hx hb dX1_takeFrom_60 (lv_at hl 2 rfl) ?_
        obtain ⟨f_row_62, hg62, hf⟩ := ob1_some hf
        refine mcV_v (wr := [(qz1, .inl (cI, 2356, .inl z_store))]) (As := [.int x5]) (rest := []) hx hb hml hown hts hK hP hD hS hA (k_X1_settle l N D cI cJ cZ cB cT qf0 qf1 qf3 qf2 f_row f_told x5 f_row_62 hg62) (kwX1_37 hts rfl rfl ⟨Nat.le_of_ble_eq_true rfl, Nat.le_of_ble_eq_true rfl⟩) [0, 1, 2] [3] rfl rfl rfl (by decide) rfl 0 rfl rfl rfl rfl hl.1 rfl (Nat.le_of_ble_eq_true rfl) dX1_takeFrom_62 ⟨Nat.zero_le _, Nat.zero_le _⟩ (fun H locs hP hD hS => ?_)
        have hP := mP_sub (wc := (W_FS_0t1_3t4 qf0 qf1 qf3 qz1 qf2 cI cJ cZ cB cT f_row_62 f_told z_store)) hP [1, 2, 3, 0] rfl
        have hD := hD.sub (ws' := (W_FS_0t1_3t4 qf0 qf1 qf3 qz1 qf2 cI cJ cZ cB cT f_row_62 f_told z_store)) [1, 2, 3, 0] rfl rfl
        refine lv_iinc (v := (x5 + (1 : Int32))) (lv' := [(5, .int (x5 + (1 : Int32))), (0, .ref qf0), (3, .int x3)]) hx hb dX1_takeFrom_65 hl (k := 2) rfl rfl (by decide) rfl (fun ls hl => ?_)
        refine lv_goto (tgt := 53) hx hb dX1_takeFrom_68 (by decide) ?_
        exact ih53 f_row_62 x3 (x5 + (1 : Int32)) _ _ _ hf hP hD hS (lv_sub hl [1, 2, 0] rfl)
  unfold f_X1_takeFrom at hf
  refine lv_iload_n hx hb dX1_takeFrom_0 rfl (lv_at hl 2 rfl) ?_
  refine xif_lt hx hb 13 dX1_takeFrom_1 (by decide) hf (fun hf => ?_) (fun hf => ?_)
  · cases hf
    exact mret_v hx hb hr hlocks hP hD hS dX1_takeFrom_13
  · refine lv_iload_n hx hb dX1_takeFrom_4 rfl (lv_at hl 2 rfl) ?_
    refine lv_aload_n hx hb dX1_takeFrom_5 rfl (lv_at hl 1 rfl) ?_
    refine va_alen (v := (2356 : Int32)) hx hb hK hP 3 0 rfl rfl rfl dX1_takeFrom_6 ?_
    refine lv_bipush (v := (76 : Int32)) hx hb dX1_takeFrom_7 (by decide) ?_
    refine lv_isub hx hb dX1_takeFrom_9 ?_
    refine xicmp_le hx hb 14 dX1_takeFrom_10 (by decide) hf (fun hf => ?_) (fun hf => ?_)
    · refine lv_aload_n hx hb dX1_takeFrom_14 rfl (lv_at hl 0 rfl) ?_
      obtain ⟨r15, hg15, hf⟩ := ob1_some hf
      refine mcV_i (wr := [(qf3, .inl (cI, 18, .inl f_told)), (qz1, .inl (cI, 2356, .inl z_store))]) (As := []) (rest := []) hx hb hml hown hts hK hP hD hS hA (k_X1_count l N D cI cJ cZ cB cT qf0 qf1 qf2 qf3 f_row r15 hg15) (kwX1_27 hts rfl rfl ⟨Nat.le_of_ble_eq_true rfl, Nat.le_of_ble_eq_true rfl⟩) [0, 1] [2, 3] rfl rfl rfl (by decide) rfl 0 rfl rfl rfl rfl hl.1 rfl (Nat.le_of_ble_eq_true rfl) dX1_takeFrom_15 ⟨Nat.zero_le _, Nat.zero_le _⟩ (fun hB15 H locs hP hD hS => ?_)
      have hP := mP_sub (wc := (W_FS_0t1_3t4 qf0 qf1 qf3 qz1 qf2 cI cJ cZ cB cT f_row f_told z_store)) hP [2, 3, 0, 1] rfl
      have hD := hD.sub (ws' := (W_FS_0t1_3t4 qf0 qf1 qf3 qz1 qf2 cI cJ cZ cB cT f_row f_told z_store)) [2, 3, 0, 1] rfl rfl
      refine lv_istore_n (lv' := [(3, .int r15), (0, .ref qf0), (1, .ref qz1), (2, .int p2)]) hx hb dX1_takeFrom_18 rfl hl (by decide) rfl (fun ls hl => ?_)
      refine lv_aload_n hx hb dX1_takeFrom_19 rfl (lv_at hl 2 rfl) ?_
      refine lv_iload_n hx hb dX1_takeFrom_20 rfl (lv_at hl 3 rfl) ?_
      refine lv_aload_n hx hb dX1_takeFrom_21 rfl (lv_at hl 1 rfl) ?_
      refine gfX1_11 hx hb hts hown hK hP 0 rfl rfl dX1_takeFrom_22 ?_
      refine lv_iconst (v := (0 : Int32)) hx hb dX1_takeFrom_25 (by decide) ?_
      refine lv_bipush (v := (76 : Int32)) hx hb dX1_takeFrom_26 (by decide) ?_
      refine xcopy hx hb hml hl.1 hown hts cpwX1_21 hK hP hD hS 3 1 0 0 rfl rfl rfl rfl (Nat.le_of_ble_eq_true rfl) (by decide) dX1_takeFrom_28 hf (fun f_row_28 hf H locs hP hD hS => ?_)
      have hP : va_P D vwCl (W_FS_0t1_3t4 qf0 qf1 qf3 qz1 qf2 cI cJ cZ cB cT f_row_28 f_told z_store) H := hP
      have hD : va_D A (W_FS_0t1_3t4 qf0 qf1 qf3 qz1 qf2 cI cJ cZ cB cT f_row_28 f_told z_store) := hD
      refine lv_aload_n hx hb dX1_takeFrom_31 rfl (lv_at hl 1 rfl) ?_
      obtain ⟨r32, hg32, hf⟩ := ob1_some hf
      refine mcV_i (wr := [(qf3, .inl (cI, 18, .inl f_told)), (qz1, .inl (cI, 2356, .inl z_store))]) (As := []) (rest := []) hx hb hml hown hts hK hP hD hS hA (k_X1_count l N D cI cJ cZ cB cT qf0 qf1 qf2 qf3 f_row_28 r32 hg32) (kwX1_27 hts rfl rfl ⟨Nat.le_of_ble_eq_true rfl, Nat.le_of_ble_eq_true rfl⟩) [0, 1] [2, 3] rfl rfl rfl (by decide) rfl 0 rfl rfl rfl rfl hl.1 rfl (Nat.le_of_ble_eq_true rfl) dX1_takeFrom_32 ⟨Nat.zero_le _, Nat.zero_le _⟩ (fun hB32 H locs hP hD hS => ?_)
      have hP := mP_sub (wc := (W_FS_0t1_3t4 qf0 qf1 qf3 qz1 qf2 cI cJ cZ cB cT f_row_28 f_told z_store)) hP [2, 3, 0, 1] rfl
      have hD := hD.sub (ws' := (W_FS_0t1_3t4 qf0 qf1 qf3 qz1 qf2 cI cJ cZ cB cT f_row_28 f_told z_store)) [2, 3, 0, 1] rfl rfl
      refine lv_istore (lv' := [(4, .int r32), (3, .int r15), (0, .ref qf0), (1, .ref qz1), (2, .int p2)]) hx hb dX1_takeFrom_35 hl (by decide) rfl (fun ls hl => ?_)
      refine lv_aload_n hx hb dX1_takeFrom_37 rfl (lv_at hl 2 rfl) ?_
      refine gfX1_11 hx hb hts hown hK hP 0 rfl rfl dX1_takeFrom_38 ?_
      refine lv_iconst (v := (2 : Int32)) hx hb dX1_takeFrom_41 (by decide) ?_
      refine lv_iload_n hx hb dX1_takeFrom_42 rfl (lv_at hl 1 rfl) ?_
      refine lv_iload hx hb dX1_takeFrom_43 (lv_at hl 0 rfl) ?_
      refine xmax hx hb hml hl.1 hown hts mtX1_31 (Nat.le_of_ble_eq_true rfl) (Nat.le_of_ble_eq_true rfl) ⟨Nat.zero_le _, Nat.zero_le _⟩ dX1_takeFrom_45 ?_
      refine xiast hx hb hK hP hD hS 1 0 rfl rfl dX1_takeFrom_48 hf (fun f_row_48 hf H locs hP hD hS => ?_)
      have hP : va_P D vwCl (W_FS_0t1_3t4 qf0 qf1 qf3 qz1 qf2 cI cJ cZ cB cT f_row_48 f_told z_store) H := hP
      have hD : va_D A (W_FS_0t1_3t4 qf0 qf1 qf3 qz1 qf2 cI cJ cZ cB cT f_row_48 f_told z_store) := hD
      refine lv_iload hx hb dX1_takeFrom_49 (lv_at hl 0 rfl) ?_
      refine lv_istore (lv' := [(5, .int r32), (4, .int r32), (3, .int r15), (0, .ref qf0), (1, .ref qz1), (2, .int p2)]) hx hb dX1_takeFrom_51 hl (by decide) rfl (fun ls hl => ?_)
      exact b53 N f_row_48 r15 r32 _ _ _ hf hP hD hS (lv_sub hl [3, 2, 0] rfl)
    · cases hf
      exact mret_v hx hb hr hlocks hP hD hS dX1_takeFrom_13
theorem dX1_tell_0 : decode cX1_tell 0 = .ok (.aload_n 0, 1) := by decide +kernel
theorem dX1_tell_1 : decode cX1_tell 1 = .ok (.invokevirtual 27, 3) := by decide +kernel
theorem dX1_tell_4 : decode cX1_tell 4 = .ok (.istore 5, 2) := by decide +kernel
theorem dX1_tell_6 : decode cX1_tell 6 = .ok (.iload 5, 2) := by decide +kernel
theorem dX1_tell_8 : decode cX1_tell 8 = .ok (.ifCond .lt 20, 3) := by decide +kernel
theorem dX1_tell_11 : decode cX1_tell 11 = .ok (.iload 5, 2) := by decide +kernel
theorem dX1_tell_13 : decode cX1_tell 13 = .ok (.bipush 6, 2) := by decide +kernel
theorem dX1_tell_15 : decode cX1_tell 15 = .ok (.if_icmp .ge 13, 3) := by decide +kernel
theorem dX1_tell_18 : decode cX1_tell 18 = .ok (.iload_n 2, 1) := by decide +kernel
theorem dX1_tell_19 : decode cX1_tell 19 = .ok (.ifCond .lt 9, 3) := by decide +kernel
theorem dX1_tell_22 : decode cX1_tell 22 = .ok (.iload_n 2, 1) := by decide +kernel
theorem dX1_tell_23 : decode cX1_tell 23 = .ok (.bipush 9, 2) := by decide +kernel
theorem dX1_tell_25 : decode cX1_tell 25 = .ok (.if_icmp .le 5, 3) := by decide +kernel
theorem dX1_tell_28 : decode cX1_tell 28 = .ok (.iconst (-1), 1) := by decide +kernel
theorem dX1_tell_29 : decode cX1_tell 29 = .ok (.ireturn, 1) := by decide +kernel
theorem dX1_tell_30 : decode cX1_tell 30 = .ok (.iload_n 3, 1) := by decide +kernel
theorem dX1_tell_31 : decode cX1_tell 31 = .ok (.ifCond .lt 23, 3) := by decide +kernel
theorem dX1_tell_34 : decode cX1_tell 34 = .ok (.iload_n 3, 1) := by decide +kernel
theorem dX1_tell_35 : decode cX1_tell 35 = .ok (.sipush 9999, 3) := by decide +kernel
theorem dX1_tell_38 : decode cX1_tell 38 = .ok (.if_icmp .gt 16, 3) := by decide +kernel
theorem dX1_tell_41 : decode cX1_tell 41 = .ok (.iload 4, 2) := by decide +kernel
theorem dX1_tell_43 : decode cX1_tell 43 = .ok (.ifCond .lt 11, 3) := by decide +kernel
theorem dX1_tell_46 : decode cX1_tell 46 = .ok (.iload 4, 2) := by decide +kernel
theorem dX1_tell_48 : decode cX1_tell 48 = .ok (.sipush 9999, 3) := by decide +kernel
theorem dX1_tell_51 : decode cX1_tell 51 = .ok (.if_icmp .le 5, 3) := by decide +kernel
theorem dX1_tell_54 : decode cX1_tell 54 = .ok (.iconst (-1), 1) := by decide +kernel
theorem dX1_tell_55 : decode cX1_tell 55 = .ok (.ireturn, 1) := by decide +kernel
theorem dX1_tell_56 : decode cX1_tell 56 = .ok (.aload_n 0, 1) := by decide +kernel
theorem dX1_tell_57 : decode cX1_tell 57 = .ok (.getfield 15, 3) := by decide +kernel
theorem dX1_tell_60 : decode cX1_tell 60 = .ok (.iload 5, 2) := by decide +kernel
theorem dX1_tell_62 : decode cX1_tell 62 = .ok (.iload_n 2, 1) := by decide +kernel
theorem dX1_tell_63 : decode cX1_tell 63 = .ok (.iastore, 1) := by decide +kernel
theorem dX1_tell_64 : decode cX1_tell 64 = .ok (.aload_n 0, 1) := by decide +kernel
theorem dX1_tell_65 : decode cX1_tell 65 = .ok (.getfield 18, 3) := by decide +kernel
theorem dX1_tell_68 : decode cX1_tell 68 = .ok (.iload 5, 2) := by decide +kernel
theorem dX1_tell_70 : decode cX1_tell 70 = .ok (.iconst 3, 1) := by decide +kernel
theorem dX1_tell_71 : decode cX1_tell 71 = .ok (.imul, 1) := by decide +kernel
theorem dX1_tell_72 : decode cX1_tell 72 = .ok (.iload_n 1, 1) := by decide +kernel
theorem dX1_tell_73 : decode cX1_tell 73 = .ok (.iastore, 1) := by decide +kernel
theorem dX1_tell_74 : decode cX1_tell 74 = .ok (.aload_n 0, 1) := by decide +kernel
theorem dX1_tell_75 : decode cX1_tell 75 = .ok (.getfield 18, 3) := by decide +kernel
theorem dX1_tell_78 : decode cX1_tell 78 = .ok (.iload 5, 2) := by decide +kernel
theorem dX1_tell_80 : decode cX1_tell 80 = .ok (.iconst 3, 1) := by decide +kernel
theorem dX1_tell_81 : decode cX1_tell 81 = .ok (.imul, 1) := by decide +kernel
theorem dX1_tell_82 : decode cX1_tell 82 = .ok (.iconst 1, 1) := by decide +kernel
theorem dX1_tell_83 : decode cX1_tell 83 = .ok (.iadd, 1) := by decide +kernel
theorem dX1_tell_84 : decode cX1_tell 84 = .ok (.iload_n 3, 1) := by decide +kernel
theorem dX1_tell_85 : decode cX1_tell 85 = .ok (.iastore, 1) := by decide +kernel
theorem dX1_tell_86 : decode cX1_tell 86 = .ok (.aload_n 0, 1) := by decide +kernel
theorem dX1_tell_87 : decode cX1_tell 87 = .ok (.getfield 18, 3) := by decide +kernel
theorem dX1_tell_90 : decode cX1_tell 90 = .ok (.iload 5, 2) := by decide +kernel
theorem dX1_tell_92 : decode cX1_tell 92 = .ok (.iconst 3, 1) := by decide +kernel
theorem dX1_tell_93 : decode cX1_tell 93 = .ok (.imul, 1) := by decide +kernel
theorem dX1_tell_94 : decode cX1_tell 94 = .ok (.iconst 2, 1) := by decide +kernel
theorem dX1_tell_95 : decode cX1_tell 95 = .ok (.iadd, 1) := by decide +kernel
theorem dX1_tell_96 : decode cX1_tell 96 = .ok (.iload 4, 2) := by decide +kernel
theorem dX1_tell_98 : decode cX1_tell 98 = .ok (.iastore, 1) := by decide +kernel
theorem dX1_tell_99 : decode cX1_tell 99 = .ok (.aload_n 0, 1) := by decide +kernel
theorem dX1_tell_100 : decode cX1_tell 100 = .ok (.getfield 11, 3) := by decide +kernel
theorem dX1_tell_103 : decode cX1_tell 103 = .ok (.iconst 2, 1) := by decide +kernel
theorem dX1_tell_104 : decode cX1_tell 104 = .ok (.iload 5, 2) := by decide +kernel
theorem dX1_tell_106 : decode cX1_tell 106 = .ok (.iconst 1, 1) := by decide +kernel
theorem dX1_tell_107 : decode cX1_tell 107 = .ok (.iadd, 1) := by decide +kernel
theorem dX1_tell_108 : decode cX1_tell 108 = .ok (.iastore, 1) := by decide +kernel
theorem dX1_tell_109 : decode cX1_tell 109 = .ok (.aload_n 0, 1) := by decide +kernel
theorem dX1_tell_110 : decode cX1_tell 110 = .ok (.iload 5, 2) := by decide +kernel
theorem dX1_tell_112 : decode cX1_tell 112 = .ok (.invokevirtual 37, 3) := by decide +kernel
theorem dX1_tell_115 : decode cX1_tell 115 = .ok (.iload 5, 2) := by decide +kernel
theorem dX1_tell_117 : decode cX1_tell 117 = .ok (.ireturn, 1) := by decide +kernel
def f_X1_tell (N : Nat) (f_row : Nat → Int32) (f_fears : Nat → Int32) (f_told : Nat → Int32) (p1 : Int32) (p2 : Int32) (p3 : Int32) (p4 : Int32) : Option (Int32 × (Nat → Int32) × (Nat → Int32) × (Nat → Int32)) := ob1 (f_X1_count N f_row) fun r1 => if r1 < 0 then (some ((-1 : Int32), f_row, f_fears, f_told)) else (if (6 : Int32) ≤ r1 then (some ((-1 : Int32), f_row, f_fears, f_told)) else (if p2 < 0 then (some ((-1 : Int32), f_row, f_fears, f_told)) else (if p2 ≤ (9 : Int32) then (if p3 < 0 then (some ((-1 : Int32), f_row, f_fears, f_told)) else (if (9999 : Int32) < p3 then (some ((-1 : Int32), f_row, f_fears, f_told)) else (if p4 < 0 then (some ((-1 : Int32), f_row, f_fears, f_told)) else (if p4 ≤ (9999 : Int32) then (sA f_fears 6 r1 p2 fun f_fears_63 => sA f_told 18 (r1 * (3 : Int32)) p1 fun f_told_73 => sA f_told_73 18 ((r1 * (3 : Int32)) + (1 : Int32)) p3 fun f_told_85 => sA f_told_85 18 ((r1 * (3 : Int32)) + (2 : Int32)) p4 fun f_told_98 => sA f_row 76 (2 : Int32) (r1 + (1 : Int32)) fun f_row_108 => ob1 (f_X1_settle N f_row_108 f_told_98 r1) fun f_row_112 => some (r1, f_row_112, f_fears_63, f_told_98)) else (some ((-1 : Int32), f_row, f_fears, f_told)))))) else (some ((-1 : Int32), f_row, f_fears, f_told)))))
set_option maxHeartbeats 4000000 in
set_option maxRecDepth 100000 in
theorem k_X1_tell (l : Launch) (N : Nat) (D : va_G) (cI cJ cZ cB cT : ClassId) (qf0 : Nat) (qf1 : Nat) (qf2 : Nat) (qf3 : Nat) (f_row : Nat → Int32) (f_fears : Nat → Int32) (f_told : Nat → Int32) (p1 : Int32) (p2 : Int32) (p3 : Int32) (p4 : Int32) (o_r : Int32) (o_f_row : Nat → Int32) (o_f_fears : Nat → Int32) (o_f_told : Nat → Int32) (hf : f_X1_tell N f_row f_fears f_told p1 p2 p3 p4 = some (o_r, o_f_row, o_f_fears, o_f_told)) : ∀ sz, Met l yX1_tell (mw yX1_tell cX1_tell 6 (some .int)) ({ frames := 3, cells := 0, slots := 0, locals := 65 } : Room) (mPre D (mT cI cJ cZ cB cT) (W_F_0t3 qf0 qf1 qf2 qf3 cI cJ cZ cB cT f_row f_fears f_told) sz [.ref qf0, .int p1, .int p2, .int p3, .int p4]) ((mQi D (W_F_0t3 qf0 qf1 qf2 qf3 cI cJ cZ cB cT o_f_row o_f_fears o_f_told) o_r True) (va_A (W_F_0t3 qf0 qf1 qf2 qf3 cI cJ cZ cB cT f_row f_fears f_told) sz)) 0 0 (va_A (W_F_0t3 qf0 qf1 qf2 qf3 cI cJ cZ cB cT f_row f_fears f_told) sz) := by
  refine mMet (Qc := (mQi D (W_F_0t3 qf0 qf1 qf2 qf3 cI cJ cZ cB cT o_f_row o_f_fears o_f_told) o_r True)) (by decide) (Nat.le_of_ble_eq_true rfl) (fun p e s m below meth c A ls hx hb hr hml hts hown hlocks hK hA hP hD hl => ?_)
  have hown : s.vm.findClass RX1 = some m.cls := hown
  have hl : lv_has ls 6 [(0, .ref qf0), (1, .int p1), (2, .int p2), (3, .int p3), (4, .int p4)] := hl
  have hS : va_S A s.heap s.heap [] := va_S.rf
  unfold f_X1_tell at hf
  refine lv_aload_n hx hb dX1_tell_0 rfl (lv_at hl 0 rfl) ?_
  obtain ⟨r1, hg1, hf⟩ := ob1_some hf
  refine mcV_i (wr := [(qf2, .inl (cI, 6, .inl f_fears)), (qf3, .inl (cI, 18, .inl f_told))]) (As := []) (rest := []) hx hb hml hown hts hK hP hD hS hA (k_X1_count l N D cI cJ cZ cB cT qf0 qf1 qf2 qf3 f_row r1 hg1) (kwX1_27 hts rfl rfl ⟨Nat.le_of_ble_eq_true rfl, Nat.le_of_ble_eq_true rfl⟩) [0, 1] [2, 3] rfl rfl rfl (by decide) rfl 0 rfl rfl rfl rfl hl.1 rfl (Nat.le_of_ble_eq_true rfl) dX1_tell_1 ⟨Nat.zero_le _, Nat.zero_le _⟩ (fun hB1 H locs hP hD hS => ?_)
  have hP := mP_sub (wc := (W_F_0t3 qf0 qf1 qf2 qf3 cI cJ cZ cB cT f_row f_fears f_told)) hP [2, 3, 0, 1] rfl
  have hD := hD.sub (ws' := (W_F_0t3 qf0 qf1 qf2 qf3 cI cJ cZ cB cT f_row f_fears f_told)) [2, 3, 0, 1] rfl rfl
  refine lv_istore (lv' := [(5, .int r1), (0, .ref qf0), (1, .int p1), (2, .int p2), (3, .int p3), (4, .int p4)]) hx hb dX1_tell_4 hl (by decide) rfl (fun ls hl => ?_)
  refine lv_iload hx hb dX1_tell_6 (lv_at hl 0 rfl) ?_
  refine xif_lt hx hb 28 dX1_tell_8 (by decide) hf (fun hf => ?_) (fun hf => ?_)
  · refine lv_iconst (v := (-1 : Int32)) hx hb dX1_tell_28 (by decide) ?_
    cases hf
    exact mret_i hx hb hr hlocks hP hD hS dX1_tell_29 rfl trivial
  · refine lv_iload hx hb dX1_tell_11 (lv_at hl 0 rfl) ?_
    refine lv_bipush (v := (6 : Int32)) hx hb dX1_tell_13 (by decide) ?_
    refine xicmp_ge hx hb 28 dX1_tell_15 (by decide) hf (fun hf => ?_) (fun hf => ?_)
    · refine lv_iconst (v := (-1 : Int32)) hx hb dX1_tell_28 (by decide) ?_
      cases hf
      exact mret_i hx hb hr hlocks hP hD hS dX1_tell_29 rfl trivial
    · refine lv_iload_n hx hb dX1_tell_18 rfl (lv_at hl 3 rfl) ?_
      refine xif_lt hx hb 28 dX1_tell_19 (by decide) hf (fun hf => ?_) (fun hf => ?_)
      · refine lv_iconst (v := (-1 : Int32)) hx hb dX1_tell_28 (by decide) ?_
        cases hf
        exact mret_i hx hb hr hlocks hP hD hS dX1_tell_29 rfl trivial
      · refine lv_iload_n hx hb dX1_tell_22 rfl (lv_at hl 3 rfl) ?_
        refine lv_bipush (v := (9 : Int32)) hx hb dX1_tell_23 (by decide) ?_
        refine xicmp_le hx hb 30 dX1_tell_25 (by decide) hf (fun hf => ?_) (fun hf => ?_)
        · refine lv_iload_n hx hb dX1_tell_30 rfl (lv_at hl 4 rfl) ?_
          refine xif_lt hx hb 54 dX1_tell_31 (by decide) hf (fun hf => ?_) (fun hf => ?_)
          · refine lv_iconst (v := (-1 : Int32)) hx hb dX1_tell_54 (by decide) ?_
            cases hf
            exact mret_i hx hb hr hlocks hP hD hS dX1_tell_55 rfl trivial
          · refine lv_iload_n hx hb dX1_tell_34 rfl (lv_at hl 4 rfl) ?_
            refine lv_sipush (v := (9999 : Int32)) hx hb dX1_tell_35 (by decide) ?_
            refine xicmp_gt hx hb 54 dX1_tell_38 (by decide) hf (fun hf => ?_) (fun hf => ?_)
            · refine lv_iconst (v := (-1 : Int32)) hx hb dX1_tell_54 (by decide) ?_
              cases hf
              exact mret_i hx hb hr hlocks hP hD hS dX1_tell_55 rfl trivial
            · refine lv_iload hx hb dX1_tell_41 (lv_at hl 5 rfl) ?_
              refine xif_lt hx hb 54 dX1_tell_43 (by decide) hf (fun hf => ?_) (fun hf => ?_)
              · refine lv_iconst (v := (-1 : Int32)) hx hb dX1_tell_54 (by decide) ?_
                cases hf
                exact mret_i hx hb hr hlocks hP hD hS dX1_tell_55 rfl trivial
              · refine lv_iload hx hb dX1_tell_46 (lv_at hl 5 rfl) ?_
                refine lv_sipush (v := (9999 : Int32)) hx hb dX1_tell_48 (by decide) ?_
                refine xicmp_le hx hb 56 dX1_tell_51 (by decide) hf (fun hf => ?_) (fun hf => ?_)
                · refine lv_aload_n hx hb dX1_tell_56 rfl (lv_at hl 1 rfl) ?_
                  refine gfX1_15 hx hb hts hown hK hP 0 rfl rfl dX1_tell_57 ?_
                  refine lv_iload hx hb dX1_tell_60 (lv_at hl 0 rfl) ?_
                  refine lv_iload_n hx hb dX1_tell_62 rfl (lv_at hl 3 rfl) ?_
                  refine xiast hx hb hK hP hD hS 2 0 rfl rfl dX1_tell_63 hf (fun f_fears_63 hf H locs hP hD hS => ?_)
                  have hP : va_P D vwCl (W_F_0t3 qf0 qf1 qf2 qf3 cI cJ cZ cB cT f_row f_fears_63 f_told) H := hP
                  have hD : va_D A (W_F_0t3 qf0 qf1 qf2 qf3 cI cJ cZ cB cT f_row f_fears_63 f_told) := hD
                  refine lv_aload_n hx hb dX1_tell_64 rfl (lv_at hl 1 rfl) ?_
                  refine gfX1_18 hx hb hts hown hK hP 0 rfl rfl dX1_tell_65 ?_
                  refine lv_iload hx hb dX1_tell_68 (lv_at hl 0 rfl) ?_
                  refine lv_iconst (v := (3 : Int32)) hx hb dX1_tell_70 (by decide) ?_
                  refine lv_imul hx hb dX1_tell_71 ?_
                  refine lv_iload_n hx hb dX1_tell_72 rfl (lv_at hl 2 rfl) ?_
                  refine xiast hx hb hK hP hD hS 3 0 rfl rfl dX1_tell_73 hf (fun f_told_73 hf H locs hP hD hS => ?_)
                  have hP : va_P D vwCl (W_F_0t3 qf0 qf1 qf2 qf3 cI cJ cZ cB cT f_row f_fears_63 f_told_73) H := hP
                  have hD : va_D A (W_F_0t3 qf0 qf1 qf2 qf3 cI cJ cZ cB cT f_row f_fears_63 f_told_73) := hD
                  refine lv_aload_n hx hb dX1_tell_74 rfl (lv_at hl 1 rfl) ?_
                  refine gfX1_18 hx hb hts hown hK hP 0 rfl rfl dX1_tell_75 ?_
                  refine lv_iload hx hb dX1_tell_78 (lv_at hl 0 rfl) ?_
                  refine lv_iconst (v := (3 : Int32)) hx hb dX1_tell_80 (by decide) ?_
                  refine lv_imul hx hb dX1_tell_81 ?_
                  refine lv_iconst (v := (1 : Int32)) hx hb dX1_tell_82 (by decide) ?_
                  refine lv_iadd hx hb dX1_tell_83 ?_
                  refine lv_iload_n hx hb dX1_tell_84 rfl (lv_at hl 4 rfl) ?_
                  refine xiast hx hb hK hP hD hS 3 0 rfl rfl dX1_tell_85 hf (fun f_told_85 hf H locs hP hD hS => ?_)
                  have hP : va_P D vwCl (W_F_0t3 qf0 qf1 qf2 qf3 cI cJ cZ cB cT f_row f_fears_63 f_told_85) H := hP
                  have hD : va_D A (W_F_0t3 qf0 qf1 qf2 qf3 cI cJ cZ cB cT f_row f_fears_63 f_told_85) := hD
                  refine lv_aload_n hx hb dX1_tell_86 rfl (lv_at hl 1 rfl) ?_
                  refine gfX1_18 hx hb hts hown hK hP 0 rfl rfl dX1_tell_87 ?_
                  refine lv_iload hx hb dX1_tell_90 (lv_at hl 0 rfl) ?_
                  refine lv_iconst (v := (3 : Int32)) hx hb dX1_tell_92 (by decide) ?_
                  refine lv_imul hx hb dX1_tell_93 ?_
                  refine lv_iconst (v := (2 : Int32)) hx hb dX1_tell_94 (by decide) ?_
                  refine lv_iadd hx hb dX1_tell_95 ?_
                  refine lv_iload hx hb dX1_tell_96 (lv_at hl 5 rfl) ?_
                  refine xiast hx hb hK hP hD hS 3 0 rfl rfl dX1_tell_98 hf (fun f_told_98 hf H locs hP hD hS => ?_)
                  have hP : va_P D vwCl (W_F_0t3 qf0 qf1 qf2 qf3 cI cJ cZ cB cT f_row f_fears_63 f_told_98) H := hP
                  have hD : va_D A (W_F_0t3 qf0 qf1 qf2 qf3 cI cJ cZ cB cT f_row f_fears_63 f_told_98) := hD
                  refine lv_aload_n hx hb dX1_tell_99 rfl (lv_at hl 1 rfl) ?_
                  refine gfX1_11 hx hb hts hown hK hP 0 rfl rfl dX1_tell_100 ?_
                  refine lv_iconst (v := (2 : Int32)) hx hb dX1_tell_103 (by decide) ?_
                  refine lv_iload hx hb dX1_tell_104 (lv_at hl 0 rfl) ?_
                  refine lv_iconst (v := (1 : Int32)) hx hb dX1_tell_106 (by decide) ?_
                  refine lv_iadd hx hb dX1_tell_107 ?_
                  refine xiast hx hb hK hP hD hS 1 0 rfl rfl dX1_tell_108 hf (fun f_row_108 hf H locs hP hD hS => ?_)
                  have hP : va_P D vwCl (W_F_0t3 qf0 qf1 qf2 qf3 cI cJ cZ cB cT f_row_108 f_fears_63 f_told_98) H := hP
                  have hD : va_D A (W_F_0t3 qf0 qf1 qf2 qf3 cI cJ cZ cB cT f_row_108 f_fears_63 f_told_98) := hD
                  refine lv_aload_n hx hb dX1_tell_109 rfl (lv_at hl 1 rfl) ?_
                  refine lv_iload hx hb dX1_tell_110 (lv_at hl 0 rfl) ?_
                  obtain ⟨f_row_112, hg112, hf⟩ := ob1_some hf
                  refine mcV_v (wr := [(qf2, .inl (cI, 6, .inl f_fears_63))]) (As := [.int r1]) (rest := []) hx hb hml hown hts hK hP hD hS hA (k_X1_settle l N D cI cJ cZ cB cT qf0 qf1 qf3 qf2 f_row_108 f_told_98 r1 f_row_112 hg112) (kwX1_37 hts rfl rfl ⟨Nat.le_of_ble_eq_true rfl, Nat.le_of_ble_eq_true rfl⟩) [0, 1, 3] [2] rfl rfl rfl (by decide) rfl 0 rfl rfl rfl rfl hl.1 rfl (Nat.le_of_ble_eq_true rfl) dX1_tell_112 ⟨Nat.zero_le _, Nat.zero_le _⟩ (fun H locs hP hD hS => ?_)
                  have hP := mP_sub (wc := (W_F_0t3 qf0 qf1 qf2 qf3 cI cJ cZ cB cT f_row_112 f_fears_63 f_told_98)) hP [1, 2, 0, 3] rfl
                  have hD := hD.sub (ws' := (W_F_0t3 qf0 qf1 qf2 qf3 cI cJ cZ cB cT f_row_112 f_fears_63 f_told_98)) [1, 2, 0, 3] rfl rfl
                  refine lv_iload hx hb dX1_tell_115 (lv_at hl 0 rfl) ?_
                  cases hf
                  exact mret_i hx hb hr hlocks hP hD hS dX1_tell_117 rfl trivial
                · refine lv_iconst (v := (-1 : Int32)) hx hb dX1_tell_54 (by decide) ?_
                  cases hf
                  exact mret_i hx hb hr hlocks hP hD hS dX1_tell_55 rfl trivial
        · refine lv_iconst (v := (-1 : Int32)) hx hb dX1_tell_28 (by decide) ?_
          cases hf
          exact mret_i hx hb hr hlocks hP hD hS dX1_tell_29 rfl trivial
theorem dX1_get_0 : decode cX1_get 0 = .ok (.iload_n 1, 1) := by decide +kernel
theorem dX1_get_1 : decode cX1_get 1 = .ok (.ifCond .lt 23, 3) := by decide +kernel
theorem dX1_get_4 : decode cX1_get 4 = .ok (.iload_n 1, 1) := by decide +kernel
theorem dX1_get_5 : decode cX1_get 5 = .ok (.aload_n 0, 1) := by decide +kernel
theorem dX1_get_6 : decode cX1_get 6 = .ok (.getfield 11, 3) := by decide +kernel
theorem dX1_get_9 : decode cX1_get 9 = .ok (.iconst 2, 1) := by decide +kernel
theorem dX1_get_10 : decode cX1_get 10 = .ok (.iaload, 1) := by decide +kernel
theorem dX1_get_11 : decode cX1_get 11 = .ok (.if_icmp .ge 13, 3) := by decide +kernel
theorem dX1_get_14 : decode cX1_get 14 = .ok (.iload_n 1, 1) := by decide +kernel
theorem dX1_get_15 : decode cX1_get 15 = .ok (.bipush 6, 2) := by decide +kernel
theorem dX1_get_17 : decode cX1_get 17 = .ok (.if_icmp .ge 7, 3) := by decide +kernel
theorem dX1_get_20 : decode cX1_get 20 = .ok (.iconst 1, 1) := by decide +kernel
theorem dX1_get_21 : decode cX1_get 21 = .ok (.goto 4, 3) := by decide +kernel
theorem dX1_get_24 : decode cX1_get 24 = .ok (.iconst 0, 1) := by decide +kernel
theorem dX1_get_25 : decode cX1_get 25 = .ok (.istore_n 3, 1) := by decide +kernel
theorem dX1_get_26 : decode cX1_get 26 = .ok (.iload_n 3, 1) := by decide +kernel
theorem dX1_get_27 : decode cX1_get 27 = .ok (.ifCond .eq 13, 3) := by decide +kernel
theorem dX1_get_30 : decode cX1_get 30 = .ok (.iload_n 2, 1) := by decide +kernel
theorem dX1_get_31 : decode cX1_get 31 = .ok (.ifCond .lt 9, 3) := by decide +kernel
theorem dX1_get_34 : decode cX1_get 34 = .ok (.iload_n 2, 1) := by decide +kernel
theorem dX1_get_35 : decode cX1_get 35 = .ok (.bipush 7, 2) := by decide +kernel
theorem dX1_get_37 : decode cX1_get 37 = .ok (.if_icmp .lt 5, 3) := by decide +kernel
theorem dX1_get_40 : decode cX1_get 40 = .ok (.iconst 0, 1) := by decide +kernel
theorem dX1_get_41 : decode cX1_get 41 = .ok (.ireturn, 1) := by decide +kernel
theorem dX1_get_42 : decode cX1_get 42 = .ok (.aload_n 0, 1) := by decide +kernel
theorem dX1_get_43 : decode cX1_get 43 = .ok (.getfield 11, 3) := by decide +kernel
theorem dX1_get_46 : decode cX1_get 46 = .ok (.bipush 34, 2) := by decide +kernel
theorem dX1_get_48 : decode cX1_get 48 = .ok (.iload_n 1, 1) := by decide +kernel
theorem dX1_get_49 : decode cX1_get 49 = .ok (.bipush 7, 2) := by decide +kernel
theorem dX1_get_51 : decode cX1_get 51 = .ok (.imul, 1) := by decide +kernel
theorem dX1_get_52 : decode cX1_get 52 = .ok (.iadd, 1) := by decide +kernel
theorem dX1_get_53 : decode cX1_get 53 = .ok (.iload_n 2, 1) := by decide +kernel
theorem dX1_get_54 : decode cX1_get 54 = .ok (.iadd, 1) := by decide +kernel
theorem dX1_get_55 : decode cX1_get 55 = .ok (.iaload, 1) := by decide +kernel
theorem dX1_get_56 : decode cX1_get 56 = .ok (.ireturn, 1) := by decide +kernel
def f_X1_get_25 (N : Nat) (f_row : Nat → Int32) (x1 : Int32) (x2 : Int32) (s0 : Int32) : Option (Int32) := if s0 = 0 then (some (0 : Int32)) else (if x2 < 0 then (some (0 : Int32)) else (if x2 < (7 : Int32) then (gA f_row 76 (((34 : Int32) + (x1 * (7 : Int32))) + x2) fun v55 => some v55) else (some (0 : Int32))))
def f_X1_get_24 (N : Nat) (f_row : Nat → Int32) (x1 : Int32) (x2 : Int32) : Option (Int32) := f_X1_get_25 N f_row x1 x2 (0 : Int32)
def f_X1_get (N : Nat) (f_row : Nat → Int32) (p1 : Int32) (p2 : Int32) : Option (Int32) := if p1 < 0 then (f_X1_get_24 N f_row p1 p2) else (gA f_row 76 (2 : Int32) fun v10 => if v10 ≤ p1 then (f_X1_get_24 N f_row p1 p2) else (if (6 : Int32) ≤ p1 then (f_X1_get_24 N f_row p1 p2) else (f_X1_get_25 N f_row p1 p2 (1 : Int32))))
set_option maxHeartbeats 4000000 in
set_option maxRecDepth 100000 in
theorem k_X1_get (l : Launch) (N : Nat) (D : va_G) (cI cJ cZ cB cT : ClassId) (qf0 : Nat) (qf1 : Nat) (qf2 : Nat) (qf3 : Nat) (f_row : Nat → Int32) (p1 : Int32) (p2 : Int32) (o_r : Int32) (hf : f_X1_get N f_row p1 p2 = some o_r) : ∀ sz, Met l yX1_get (mw yX1_get cX1_get 4 (some .int)) ({ frames := 0, cells := 0, slots := 0, locals := 0 } : Room) (mPre D (mT cI cJ cZ cB cT) (W_F_0t1 qf0 qf1 qf2 qf3 cI cJ cZ cB cT f_row) sz [.ref qf0, .int p1, .int p2]) ((mQi D (W_F_0t1 qf0 qf1 qf2 qf3 cI cJ cZ cB cT f_row) o_r True) (va_A (W_F_0t1 qf0 qf1 qf2 qf3 cI cJ cZ cB cT f_row) sz)) 0 0 (va_A (W_F_0t1 qf0 qf1 qf2 qf3 cI cJ cZ cB cT f_row) sz) := by
  refine mMet (Qc := (mQi D (W_F_0t1 qf0 qf1 qf2 qf3 cI cJ cZ cB cT f_row) o_r True)) (by decide) (Nat.le_of_ble_eq_true rfl) (fun p e s m below meth c A ls hx hb hr hml hts hown hlocks hK hA hP hD hl => ?_)
  have hown : s.vm.findClass RX1 = some m.cls := hown
  have hl : lv_has ls 4 [(0, .ref qf0), (1, .int p1), (2, .int p2)] := hl
  have hS : va_S A s.heap s.heap [] := va_S.rf
  have b25 : ∀ (x1 : Int32) (x2 : Int32) (s0 : Int32) (H : Heap) (locs : List Loc) (ls : Array Slot), f_X1_get_25 N f_row x1 x2 s0 = some o_r → va_P D vwCl (W_F_0t1 qf0 qf1 qf2 qf3 cI cJ cZ cB cT f_row) H → va_D A (W_F_0t1 qf0 qf1 qf2 qf3 cI cJ cZ cB cT f_row) → va_S A s.heap H locs → lv_has ls 4 [(0, .ref qf0), (1, .int x1), (2, .int x2)] → W p l e ({ frames := 0, cells := 0, slots := 0, locals := 0 } : Room) s m ([.ref qf0, .int p1, .int p2] : List Value).toArray below meth c H locs 0 0 (MQ below ((mQi D (W_F_0t1 qf0 qf1 qf2 qf3 cI cJ cZ cB cT f_row) o_r True) A) ([.ref qf0, .int p1, .int p2] : List Value).toArray s 0 0 A) (F0 m 25 ls [.int s0]) := by
    intro x1 x2 s0 H locs ls hf hP hD hS hl
    unfold f_X1_get_25 at hf
    refine lv_istore_n (lv' := [(3, .int s0), (0, .ref qf0), (1, .int x1), (2, .int x2)]) hx hb dX1_get_25 rfl hl (by decide) rfl (fun ls hl => ?_)
    refine lv_iload_n hx hb dX1_get_26 rfl (lv_at hl 0 rfl) ?_
    refine xif_eq hx hb 40 dX1_get_27 (by decide) hf (fun hf => ?_) (fun hf => ?_)
    · refine lv_iconst (v := (0 : Int32)) hx hb dX1_get_40 (by decide) ?_
      cases hf
      exact mret_i hx hb hr hlocks hP hD hS dX1_get_41 rfl trivial
    · refine lv_iload_n hx hb dX1_get_30 rfl (lv_at hl 3 rfl) ?_
      refine xif_lt hx hb 40 dX1_get_31 (by decide) hf (fun hf => ?_) (fun hf => ?_)
      · refine lv_iconst (v := (0 : Int32)) hx hb dX1_get_40 (by decide) ?_
        cases hf
        exact mret_i hx hb hr hlocks hP hD hS dX1_get_41 rfl trivial
      · refine lv_iload_n hx hb dX1_get_34 rfl (lv_at hl 3 rfl) ?_
        refine lv_bipush (v := (7 : Int32)) hx hb dX1_get_35 (by decide) ?_
        refine xicmp_lt hx hb 42 dX1_get_37 (by decide) hf (fun hf => ?_) (fun hf => ?_)
        · refine lv_aload_n hx hb dX1_get_42 rfl (lv_at hl 1 rfl) ?_
          refine gfX1_11 hx hb hts hown hK hP 0 rfl rfl dX1_get_43 ?_
          refine lv_bipush (v := (34 : Int32)) hx hb dX1_get_46 (by decide) ?_
          refine lv_iload_n hx hb dX1_get_48 rfl (lv_at hl 2 rfl) ?_
          refine lv_bipush (v := (7 : Int32)) hx hb dX1_get_49 (by decide) ?_
          refine lv_imul hx hb dX1_get_51 ?_
          refine lv_iadd hx hb dX1_get_52 ?_
          refine lv_iload_n hx hb dX1_get_53 rfl (lv_at hl 3 rfl) ?_
          refine lv_iadd hx hb dX1_get_54 ?_
          refine xiald hx hb hK hP 1 0 rfl rfl dX1_get_55 hf (fun v55 hf => ?_)
          cases hf
          exact mret_i hx hb hr hlocks hP hD hS dX1_get_56 rfl trivial
        · refine lv_iconst (v := (0 : Int32)) hx hb dX1_get_40 (by decide) ?_
          cases hf
          exact mret_i hx hb hr hlocks hP hD hS dX1_get_41 rfl trivial
  have b24 : ∀ (x1 : Int32) (x2 : Int32) (H : Heap) (locs : List Loc) (ls : Array Slot), f_X1_get_24 N f_row x1 x2 = some o_r → va_P D vwCl (W_F_0t1 qf0 qf1 qf2 qf3 cI cJ cZ cB cT f_row) H → va_D A (W_F_0t1 qf0 qf1 qf2 qf3 cI cJ cZ cB cT f_row) → va_S A s.heap H locs → lv_has ls 4 [(0, .ref qf0), (1, .int x1), (2, .int x2)] → W p l e ({ frames := 0, cells := 0, slots := 0, locals := 0 } : Room) s m ([.ref qf0, .int p1, .int p2] : List Value).toArray below meth c H locs 0 0 (MQ below ((mQi D (W_F_0t1 qf0 qf1 qf2 qf3 cI cJ cZ cB cT f_row) o_r True) A) ([.ref qf0, .int p1, .int p2] : List Value).toArray s 0 0 A) (F0 m 24 ls []) := by
    intro x1 x2 H locs ls hf hP hD hS hl
    unfold f_X1_get_24 at hf
    refine lv_iconst (v := (0 : Int32)) hx hb dX1_get_24 (by decide) ?_
    exact b25 x1 x2 (0 : Int32) _ _ _ hf hP hD hS (lv_sub hl [0, 1, 2] rfl)
  unfold f_X1_get at hf
  refine lv_iload_n hx hb dX1_get_0 rfl (lv_at hl 1 rfl) ?_
  refine xif_lt hx hb 24 dX1_get_1 (by decide) hf (fun hf => ?_) (fun hf => ?_)
  · exact b24 p1 p2 _ _ _ hf hP hD hS (lv_sub hl [0, 1, 2] rfl)
  · refine lv_iload_n hx hb dX1_get_4 rfl (lv_at hl 1 rfl) ?_
    refine lv_aload_n hx hb dX1_get_5 rfl (lv_at hl 0 rfl) ?_
    refine gfX1_11 hx hb hts hown hK hP 0 rfl rfl dX1_get_6 ?_
    refine lv_iconst (v := (2 : Int32)) hx hb dX1_get_9 (by decide) ?_
    refine xiald hx hb hK hP 1 0 rfl rfl dX1_get_10 hf (fun v10 hf => ?_)
    refine xicmp_ge hx hb 24 dX1_get_11 (by decide) hf (fun hf => ?_) (fun hf => ?_)
    · exact b24 p1 p2 _ _ _ hf hP hD hS (lv_sub hl [0, 1, 2] rfl)
    · refine lv_iload_n hx hb dX1_get_14 rfl (lv_at hl 1 rfl) ?_
      refine lv_bipush (v := (6 : Int32)) hx hb dX1_get_15 (by decide) ?_
      refine xicmp_ge hx hb 24 dX1_get_17 (by decide) hf (fun hf => ?_) (fun hf => ?_)
      · exact b24 p1 p2 _ _ _ hf hP hD hS (lv_sub hl [0, 1, 2] rfl)
      · refine lv_iconst (v := (1 : Int32)) hx hb dX1_get_20 (by decide) ?_
        refine lv_goto (tgt := 25) hx hb dX1_get_21 (by decide) ?_
        exact b25 p1 p2 (1 : Int32) _ _ _ hf hP hD hS (lv_sub hl [0, 1, 2] rfl)
theorem dX1_fearOf_0 : decode cX1_fearOf 0 = .ok (.iload_n 1, 1) := by decide +kernel
theorem dX1_fearOf_1 : decode cX1_fearOf 1 = .ok (.ifCond .lt 28, 3) := by decide +kernel
theorem dX1_fearOf_4 : decode cX1_fearOf 4 = .ok (.iload_n 1, 1) := by decide +kernel
theorem dX1_fearOf_5 : decode cX1_fearOf 5 = .ok (.aload_n 0, 1) := by decide +kernel
theorem dX1_fearOf_6 : decode cX1_fearOf 6 = .ok (.getfield 11, 3) := by decide +kernel
theorem dX1_fearOf_9 : decode cX1_fearOf 9 = .ok (.iconst 2, 1) := by decide +kernel
theorem dX1_fearOf_10 : decode cX1_fearOf 10 = .ok (.iaload, 1) := by decide +kernel
theorem dX1_fearOf_11 : decode cX1_fearOf 11 = .ok (.if_icmp .ge 18, 3) := by decide +kernel
theorem dX1_fearOf_14 : decode cX1_fearOf 14 = .ok (.iload_n 1, 1) := by decide +kernel
theorem dX1_fearOf_15 : decode cX1_fearOf 15 = .ok (.bipush 6, 2) := by decide +kernel
theorem dX1_fearOf_17 : decode cX1_fearOf 17 = .ok (.if_icmp .ge 12, 3) := by decide +kernel
theorem dX1_fearOf_20 : decode cX1_fearOf 20 = .ok (.aload_n 0, 1) := by decide +kernel
theorem dX1_fearOf_21 : decode cX1_fearOf 21 = .ok (.getfield 15, 3) := by decide +kernel
theorem dX1_fearOf_24 : decode cX1_fearOf 24 = .ok (.iload_n 1, 1) := by decide +kernel
theorem dX1_fearOf_25 : decode cX1_fearOf 25 = .ok (.iaload, 1) := by decide +kernel
theorem dX1_fearOf_26 : decode cX1_fearOf 26 = .ok (.goto 4, 3) := by decide +kernel
theorem dX1_fearOf_29 : decode cX1_fearOf 29 = .ok (.iconst 0, 1) := by decide +kernel
theorem dX1_fearOf_30 : decode cX1_fearOf 30 = .ok (.ireturn, 1) := by decide +kernel
def f_X1_fearOf (N : Nat) (f_row : Nat → Int32) (f_fears : Nat → Int32) (p1 : Int32) : Option (Int32) := if p1 < 0 then (some (0 : Int32)) else (gA f_row 76 (2 : Int32) fun v10 => if v10 ≤ p1 then (some (0 : Int32)) else (if (6 : Int32) ≤ p1 then (some (0 : Int32)) else (gA f_fears 6 p1 fun v25 => some v25)))
set_option maxHeartbeats 4000000 in
set_option maxRecDepth 100000 in
theorem k_X1_fearOf (l : Launch) (N : Nat) (D : va_G) (cI cJ cZ cB cT : ClassId) (qf0 : Nat) (qf1 : Nat) (qf2 : Nat) (qf3 : Nat) (f_row : Nat → Int32) (f_fears : Nat → Int32) (p1 : Int32) (o_r : Int32) (hf : f_X1_fearOf N f_row f_fears p1 = some o_r) : ∀ sz, Met l yX1_fearOf (mw yX1_fearOf cX1_fearOf 2 (some .int)) ({ frames := 0, cells := 0, slots := 0, locals := 0 } : Room) (mPre D (mT cI cJ cZ cB cT) (W_F_0t2 qf0 qf1 qf2 qf3 cI cJ cZ cB cT f_row f_fears) sz [.ref qf0, .int p1]) ((mQi D (W_F_0t2 qf0 qf1 qf2 qf3 cI cJ cZ cB cT f_row f_fears) o_r True) (va_A (W_F_0t2 qf0 qf1 qf2 qf3 cI cJ cZ cB cT f_row f_fears) sz)) 0 0 (va_A (W_F_0t2 qf0 qf1 qf2 qf3 cI cJ cZ cB cT f_row f_fears) sz) := by
  refine mMet (Qc := (mQi D (W_F_0t2 qf0 qf1 qf2 qf3 cI cJ cZ cB cT f_row f_fears) o_r True)) (by decide) (Nat.le_of_ble_eq_true rfl) (fun p e s m below meth c A ls hx hb hr hml hts hown hlocks hK hA hP hD hl => ?_)
  have hown : s.vm.findClass RX1 = some m.cls := hown
  have hl : lv_has ls 2 [(0, .ref qf0), (1, .int p1)] := hl
  have hS : va_S A s.heap s.heap [] := va_S.rf
  unfold f_X1_fearOf at hf
  refine lv_iload_n hx hb dX1_fearOf_0 rfl (lv_at hl 1 rfl) ?_
  refine xif_lt hx hb 29 dX1_fearOf_1 (by decide) hf (fun hf => ?_) (fun hf => ?_)
  · refine lv_iconst (v := (0 : Int32)) hx hb dX1_fearOf_29 (by decide) ?_
    cases hf
    exact mret_i hx hb hr hlocks hP hD hS dX1_fearOf_30 rfl trivial
  · refine lv_iload_n hx hb dX1_fearOf_4 rfl (lv_at hl 1 rfl) ?_
    refine lv_aload_n hx hb dX1_fearOf_5 rfl (lv_at hl 0 rfl) ?_
    refine gfX1_11 hx hb hts hown hK hP 0 rfl rfl dX1_fearOf_6 ?_
    refine lv_iconst (v := (2 : Int32)) hx hb dX1_fearOf_9 (by decide) ?_
    refine xiald hx hb hK hP 1 0 rfl rfl dX1_fearOf_10 hf (fun v10 hf => ?_)
    refine xicmp_ge hx hb 29 dX1_fearOf_11 (by decide) hf (fun hf => ?_) (fun hf => ?_)
    · refine lv_iconst (v := (0 : Int32)) hx hb dX1_fearOf_29 (by decide) ?_
      cases hf
      exact mret_i hx hb hr hlocks hP hD hS dX1_fearOf_30 rfl trivial
    · refine lv_iload_n hx hb dX1_fearOf_14 rfl (lv_at hl 1 rfl) ?_
      refine lv_bipush (v := (6 : Int32)) hx hb dX1_fearOf_15 (by decide) ?_
      refine xicmp_ge hx hb 29 dX1_fearOf_17 (by decide) hf (fun hf => ?_) (fun hf => ?_)
      · refine lv_iconst (v := (0 : Int32)) hx hb dX1_fearOf_29 (by decide) ?_
        cases hf
        exact mret_i hx hb hr hlocks hP hD hS dX1_fearOf_30 rfl trivial
      · refine lv_aload_n hx hb dX1_fearOf_20 rfl (lv_at hl 0 rfl) ?_
        refine gfX1_15 hx hb hts hown hK hP 0 rfl rfl dX1_fearOf_21 ?_
        refine lv_iload_n hx hb dX1_fearOf_24 rfl (lv_at hl 1 rfl) ?_
        refine xiald hx hb hK hP 2 0 rfl rfl dX1_fearOf_25 hf (fun v25 hf => ?_)
        refine lv_goto (tgt := 30) hx hb dX1_fearOf_26 (by decide) ?_
        cases hf
        exact mret_i hx hb hr hlocks hP hD hS dX1_fearOf_30 rfl trivial
theorem dX1_othersIn_0 : decode cX1_othersIn 0 = .ok (.iconst 0, 1) := by decide +kernel
theorem dX1_othersIn_1 : decode cX1_othersIn 1 = .ok (.istore_n 3, 1) := by decide +kernel
theorem dX1_othersIn_2 : decode cX1_othersIn 2 = .ok (.iconst 0, 1) := by decide +kernel
theorem dX1_othersIn_3 : decode cX1_othersIn 3 = .ok (.istore 4, 2) := by decide +kernel
theorem dX1_othersIn_5 : decode cX1_othersIn 5 = .ok (.iload 4, 2) := by decide +kernel
theorem dX1_othersIn_7 : decode cX1_othersIn 7 = .ok (.aload_n 0, 1) := by decide +kernel
theorem dX1_othersIn_8 : decode cX1_othersIn 8 = .ok (.getfield 11, 3) := by decide +kernel
theorem dX1_othersIn_11 : decode cX1_othersIn 11 = .ok (.iconst 2, 1) := by decide +kernel
theorem dX1_othersIn_12 : decode cX1_othersIn 12 = .ok (.iaload, 1) := by decide +kernel
theorem dX1_othersIn_13 : decode cX1_othersIn 13 = .ok (.if_icmp .ge 66, 3) := by decide +kernel
theorem dX1_othersIn_16 : decode cX1_othersIn 16 = .ok (.iload 4, 2) := by decide +kernel
theorem dX1_othersIn_18 : decode cX1_othersIn 18 = .ok (.bipush 6, 2) := by decide +kernel
theorem dX1_othersIn_20 : decode cX1_othersIn 20 = .ok (.if_icmp .ge 59, 3) := by decide +kernel
theorem dX1_othersIn_23 : decode cX1_othersIn 23 = .ok (.bipush 34, 2) := by decide +kernel
theorem dX1_othersIn_25 : decode cX1_othersIn 25 = .ok (.iload 4, 2) := by decide +kernel
theorem dX1_othersIn_27 : decode cX1_othersIn 27 = .ok (.bipush 7, 2) := by decide +kernel
theorem dX1_othersIn_29 : decode cX1_othersIn 29 = .ok (.imul, 1) := by decide +kernel
theorem dX1_othersIn_30 : decode cX1_othersIn 30 = .ok (.iadd, 1) := by decide +kernel
theorem dX1_othersIn_31 : decode cX1_othersIn 31 = .ok (.istore 5, 2) := by decide +kernel
theorem dX1_othersIn_33 : decode cX1_othersIn 33 = .ok (.iload 4, 2) := by decide +kernel
theorem dX1_othersIn_35 : decode cX1_othersIn 35 = .ok (.iload_n 2, 1) := by decide +kernel
theorem dX1_othersIn_36 : decode cX1_othersIn 36 = .ok (.if_icmp .eq 37, 3) := by decide +kernel
theorem dX1_othersIn_39 : decode cX1_othersIn 39 = .ok (.aload_n 0, 1) := by decide +kernel
theorem dX1_othersIn_40 : decode cX1_othersIn 40 = .ok (.getfield 11, 3) := by decide +kernel
theorem dX1_othersIn_43 : decode cX1_othersIn 43 = .ok (.iload 5, 2) := by decide +kernel
theorem dX1_othersIn_45 : decode cX1_othersIn 45 = .ok (.iconst 0, 1) := by decide +kernel
theorem dX1_othersIn_46 : decode cX1_othersIn 46 = .ok (.iadd, 1) := by decide +kernel
theorem dX1_othersIn_47 : decode cX1_othersIn 47 = .ok (.iaload, 1) := by decide +kernel
theorem dX1_othersIn_48 : decode cX1_othersIn 48 = .ok (.iload_n 1, 1) := by decide +kernel
theorem dX1_othersIn_49 : decode cX1_othersIn 49 = .ok (.if_icmp .ne 24, 3) := by decide +kernel
theorem dX1_othersIn_52 : decode cX1_othersIn 52 = .ok (.aload_n 0, 1) := by decide +kernel
theorem dX1_othersIn_53 : decode cX1_othersIn 53 = .ok (.getfield 11, 3) := by decide +kernel
theorem dX1_othersIn_56 : decode cX1_othersIn 56 = .ok (.iload 5, 2) := by decide +kernel
theorem dX1_othersIn_58 : decode cX1_othersIn 58 = .ok (.bipush 6, 2) := by decide +kernel
theorem dX1_othersIn_60 : decode cX1_othersIn 60 = .ok (.iadd, 1) := by decide +kernel
theorem dX1_othersIn_61 : decode cX1_othersIn 61 = .ok (.iaload, 1) := by decide +kernel
theorem dX1_othersIn_62 : decode cX1_othersIn 62 = .ok (.iconst 3, 1) := by decide +kernel
theorem dX1_othersIn_63 : decode cX1_othersIn 63 = .ok (.if_icmp .eq 10, 3) := by decide +kernel
theorem dX1_othersIn_66 : decode cX1_othersIn 66 = .ok (.iload_n 3, 1) := by decide +kernel
theorem dX1_othersIn_67 : decode cX1_othersIn 67 = .ok (.iconst 1, 1) := by decide +kernel
theorem dX1_othersIn_68 : decode cX1_othersIn 68 = .ok (.iload 4, 2) := by decide +kernel
theorem dX1_othersIn_70 : decode cX1_othersIn 70 = .ok (.ishl, 1) := by decide +kernel
theorem dX1_othersIn_71 : decode cX1_othersIn 71 = .ok (.ior, 1) := by decide +kernel
theorem dX1_othersIn_72 : decode cX1_othersIn 72 = .ok (.istore_n 3, 1) := by decide +kernel
theorem dX1_othersIn_73 : decode cX1_othersIn 73 = .ok (.iinc 4 1, 3) := by decide +kernel
theorem dX1_othersIn_76 : decode cX1_othersIn 76 = .ok (.goto (-71), 3) := by decide +kernel
theorem dX1_othersIn_79 : decode cX1_othersIn 79 = .ok (.iload_n 3, 1) := by decide +kernel
theorem dX1_othersIn_80 : decode cX1_othersIn 80 = .ok (.ireturn, 1) := by decide +kernel
def f_X1_othersIn_73 (N : Nat) (k_5 : (Nat → Int32) → Int32 → Int32 → Int32 → Int32 → Option (Int32)) (f_row : Nat → Int32) (x1 : Int32) (x2 : Int32) (x3 : Int32) (x4 : Int32) : Option (Int32) := k_5 f_row x1 x2 x3 (x4 + (1 : Int32))
def f_X1_othersIn_5 (N : Nat) : Nat → (Nat → Int32) → Int32 → Int32 → Int32 → Int32 → Option (Int32)
  | 0, _, _, _, _, _ => none
  | n + 1, f_row, x1, x2, x3, x4 => gA f_row 76 (2 : Int32) fun v12 => if v12 ≤ x4 then (some x3) else (if (6 : Int32) ≤ x4 then (some x3) else (if x4 = x2 then (f_X1_othersIn_73 N (f_X1_othersIn_5 N n) f_row x1 x2 x3 x4) else (gA f_row 76 (((34 : Int32) + (x4 * (7 : Int32))) + (0 : Int32)) fun v47 => if v47 = x1 then (gA f_row 76 (((34 : Int32) + (x4 * (7 : Int32))) + (6 : Int32)) fun v61 => if v61 = (3 : Int32) then (f_X1_othersIn_73 N (f_X1_othersIn_5 N n) f_row x1 x2 x3 x4) else (f_X1_othersIn_73 N (f_X1_othersIn_5 N n) f_row x1 x2 (x3 ||| ((1 : Int32) <<< (x4 &&& 31))) x4)) else (f_X1_othersIn_73 N (f_X1_othersIn_5 N n) f_row x1 x2 x3 x4))))
def f_X1_othersIn (N : Nat) (f_row : Nat → Int32) (p1 : Int32) (p2 : Int32) : Option (Int32) := f_X1_othersIn_5 N N f_row p1 p2 (0 : Int32) (0 : Int32)
set_option maxHeartbeats 4000000 in
set_option maxRecDepth 100000 in
theorem k_X1_othersIn (l : Launch) (N : Nat) (D : va_G) (cI cJ cZ cB cT : ClassId) (qf0 : Nat) (qf1 : Nat) (qf2 : Nat) (qf3 : Nat) (f_row : Nat → Int32) (p1 : Int32) (p2 : Int32) (o_r : Int32) (hf : f_X1_othersIn N f_row p1 p2 = some o_r) : ∀ sz, Met l yX1_othersIn (mw yX1_othersIn cX1_othersIn 6 (some .int)) ({ frames := 0, cells := 0, slots := 0, locals := 0 } : Room) (mPre D (mT cI cJ cZ cB cT) (W_F_0t1 qf0 qf1 qf2 qf3 cI cJ cZ cB cT f_row) sz [.ref qf0, .int p1, .int p2]) ((mQi D (W_F_0t1 qf0 qf1 qf2 qf3 cI cJ cZ cB cT f_row) o_r True) (va_A (W_F_0t1 qf0 qf1 qf2 qf3 cI cJ cZ cB cT f_row) sz)) 0 0 (va_A (W_F_0t1 qf0 qf1 qf2 qf3 cI cJ cZ cB cT f_row) sz) := by
  refine mMet (Qc := (mQi D (W_F_0t1 qf0 qf1 qf2 qf3 cI cJ cZ cB cT f_row) o_r True)) (by decide) (Nat.le_of_ble_eq_true rfl) (fun p e s m below meth c A ls hx hb hr hml hts hown hlocks hK hA hP hD hl => ?_)
  have hown : s.vm.findClass RX1 = some m.cls := hown
  have hl : lv_has ls 6 [(0, .ref qf0), (1, .int p1), (2, .int p2)] := hl
  have hS : va_S A s.heap s.heap [] := va_S.rf
  have b5 : ∀ n5 : Nat, ∀ (x1 : Int32) (x2 : Int32) (x3 : Int32) (x4 : Int32) (H : Heap) (locs : List Loc) (ls : Array Slot), f_X1_othersIn_5 N n5 f_row x1 x2 x3 x4 = some o_r → va_P D vwCl (W_F_0t1 qf0 qf1 qf2 qf3 cI cJ cZ cB cT f_row) H → va_D A (W_F_0t1 qf0 qf1 qf2 qf3 cI cJ cZ cB cT f_row) → va_S A s.heap H locs → lv_has ls 6 [(0, .ref qf0), (1, .int x1), (2, .int x2), (3, .int x3), (4, .int x4)] → W p l e ({ frames := 0, cells := 0, slots := 0, locals := 0 } : Room) s m ([.ref qf0, .int p1, .int p2] : List Value).toArray below meth c H locs 0 0 (MQ below ((mQi D (W_F_0t1 qf0 qf1 qf2 qf3 cI cJ cZ cB cT f_row) o_r True) A) ([.ref qf0, .int p1, .int p2] : List Value).toArray s 0 0 A) (F0 m 5 ls []) := by
    intro n5
    induction n5 with
    | zero =>
      intro x1 x2 x3 x4 H locs ls hf hP hD hS hl
      simp [f_X1_othersIn_5] at hf
    | succ n5 ih5 =>
      have b73 : ∀ (x1 : Int32) (x2 : Int32) (x3 : Int32) (x4 : Int32) (H : Heap) (locs : List Loc) (ls : Array Slot), f_X1_othersIn_73 N (f_X1_othersIn_5 N n5) f_row x1 x2 x3 x4 = some o_r → va_P D vwCl (W_F_0t1 qf0 qf1 qf2 qf3 cI cJ cZ cB cT f_row) H → va_D A (W_F_0t1 qf0 qf1 qf2 qf3 cI cJ cZ cB cT f_row) → va_S A s.heap H locs → lv_has ls 6 [(0, .ref qf0), (1, .int x1), (2, .int x2), (3, .int x3), (4, .int x4)] → W p l e ({ frames := 0, cells := 0, slots := 0, locals := 0 } : Room) s m ([.ref qf0, .int p1, .int p2] : List Value).toArray below meth c H locs 0 0 (MQ below ((mQi D (W_F_0t1 qf0 qf1 qf2 qf3 cI cJ cZ cB cT f_row) o_r True) A) ([.ref qf0, .int p1, .int p2] : List Value).toArray s 0 0 A) (F0 m 73 ls []) := by
        intro x1 x2 x3 x4 H locs ls hf hP hD hS hl
        unfold f_X1_othersIn_73 at hf
        refine lv_iinc (v := (x4 + (1 : Int32))) (lv' := [(4, .int (x4 + (1 : Int32))), (0, .ref qf0), (1, .int x1), (2, .int x2), (3, .int x3)]) hx hb dX1_othersIn_73 hl (k := 4) rfl rfl (by decide) rfl (fun ls hl => ?_)
        refine lv_goto (tgt := 5) hx hb dX1_othersIn_76 (by decide) ?_
        exact ih5 x1 x2 x3 (x4 + (1 : Int32)) _ _ _ hf hP hD hS (lv_sub hl [1, 2, 3, 4, 0] rfl)
      intro x1 x2 x3 x4 H locs ls hf hP hD hS hl
      rw [f_X1_othersIn_5.eq_2] at hf
      refine lv_iload hx hb dX1_othersIn_5 (lv_at hl 4 rfl) ?_
      refine lv_aload_n hx hb dX1_othersIn_7 rfl (lv_at hl 0 rfl) ?_
      refine gfX1_11 hx hb hts hown hK hP 0 rfl rfl dX1_othersIn_8 ?_
      refine lv_iconst (v := (2 : Int32)) hx hb dX1_othersIn_11 (by decide) ?_
      refine xiald hx hb hK hP 1 0 rfl rfl dX1_othersIn_12 hf (fun v12 hf => ?_)
      refine xicmp_ge hx hb 79 dX1_othersIn_13 (by decide) hf (fun hf => ?_) (fun hf => ?_)
      · refine lv_iload_n hx hb dX1_othersIn_79 rfl (lv_at hl 3 rfl) ?_
        cases hf
        exact mret_i hx hb hr hlocks hP hD hS dX1_othersIn_80 rfl trivial
      · refine lv_iload hx hb dX1_othersIn_16 (lv_at hl 4 rfl) ?_
        refine lv_bipush (v := (6 : Int32)) hx hb dX1_othersIn_18 (by decide) ?_
        refine xicmp_ge hx hb 79 dX1_othersIn_20 (by decide) hf (fun hf => ?_) (fun hf => ?_)
        · refine lv_iload_n hx hb dX1_othersIn_79 rfl (lv_at hl 3 rfl) ?_
          cases hf
          exact mret_i hx hb hr hlocks hP hD hS dX1_othersIn_80 rfl trivial
        · refine lv_bipush (v := (34 : Int32)) hx hb dX1_othersIn_23 (by decide) ?_
          refine lv_iload hx hb dX1_othersIn_25 (lv_at hl 4 rfl) ?_
          refine lv_bipush (v := (7 : Int32)) hx hb dX1_othersIn_27 (by decide) ?_
          refine lv_imul hx hb dX1_othersIn_29 ?_
          refine lv_iadd hx hb dX1_othersIn_30 ?_
          refine lv_istore (lv' := [(5, .int ((34 : Int32) + (x4 * (7 : Int32)))), (0, .ref qf0), (1, .int x1), (2, .int x2), (3, .int x3), (4, .int x4)]) hx hb dX1_othersIn_31 hl (by decide) rfl (fun ls hl => ?_)
          refine lv_iload hx hb dX1_othersIn_33 (lv_at hl 5 rfl) ?_
          refine lv_iload_n hx hb dX1_othersIn_35 rfl (lv_at hl 3 rfl) ?_
          refine xicmp_eq hx hb 73 dX1_othersIn_36 (by decide) hf (fun hf => ?_) (fun hf => ?_)
          · exact b73 x1 x2 x3 x4 _ _ _ hf hP hD hS (lv_sub hl [1, 2, 3, 4, 5] rfl)
          · refine lv_aload_n hx hb dX1_othersIn_39 rfl (lv_at hl 1 rfl) ?_
            refine gfX1_11 hx hb hts hown hK hP 0 rfl rfl dX1_othersIn_40 ?_
            refine lv_iload hx hb dX1_othersIn_43 (lv_at hl 0 rfl) ?_
            refine lv_iconst (v := (0 : Int32)) hx hb dX1_othersIn_45 (by decide) ?_
            refine lv_iadd hx hb dX1_othersIn_46 ?_
            refine xiald hx hb hK hP 1 0 rfl rfl dX1_othersIn_47 hf (fun v47 hf => ?_)
            refine lv_iload_n hx hb dX1_othersIn_48 rfl (lv_at hl 2 rfl) ?_
            refine xicmp_ne hx hb 73 dX1_othersIn_49 (by decide) hf (fun hf => ?_) (fun hf => ?_)
            · refine lv_aload_n hx hb dX1_othersIn_52 rfl (lv_at hl 1 rfl) ?_
              refine gfX1_11 hx hb hts hown hK hP 0 rfl rfl dX1_othersIn_53 ?_
              refine lv_iload hx hb dX1_othersIn_56 (lv_at hl 0 rfl) ?_
              refine lv_bipush (v := (6 : Int32)) hx hb dX1_othersIn_58 (by decide) ?_
              refine lv_iadd hx hb dX1_othersIn_60 ?_
              refine xiald hx hb hK hP 1 0 rfl rfl dX1_othersIn_61 hf (fun v61 hf => ?_)
              refine lv_iconst (v := (3 : Int32)) hx hb dX1_othersIn_62 (by decide) ?_
              refine xicmp_eq hx hb 73 dX1_othersIn_63 (by decide) hf (fun hf => ?_) (fun hf => ?_)
              · exact b73 x1 x2 x3 x4 _ _ _ hf hP hD hS (lv_sub hl [1, 2, 3, 4, 5] rfl)
              · refine lv_iload_n hx hb dX1_othersIn_66 rfl (lv_at hl 4 rfl) ?_
                refine lv_iconst (v := (1 : Int32)) hx hb dX1_othersIn_67 (by decide) ?_
                refine lv_iload hx hb dX1_othersIn_68 (lv_at hl 5 rfl) ?_
                refine lv_ishl hx hb dX1_othersIn_70 ?_
                refine lv_ior hx hb dX1_othersIn_71 ?_
                refine lv_istore_n (lv' := [(3, .int (x3 ||| ((1 : Int32) <<< (x4 &&& 31)))), (5, .int ((34 : Int32) + (x4 * (7 : Int32)))), (0, .ref qf0), (1, .int x1), (2, .int x2), (4, .int x4)]) hx hb dX1_othersIn_72 rfl hl (by decide) rfl (fun ls hl => ?_)
                exact b73 x1 x2 (x3 ||| ((1 : Int32) <<< (x4 &&& 31))) x4 _ _ _ hf hP hD hS (lv_sub hl [2, 3, 4, 0, 5] rfl)
            · exact b73 x1 x2 x3 x4 _ _ _ hf hP hD hS (lv_sub hl [1, 2, 3, 4, 5] rfl)
  unfold f_X1_othersIn at hf
  refine lv_iconst (v := (0 : Int32)) hx hb dX1_othersIn_0 (by decide) ?_
  refine lv_istore_n (lv' := [(3, .int (0 : Int32)), (0, .ref qf0), (1, .int p1), (2, .int p2)]) hx hb dX1_othersIn_1 rfl hl (by decide) rfl (fun ls hl => ?_)
  refine lv_iconst (v := (0 : Int32)) hx hb dX1_othersIn_2 (by decide) ?_
  refine lv_istore (lv' := [(4, .int (0 : Int32)), (3, .int (0 : Int32)), (0, .ref qf0), (1, .int p1), (2, .int p2)]) hx hb dX1_othersIn_3 hl (by decide) rfl (fun ls hl => ?_)
  exact b5 N p1 p2 (0 : Int32) (0 : Int32) _ _ _ hf hP hD hS (lv_sub hl [2, 3, 4, 1, 0] rfl)
theorem dX1_outlaws_0 : decode cX1_outlaws 0 = .ok (.iconst 0, 1) := by decide +kernel
theorem dX1_outlaws_1 : decode cX1_outlaws 1 = .ok (.istore_n 1, 1) := by decide +kernel
theorem dX1_outlaws_2 : decode cX1_outlaws 2 = .ok (.iconst 0, 1) := by decide +kernel
theorem dX1_outlaws_3 : decode cX1_outlaws 3 = .ok (.istore_n 2, 1) := by decide +kernel
theorem dX1_outlaws_4 : decode cX1_outlaws 4 = .ok (.iload_n 2, 1) := by decide +kernel
theorem dX1_outlaws_5 : decode cX1_outlaws 5 = .ok (.aload_n 0, 1) := by decide +kernel
theorem dX1_outlaws_6 : decode cX1_outlaws 6 = .ok (.invokevirtual 27, 3) := by decide +kernel
theorem dX1_outlaws_9 : decode cX1_outlaws 9 = .ok (.if_icmp .ge 26, 3) := by decide +kernel
theorem dX1_outlaws_12 : decode cX1_outlaws 12 = .ok (.aload_n 0, 1) := by decide +kernel
theorem dX1_outlaws_13 : decode cX1_outlaws 13 = .ok (.iload_n 2, 1) := by decide +kernel
theorem dX1_outlaws_14 : decode cX1_outlaws 14 = .ok (.bipush 6, 2) := by decide +kernel
theorem dX1_outlaws_16 : decode cX1_outlaws 16 = .ok (.invokevirtual 49, 3) := by decide +kernel
theorem dX1_outlaws_19 : decode cX1_outlaws 19 = .ok (.iconst 1, 1) := by decide +kernel
theorem dX1_outlaws_20 : decode cX1_outlaws 20 = .ok (.if_icmp .ne 9, 3) := by decide +kernel
theorem dX1_outlaws_23 : decode cX1_outlaws 23 = .ok (.iload_n 1, 1) := by decide +kernel
theorem dX1_outlaws_24 : decode cX1_outlaws 24 = .ok (.iconst 1, 1) := by decide +kernel
theorem dX1_outlaws_25 : decode cX1_outlaws 25 = .ok (.iload_n 2, 1) := by decide +kernel
theorem dX1_outlaws_26 : decode cX1_outlaws 26 = .ok (.ishl, 1) := by decide +kernel
theorem dX1_outlaws_27 : decode cX1_outlaws 27 = .ok (.ior, 1) := by decide +kernel
theorem dX1_outlaws_28 : decode cX1_outlaws 28 = .ok (.istore_n 1, 1) := by decide +kernel
theorem dX1_outlaws_29 : decode cX1_outlaws 29 = .ok (.iinc 2 1, 3) := by decide +kernel
theorem dX1_outlaws_32 : decode cX1_outlaws 32 = .ok (.goto (-28), 3) := by decide +kernel
theorem dX1_outlaws_35 : decode cX1_outlaws 35 = .ok (.iload_n 1, 1) := by decide +kernel
theorem dX1_outlaws_36 : decode cX1_outlaws 36 = .ok (.ireturn, 1) := by decide +kernel
def f_X1_outlaws_29 (N : Nat) (k_4 : (Nat → Int32) → Int32 → Int32 → Option (Int32)) (f_row : Nat → Int32) (x1 : Int32) (x2 : Int32) : Option (Int32) := k_4 f_row x1 (x2 + (1 : Int32))
def f_X1_outlaws_4 (N : Nat) : Nat → (Nat → Int32) → Int32 → Int32 → Option (Int32)
  | 0, _, _, _ => none
  | n + 1, f_row, x1, x2 => ob1 (f_X1_count N f_row) fun r6 => if r6 ≤ x2 then (some x1) else (ob1 (f_X1_get N f_row x2 (6 : Int32)) fun r16 => if r16 = (1 : Int32) then (f_X1_outlaws_29 N (f_X1_outlaws_4 N n) f_row (x1 ||| ((1 : Int32) <<< (x2 &&& 31))) x2) else (f_X1_outlaws_29 N (f_X1_outlaws_4 N n) f_row x1 x2))
def f_X1_outlaws (N : Nat) (f_row : Nat → Int32) : Option (Int32) := f_X1_outlaws_4 N N f_row (0 : Int32) (0 : Int32)
set_option maxHeartbeats 4000000 in
set_option maxRecDepth 100000 in
theorem k_X1_outlaws (l : Launch) (N : Nat) (D : va_G) (cI cJ cZ cB cT : ClassId) (qf0 : Nat) (qf1 : Nat) (qf2 : Nat) (qf3 : Nat) (f_row : Nat → Int32) (o_r : Int32) (hf : f_X1_outlaws N f_row = some o_r) : ∀ sz, Met l yX1_outlaws (mw yX1_outlaws cX1_outlaws 3 (some .int)) ({ frames := 1, cells := 0, slots := 0, locals := 23 } : Room) (mPre D (mT cI cJ cZ cB cT) (W_F_0t1 qf0 qf1 qf2 qf3 cI cJ cZ cB cT f_row) sz [.ref qf0]) ((mQi D (W_F_0t1 qf0 qf1 qf2 qf3 cI cJ cZ cB cT f_row) o_r True) (va_A (W_F_0t1 qf0 qf1 qf2 qf3 cI cJ cZ cB cT f_row) sz)) 0 0 (va_A (W_F_0t1 qf0 qf1 qf2 qf3 cI cJ cZ cB cT f_row) sz) := by
  refine mMet (Qc := (mQi D (W_F_0t1 qf0 qf1 qf2 qf3 cI cJ cZ cB cT f_row) o_r True)) (by decide) (Nat.le_of_ble_eq_true rfl) (fun p e s m below meth c A ls hx hb hr hml hts hown hlocks hK hA hP hD hl => ?_)
  have hown : s.vm.findClass RX1 = some m.cls := hown
  have hl : lv_has ls 3 [(0, .ref qf0)] := hl
  have hS : va_S A s.heap s.heap [] := va_S.rf
  have b4 : ∀ n4 : Nat, ∀ (x1 : Int32) (x2 : Int32) (H : Heap) (locs : List Loc) (ls : Array Slot), f_X1_outlaws_4 N n4 f_row x1 x2 = some o_r → va_P D vwCl (W_F_0t1 qf0 qf1 qf2 qf3 cI cJ cZ cB cT f_row) H → va_D A (W_F_0t1 qf0 qf1 qf2 qf3 cI cJ cZ cB cT f_row) → va_S A s.heap H locs → lv_has ls 3 [(0, .ref qf0), (1, .int x1), (2, .int x2)] → W p l e ({ frames := 1, cells := 0, slots := 0, locals := 23 } : Room) s m ([.ref qf0] : List Value).toArray below meth c H locs 0 0 (MQ below ((mQi D (W_F_0t1 qf0 qf1 qf2 qf3 cI cJ cZ cB cT f_row) o_r True) A) ([.ref qf0] : List Value).toArray s 0 0 A) (F0 m 4 ls []) := by
    intro n4
    induction n4 with
    | zero =>
      intro x1 x2 H locs ls hf hP hD hS hl
      simp [f_X1_outlaws_4] at hf
    | succ n4 ih4 =>
      have b29 : ∀ (x1 : Int32) (x2 : Int32) (H : Heap) (locs : List Loc) (ls : Array Slot), f_X1_outlaws_29 N (f_X1_outlaws_4 N n4) f_row x1 x2 = some o_r → va_P D vwCl (W_F_0t1 qf0 qf1 qf2 qf3 cI cJ cZ cB cT f_row) H → va_D A (W_F_0t1 qf0 qf1 qf2 qf3 cI cJ cZ cB cT f_row) → va_S A s.heap H locs → lv_has ls 3 [(0, .ref qf0), (1, .int x1), (2, .int x2)] → W p l e ({ frames := 1, cells := 0, slots := 0, locals := 23 } : Room) s m ([.ref qf0] : List Value).toArray below meth c H locs 0 0 (MQ below ((mQi D (W_F_0t1 qf0 qf1 qf2 qf3 cI cJ cZ cB cT f_row) o_r True) A) ([.ref qf0] : List Value).toArray s 0 0 A) (F0 m 29 ls []) := by
        intro x1 x2 H locs ls hf hP hD hS hl
        unfold f_X1_outlaws_29 at hf
        refine lv_iinc (v := (x2 + (1 : Int32))) (lv' := [(2, .int (x2 + (1 : Int32))), (0, .ref qf0), (1, .int x1)]) hx hb dX1_outlaws_29 hl (k := 2) rfl rfl (by decide) rfl (fun ls hl => ?_)
        refine lv_goto (tgt := 4) hx hb dX1_outlaws_32 (by decide) ?_
        exact ih4 x1 (x2 + (1 : Int32)) _ _ _ hf hP hD hS (lv_sub hl [1, 2, 0] rfl)
      intro x1 x2 H locs ls hf hP hD hS hl
      rw [f_X1_outlaws_4.eq_2] at hf
      refine lv_iload_n hx hb dX1_outlaws_4 rfl (lv_at hl 2 rfl) ?_
      refine lv_aload_n hx hb dX1_outlaws_5 rfl (lv_at hl 0 rfl) ?_
      obtain ⟨r6, hg6, hf⟩ := ob1_some hf
      refine mcV1_i (As := []) (rest := [.int x2]) hx hb hml hown hts hK hP hD hS hA (k_X1_count l N D cI cJ cZ cB cT qf0 qf1 qf2 qf3 f_row r6 hg6) (kwX1_27 hts rfl rfl ⟨Nat.le_of_ble_eq_true rfl, Nat.le_of_ble_eq_true rfl⟩) 0 rfl rfl rfl rfl hl.1 rfl (Nat.le_of_ble_eq_true rfl) dX1_outlaws_6 ⟨Nat.zero_le _, Nat.zero_le _⟩ (fun hB6 H locs hP hD hS => ?_)
      have hP : va_P D vwCl (W_F_0t1 qf0 qf1 qf2 qf3 cI cJ cZ cB cT f_row) H := hP
      have hD : va_D A (W_F_0t1 qf0 qf1 qf2 qf3 cI cJ cZ cB cT f_row) := hD
      refine xicmp_ge hx hb 35 dX1_outlaws_9 (by decide) hf (fun hf => ?_) (fun hf => ?_)
      · refine lv_iload_n hx hb dX1_outlaws_35 rfl (lv_at hl 1 rfl) ?_
        cases hf
        exact mret_i hx hb hr hlocks hP hD hS dX1_outlaws_36 rfl trivial
      · refine lv_aload_n hx hb dX1_outlaws_12 rfl (lv_at hl 0 rfl) ?_
        refine lv_iload_n hx hb dX1_outlaws_13 rfl (lv_at hl 2 rfl) ?_
        refine lv_bipush (v := (6 : Int32)) hx hb dX1_outlaws_14 (by decide) ?_
        obtain ⟨r16, hg16, hf⟩ := ob1_some hf
        refine mcV1_i (As := [.int x2, .int (6 : Int32)]) (rest := []) hx hb hml hown hts hK hP hD hS hA (k_X1_get l N D cI cJ cZ cB cT qf0 qf1 qf2 qf3 f_row x2 (6 : Int32) r16 hg16) (kwX1_49 hts rfl rfl ⟨Nat.le_of_ble_eq_true rfl, Nat.le_of_ble_eq_true rfl⟩) 0 rfl rfl rfl rfl hl.1 rfl (Nat.le_of_ble_eq_true rfl) dX1_outlaws_16 ⟨Nat.zero_le _, Nat.zero_le _⟩ (fun hB16 H locs hP hD hS => ?_)
        have hP : va_P D vwCl (W_F_0t1 qf0 qf1 qf2 qf3 cI cJ cZ cB cT f_row) H := hP
        have hD : va_D A (W_F_0t1 qf0 qf1 qf2 qf3 cI cJ cZ cB cT f_row) := hD
        refine lv_iconst (v := (1 : Int32)) hx hb dX1_outlaws_19 (by decide) ?_
        refine xicmp_ne hx hb 29 dX1_outlaws_20 (by decide) hf (fun hf => ?_) (fun hf => ?_)
        · refine lv_iload_n hx hb dX1_outlaws_23 rfl (lv_at hl 1 rfl) ?_
          refine lv_iconst (v := (1 : Int32)) hx hb dX1_outlaws_24 (by decide) ?_
          refine lv_iload_n hx hb dX1_outlaws_25 rfl (lv_at hl 2 rfl) ?_
          refine lv_ishl hx hb dX1_outlaws_26 ?_
          refine lv_ior hx hb dX1_outlaws_27 ?_
          refine lv_istore_n (lv' := [(1, .int (x1 ||| ((1 : Int32) <<< (x2 &&& 31)))), (0, .ref qf0), (2, .int x2)]) hx hb dX1_outlaws_28 rfl hl (by decide) rfl (fun ls hl => ?_)
          exact b29 (x1 ||| ((1 : Int32) <<< (x2 &&& 31))) x2 _ _ _ hf hP hD hS (lv_sub hl [1, 0, 2] rfl)
        · exact b29 x1 x2 _ _ _ hf hP hD hS (lv_sub hl [0, 1, 2] rfl)
  unfold f_X1_outlaws at hf
  refine lv_iconst (v := (0 : Int32)) hx hb dX1_outlaws_0 (by decide) ?_
  refine lv_istore_n (lv' := [(1, .int (0 : Int32)), (0, .ref qf0)]) hx hb dX1_outlaws_1 rfl hl (by decide) rfl (fun ls hl => ?_)
  refine lv_iconst (v := (0 : Int32)) hx hb dX1_outlaws_2 (by decide) ?_
  refine lv_istore_n (lv' := [(2, .int (0 : Int32)), (1, .int (0 : Int32)), (0, .ref qf0)]) hx hb dX1_outlaws_3 rfl hl (by decide) rfl (fun ls hl => ?_)
  exact b4 N (0 : Int32) (0 : Int32) _ _ _ hf hP hD hS (lv_sub hl [2, 1, 0] rfl)
theorem dX1_monthNow_0 : decode cX1_monthNow 0 = .ok (.aload_n 0, 1) := by decide +kernel
theorem dX1_monthNow_1 : decode cX1_monthNow 1 = .ok (.getfield 11, 3) := by decide +kernel
theorem dX1_monthNow_4 : decode cX1_monthNow 4 = .ok (.iconst 0, 1) := by decide +kernel
theorem dX1_monthNow_5 : decode cX1_monthNow 5 = .ok (.iaload, 1) := by decide +kernel
theorem dX1_monthNow_6 : decode cX1_monthNow 6 = .ok (.ireturn, 1) := by decide +kernel
def f_X1_monthNow (N : Nat) (f_row : Nat → Int32) : Option (Int32) := gA f_row 76 (0 : Int32) fun v5 => some v5
set_option maxHeartbeats 4000000 in
set_option maxRecDepth 100000 in
theorem k_X1_monthNow (l : Launch) (N : Nat) (D : va_G) (cI cJ cZ cB cT : ClassId) (qf0 : Nat) (qf1 : Nat) (qf2 : Nat) (qf3 : Nat) (f_row : Nat → Int32) (o_r : Int32) (hf : f_X1_monthNow N f_row = some o_r) : ∀ sz, Met l yX1_monthNow (mw yX1_monthNow cX1_monthNow 1 (some .int)) ({ frames := 0, cells := 0, slots := 0, locals := 0 } : Room) (mPre D (mT cI cJ cZ cB cT) (W_F_0t1 qf0 qf1 qf2 qf3 cI cJ cZ cB cT f_row) sz [.ref qf0]) ((mQi D (W_F_0t1 qf0 qf1 qf2 qf3 cI cJ cZ cB cT f_row) o_r True) (va_A (W_F_0t1 qf0 qf1 qf2 qf3 cI cJ cZ cB cT f_row) sz)) 0 0 (va_A (W_F_0t1 qf0 qf1 qf2 qf3 cI cJ cZ cB cT f_row) sz) := by
  refine mMet (Qc := (mQi D (W_F_0t1 qf0 qf1 qf2 qf3 cI cJ cZ cB cT f_row) o_r True)) (by decide) (Nat.le_of_ble_eq_true rfl) (fun p e s m below meth c A ls hx hb hr hml hts hown hlocks hK hA hP hD hl => ?_)
  have hown : s.vm.findClass RX1 = some m.cls := hown
  have hl : lv_has ls 1 [(0, .ref qf0)] := hl
  have hS : va_S A s.heap s.heap [] := va_S.rf
  unfold f_X1_monthNow at hf
  refine lv_aload_n hx hb dX1_monthNow_0 rfl (lv_at hl 0 rfl) ?_
  refine gfX1_11 hx hb hts hown hK hP 0 rfl rfl dX1_monthNow_1 ?_
  refine lv_iconst (v := (0 : Int32)) hx hb dX1_monthNow_4 (by decide) ?_
  refine xiald hx hb hK hP 1 0 rfl rfl dX1_monthNow_5 hf (fun v5 hf => ?_)
  cases hf
  exact mret_i hx hb hr hlocks hP hD hS dX1_monthNow_6 rfl trivial
theorem dX1_nextMonth_0 : decode cX1_nextMonth 0 = .ok (.aload_n 0, 1) := by decide +kernel
theorem dX1_nextMonth_1 : decode cX1_nextMonth 1 = .ok (.getfield 11, 3) := by decide +kernel
theorem dX1_nextMonth_4 : decode cX1_nextMonth 4 = .ok (.iconst 0, 1) := by decide +kernel
theorem dX1_nextMonth_5 : decode cX1_nextMonth 5 = .ok (.dup2, 1) := by decide +kernel
theorem dX1_nextMonth_6 : decode cX1_nextMonth 6 = .ok (.iaload, 1) := by decide +kernel
theorem dX1_nextMonth_7 : decode cX1_nextMonth 7 = .ok (.iconst 1, 1) := by decide +kernel
theorem dX1_nextMonth_8 : decode cX1_nextMonth 8 = .ok (.iadd, 1) := by decide +kernel
theorem dX1_nextMonth_9 : decode cX1_nextMonth 9 = .ok (.iastore, 1) := by decide +kernel
theorem dX1_nextMonth_10 : decode cX1_nextMonth 10 = .ok (.return_, 1) := by decide +kernel
def f_X1_nextMonth (N : Nat) (f_row : Nat → Int32) : Option ((Nat → Int32)) := gA f_row 76 (0 : Int32) fun v6 => sA f_row 76 (0 : Int32) (v6 + (1 : Int32)) fun f_row_9 => some f_row_9
set_option maxHeartbeats 4000000 in
set_option maxRecDepth 100000 in
theorem k_X1_nextMonth (l : Launch) (N : Nat) (D : va_G) (cI cJ cZ cB cT : ClassId) (qf0 : Nat) (qf1 : Nat) (qf2 : Nat) (qf3 : Nat) (f_row : Nat → Int32) (o_f_row : Nat → Int32) (hf : f_X1_nextMonth N f_row = some o_f_row) : ∀ sz, Met l yX1_nextMonth (mw yX1_nextMonth cX1_nextMonth 1 none) ({ frames := 0, cells := 0, slots := 0, locals := 0 } : Room) (mPre D (mT cI cJ cZ cB cT) (W_F_0t1 qf0 qf1 qf2 qf3 cI cJ cZ cB cT f_row) sz [.ref qf0]) ((mQv D (W_F_0t1 qf0 qf1 qf2 qf3 cI cJ cZ cB cT o_f_row)) (va_A (W_F_0t1 qf0 qf1 qf2 qf3 cI cJ cZ cB cT f_row) sz)) 0 0 (va_A (W_F_0t1 qf0 qf1 qf2 qf3 cI cJ cZ cB cT f_row) sz) := by
  refine mMet (Qc := (mQv D (W_F_0t1 qf0 qf1 qf2 qf3 cI cJ cZ cB cT o_f_row))) (by decide) (Nat.le_of_ble_eq_true rfl) (fun p e s m below meth c A ls hx hb hr hml hts hown hlocks hK hA hP hD hl => ?_)
  have hown : s.vm.findClass RX1 = some m.cls := hown
  have hl : lv_has ls 1 [(0, .ref qf0)] := hl
  have hS : va_S A s.heap s.heap [] := va_S.rf
  unfold f_X1_nextMonth at hf
  refine lv_aload_n hx hb dX1_nextMonth_0 rfl (lv_at hl 0 rfl) ?_
  refine gfX1_11 hx hb hts hown hK hP 0 rfl rfl dX1_nextMonth_1 ?_
  refine lv_iconst (v := (0 : Int32)) hx hb dX1_nextMonth_4 (by decide) ?_
  refine lv_dup2_11 hx hb dX1_nextMonth_5 rfl rfl ?_
  refine xiald hx hb hK hP 1 0 rfl rfl dX1_nextMonth_6 hf (fun v6 hf => ?_)
  refine lv_iconst (v := (1 : Int32)) hx hb dX1_nextMonth_7 (by decide) ?_
  refine lv_iadd hx hb dX1_nextMonth_8 ?_
  refine xiast hx hb hK hP hD hS 1 0 rfl rfl dX1_nextMonth_9 hf (fun f_row_9 hf H locs hP hD hS => ?_)
  have hP : va_P D vwCl (W_F_0t1 qf0 qf1 qf2 qf3 cI cJ cZ cB cT f_row_9) H := hP
  have hD : va_D A (W_F_0t1 qf0 qf1 qf2 qf3 cI cJ cZ cB cT f_row_9) := hD
  cases hf
  exact mret_v hx hb hr hlocks hP hD hS dX1_nextMonth_10
theorem dX1_x_0 : decode cX1_x 0 = .ok (.aload_n 0, 1) := by decide +kernel
theorem dX1_x_1 : decode cX1_x 1 = .ok (.getfield 11, 3) := by decide +kernel
theorem dX1_x_4 : decode cX1_x 4 = .ok (.iconst 1, 1) := by decide +kernel
theorem dX1_x_5 : decode cX1_x 5 = .ok (.iaload, 1) := by decide +kernel
theorem dX1_x_6 : decode cX1_x 6 = .ok (.ireturn, 1) := by decide +kernel
def f_X1_x (N : Nat) (f_row : Nat → Int32) : Option (Int32) := gA f_row 76 (1 : Int32) fun v5 => some v5
set_option maxHeartbeats 4000000 in
set_option maxRecDepth 100000 in
theorem k_X1_x (l : Launch) (N : Nat) (D : va_G) (cI cJ cZ cB cT : ClassId) (qf0 : Nat) (qf1 : Nat) (qf2 : Nat) (qf3 : Nat) (f_row : Nat → Int32) (o_r : Int32) (hf : f_X1_x N f_row = some o_r) : ∀ sz, Met l yX1_x (mw yX1_x cX1_x 1 (some .int)) ({ frames := 0, cells := 0, slots := 0, locals := 0 } : Room) (mPre D (mT cI cJ cZ cB cT) (W_F_0t1 qf0 qf1 qf2 qf3 cI cJ cZ cB cT f_row) sz [.ref qf0]) ((mQi D (W_F_0t1 qf0 qf1 qf2 qf3 cI cJ cZ cB cT f_row) o_r True) (va_A (W_F_0t1 qf0 qf1 qf2 qf3 cI cJ cZ cB cT f_row) sz)) 0 0 (va_A (W_F_0t1 qf0 qf1 qf2 qf3 cI cJ cZ cB cT f_row) sz) := by
  refine mMet (Qc := (mQi D (W_F_0t1 qf0 qf1 qf2 qf3 cI cJ cZ cB cT f_row) o_r True)) (by decide) (Nat.le_of_ble_eq_true rfl) (fun p e s m below meth c A ls hx hb hr hml hts hown hlocks hK hA hP hD hl => ?_)
  have hown : s.vm.findClass RX1 = some m.cls := hown
  have hl : lv_has ls 1 [(0, .ref qf0)] := hl
  have hS : va_S A s.heap s.heap [] := va_S.rf
  unfold f_X1_x at hf
  refine lv_aload_n hx hb dX1_x_0 rfl (lv_at hl 0 rfl) ?_
  refine gfX1_11 hx hb hts hown hK hP 0 rfl rfl dX1_x_1 ?_
  refine lv_iconst (v := (1 : Int32)) hx hb dX1_x_4 (by decide) ?_
  refine xiald hx hb hK hP 1 0 rfl rfl dX1_x_5 hf (fun v5 hf => ?_)
  cases hf
  exact mret_i hx hb hr hlocks hP hD hS dX1_x_6 rfl trivial
theorem dX1_setX_0 : decode cX1_setX 0 = .ok (.aload_n 0, 1) := by decide +kernel
theorem dX1_setX_1 : decode cX1_setX 1 = .ok (.getfield 11, 3) := by decide +kernel
theorem dX1_setX_4 : decode cX1_setX 4 = .ok (.iconst 1, 1) := by decide +kernel
theorem dX1_setX_5 : decode cX1_setX 5 = .ok (.iload_n 1, 1) := by decide +kernel
theorem dX1_setX_6 : decode cX1_setX 6 = .ok (.iastore, 1) := by decide +kernel
theorem dX1_setX_7 : decode cX1_setX 7 = .ok (.return_, 1) := by decide +kernel
def f_X1_setX (N : Nat) (f_row : Nat → Int32) (p1 : Int32) : Option ((Nat → Int32)) := sA f_row 76 (1 : Int32) p1 fun f_row_6 => some f_row_6
set_option maxHeartbeats 4000000 in
set_option maxRecDepth 100000 in
theorem k_X1_setX (l : Launch) (N : Nat) (D : va_G) (cI cJ cZ cB cT : ClassId) (qf0 : Nat) (qf1 : Nat) (qf2 : Nat) (qf3 : Nat) (f_row : Nat → Int32) (p1 : Int32) (o_f_row : Nat → Int32) (hf : f_X1_setX N f_row p1 = some o_f_row) : ∀ sz, Met l yX1_setX (mw yX1_setX cX1_setX 2 none) ({ frames := 0, cells := 0, slots := 0, locals := 0 } : Room) (mPre D (mT cI cJ cZ cB cT) (W_F_0t1 qf0 qf1 qf2 qf3 cI cJ cZ cB cT f_row) sz [.ref qf0, .int p1]) ((mQv D (W_F_0t1 qf0 qf1 qf2 qf3 cI cJ cZ cB cT o_f_row)) (va_A (W_F_0t1 qf0 qf1 qf2 qf3 cI cJ cZ cB cT f_row) sz)) 0 0 (va_A (W_F_0t1 qf0 qf1 qf2 qf3 cI cJ cZ cB cT f_row) sz) := by
  refine mMet (Qc := (mQv D (W_F_0t1 qf0 qf1 qf2 qf3 cI cJ cZ cB cT o_f_row))) (by decide) (Nat.le_of_ble_eq_true rfl) (fun p e s m below meth c A ls hx hb hr hml hts hown hlocks hK hA hP hD hl => ?_)
  have hown : s.vm.findClass RX1 = some m.cls := hown
  have hl : lv_has ls 2 [(0, .ref qf0), (1, .int p1)] := hl
  have hS : va_S A s.heap s.heap [] := va_S.rf
  unfold f_X1_setX at hf
  refine lv_aload_n hx hb dX1_setX_0 rfl (lv_at hl 0 rfl) ?_
  refine gfX1_11 hx hb hts hown hK hP 0 rfl rfl dX1_setX_1 ?_
  refine lv_iconst (v := (1 : Int32)) hx hb dX1_setX_4 (by decide) ?_
  refine lv_iload_n hx hb dX1_setX_5 rfl (lv_at hl 1 rfl) ?_
  refine xiast hx hb hK hP hD hS 1 0 rfl rfl dX1_setX_6 hf (fun f_row_6 hf H locs hP hD hS => ?_)
  have hP : va_P D vwCl (W_F_0t1 qf0 qf1 qf2 qf3 cI cJ cZ cB cT f_row_6) H := hP
  have hD : va_D A (W_F_0t1 qf0 qf1 qf2 qf3 cI cJ cZ cB cT f_row_6) := hD
  cases hf
  exact mret_v hx hb hr hlocks hP hD hS dX1_setX_7
theorem dX1_stir_0 : decode cX1_stir 0 = .ok (.aload_n 0, 1) := by decide +kernel
theorem dX1_stir_1 : decode cX1_stir 1 = .ok (.getfield 11, 3) := by decide +kernel
theorem dX1_stir_4 : decode cX1_stir 4 = .ok (.iconst 1, 1) := by decide +kernel
theorem dX1_stir_5 : decode cX1_stir 5 = .ok (.aload_n 0, 1) := by decide +kernel
theorem dX1_stir_6 : decode cX1_stir 6 = .ok (.getfield 11, 3) := by decide +kernel
theorem dX1_stir_9 : decode cX1_stir 9 = .ok (.iconst 1, 1) := by decide +kernel
theorem dX1_stir_10 : decode cX1_stir 10 = .ok (.iaload, 1) := by decide +kernel
theorem dX1_stir_11 : decode cX1_stir 11 = .ok (.sipush 379, 3) := by decide +kernel
theorem dX1_stir_14 : decode cX1_stir 14 = .ok (.imul, 1) := by decide +kernel
theorem dX1_stir_15 : decode cX1_stir 15 = .ok (.sipush 257, 3) := by decide +kernel
theorem dX1_stir_18 : decode cX1_stir 18 = .ok (.iadd, 1) := by decide +kernel
theorem dX1_stir_19 : decode cX1_stir 19 = .ok (.sipush 30469, 3) := by decide +kernel
theorem dX1_stir_22 : decode cX1_stir 22 = .ok (.irem, 1) := by decide +kernel
theorem dX1_stir_23 : decode cX1_stir 23 = .ok (.iastore, 1) := by decide +kernel
theorem dX1_stir_24 : decode cX1_stir 24 = .ok (.return_, 1) := by decide +kernel
def f_X1_stir (N : Nat) (f_row : Nat → Int32) : Option ((Nat → Int32)) := gA f_row 76 (1 : Int32) fun v10 => rmI ((v10 * (379 : Int32)) + (257 : Int32)) (30469 : Int32) fun v22 => sA f_row 76 (1 : Int32) v22 fun f_row_23 => some f_row_23
set_option maxHeartbeats 4000000 in
set_option maxRecDepth 100000 in
theorem k_X1_stir (l : Launch) (N : Nat) (D : va_G) (cI cJ cZ cB cT : ClassId) (qf0 : Nat) (qf1 : Nat) (qf2 : Nat) (qf3 : Nat) (f_row : Nat → Int32) (o_f_row : Nat → Int32) (hf : f_X1_stir N f_row = some o_f_row) : ∀ sz, Met l yX1_stir (mw yX1_stir cX1_stir 1 none) ({ frames := 0, cells := 0, slots := 0, locals := 0 } : Room) (mPre D (mT cI cJ cZ cB cT) (W_F_0t1 qf0 qf1 qf2 qf3 cI cJ cZ cB cT f_row) sz [.ref qf0]) ((mQv D (W_F_0t1 qf0 qf1 qf2 qf3 cI cJ cZ cB cT o_f_row)) (va_A (W_F_0t1 qf0 qf1 qf2 qf3 cI cJ cZ cB cT f_row) sz)) 0 0 (va_A (W_F_0t1 qf0 qf1 qf2 qf3 cI cJ cZ cB cT f_row) sz) := by
  refine mMet (Qc := (mQv D (W_F_0t1 qf0 qf1 qf2 qf3 cI cJ cZ cB cT o_f_row))) (by decide) (Nat.le_of_ble_eq_true rfl) (fun p e s m below meth c A ls hx hb hr hml hts hown hlocks hK hA hP hD hl => ?_)
  have hown : s.vm.findClass RX1 = some m.cls := hown
  have hl : lv_has ls 1 [(0, .ref qf0)] := hl
  have hS : va_S A s.heap s.heap [] := va_S.rf
  unfold f_X1_stir at hf
  refine lv_aload_n hx hb dX1_stir_0 rfl (lv_at hl 0 rfl) ?_
  refine gfX1_11 hx hb hts hown hK hP 0 rfl rfl dX1_stir_1 ?_
  refine lv_iconst (v := (1 : Int32)) hx hb dX1_stir_4 (by decide) ?_
  refine lv_aload_n hx hb dX1_stir_5 rfl (lv_at hl 0 rfl) ?_
  refine gfX1_11 hx hb hts hown hK hP 0 rfl rfl dX1_stir_6 ?_
  refine lv_iconst (v := (1 : Int32)) hx hb dX1_stir_9 (by decide) ?_
  refine xiald hx hb hK hP 1 0 rfl rfl dX1_stir_10 hf (fun v10 hf => ?_)
  refine lv_sipush (v := (379 : Int32)) hx hb dX1_stir_11 (by decide) ?_
  refine lv_imul hx hb dX1_stir_14 ?_
  refine lv_sipush (v := (257 : Int32)) hx hb dX1_stir_15 (by decide) ?_
  refine lv_iadd hx hb dX1_stir_18 ?_
  refine lv_sipush (v := (30469 : Int32)) hx hb dX1_stir_19 (by decide) ?_
  refine xirem hx hb dX1_stir_22 hf (fun v22 hf => ?_)
  refine xiast hx hb hK hP hD hS 1 0 rfl rfl dX1_stir_23 hf (fun f_row_23 hf H locs hP hD hS => ?_)
  have hP : va_P D vwCl (W_F_0t1 qf0 qf1 qf2 qf3 cI cJ cZ cB cT f_row_23) H := hP
  have hD : va_D A (W_F_0t1 qf0 qf1 qf2 qf3 cI cJ cZ cB cT f_row_23) := hD
  cases hf
  exact mret_v hx hb hr hlocks hP hD hS dX1_stir_24
theorem dX1_drawByTen_0 : decode cX1_drawByTen 0 = .ok (.aload_n 0, 1) := by decide +kernel
theorem dX1_drawByTen_1 : decode cX1_drawByTen 1 = .ok (.getfield 11, 3) := by decide +kernel
theorem dX1_drawByTen_4 : decode cX1_drawByTen 4 = .ok (.iconst 1, 1) := by decide +kernel
theorem dX1_drawByTen_5 : decode cX1_drawByTen 5 = .ok (.iaload, 1) := by decide +kernel
theorem dX1_drawByTen_6 : decode cX1_drawByTen 6 = .ok (.bipush 10, 2) := by decide +kernel
theorem dX1_drawByTen_8 : decode cX1_drawByTen 8 = .ok (.irem, 1) := by decide +kernel
theorem dX1_drawByTen_9 : decode cX1_drawByTen 9 = .ok (.istore_n 1, 1) := by decide +kernel
theorem dX1_drawByTen_10 : decode cX1_drawByTen 10 = .ok (.aload_n 0, 1) := by decide +kernel
theorem dX1_drawByTen_11 : decode cX1_drawByTen 11 = .ok (.invokevirtual 52, 3) := by decide +kernel
theorem dX1_drawByTen_14 : decode cX1_drawByTen 14 = .ok (.iload_n 1, 1) := by decide +kernel
theorem dX1_drawByTen_15 : decode cX1_drawByTen 15 = .ok (.ireturn, 1) := by decide +kernel
def f_X1_drawByTen (N : Nat) (f_row : Nat → Int32) : Option (Int32 × (Nat → Int32)) := gA f_row 76 (1 : Int32) fun v5 => rmI v5 (10 : Int32) fun v8 => ob1 (f_X1_stir N f_row) fun f_row_11 => some (v8, f_row_11)
set_option maxHeartbeats 4000000 in
set_option maxRecDepth 100000 in
theorem k_X1_drawByTen (l : Launch) (N : Nat) (D : va_G) (cI cJ cZ cB cT : ClassId) (qf0 : Nat) (qf1 : Nat) (qf2 : Nat) (qf3 : Nat) (f_row : Nat → Int32) (o_r : Int32) (o_f_row : Nat → Int32) (hf : f_X1_drawByTen N f_row = some (o_r, o_f_row)) : ∀ sz, Met l yX1_drawByTen (mw yX1_drawByTen cX1_drawByTen 2 (some .int)) ({ frames := 1, cells := 0, slots := 0, locals := 20 } : Room) (mPre D (mT cI cJ cZ cB cT) (W_F_0t1 qf0 qf1 qf2 qf3 cI cJ cZ cB cT f_row) sz [.ref qf0]) ((mQi D (W_F_0t1 qf0 qf1 qf2 qf3 cI cJ cZ cB cT o_f_row) o_r True) (va_A (W_F_0t1 qf0 qf1 qf2 qf3 cI cJ cZ cB cT f_row) sz)) 0 0 (va_A (W_F_0t1 qf0 qf1 qf2 qf3 cI cJ cZ cB cT f_row) sz) := by
  refine mMet (Qc := (mQi D (W_F_0t1 qf0 qf1 qf2 qf3 cI cJ cZ cB cT o_f_row) o_r True)) (by decide) (Nat.le_of_ble_eq_true rfl) (fun p e s m below meth c A ls hx hb hr hml hts hown hlocks hK hA hP hD hl => ?_)
  have hown : s.vm.findClass RX1 = some m.cls := hown
  have hl : lv_has ls 2 [(0, .ref qf0)] := hl
  have hS : va_S A s.heap s.heap [] := va_S.rf
  unfold f_X1_drawByTen at hf
  refine lv_aload_n hx hb dX1_drawByTen_0 rfl (lv_at hl 0 rfl) ?_
  refine gfX1_11 hx hb hts hown hK hP 0 rfl rfl dX1_drawByTen_1 ?_
  refine lv_iconst (v := (1 : Int32)) hx hb dX1_drawByTen_4 (by decide) ?_
  refine xiald hx hb hK hP 1 0 rfl rfl dX1_drawByTen_5 hf (fun v5 hf => ?_)
  refine lv_bipush (v := (10 : Int32)) hx hb dX1_drawByTen_6 (by decide) ?_
  refine xirem hx hb dX1_drawByTen_8 hf (fun v8 hf => ?_)
  refine lv_istore_n (lv' := [(1, .int v8), (0, .ref qf0)]) hx hb dX1_drawByTen_9 rfl hl (by decide) rfl (fun ls hl => ?_)
  refine lv_aload_n hx hb dX1_drawByTen_10 rfl (lv_at hl 1 rfl) ?_
  obtain ⟨f_row_11, hg11, hf⟩ := ob1_some hf
  refine mcV1_v (As := []) (rest := []) hx hb hml hown hts hK hP hD hS hA (k_X1_stir l N D cI cJ cZ cB cT qf0 qf1 qf2 qf3 f_row f_row_11 hg11) (kwX1_52 hts rfl rfl ⟨Nat.le_of_ble_eq_true rfl, Nat.le_of_ble_eq_true rfl⟩) 0 rfl rfl rfl rfl hl.1 rfl (Nat.le_of_ble_eq_true rfl) dX1_drawByTen_11 ⟨Nat.zero_le _, Nat.zero_le _⟩ (fun H locs hP hD hS => ?_)
  have hP : va_P D vwCl (W_F_0t1 qf0 qf1 qf2 qf3 cI cJ cZ cB cT f_row_11) H := hP
  have hD : va_D A (W_F_0t1 qf0 qf1 qf2 qf3 cI cJ cZ cB cT f_row_11) := hD
  refine lv_iload_n hx hb dX1_drawByTen_14 rfl (lv_at hl 0 rfl) ?_
  cases hf
  exact mret_i hx hb hr hlocks hP hD hS dX1_drawByTen_15 rfl trivial
theorem dX1_write_0 : decode cX1_write 0 = .ok (.aload_n 0, 1) := by decide +kernel
theorem dX1_write_1 : decode cX1_write 1 = .ok (.getfield 11, 3) := by decide +kernel
theorem dX1_write_4 : decode cX1_write 4 = .ok (.iconst 3, 1) := by decide +kernel
theorem dX1_write_5 : decode cX1_write 5 = .ok (.iaload, 1) := by decide +kernel
theorem dX1_write_6 : decode cX1_write 6 = .ok (.istore_n 3, 1) := by decide +kernel
theorem dX1_write_7 : decode cX1_write 7 = .ok (.iload_n 3, 1) := by decide +kernel
theorem dX1_write_8 : decode cX1_write 8 = .ok (.bipush 30, 2) := by decide +kernel
theorem dX1_write_10 : decode cX1_write 10 = .ok (.if_icmp .lt 21, 3) := by decide +kernel
theorem dX1_write_13 : decode cX1_write 13 = .ok (.aload_n 0, 1) := by decide +kernel
theorem dX1_write_14 : decode cX1_write 14 = .ok (.getfield 11, 3) := by decide +kernel
theorem dX1_write_17 : decode cX1_write 17 = .ok (.iconst 5, 1) := by decide +kernel
theorem dX1_write_18 : decode cX1_write 18 = .ok (.aload_n 0, 1) := by decide +kernel
theorem dX1_write_19 : decode cX1_write 19 = .ok (.getfield 11, 3) := by decide +kernel
theorem dX1_write_22 : decode cX1_write 22 = .ok (.iconst 4, 1) := by decide +kernel
theorem dX1_write_23 : decode cX1_write 23 = .ok (.bipush 29, 2) := by decide +kernel
theorem dX1_write_25 : decode cX1_write 25 = .ok (.invokestatic 21, 3) := by decide +kernel
theorem dX1_write_28 : decode cX1_write 28 = .ok (.bipush 29, 2) := by decide +kernel
theorem dX1_write_30 : decode cX1_write 30 = .ok (.istore_n 3, 1) := by decide +kernel
theorem dX1_write_31 : decode cX1_write 31 = .ok (.iload_n 3, 1) := by decide +kernel
theorem dX1_write_32 : decode cX1_write 32 = .ok (.ifCond .lt 36, 3) := by decide +kernel
theorem dX1_write_35 : decode cX1_write 35 = .ok (.aload_n 0, 1) := by decide +kernel
theorem dX1_write_36 : decode cX1_write 36 = .ok (.getfield 11, 3) := by decide +kernel
theorem dX1_write_39 : decode cX1_write 39 = .ok (.iconst 4, 1) := by decide +kernel
theorem dX1_write_40 : decode cX1_write 40 = .ok (.iload_n 3, 1) := by decide +kernel
theorem dX1_write_41 : decode cX1_write 41 = .ok (.iadd, 1) := by decide +kernel
theorem dX1_write_42 : decode cX1_write 42 = .ok (.aload_n 0, 1) := by decide +kernel
theorem dX1_write_43 : decode cX1_write 43 = .ok (.getfield 11, 3) := by decide +kernel
theorem dX1_write_46 : decode cX1_write 46 = .ok (.iconst 0, 1) := by decide +kernel
theorem dX1_write_47 : decode cX1_write 47 = .ok (.iaload, 1) := by decide +kernel
theorem dX1_write_48 : decode cX1_write 48 = .ok (.bipush 64, 2) := by decide +kernel
theorem dX1_write_50 : decode cX1_write 50 = .ok (.imul, 1) := by decide +kernel
theorem dX1_write_51 : decode cX1_write 51 = .ok (.iload_n 1, 1) := by decide +kernel
theorem dX1_write_52 : decode cX1_write 52 = .ok (.bipush 8, 2) := by decide +kernel
theorem dX1_write_54 : decode cX1_write 54 = .ok (.imul, 1) := by decide +kernel
theorem dX1_write_55 : decode cX1_write 55 = .ok (.iadd, 1) := by decide +kernel
theorem dX1_write_56 : decode cX1_write 56 = .ok (.iload_n 2, 1) := by decide +kernel
theorem dX1_write_57 : decode cX1_write 57 = .ok (.iadd, 1) := by decide +kernel
theorem dX1_write_58 : decode cX1_write 58 = .ok (.iastore, 1) := by decide +kernel
theorem dX1_write_59 : decode cX1_write 59 = .ok (.aload_n 0, 1) := by decide +kernel
theorem dX1_write_60 : decode cX1_write 60 = .ok (.getfield 11, 3) := by decide +kernel
theorem dX1_write_63 : decode cX1_write 63 = .ok (.iconst 3, 1) := by decide +kernel
theorem dX1_write_64 : decode cX1_write 64 = .ok (.iload_n 3, 1) := by decide +kernel
theorem dX1_write_65 : decode cX1_write 65 = .ok (.iconst 1, 1) := by decide +kernel
theorem dX1_write_66 : decode cX1_write 66 = .ok (.iadd, 1) := by decide +kernel
theorem dX1_write_67 : decode cX1_write 67 = .ok (.iastore, 1) := by decide +kernel
theorem dX1_write_68 : decode cX1_write 68 = .ok (.return_, 1) := by decide +kernel
def f_X1_write_31 (N : Nat) (f_row : Nat → Int32) (x1 : Int32) (x2 : Int32) (x3 : Int32) : Option ((Nat → Int32)) := if x3 < 0 then (some f_row) else (gA f_row 76 (0 : Int32) fun v47 => sA f_row 76 ((4 : Int32) + x3) (((v47 * (64 : Int32)) + (x1 * (8 : Int32))) + x2) fun f_row_58 => sA f_row_58 76 (3 : Int32) (x3 + (1 : Int32)) fun f_row_67 => some f_row_67)
def f_X1_write (N : Nat) (f_row : Nat → Int32) (p1 : Int32) (p2 : Int32) : Option ((Nat → Int32)) := gA f_row 76 (3 : Int32) fun v5 => if v5 < (30 : Int32) then (f_X1_write_31 N f_row p1 p2 v5) else (cpI f_row 76 f_row 76 (5 : Int32) (4 : Int32) (29 : Int32) fun f_row_25 => f_X1_write_31 N f_row_25 p1 p2 (29 : Int32))
set_option maxHeartbeats 4000000 in
set_option maxRecDepth 100000 in
theorem k_X1_write (l : Launch) (N : Nat) (D : va_G) (cI cJ cZ cB cT : ClassId) (qf0 : Nat) (qf1 : Nat) (qf2 : Nat) (qf3 : Nat) (f_row : Nat → Int32) (p1 : Int32) (p2 : Int32) (o_f_row : Nat → Int32) (hf : f_X1_write N f_row p1 p2 = some o_f_row) : ∀ sz, Met l yX1_write (mw yX1_write cX1_write 4 none) ({ frames := 1, cells := 0, slots := 0, locals := 60 } : Room) (mPre D (mT cI cJ cZ cB cT) (W_F_0t1 qf0 qf1 qf2 qf3 cI cJ cZ cB cT f_row) sz [.ref qf0, .int p1, .int p2]) ((mQv D (W_F_0t1 qf0 qf1 qf2 qf3 cI cJ cZ cB cT o_f_row)) (va_A (W_F_0t1 qf0 qf1 qf2 qf3 cI cJ cZ cB cT f_row) sz)) 0 0 (va_A (W_F_0t1 qf0 qf1 qf2 qf3 cI cJ cZ cB cT f_row) sz) := by
  refine mMet (Qc := (mQv D (W_F_0t1 qf0 qf1 qf2 qf3 cI cJ cZ cB cT o_f_row))) (by decide) (Nat.le_of_ble_eq_true rfl) (fun p e s m below meth c A ls hx hb hr hml hts hown hlocks hK hA hP hD hl => ?_)
  have hown : s.vm.findClass RX1 = some m.cls := hown
  have hl : lv_has ls 4 [(0, .ref qf0), (1, .int p1), (2, .int p2)] := hl
  have hS : va_S A s.heap s.heap [] := va_S.rf
  have b31 : ∀ (f_row : Nat → Int32) (x1 : Int32) (x2 : Int32) (x3 : Int32) (H : Heap) (locs : List Loc) (ls : Array Slot), f_X1_write_31 N f_row x1 x2 x3 = some o_f_row → va_P D vwCl (W_F_0t1 qf0 qf1 qf2 qf3 cI cJ cZ cB cT f_row) H → va_D A (W_F_0t1 qf0 qf1 qf2 qf3 cI cJ cZ cB cT f_row) → va_S A s.heap H locs → lv_has ls 4 [(0, .ref qf0), (1, .int x1), (2, .int x2), (3, .int x3)] → W p l e ({ frames := 1, cells := 0, slots := 0, locals := 60 } : Room) s m ([.ref qf0, .int p1, .int p2] : List Value).toArray below meth c H locs 0 0 (MQ below ((mQv D (W_F_0t1 qf0 qf1 qf2 qf3 cI cJ cZ cB cT o_f_row)) A) ([.ref qf0, .int p1, .int p2] : List Value).toArray s 0 0 A) (F0 m 31 ls []) := by
    intro f_row x1 x2 x3 H locs ls hf hP hD hS hl
    unfold f_X1_write_31 at hf
    refine lv_iload_n hx hb dX1_write_31 rfl (lv_at hl 3 rfl) ?_
    refine xif_lt hx hb 68 dX1_write_32 (by decide) hf (fun hf => ?_) (fun hf => ?_)
    · cases hf
      exact mret_v hx hb hr hlocks hP hD hS dX1_write_68
    · refine lv_aload_n hx hb dX1_write_35 rfl (lv_at hl 0 rfl) ?_
      refine gfX1_11 hx hb hts hown hK hP 0 rfl rfl dX1_write_36 ?_
      refine lv_iconst (v := (4 : Int32)) hx hb dX1_write_39 (by decide) ?_
      refine lv_iload_n hx hb dX1_write_40 rfl (lv_at hl 3 rfl) ?_
      refine lv_iadd hx hb dX1_write_41 ?_
      refine lv_aload_n hx hb dX1_write_42 rfl (lv_at hl 0 rfl) ?_
      refine gfX1_11 hx hb hts hown hK hP 0 rfl rfl dX1_write_43 ?_
      refine lv_iconst (v := (0 : Int32)) hx hb dX1_write_46 (by decide) ?_
      refine xiald hx hb hK hP 1 0 rfl rfl dX1_write_47 hf (fun v47 hf => ?_)
      refine lv_bipush (v := (64 : Int32)) hx hb dX1_write_48 (by decide) ?_
      refine lv_imul hx hb dX1_write_50 ?_
      refine lv_iload_n hx hb dX1_write_51 rfl (lv_at hl 1 rfl) ?_
      refine lv_bipush (v := (8 : Int32)) hx hb dX1_write_52 (by decide) ?_
      refine lv_imul hx hb dX1_write_54 ?_
      refine lv_iadd hx hb dX1_write_55 ?_
      refine lv_iload_n hx hb dX1_write_56 rfl (lv_at hl 2 rfl) ?_
      refine lv_iadd hx hb dX1_write_57 ?_
      refine xiast hx hb hK hP hD hS 1 0 rfl rfl dX1_write_58 hf (fun f_row_58 hf H locs hP hD hS => ?_)
      have hP : va_P D vwCl (W_F_0t1 qf0 qf1 qf2 qf3 cI cJ cZ cB cT f_row_58) H := hP
      have hD : va_D A (W_F_0t1 qf0 qf1 qf2 qf3 cI cJ cZ cB cT f_row_58) := hD
      refine lv_aload_n hx hb dX1_write_59 rfl (lv_at hl 0 rfl) ?_
      refine gfX1_11 hx hb hts hown hK hP 0 rfl rfl dX1_write_60 ?_
      refine lv_iconst (v := (3 : Int32)) hx hb dX1_write_63 (by decide) ?_
      refine lv_iload_n hx hb dX1_write_64 rfl (lv_at hl 3 rfl) ?_
      refine lv_iconst (v := (1 : Int32)) hx hb dX1_write_65 (by decide) ?_
      refine lv_iadd hx hb dX1_write_66 ?_
      refine xiast hx hb hK hP hD hS 1 0 rfl rfl dX1_write_67 hf (fun f_row_67 hf H locs hP hD hS => ?_)
      have hP : va_P D vwCl (W_F_0t1 qf0 qf1 qf2 qf3 cI cJ cZ cB cT f_row_67) H := hP
      have hD : va_D A (W_F_0t1 qf0 qf1 qf2 qf3 cI cJ cZ cB cT f_row_67) := hD
      cases hf
      exact mret_v hx hb hr hlocks hP hD hS dX1_write_68
  unfold f_X1_write at hf
  refine lv_aload_n hx hb dX1_write_0 rfl (lv_at hl 0 rfl) ?_
  refine gfX1_11 hx hb hts hown hK hP 0 rfl rfl dX1_write_1 ?_
  refine lv_iconst (v := (3 : Int32)) hx hb dX1_write_4 (by decide) ?_
  refine xiald hx hb hK hP 1 0 rfl rfl dX1_write_5 hf (fun v5 hf => ?_)
  refine lv_istore_n (lv' := [(3, .int v5), (0, .ref qf0), (1, .int p1), (2, .int p2)]) hx hb dX1_write_6 rfl hl (by decide) rfl (fun ls hl => ?_)
  refine lv_iload_n hx hb dX1_write_7 rfl (lv_at hl 0 rfl) ?_
  refine lv_bipush (v := (30 : Int32)) hx hb dX1_write_8 (by decide) ?_
  refine xicmp_lt hx hb 31 dX1_write_10 (by decide) hf (fun hf => ?_) (fun hf => ?_)
  · exact b31 f_row p1 p2 v5 _ _ _ hf hP hD hS (lv_sub hl [1, 2, 3, 0] rfl)
  · refine lv_aload_n hx hb dX1_write_13 rfl (lv_at hl 1 rfl) ?_
    refine gfX1_11 hx hb hts hown hK hP 0 rfl rfl dX1_write_14 ?_
    refine lv_iconst (v := (5 : Int32)) hx hb dX1_write_17 (by decide) ?_
    refine lv_aload_n hx hb dX1_write_18 rfl (lv_at hl 1 rfl) ?_
    refine gfX1_11 hx hb hts hown hK hP 0 rfl rfl dX1_write_19 ?_
    refine lv_iconst (v := (4 : Int32)) hx hb dX1_write_22 (by decide) ?_
    refine lv_bipush (v := (29 : Int32)) hx hb dX1_write_23 (by decide) ?_
    refine xcopy hx hb hml hl.1 hown hts cpwX1_21 hK hP hD hS 1 1 0 0 rfl rfl rfl rfl (Nat.le_of_ble_eq_true rfl) (by decide) dX1_write_25 hf (fun f_row_25 hf H locs hP hD hS => ?_)
    have hP : va_P D vwCl (W_F_0t1 qf0 qf1 qf2 qf3 cI cJ cZ cB cT f_row_25) H := hP
    have hD : va_D A (W_F_0t1 qf0 qf1 qf2 qf3 cI cJ cZ cB cT f_row_25) := hD
    refine lv_bipush (v := (29 : Int32)) hx hb dX1_write_28 (by decide) ?_
    refine lv_istore_n (lv' := [(3, .int (29 : Int32)), (0, .ref qf0), (1, .int p1), (2, .int p2)]) hx hb dX1_write_30 rfl hl (by decide) rfl (fun ls hl => ?_)
    exact b31 f_row_25 p1 p2 (29 : Int32) _ _ _ hf hP hD hS (lv_sub hl [1, 2, 3, 0] rfl)
theorem dX1_written_0 : decode cX1_written 0 = .ok (.aload_n 0, 1) := by decide +kernel
theorem dX1_written_1 : decode cX1_written 1 = .ok (.getfield 11, 3) := by decide +kernel
theorem dX1_written_4 : decode cX1_written 4 = .ok (.iconst 3, 1) := by decide +kernel
theorem dX1_written_5 : decode cX1_written 5 = .ok (.iaload, 1) := by decide +kernel
theorem dX1_written_6 : decode cX1_written 6 = .ok (.ireturn, 1) := by decide +kernel
def f_X1_written (N : Nat) (f_row : Nat → Int32) : Option (Int32) := gA f_row 76 (3 : Int32) fun v5 => some v5
set_option maxHeartbeats 4000000 in
set_option maxRecDepth 100000 in
theorem k_X1_written (l : Launch) (N : Nat) (D : va_G) (cI cJ cZ cB cT : ClassId) (qf0 : Nat) (qf1 : Nat) (qf2 : Nat) (qf3 : Nat) (f_row : Nat → Int32) (o_r : Int32) (hf : f_X1_written N f_row = some o_r) : ∀ sz, Met l yX1_written (mw yX1_written cX1_written 1 (some .int)) ({ frames := 0, cells := 0, slots := 0, locals := 0 } : Room) (mPre D (mT cI cJ cZ cB cT) (W_F_0t1 qf0 qf1 qf2 qf3 cI cJ cZ cB cT f_row) sz [.ref qf0]) ((mQi D (W_F_0t1 qf0 qf1 qf2 qf3 cI cJ cZ cB cT f_row) o_r True) (va_A (W_F_0t1 qf0 qf1 qf2 qf3 cI cJ cZ cB cT f_row) sz)) 0 0 (va_A (W_F_0t1 qf0 qf1 qf2 qf3 cI cJ cZ cB cT f_row) sz) := by
  refine mMet (Qc := (mQi D (W_F_0t1 qf0 qf1 qf2 qf3 cI cJ cZ cB cT f_row) o_r True)) (by decide) (Nat.le_of_ble_eq_true rfl) (fun p e s m below meth c A ls hx hb hr hml hts hown hlocks hK hA hP hD hl => ?_)
  have hown : s.vm.findClass RX1 = some m.cls := hown
  have hl : lv_has ls 1 [(0, .ref qf0)] := hl
  have hS : va_S A s.heap s.heap [] := va_S.rf
  unfold f_X1_written at hf
  refine lv_aload_n hx hb dX1_written_0 rfl (lv_at hl 0 rfl) ?_
  refine gfX1_11 hx hb hts hown hK hP 0 rfl rfl dX1_written_1 ?_
  refine lv_iconst (v := (3 : Int32)) hx hb dX1_written_4 (by decide) ?_
  refine xiald hx hb hK hP 1 0 rfl rfl dX1_written_5 hf (fun v5 hf => ?_)
  cases hf
  exact mret_i hx hb hr hlocks hP hD hS dX1_written_6 rfl trivial
theorem dX1_entry_0 : decode cX1_entry 0 = .ok (.iload_n 1, 1) := by decide +kernel
theorem dX1_entry_1 : decode cX1_entry 1 = .ok (.ifCond .lt 30, 3) := by decide +kernel
theorem dX1_entry_4 : decode cX1_entry 4 = .ok (.iload_n 1, 1) := by decide +kernel
theorem dX1_entry_5 : decode cX1_entry 5 = .ok (.aload_n 0, 1) := by decide +kernel
theorem dX1_entry_6 : decode cX1_entry 6 = .ok (.getfield 11, 3) := by decide +kernel
theorem dX1_entry_9 : decode cX1_entry 9 = .ok (.iconst 3, 1) := by decide +kernel
theorem dX1_entry_10 : decode cX1_entry 10 = .ok (.iaload, 1) := by decide +kernel
theorem dX1_entry_11 : decode cX1_entry 11 = .ok (.if_icmp .ge 20, 3) := by decide +kernel
theorem dX1_entry_14 : decode cX1_entry 14 = .ok (.iload_n 1, 1) := by decide +kernel
theorem dX1_entry_15 : decode cX1_entry 15 = .ok (.bipush 30, 2) := by decide +kernel
theorem dX1_entry_17 : decode cX1_entry 17 = .ok (.if_icmp .ge 14, 3) := by decide +kernel
theorem dX1_entry_20 : decode cX1_entry 20 = .ok (.aload_n 0, 1) := by decide +kernel
theorem dX1_entry_21 : decode cX1_entry 21 = .ok (.getfield 11, 3) := by decide +kernel
theorem dX1_entry_24 : decode cX1_entry 24 = .ok (.iconst 4, 1) := by decide +kernel
theorem dX1_entry_25 : decode cX1_entry 25 = .ok (.iload_n 1, 1) := by decide +kernel
theorem dX1_entry_26 : decode cX1_entry 26 = .ok (.iadd, 1) := by decide +kernel
theorem dX1_entry_27 : decode cX1_entry 27 = .ok (.iaload, 1) := by decide +kernel
theorem dX1_entry_28 : decode cX1_entry 28 = .ok (.goto 4, 3) := by decide +kernel
theorem dX1_entry_31 : decode cX1_entry 31 = .ok (.iconst 0, 1) := by decide +kernel
theorem dX1_entry_32 : decode cX1_entry 32 = .ok (.ireturn, 1) := by decide +kernel
def f_X1_entry (N : Nat) (f_row : Nat → Int32) (p1 : Int32) : Option (Int32) := if p1 < 0 then (some (0 : Int32)) else (gA f_row 76 (3 : Int32) fun v10 => if v10 ≤ p1 then (some (0 : Int32)) else (if (30 : Int32) ≤ p1 then (some (0 : Int32)) else (gA f_row 76 ((4 : Int32) + p1) fun v27 => some v27)))
set_option maxHeartbeats 4000000 in
set_option maxRecDepth 100000 in
theorem k_X1_entry (l : Launch) (N : Nat) (D : va_G) (cI cJ cZ cB cT : ClassId) (qf0 : Nat) (qf1 : Nat) (qf2 : Nat) (qf3 : Nat) (f_row : Nat → Int32) (p1 : Int32) (o_r : Int32) (hf : f_X1_entry N f_row p1 = some o_r) : ∀ sz, Met l yX1_entry (mw yX1_entry cX1_entry 2 (some .int)) ({ frames := 0, cells := 0, slots := 0, locals := 0 } : Room) (mPre D (mT cI cJ cZ cB cT) (W_F_0t1 qf0 qf1 qf2 qf3 cI cJ cZ cB cT f_row) sz [.ref qf0, .int p1]) ((mQi D (W_F_0t1 qf0 qf1 qf2 qf3 cI cJ cZ cB cT f_row) o_r True) (va_A (W_F_0t1 qf0 qf1 qf2 qf3 cI cJ cZ cB cT f_row) sz)) 0 0 (va_A (W_F_0t1 qf0 qf1 qf2 qf3 cI cJ cZ cB cT f_row) sz) := by
  refine mMet (Qc := (mQi D (W_F_0t1 qf0 qf1 qf2 qf3 cI cJ cZ cB cT f_row) o_r True)) (by decide) (Nat.le_of_ble_eq_true rfl) (fun p e s m below meth c A ls hx hb hr hml hts hown hlocks hK hA hP hD hl => ?_)
  have hown : s.vm.findClass RX1 = some m.cls := hown
  have hl : lv_has ls 2 [(0, .ref qf0), (1, .int p1)] := hl
  have hS : va_S A s.heap s.heap [] := va_S.rf
  unfold f_X1_entry at hf
  refine lv_iload_n hx hb dX1_entry_0 rfl (lv_at hl 1 rfl) ?_
  refine xif_lt hx hb 31 dX1_entry_1 (by decide) hf (fun hf => ?_) (fun hf => ?_)
  · refine lv_iconst (v := (0 : Int32)) hx hb dX1_entry_31 (by decide) ?_
    cases hf
    exact mret_i hx hb hr hlocks hP hD hS dX1_entry_32 rfl trivial
  · refine lv_iload_n hx hb dX1_entry_4 rfl (lv_at hl 1 rfl) ?_
    refine lv_aload_n hx hb dX1_entry_5 rfl (lv_at hl 0 rfl) ?_
    refine gfX1_11 hx hb hts hown hK hP 0 rfl rfl dX1_entry_6 ?_
    refine lv_iconst (v := (3 : Int32)) hx hb dX1_entry_9 (by decide) ?_
    refine xiald hx hb hK hP 1 0 rfl rfl dX1_entry_10 hf (fun v10 hf => ?_)
    refine xicmp_ge hx hb 31 dX1_entry_11 (by decide) hf (fun hf => ?_) (fun hf => ?_)
    · refine lv_iconst (v := (0 : Int32)) hx hb dX1_entry_31 (by decide) ?_
      cases hf
      exact mret_i hx hb hr hlocks hP hD hS dX1_entry_32 rfl trivial
    · refine lv_iload_n hx hb dX1_entry_14 rfl (lv_at hl 1 rfl) ?_
      refine lv_bipush (v := (30 : Int32)) hx hb dX1_entry_15 (by decide) ?_
      refine xicmp_ge hx hb 31 dX1_entry_17 (by decide) hf (fun hf => ?_) (fun hf => ?_)
      · refine lv_iconst (v := (0 : Int32)) hx hb dX1_entry_31 (by decide) ?_
        cases hf
        exact mret_i hx hb hr hlocks hP hD hS dX1_entry_32 rfl trivial
      · refine lv_aload_n hx hb dX1_entry_20 rfl (lv_at hl 0 rfl) ?_
        refine gfX1_11 hx hb hts hown hK hP 0 rfl rfl dX1_entry_21 ?_
        refine lv_iconst (v := (4 : Int32)) hx hb dX1_entry_24 (by decide) ?_
        refine lv_iload_n hx hb dX1_entry_25 rfl (lv_at hl 1 rfl) ?_
        refine lv_iadd hx hb dX1_entry_26 ?_
        refine xiald hx hb hK hP 1 0 rfl rfl dX1_entry_27 hf (fun v27 hf => ?_)
        refine lv_goto (tgt := 32) hx hb dX1_entry_28 (by decide) ?_
        cases hf
        exact mret_i hx hb hr hlocks hP hD hS dX1_entry_32 rfl trivial
theorem dX1_entryMonth_0 : decode cX1_entryMonth 0 = .ok (.aload_n 0, 1) := by decide +kernel
theorem dX1_entryMonth_1 : decode cX1_entryMonth 1 = .ok (.iload_n 1, 1) := by decide +kernel
theorem dX1_entryMonth_2 : decode cX1_entryMonth 2 = .ok (.invokevirtual 55, 3) := by decide +kernel
theorem dX1_entryMonth_5 : decode cX1_entryMonth 5 = .ok (.bipush 64, 2) := by decide +kernel
theorem dX1_entryMonth_7 : decode cX1_entryMonth 7 = .ok (.idiv, 1) := by decide +kernel
theorem dX1_entryMonth_8 : decode cX1_entryMonth 8 = .ok (.ireturn, 1) := by decide +kernel
def f_X1_entryMonth (N : Nat) (f_row : Nat → Int32) (p1 : Int32) : Option (Int32) := ob1 (f_X1_entry N f_row p1) fun r2 => dvI r2 (64 : Int32) fun v7 => some v7
set_option maxHeartbeats 4000000 in
set_option maxRecDepth 100000 in
theorem k_X1_entryMonth (l : Launch) (N : Nat) (D : va_G) (cI cJ cZ cB cT : ClassId) (qf0 : Nat) (qf1 : Nat) (qf2 : Nat) (qf3 : Nat) (f_row : Nat → Int32) (p1 : Int32) (o_r : Int32) (hf : f_X1_entryMonth N f_row p1 = some o_r) : ∀ sz, Met l yX1_entryMonth (mw yX1_entryMonth cX1_entryMonth 2 (some .int)) ({ frames := 1, cells := 0, slots := 0, locals := 21 } : Room) (mPre D (mT cI cJ cZ cB cT) (W_F_0t1 qf0 qf1 qf2 qf3 cI cJ cZ cB cT f_row) sz [.ref qf0, .int p1]) ((mQi D (W_F_0t1 qf0 qf1 qf2 qf3 cI cJ cZ cB cT f_row) o_r True) (va_A (W_F_0t1 qf0 qf1 qf2 qf3 cI cJ cZ cB cT f_row) sz)) 0 0 (va_A (W_F_0t1 qf0 qf1 qf2 qf3 cI cJ cZ cB cT f_row) sz) := by
  refine mMet (Qc := (mQi D (W_F_0t1 qf0 qf1 qf2 qf3 cI cJ cZ cB cT f_row) o_r True)) (by decide) (Nat.le_of_ble_eq_true rfl) (fun p e s m below meth c A ls hx hb hr hml hts hown hlocks hK hA hP hD hl => ?_)
  have hown : s.vm.findClass RX1 = some m.cls := hown
  have hl : lv_has ls 2 [(0, .ref qf0), (1, .int p1)] := hl
  have hS : va_S A s.heap s.heap [] := va_S.rf
  unfold f_X1_entryMonth at hf
  refine lv_aload_n hx hb dX1_entryMonth_0 rfl (lv_at hl 0 rfl) ?_
  refine lv_iload_n hx hb dX1_entryMonth_1 rfl (lv_at hl 1 rfl) ?_
  obtain ⟨r2, hg2, hf⟩ := ob1_some hf
  refine mcV1_i (As := [.int p1]) (rest := []) hx hb hml hown hts hK hP hD hS hA (k_X1_entry l N D cI cJ cZ cB cT qf0 qf1 qf2 qf3 f_row p1 r2 hg2) (kwX1_55 hts rfl rfl ⟨Nat.le_of_ble_eq_true rfl, Nat.le_of_ble_eq_true rfl⟩) 0 rfl rfl rfl rfl hl.1 rfl (Nat.le_of_ble_eq_true rfl) dX1_entryMonth_2 ⟨Nat.zero_le _, Nat.zero_le _⟩ (fun hB2 H locs hP hD hS => ?_)
  have hP : va_P D vwCl (W_F_0t1 qf0 qf1 qf2 qf3 cI cJ cZ cB cT f_row) H := hP
  have hD : va_D A (W_F_0t1 qf0 qf1 qf2 qf3 cI cJ cZ cB cT f_row) := hD
  refine lv_bipush (v := (64 : Int32)) hx hb dX1_entryMonth_5 (by decide) ?_
  refine xidiv hx hb dX1_entryMonth_7 hf (fun v7 hf => ?_)
  cases hf
  exact mret_i hx hb hr hlocks hP hD hS dX1_entryMonth_8 rfl trivial
theorem dX1_entryPerson_0 : decode cX1_entryPerson 0 = .ok (.aload_n 0, 1) := by decide +kernel
theorem dX1_entryPerson_1 : decode cX1_entryPerson 1 = .ok (.iload_n 1, 1) := by decide +kernel
theorem dX1_entryPerson_2 : decode cX1_entryPerson 2 = .ok (.invokevirtual 55, 3) := by decide +kernel
theorem dX1_entryPerson_5 : decode cX1_entryPerson 5 = .ok (.bipush 8, 2) := by decide +kernel
theorem dX1_entryPerson_7 : decode cX1_entryPerson 7 = .ok (.idiv, 1) := by decide +kernel
theorem dX1_entryPerson_8 : decode cX1_entryPerson 8 = .ok (.bipush 8, 2) := by decide +kernel
theorem dX1_entryPerson_10 : decode cX1_entryPerson 10 = .ok (.irem, 1) := by decide +kernel
theorem dX1_entryPerson_11 : decode cX1_entryPerson 11 = .ok (.ireturn, 1) := by decide +kernel
def f_X1_entryPerson (N : Nat) (f_row : Nat → Int32) (p1 : Int32) : Option (Int32) := ob1 (f_X1_entry N f_row p1) fun r2 => dvI r2 (8 : Int32) fun v7 => rmI v7 (8 : Int32) fun v10 => some v10
set_option maxHeartbeats 4000000 in
set_option maxRecDepth 100000 in
theorem k_X1_entryPerson (l : Launch) (N : Nat) (D : va_G) (cI cJ cZ cB cT : ClassId) (qf0 : Nat) (qf1 : Nat) (qf2 : Nat) (qf3 : Nat) (f_row : Nat → Int32) (p1 : Int32) (o_r : Int32) (hf : f_X1_entryPerson N f_row p1 = some o_r) : ∀ sz, Met l yX1_entryPerson (mw yX1_entryPerson cX1_entryPerson 2 (some .int)) ({ frames := 1, cells := 0, slots := 0, locals := 21 } : Room) (mPre D (mT cI cJ cZ cB cT) (W_F_0t1 qf0 qf1 qf2 qf3 cI cJ cZ cB cT f_row) sz [.ref qf0, .int p1]) ((mQi D (W_F_0t1 qf0 qf1 qf2 qf3 cI cJ cZ cB cT f_row) o_r True) (va_A (W_F_0t1 qf0 qf1 qf2 qf3 cI cJ cZ cB cT f_row) sz)) 0 0 (va_A (W_F_0t1 qf0 qf1 qf2 qf3 cI cJ cZ cB cT f_row) sz) := by
  refine mMet (Qc := (mQi D (W_F_0t1 qf0 qf1 qf2 qf3 cI cJ cZ cB cT f_row) o_r True)) (by decide) (Nat.le_of_ble_eq_true rfl) (fun p e s m below meth c A ls hx hb hr hml hts hown hlocks hK hA hP hD hl => ?_)
  have hown : s.vm.findClass RX1 = some m.cls := hown
  have hl : lv_has ls 2 [(0, .ref qf0), (1, .int p1)] := hl
  have hS : va_S A s.heap s.heap [] := va_S.rf
  unfold f_X1_entryPerson at hf
  refine lv_aload_n hx hb dX1_entryPerson_0 rfl (lv_at hl 0 rfl) ?_
  refine lv_iload_n hx hb dX1_entryPerson_1 rfl (lv_at hl 1 rfl) ?_
  obtain ⟨r2, hg2, hf⟩ := ob1_some hf
  refine mcV1_i (As := [.int p1]) (rest := []) hx hb hml hown hts hK hP hD hS hA (k_X1_entry l N D cI cJ cZ cB cT qf0 qf1 qf2 qf3 f_row p1 r2 hg2) (kwX1_55 hts rfl rfl ⟨Nat.le_of_ble_eq_true rfl, Nat.le_of_ble_eq_true rfl⟩) 0 rfl rfl rfl rfl hl.1 rfl (Nat.le_of_ble_eq_true rfl) dX1_entryPerson_2 ⟨Nat.zero_le _, Nat.zero_le _⟩ (fun hB2 H locs hP hD hS => ?_)
  have hP : va_P D vwCl (W_F_0t1 qf0 qf1 qf2 qf3 cI cJ cZ cB cT f_row) H := hP
  have hD : va_D A (W_F_0t1 qf0 qf1 qf2 qf3 cI cJ cZ cB cT f_row) := hD
  refine lv_bipush (v := (8 : Int32)) hx hb dX1_entryPerson_5 (by decide) ?_
  refine xidiv hx hb dX1_entryPerson_7 hf (fun v7 hf => ?_)
  refine lv_bipush (v := (8 : Int32)) hx hb dX1_entryPerson_8 (by decide) ?_
  refine xirem hx hb dX1_entryPerson_10 hf (fun v10 hf => ?_)
  cases hf
  exact mret_i hx hb hr hlocks hP hD hS dX1_entryPerson_11 rfl trivial
theorem dX1_entryWhat_0 : decode cX1_entryWhat 0 = .ok (.aload_n 0, 1) := by decide +kernel
theorem dX1_entryWhat_1 : decode cX1_entryWhat 1 = .ok (.iload_n 1, 1) := by decide +kernel
theorem dX1_entryWhat_2 : decode cX1_entryWhat 2 = .ok (.invokevirtual 55, 3) := by decide +kernel
theorem dX1_entryWhat_5 : decode cX1_entryWhat 5 = .ok (.bipush 8, 2) := by decide +kernel
theorem dX1_entryWhat_7 : decode cX1_entryWhat 7 = .ok (.irem, 1) := by decide +kernel
theorem dX1_entryWhat_8 : decode cX1_entryWhat 8 = .ok (.ireturn, 1) := by decide +kernel
def f_X1_entryWhat (N : Nat) (f_row : Nat → Int32) (p1 : Int32) : Option (Int32) := ob1 (f_X1_entry N f_row p1) fun r2 => rmI r2 (8 : Int32) fun v7 => some v7
set_option maxHeartbeats 4000000 in
set_option maxRecDepth 100000 in
theorem k_X1_entryWhat (l : Launch) (N : Nat) (D : va_G) (cI cJ cZ cB cT : ClassId) (qf0 : Nat) (qf1 : Nat) (qf2 : Nat) (qf3 : Nat) (f_row : Nat → Int32) (p1 : Int32) (o_r : Int32) (hf : f_X1_entryWhat N f_row p1 = some o_r) : ∀ sz, Met l yX1_entryWhat (mw yX1_entryWhat cX1_entryWhat 2 (some .int)) ({ frames := 1, cells := 0, slots := 0, locals := 21 } : Room) (mPre D (mT cI cJ cZ cB cT) (W_F_0t1 qf0 qf1 qf2 qf3 cI cJ cZ cB cT f_row) sz [.ref qf0, .int p1]) ((mQi D (W_F_0t1 qf0 qf1 qf2 qf3 cI cJ cZ cB cT f_row) o_r True) (va_A (W_F_0t1 qf0 qf1 qf2 qf3 cI cJ cZ cB cT f_row) sz)) 0 0 (va_A (W_F_0t1 qf0 qf1 qf2 qf3 cI cJ cZ cB cT f_row) sz) := by
  refine mMet (Qc := (mQi D (W_F_0t1 qf0 qf1 qf2 qf3 cI cJ cZ cB cT f_row) o_r True)) (by decide) (Nat.le_of_ble_eq_true rfl) (fun p e s m below meth c A ls hx hb hr hml hts hown hlocks hK hA hP hD hl => ?_)
  have hown : s.vm.findClass RX1 = some m.cls := hown
  have hl : lv_has ls 2 [(0, .ref qf0), (1, .int p1)] := hl
  have hS : va_S A s.heap s.heap [] := va_S.rf
  unfold f_X1_entryWhat at hf
  refine lv_aload_n hx hb dX1_entryWhat_0 rfl (lv_at hl 0 rfl) ?_
  refine lv_iload_n hx hb dX1_entryWhat_1 rfl (lv_at hl 1 rfl) ?_
  obtain ⟨r2, hg2, hf⟩ := ob1_some hf
  refine mcV1_i (As := [.int p1]) (rest := []) hx hb hml hown hts hK hP hD hS hA (k_X1_entry l N D cI cJ cZ cB cT qf0 qf1 qf2 qf3 f_row p1 r2 hg2) (kwX1_55 hts rfl rfl ⟨Nat.le_of_ble_eq_true rfl, Nat.le_of_ble_eq_true rfl⟩) 0 rfl rfl rfl rfl hl.1 rfl (Nat.le_of_ble_eq_true rfl) dX1_entryWhat_2 ⟨Nat.zero_le _, Nat.zero_le _⟩ (fun hB2 H locs hP hD hS => ?_)
  have hP : va_P D vwCl (W_F_0t1 qf0 qf1 qf2 qf3 cI cJ cZ cB cT f_row) H := hP
  have hD : va_D A (W_F_0t1 qf0 qf1 qf2 qf3 cI cJ cZ cB cT f_row) := hD
  refine lv_bipush (v := (8 : Int32)) hx hb dX1_entryWhat_5 (by decide) ?_
  refine xirem hx hb dX1_entryWhat_7 hf (fun v7 hf => ?_)
  cases hf
  exact mret_i hx hb hr hlocks hP hD hS dX1_entryWhat_8 rfl trivial
theorem dX2_become_0 : decode cX2_become 0 = .ok (.aload_n 0, 1) := by decide +kernel
theorem dX2_become_1 : decode cX2_become 1 = .ok (.aload_n 1, 1) := by decide +kernel
theorem dX2_become_2 : decode cX2_become 2 = .ok (.getfield 9, 3) := by decide +kernel
theorem dX2_become_5 : decode cX2_become 5 = .ok (.putfield 9, 3) := by decide +kernel
theorem dX2_become_8 : decode cX2_become 8 = .ok (.aload_n 1, 1) := by decide +kernel
theorem dX2_become_9 : decode cX2_become 9 = .ok (.getfield 15, 3) := by decide +kernel
theorem dX2_become_12 : decode cX2_become 12 = .ok (.iconst 0, 1) := by decide +kernel
theorem dX2_become_13 : decode cX2_become 13 = .ok (.aload_n 0, 1) := by decide +kernel
theorem dX2_become_14 : decode cX2_become 14 = .ok (.getfield 15, 3) := by decide +kernel
theorem dX2_become_17 : decode cX2_become 17 = .ok (.iconst 0, 1) := by decide +kernel
theorem dX2_become_18 : decode cX2_become 18 = .ok (.bipush 8, 2) := by decide +kernel
theorem dX2_become_20 : decode cX2_become 20 = .ok (.invokestatic 22, 3) := by decide +kernel
theorem dX2_become_23 : decode cX2_become 23 = .ok (.aload_n 1, 1) := by decide +kernel
theorem dX2_become_24 : decode cX2_become 24 = .ok (.getfield 19, 3) := by decide +kernel
theorem dX2_become_27 : decode cX2_become 27 = .ok (.iconst 0, 1) := by decide +kernel
theorem dX2_become_28 : decode cX2_become 28 = .ok (.aload_n 0, 1) := by decide +kernel
theorem dX2_become_29 : decode cX2_become 29 = .ok (.getfield 19, 3) := by decide +kernel
theorem dX2_become_32 : decode cX2_become 32 = .ok (.iconst 0, 1) := by decide +kernel
theorem dX2_become_33 : decode cX2_become 33 = .ok (.bipush 8, 2) := by decide +kernel
theorem dX2_become_35 : decode cX2_become 35 = .ok (.invokestatic 22, 3) := by decide +kernel
theorem dX2_become_38 : decode cX2_become 38 = .ok (.return_, 1) := by decide +kernel
def f_X2_become (N : Nat) (d_n : Int32) (d_for : Nat → Int32) (d_road : Nat → Int32) (c_n : Int32) (c_for : Nat → Int32) (c_road : Nat → Int32) : Option (Int32 × (Nat → Int32) × (Nat → Int32)) := cpI c_for 8 d_for 8 (0 : Int32) (0 : Int32) (8 : Int32) fun d_for_20 => cpI c_road 8 d_road 8 (0 : Int32) (0 : Int32) (8 : Int32) fun d_road_35 => some (c_n, d_for_20, d_road_35)
set_option maxHeartbeats 4000000 in
set_option maxRecDepth 100000 in
theorem k_X2_become (l : Launch) (N : Nat) (D : va_G) (cI cJ cZ cB cT : ClassId) (qd0 : Nat) (qd1 : Nat) (qd2 : Nat) (qc0 : Nat) (qc1 : Nat) (qc2 : Nat) (d_n : Int32) (d_for : Nat → Int32) (d_road : Nat → Int32) (c_n : Int32) (c_for : Nat → Int32) (c_road : Nat → Int32) (o_d_n : Int32) (o_d_for : Nat → Int32) (o_d_road : Nat → Int32) (hf : f_X2_become N d_n d_for d_road c_n c_for c_road = some (o_d_n, o_d_for, o_d_road)) : ∀ sz, Met l yX2_become (mw yX2_become cX2_become 2 none) ({ frames := 1, cells := 0, slots := 0, locals := 60 } : Room) (mPre D (mT cI cJ cZ cB cT) (W_LL_0t5 qd0 qd1 qd2 qc0 qc1 qc2 cI cJ cZ cB cT d_n d_for d_road c_n c_for c_road) sz [.ref qd0, .ref qc0]) ((mQv D (W_LL_0t5 qd0 qd1 qd2 qc0 qc1 qc2 cI cJ cZ cB cT o_d_n o_d_for o_d_road c_n c_for c_road)) (va_A (W_LL_0t5 qd0 qd1 qd2 qc0 qc1 qc2 cI cJ cZ cB cT d_n d_for d_road c_n c_for c_road) sz)) 0 0 (va_A (W_LL_0t5 qd0 qd1 qd2 qc0 qc1 qc2 cI cJ cZ cB cT d_n d_for d_road c_n c_for c_road) sz) := by
  refine mMet (Qc := (mQv D (W_LL_0t5 qd0 qd1 qd2 qc0 qc1 qc2 cI cJ cZ cB cT o_d_n o_d_for o_d_road c_n c_for c_road))) (by decide) (Nat.le_of_ble_eq_true rfl) (fun p e s m below meth c A ls hx hb hr hml hts hown hlocks hK hA hP hD hl => ?_)
  have hown : s.vm.findClass RX2 = some m.cls := hown
  have hl : lv_has ls 2 [(0, .ref qd0), (1, .ref qc0)] := hl
  have hS : va_S A s.heap s.heap [] := va_S.rf
  unfold f_X2_become at hf
  refine lv_aload_n hx hb dX2_become_0 rfl (lv_at hl 0 rfl) ?_
  refine lv_aload_n hx hb dX2_become_1 rfl (lv_at hl 1 rfl) ?_
  refine gfX2_9 hx hb hts hown hK hP 3 rfl rfl dX2_become_2 ?_
  refine pfX2_9 hx hb hts hown hK hP hD hS 0 rfl (Nat.le_of_ble_eq_true rfl) dX2_become_5 (fun H locs hP hD hS => ?_)
  have hP : va_P D vwCl (W_LL_0t5 qd0 qd1 qd2 qc0 qc1 qc2 cI cJ cZ cB cT c_n d_for d_road c_n c_for c_road) H := hP
  have hD : va_D A (W_LL_0t5 qd0 qd1 qd2 qc0 qc1 qc2 cI cJ cZ cB cT c_n d_for d_road c_n c_for c_road) := hD
  refine lv_aload_n hx hb dX2_become_8 rfl (lv_at hl 1 rfl) ?_
  refine gfX2_15 hx hb hts hown hK hP 3 rfl rfl dX2_become_9 ?_
  refine lv_iconst (v := (0 : Int32)) hx hb dX2_become_12 (by decide) ?_
  refine lv_aload_n hx hb dX2_become_13 rfl (lv_at hl 0 rfl) ?_
  refine gfX2_15 hx hb hts hown hK hP 0 rfl rfl dX2_become_14 ?_
  refine lv_iconst (v := (0 : Int32)) hx hb dX2_become_17 (by decide) ?_
  refine lv_bipush (v := (8 : Int32)) hx hb dX2_become_18 (by decide) ?_
  refine xcopy hx hb hml hl.1 hown hts cpwX2_22 hK hP hD hS 4 1 0 0 rfl rfl rfl rfl (Nat.le_of_ble_eq_true rfl) (by decide) dX2_become_20 hf (fun d_for_20 hf H locs hP hD hS => ?_)
  have hP : va_P D vwCl (W_LL_0t5 qd0 qd1 qd2 qc0 qc1 qc2 cI cJ cZ cB cT c_n d_for_20 d_road c_n c_for c_road) H := hP
  have hD : va_D A (W_LL_0t5 qd0 qd1 qd2 qc0 qc1 qc2 cI cJ cZ cB cT c_n d_for_20 d_road c_n c_for c_road) := hD
  refine lv_aload_n hx hb dX2_become_23 rfl (lv_at hl 1 rfl) ?_
  refine gfX2_19 hx hb hts hown hK hP 3 rfl rfl dX2_become_24 ?_
  refine lv_iconst (v := (0 : Int32)) hx hb dX2_become_27 (by decide) ?_
  refine lv_aload_n hx hb dX2_become_28 rfl (lv_at hl 0 rfl) ?_
  refine gfX2_19 hx hb hts hown hK hP 0 rfl rfl dX2_become_29 ?_
  refine lv_iconst (v := (0 : Int32)) hx hb dX2_become_32 (by decide) ?_
  refine lv_bipush (v := (8 : Int32)) hx hb dX2_become_33 (by decide) ?_
  refine xcopy hx hb hml hl.1 hown hts cpwX2_22 hK hP hD hS 5 2 0 0 rfl rfl rfl rfl (Nat.le_of_ble_eq_true rfl) (by decide) dX2_become_35 hf (fun d_road_35 hf H locs hP hD hS => ?_)
  have hP : va_P D vwCl (W_LL_0t5 qd0 qd1 qd2 qc0 qc1 qc2 cI cJ cZ cB cT c_n d_for_20 d_road_35 c_n c_for c_road) H := hP
  have hD : va_D A (W_LL_0t5 qd0 qd1 qd2 qc0 qc1 qc2 cI cJ cZ cB cT c_n d_for_20 d_road_35 c_n c_for c_road) := hD
  cases hf
  exact mret_v hx hb hr hlocks hP hD hS dX2_become_38
theorem dX2_told_0 : decode cX2_told 0 = .ok (.iload_n 1, 1) := by decide +kernel
theorem dX2_told_1 : decode cX2_told 1 = .ok (.ifCond .lt 21, 3) := by decide +kernel
theorem dX2_told_4 : decode cX2_told 4 = .ok (.iload_n 1, 1) := by decide +kernel
theorem dX2_told_5 : decode cX2_told 5 = .ok (.aload_n 0, 1) := by decide +kernel
theorem dX2_told_6 : decode cX2_told 6 = .ok (.getfield 9, 3) := by decide +kernel
theorem dX2_told_9 : decode cX2_told 9 = .ok (.if_icmp .ge 13, 3) := by decide +kernel
theorem dX2_told_12 : decode cX2_told 12 = .ok (.iload_n 1, 1) := by decide +kernel
theorem dX2_told_13 : decode cX2_told 13 = .ok (.bipush 8, 2) := by decide +kernel
theorem dX2_told_15 : decode cX2_told 15 = .ok (.if_icmp .ge 7, 3) := by decide +kernel
theorem dX2_told_18 : decode cX2_told 18 = .ok (.iconst 1, 1) := by decide +kernel
theorem dX2_told_19 : decode cX2_told 19 = .ok (.goto 4, 3) := by decide +kernel
theorem dX2_told_22 : decode cX2_told 22 = .ok (.iconst 0, 1) := by decide +kernel
theorem dX2_told_23 : decode cX2_told 23 = .ok (.ireturn, 1) := by decide +kernel
def f_X2_told (N : Nat) (d_n : Int32) (p1 : Int32) : Option (Int32) := if p1 < 0 then (some (0 : Int32)) else (if d_n ≤ p1 then (some (0 : Int32)) else (if (8 : Int32) ≤ p1 then (some (0 : Int32)) else (some (1 : Int32))))
set_option maxHeartbeats 4000000 in
set_option maxRecDepth 100000 in
theorem k_X2_told (l : Launch) (N : Nat) (D : va_G) (cI cJ cZ cB cT : ClassId) (qd0 : Nat) (qd1 : Nat) (qd2 : Nat) (d_n : Int32) (p1 : Int32) (o_r : Int32) (hf : f_X2_told N d_n p1 = some o_r) : ∀ sz, Met l yX2_told (mw yX2_told cX2_told 2 (some .boolean)) ({ frames := 0, cells := 0, slots := 0, locals := 0 } : Room) (mPre D (mT cI cJ cZ cB cT) (W_L_0 qd0 qd1 qd2 cI cJ cZ cB cT d_n) sz [.ref qd0, .int p1]) ((mQi D (W_L_0 qd0 qd1 qd2 cI cJ cZ cB cT d_n) o_r (mB o_r)) (va_A (W_L_0 qd0 qd1 qd2 cI cJ cZ cB cT d_n) sz)) 0 0 (va_A (W_L_0 qd0 qd1 qd2 cI cJ cZ cB cT d_n) sz) := by
  refine mMet (Qc := (mQi D (W_L_0 qd0 qd1 qd2 cI cJ cZ cB cT d_n) o_r (mB o_r))) (by decide) (Nat.le_of_ble_eq_true rfl) (fun p e s m below meth c A ls hx hb hr hml hts hown hlocks hK hA hP hD hl => ?_)
  have hown : s.vm.findClass RX2 = some m.cls := hown
  have hl : lv_has ls 2 [(0, .ref qd0), (1, .int p1)] := hl
  have hS : va_S A s.heap s.heap [] := va_S.rf
  unfold f_X2_told at hf
  refine lv_iload_n hx hb dX2_told_0 rfl (lv_at hl 1 rfl) ?_
  refine xif_lt hx hb 22 dX2_told_1 (by decide) hf (fun hf => ?_) (fun hf => ?_)
  · refine lv_iconst (v := (0 : Int32)) hx hb dX2_told_22 (by decide) ?_
    cases hf
    exact mret_z hx hb hr hlocks hP hD hS dX2_told_23 rfl rfl
  · refine lv_iload_n hx hb dX2_told_4 rfl (lv_at hl 1 rfl) ?_
    refine lv_aload_n hx hb dX2_told_5 rfl (lv_at hl 0 rfl) ?_
    refine gfX2_9 hx hb hts hown hK hP 0 rfl rfl dX2_told_6 ?_
    refine xicmp_ge hx hb 22 dX2_told_9 (by decide) hf (fun hf => ?_) (fun hf => ?_)
    · refine lv_iconst (v := (0 : Int32)) hx hb dX2_told_22 (by decide) ?_
      cases hf
      exact mret_z hx hb hr hlocks hP hD hS dX2_told_23 rfl rfl
    · refine lv_iload_n hx hb dX2_told_12 rfl (lv_at hl 1 rfl) ?_
      refine lv_bipush (v := (8 : Int32)) hx hb dX2_told_13 (by decide) ?_
      refine xicmp_ge hx hb 22 dX2_told_15 (by decide) hf (fun hf => ?_) (fun hf => ?_)
      · refine lv_iconst (v := (0 : Int32)) hx hb dX2_told_22 (by decide) ?_
        cases hf
        exact mret_z hx hb hr hlocks hP hD hS dX2_told_23 rfl rfl
      · refine lv_iconst (v := (1 : Int32)) hx hb dX2_told_18 (by decide) ?_
        refine lv_goto (tgt := 23) hx hb dX2_told_19 (by decide) ?_
        cases hf
        exact mret_z hx hb hr hlocks hP hD hS dX2_told_23 rfl rfl
theorem dX2_tell_0 : decode cX2_tell 0 = .ok (.iload_n 1, 1) := by decide +kernel
theorem dX2_tell_1 : decode cX2_tell 1 = .ok (.ifCond .lt 25, 3) := by decide +kernel
theorem dX2_tell_4 : decode cX2_tell 4 = .ok (.iload_n 1, 1) := by decide +kernel
theorem dX2_tell_5 : decode cX2_tell 5 = .ok (.bipush 9, 2) := by decide +kernel
theorem dX2_tell_7 : decode cX2_tell 7 = .ok (.if_icmp .gt 19, 3) := by decide +kernel
theorem dX2_tell_10 : decode cX2_tell 10 = .ok (.aload_n 0, 1) := by decide +kernel
theorem dX2_tell_11 : decode cX2_tell 11 = .ok (.getfield 9, 3) := by decide +kernel
theorem dX2_tell_14 : decode cX2_tell 14 = .ok (.ifCond .lt 12, 3) := by decide +kernel
theorem dX2_tell_17 : decode cX2_tell 17 = .ok (.aload_n 0, 1) := by decide +kernel
theorem dX2_tell_18 : decode cX2_tell 18 = .ok (.getfield 9, 3) := by decide +kernel
theorem dX2_tell_21 : decode cX2_tell 21 = .ok (.bipush 8, 2) := by decide +kernel
theorem dX2_tell_23 : decode cX2_tell 23 = .ok (.if_icmp .lt 5, 3) := by decide +kernel
theorem dX2_tell_26 : decode cX2_tell 26 = .ok (.iconst (-1), 1) := by decide +kernel
theorem dX2_tell_27 : decode cX2_tell 27 = .ok (.ireturn, 1) := by decide +kernel
theorem dX2_tell_28 : decode cX2_tell 28 = .ok (.aload_n 0, 1) := by decide +kernel
theorem dX2_tell_29 : decode cX2_tell 29 = .ok (.getfield 15, 3) := by decide +kernel
theorem dX2_tell_32 : decode cX2_tell 32 = .ok (.aload_n 0, 1) := by decide +kernel
theorem dX2_tell_33 : decode cX2_tell 33 = .ok (.getfield 9, 3) := by decide +kernel
theorem dX2_tell_36 : decode cX2_tell 36 = .ok (.iload_n 1, 1) := by decide +kernel
theorem dX2_tell_37 : decode cX2_tell 37 = .ok (.iastore, 1) := by decide +kernel
theorem dX2_tell_38 : decode cX2_tell 38 = .ok (.aload_n 0, 1) := by decide +kernel
theorem dX2_tell_39 : decode cX2_tell 39 = .ok (.dup, 1) := by decide +kernel
theorem dX2_tell_40 : decode cX2_tell 40 = .ok (.getfield 9, 3) := by decide +kernel
theorem dX2_tell_43 : decode cX2_tell 43 = .ok (.iconst 1, 1) := by decide +kernel
theorem dX2_tell_44 : decode cX2_tell 44 = .ok (.iadd, 1) := by decide +kernel
theorem dX2_tell_45 : decode cX2_tell 45 = .ok (.putfield 9, 3) := by decide +kernel
theorem dX2_tell_48 : decode cX2_tell 48 = .ok (.aload_n 0, 1) := by decide +kernel
theorem dX2_tell_49 : decode cX2_tell 49 = .ok (.getfield 9, 3) := by decide +kernel
theorem dX2_tell_52 : decode cX2_tell 52 = .ok (.iconst 1, 1) := by decide +kernel
theorem dX2_tell_53 : decode cX2_tell 53 = .ok (.isub, 1) := by decide +kernel
theorem dX2_tell_54 : decode cX2_tell 54 = .ok (.ireturn, 1) := by decide +kernel
def f_X2_tell (N : Nat) (d_n : Int32) (d_for : Nat → Int32) (p1 : Int32) : Option (Int32 × Int32 × (Nat → Int32)) := if p1 < 0 then (some ((-1 : Int32), d_n, d_for)) else (if (9 : Int32) < p1 then (some ((-1 : Int32), d_n, d_for)) else (if d_n < 0 then (some ((-1 : Int32), d_n, d_for)) else (if d_n < (8 : Int32) then (sA d_for 8 d_n p1 fun d_for_37 => some (((d_n + (1 : Int32)) - (1 : Int32)), (d_n + (1 : Int32)), d_for_37)) else (some ((-1 : Int32), d_n, d_for)))))
set_option maxHeartbeats 4000000 in
set_option maxRecDepth 100000 in
theorem k_X2_tell (l : Launch) (N : Nat) (D : va_G) (cI cJ cZ cB cT : ClassId) (qd0 : Nat) (qd1 : Nat) (qd2 : Nat) (d_n : Int32) (d_for : Nat → Int32) (p1 : Int32) (o_r : Int32) (o_d_n : Int32) (o_d_for : Nat → Int32) (hf : f_X2_tell N d_n d_for p1 = some (o_r, o_d_n, o_d_for)) : ∀ sz, Met l yX2_tell (mw yX2_tell cX2_tell 2 (some .int)) ({ frames := 0, cells := 0, slots := 0, locals := 0 } : Room) (mPre D (mT cI cJ cZ cB cT) (W_L_0t1 qd0 qd1 qd2 cI cJ cZ cB cT d_n d_for) sz [.ref qd0, .int p1]) ((mQi D (W_L_0t1 qd0 qd1 qd2 cI cJ cZ cB cT o_d_n o_d_for) o_r True) (va_A (W_L_0t1 qd0 qd1 qd2 cI cJ cZ cB cT d_n d_for) sz)) 0 0 (va_A (W_L_0t1 qd0 qd1 qd2 cI cJ cZ cB cT d_n d_for) sz) := by
  refine mMet (Qc := (mQi D (W_L_0t1 qd0 qd1 qd2 cI cJ cZ cB cT o_d_n o_d_for) o_r True)) (by decide) (Nat.le_of_ble_eq_true rfl) (fun p e s m below meth c A ls hx hb hr hml hts hown hlocks hK hA hP hD hl => ?_)
  have hown : s.vm.findClass RX2 = some m.cls := hown
  have hl : lv_has ls 2 [(0, .ref qd0), (1, .int p1)] := hl
  have hS : va_S A s.heap s.heap [] := va_S.rf
  unfold f_X2_tell at hf
  refine lv_iload_n hx hb dX2_tell_0 rfl (lv_at hl 1 rfl) ?_
  refine xif_lt hx hb 26 dX2_tell_1 (by decide) hf (fun hf => ?_) (fun hf => ?_)
  · refine lv_iconst (v := (-1 : Int32)) hx hb dX2_tell_26 (by decide) ?_
    cases hf
    exact mret_i hx hb hr hlocks hP hD hS dX2_tell_27 rfl trivial
  · refine lv_iload_n hx hb dX2_tell_4 rfl (lv_at hl 1 rfl) ?_
    refine lv_bipush (v := (9 : Int32)) hx hb dX2_tell_5 (by decide) ?_
    refine xicmp_gt hx hb 26 dX2_tell_7 (by decide) hf (fun hf => ?_) (fun hf => ?_)
    · refine lv_iconst (v := (-1 : Int32)) hx hb dX2_tell_26 (by decide) ?_
      cases hf
      exact mret_i hx hb hr hlocks hP hD hS dX2_tell_27 rfl trivial
    · refine lv_aload_n hx hb dX2_tell_10 rfl (lv_at hl 0 rfl) ?_
      refine gfX2_9 hx hb hts hown hK hP 0 rfl rfl dX2_tell_11 ?_
      refine xif_lt hx hb 26 dX2_tell_14 (by decide) hf (fun hf => ?_) (fun hf => ?_)
      · refine lv_iconst (v := (-1 : Int32)) hx hb dX2_tell_26 (by decide) ?_
        cases hf
        exact mret_i hx hb hr hlocks hP hD hS dX2_tell_27 rfl trivial
      · refine lv_aload_n hx hb dX2_tell_17 rfl (lv_at hl 0 rfl) ?_
        refine gfX2_9 hx hb hts hown hK hP 0 rfl rfl dX2_tell_18 ?_
        refine lv_bipush (v := (8 : Int32)) hx hb dX2_tell_21 (by decide) ?_
        refine xicmp_lt hx hb 28 dX2_tell_23 (by decide) hf (fun hf => ?_) (fun hf => ?_)
        · refine lv_aload_n hx hb dX2_tell_28 rfl (lv_at hl 0 rfl) ?_
          refine gfX2_15 hx hb hts hown hK hP 0 rfl rfl dX2_tell_29 ?_
          refine lv_aload_n hx hb dX2_tell_32 rfl (lv_at hl 0 rfl) ?_
          refine gfX2_9 hx hb hts hown hK hP 0 rfl rfl dX2_tell_33 ?_
          refine lv_iload_n hx hb dX2_tell_36 rfl (lv_at hl 1 rfl) ?_
          refine xiast hx hb hK hP hD hS 1 0 rfl rfl dX2_tell_37 hf (fun d_for_37 hf H locs hP hD hS => ?_)
          have hP : va_P D vwCl (W_L_0t1 qd0 qd1 qd2 cI cJ cZ cB cT d_n d_for_37) H := hP
          have hD : va_D A (W_L_0t1 qd0 qd1 qd2 cI cJ cZ cB cT d_n d_for_37) := hD
          refine lv_aload_n hx hb dX2_tell_38 rfl (lv_at hl 0 rfl) ?_
          refine lv_dup hx hb dX2_tell_39 rfl ?_
          refine gfX2_9 hx hb hts hown hK hP 0 rfl rfl dX2_tell_40 ?_
          refine lv_iconst (v := (1 : Int32)) hx hb dX2_tell_43 (by decide) ?_
          refine lv_iadd hx hb dX2_tell_44 ?_
          refine pfX2_9 hx hb hts hown hK hP hD hS 0 rfl (Nat.le_of_ble_eq_true rfl) dX2_tell_45 (fun H locs hP hD hS => ?_)
          have hP : va_P D vwCl (W_L_0t1 qd0 qd1 qd2 cI cJ cZ cB cT (d_n + (1 : Int32)) d_for_37) H := hP
          have hD : va_D A (W_L_0t1 qd0 qd1 qd2 cI cJ cZ cB cT (d_n + (1 : Int32)) d_for_37) := hD
          refine lv_aload_n hx hb dX2_tell_48 rfl (lv_at hl 0 rfl) ?_
          refine gfX2_9 hx hb hts hown hK hP 0 rfl rfl dX2_tell_49 ?_
          refine lv_iconst (v := (1 : Int32)) hx hb dX2_tell_52 (by decide) ?_
          refine lv_isub hx hb dX2_tell_53 ?_
          cases hf
          exact mret_i hx hb hr hlocks hP hD hS dX2_tell_54 rfl trivial
        · refine lv_iconst (v := (-1 : Int32)) hx hb dX2_tell_26 (by decide) ?_
          cases hf
          exact mret_i hx hb hr hlocks hP hD hS dX2_tell_27 rfl trivial
theorem dX2_joined_0 : decode cX2_joined 0 = .ok (.aload_n 0, 1) := by decide +kernel
theorem dX2_joined_1 : decode cX2_joined 1 = .ok (.iload_n 1, 1) := by decide +kernel
theorem dX2_joined_2 : decode cX2_joined 2 = .ok (.invokevirtual 28, 3) := by decide +kernel
theorem dX2_joined_5 : decode cX2_joined 5 = .ok (.ifCond .eq 29, 3) := by decide +kernel
theorem dX2_joined_8 : decode cX2_joined 8 = .ok (.aload_n 0, 1) := by decide +kernel
theorem dX2_joined_9 : decode cX2_joined 9 = .ok (.iload_n 2, 1) := by decide +kernel
theorem dX2_joined_10 : decode cX2_joined 10 = .ok (.invokevirtual 28, 3) := by decide +kernel
theorem dX2_joined_13 : decode cX2_joined 13 = .ok (.ifCond .eq 21, 3) := by decide +kernel
theorem dX2_joined_16 : decode cX2_joined 16 = .ok (.aload_n 0, 1) := by decide +kernel
theorem dX2_joined_17 : decode cX2_joined 17 = .ok (.getfield 19, 3) := by decide +kernel
theorem dX2_joined_20 : decode cX2_joined 20 = .ok (.iload_n 1, 1) := by decide +kernel
theorem dX2_joined_21 : decode cX2_joined 21 = .ok (.iaload, 1) := by decide +kernel
theorem dX2_joined_22 : decode cX2_joined 22 = .ok (.iload_n 2, 1) := by decide +kernel
theorem dX2_joined_23 : decode cX2_joined 23 = .ok (.ishr, 1) := by decide +kernel
theorem dX2_joined_24 : decode cX2_joined 24 = .ok (.iconst 1, 1) := by decide +kernel
theorem dX2_joined_25 : decode cX2_joined 25 = .ok (.iand, 1) := by decide +kernel
theorem dX2_joined_26 : decode cX2_joined 26 = .ok (.iconst 1, 1) := by decide +kernel
theorem dX2_joined_27 : decode cX2_joined 27 = .ok (.if_icmp .ne 7, 3) := by decide +kernel
theorem dX2_joined_30 : decode cX2_joined 30 = .ok (.iconst 1, 1) := by decide +kernel
theorem dX2_joined_31 : decode cX2_joined 31 = .ok (.goto 4, 3) := by decide +kernel
theorem dX2_joined_34 : decode cX2_joined 34 = .ok (.iconst 0, 1) := by decide +kernel
theorem dX2_joined_35 : decode cX2_joined 35 = .ok (.ireturn, 1) := by decide +kernel
def f_X2_joined (N : Nat) (d_n : Int32) (d_road : Nat → Int32) (p1 : Int32) (p2 : Int32) : Option (Int32) := ob1 (f_X2_told N d_n p1) fun r2 => if r2 = 0 then (some (0 : Int32)) else (ob1 (f_X2_told N d_n p2) fun r10 => if r10 = 0 then (some (0 : Int32)) else (gA d_road 8 p1 fun v21 => if ((v21 >>> (p2 &&& 31)) &&& (1 : Int32)) = (1 : Int32) then (some (1 : Int32)) else (some (0 : Int32))))
set_option maxHeartbeats 4000000 in
set_option maxRecDepth 100000 in
theorem k_X2_joined (l : Launch) (N : Nat) (D : va_G) (cI cJ cZ cB cT : ClassId) (qd0 : Nat) (qd2 : Nat) (qd1 : Nat) (d_n : Int32) (d_road : Nat → Int32) (p1 : Int32) (p2 : Int32) (o_r : Int32) (hf : f_X2_joined N d_n d_road p1 p2 = some o_r) : ∀ sz, Met l yX2_joined (mw yX2_joined cX2_joined 3 (some .boolean)) ({ frames := 1, cells := 0, slots := 0, locals := 21 } : Room) (mPre D (mT cI cJ cZ cB cT) (W_L_0_2 qd0 qd2 qd1 cI cJ cZ cB cT d_n d_road) sz [.ref qd0, .int p1, .int p2]) ((mQi D (W_L_0_2 qd0 qd2 qd1 cI cJ cZ cB cT d_n d_road) o_r (mB o_r)) (va_A (W_L_0_2 qd0 qd2 qd1 cI cJ cZ cB cT d_n d_road) sz)) 0 0 (va_A (W_L_0_2 qd0 qd2 qd1 cI cJ cZ cB cT d_n d_road) sz) := by
  refine mMet (Qc := (mQi D (W_L_0_2 qd0 qd2 qd1 cI cJ cZ cB cT d_n d_road) o_r (mB o_r))) (by decide) (Nat.le_of_ble_eq_true rfl) (fun p e s m below meth c A ls hx hb hr hml hts hown hlocks hK hA hP hD hl => ?_)
  have hown : s.vm.findClass RX2 = some m.cls := hown
  have hl : lv_has ls 3 [(0, .ref qd0), (1, .int p1), (2, .int p2)] := hl
  have hS : va_S A s.heap s.heap [] := va_S.rf
  unfold f_X2_joined at hf
  refine lv_aload_n hx hb dX2_joined_0 rfl (lv_at hl 0 rfl) ?_
  refine lv_iload_n hx hb dX2_joined_1 rfl (lv_at hl 1 rfl) ?_
  obtain ⟨r2, hg2, hf⟩ := ob1_some hf
  refine mcV_i (wr := [(qd2, .inl (cI, 8, .inl d_road))]) (As := [.int p1]) (rest := []) hx hb hml hown hts hK hP hD hS hA (k_X2_told l N D cI cJ cZ cB cT qd0 qd1 qd2 d_n p1 r2 hg2) (kwX2_28 hts rfl rfl ⟨Nat.le_of_ble_eq_true rfl, Nat.le_of_ble_eq_true rfl⟩) [0] [1] rfl rfl rfl (by decide) rfl 0 rfl rfl rfl rfl hl.1 rfl (Nat.le_of_ble_eq_true rfl) dX2_joined_2 ⟨Nat.zero_le _, Nat.zero_le _⟩ (fun hB2 H locs hP hD hS => ?_)
  have hP := mP_sub (wc := (W_L_0_2 qd0 qd2 qd1 cI cJ cZ cB cT d_n d_road)) hP [1, 0] rfl
  have hD := hD.sub (ws' := (W_L_0_2 qd0 qd2 qd1 cI cJ cZ cB cT d_n d_road)) [1, 0] rfl rfl
  refine xif_eq hx hb 34 dX2_joined_5 (by decide) hf (fun hf => ?_) (fun hf => ?_)
  · refine lv_iconst (v := (0 : Int32)) hx hb dX2_joined_34 (by decide) ?_
    cases hf
    exact mret_z hx hb hr hlocks hP hD hS dX2_joined_35 rfl rfl
  · refine lv_aload_n hx hb dX2_joined_8 rfl (lv_at hl 0 rfl) ?_
    refine lv_iload_n hx hb dX2_joined_9 rfl (lv_at hl 2 rfl) ?_
    obtain ⟨r10, hg10, hf⟩ := ob1_some hf
    refine mcV_i (wr := [(qd2, .inl (cI, 8, .inl d_road))]) (As := [.int p2]) (rest := []) hx hb hml hown hts hK hP hD hS hA (k_X2_told l N D cI cJ cZ cB cT qd0 qd1 qd2 d_n p2 r10 hg10) (kwX2_28 hts rfl rfl ⟨Nat.le_of_ble_eq_true rfl, Nat.le_of_ble_eq_true rfl⟩) [0] [1] rfl rfl rfl (by decide) rfl 0 rfl rfl rfl rfl hl.1 rfl (Nat.le_of_ble_eq_true rfl) dX2_joined_10 ⟨Nat.zero_le _, Nat.zero_le _⟩ (fun hB10 H locs hP hD hS => ?_)
    have hP := mP_sub (wc := (W_L_0_2 qd0 qd2 qd1 cI cJ cZ cB cT d_n d_road)) hP [1, 0] rfl
    have hD := hD.sub (ws' := (W_L_0_2 qd0 qd2 qd1 cI cJ cZ cB cT d_n d_road)) [1, 0] rfl rfl
    refine xif_eq hx hb 34 dX2_joined_13 (by decide) hf (fun hf => ?_) (fun hf => ?_)
    · refine lv_iconst (v := (0 : Int32)) hx hb dX2_joined_34 (by decide) ?_
      cases hf
      exact mret_z hx hb hr hlocks hP hD hS dX2_joined_35 rfl rfl
    · refine lv_aload_n hx hb dX2_joined_16 rfl (lv_at hl 0 rfl) ?_
      refine gfX2_19 hx hb hts hown hK hP 0 rfl rfl dX2_joined_17 ?_
      refine lv_iload_n hx hb dX2_joined_20 rfl (lv_at hl 1 rfl) ?_
      refine xiald hx hb hK hP 1 0 rfl rfl dX2_joined_21 hf (fun v21 hf => ?_)
      refine lv_iload_n hx hb dX2_joined_22 rfl (lv_at hl 2 rfl) ?_
      refine lv_ishr hx hb dX2_joined_23 ?_
      refine lv_iconst (v := (1 : Int32)) hx hb dX2_joined_24 (by decide) ?_
      refine lv_iand hx hb dX2_joined_25 ?_
      refine lv_iconst (v := (1 : Int32)) hx hb dX2_joined_26 (by decide) ?_
      refine xicmp_ne hx hb 34 dX2_joined_27 (by decide) hf (fun hf => ?_) (fun hf => ?_)
      · refine lv_iconst (v := (1 : Int32)) hx hb dX2_joined_30 (by decide) ?_
        refine lv_goto (tgt := 35) hx hb dX2_joined_31 (by decide) ?_
        cases hf
        exact mret_z hx hb hr hlocks hP hD hS dX2_joined_35 rfl rfl
      · refine lv_iconst (v := (0 : Int32)) hx hb dX2_joined_34 (by decide) ?_
        cases hf
        exact mret_z hx hb hr hlocks hP hD hS dX2_joined_35 rfl rfl
theorem dX2_join_0 : decode cX2_join 0 = .ok (.aload_n 0, 1) := by decide +kernel
theorem dX2_join_1 : decode cX2_join 1 = .ok (.iload_n 1, 1) := by decide +kernel
theorem dX2_join_2 : decode cX2_join 2 = .ok (.invokevirtual 28, 3) := by decide +kernel
theorem dX2_join_5 : decode cX2_join 5 = .ok (.ifCond .eq 25, 3) := by decide +kernel
theorem dX2_join_8 : decode cX2_join 8 = .ok (.aload_n 0, 1) := by decide +kernel
theorem dX2_join_9 : decode cX2_join 9 = .ok (.iload_n 2, 1) := by decide +kernel
theorem dX2_join_10 : decode cX2_join 10 = .ok (.invokevirtual 28, 3) := by decide +kernel
theorem dX2_join_13 : decode cX2_join 13 = .ok (.ifCond .eq 17, 3) := by decide +kernel
theorem dX2_join_16 : decode cX2_join 16 = .ok (.iload_n 1, 1) := by decide +kernel
theorem dX2_join_17 : decode cX2_join 17 = .ok (.iload_n 2, 1) := by decide +kernel
theorem dX2_join_18 : decode cX2_join 18 = .ok (.if_icmp .eq 12, 3) := by decide +kernel
theorem dX2_join_21 : decode cX2_join 21 = .ok (.aload_n 0, 1) := by decide +kernel
theorem dX2_join_22 : decode cX2_join 22 = .ok (.iload_n 1, 1) := by decide +kernel
theorem dX2_join_23 : decode cX2_join 23 = .ok (.iload_n 2, 1) := by decide +kernel
theorem dX2_join_24 : decode cX2_join 24 = .ok (.invokevirtual 32, 3) := by decide +kernel
theorem dX2_join_27 : decode cX2_join 27 = .ok (.ifCond .eq 5, 3) := by decide +kernel
theorem dX2_join_30 : decode cX2_join 30 = .ok (.iconst 0, 1) := by decide +kernel
theorem dX2_join_31 : decode cX2_join 31 = .ok (.ireturn, 1) := by decide +kernel
theorem dX2_join_32 : decode cX2_join 32 = .ok (.aload_n 0, 1) := by decide +kernel
theorem dX2_join_33 : decode cX2_join 33 = .ok (.getfield 19, 3) := by decide +kernel
theorem dX2_join_36 : decode cX2_join 36 = .ok (.iload_n 1, 1) := by decide +kernel
theorem dX2_join_37 : decode cX2_join 37 = .ok (.dup2, 1) := by decide +kernel
theorem dX2_join_38 : decode cX2_join 38 = .ok (.iaload, 1) := by decide +kernel
theorem dX2_join_39 : decode cX2_join 39 = .ok (.iconst 1, 1) := by decide +kernel
theorem dX2_join_40 : decode cX2_join 40 = .ok (.iload_n 2, 1) := by decide +kernel
theorem dX2_join_41 : decode cX2_join 41 = .ok (.ishl, 1) := by decide +kernel
theorem dX2_join_42 : decode cX2_join 42 = .ok (.ior, 1) := by decide +kernel
theorem dX2_join_43 : decode cX2_join 43 = .ok (.iastore, 1) := by decide +kernel
theorem dX2_join_44 : decode cX2_join 44 = .ok (.aload_n 0, 1) := by decide +kernel
theorem dX2_join_45 : decode cX2_join 45 = .ok (.getfield 19, 3) := by decide +kernel
theorem dX2_join_48 : decode cX2_join 48 = .ok (.iload_n 2, 1) := by decide +kernel
theorem dX2_join_49 : decode cX2_join 49 = .ok (.dup2, 1) := by decide +kernel
theorem dX2_join_50 : decode cX2_join 50 = .ok (.iaload, 1) := by decide +kernel
theorem dX2_join_51 : decode cX2_join 51 = .ok (.iconst 1, 1) := by decide +kernel
theorem dX2_join_52 : decode cX2_join 52 = .ok (.iload_n 1, 1) := by decide +kernel
theorem dX2_join_53 : decode cX2_join 53 = .ok (.ishl, 1) := by decide +kernel
theorem dX2_join_54 : decode cX2_join 54 = .ok (.ior, 1) := by decide +kernel
theorem dX2_join_55 : decode cX2_join 55 = .ok (.iastore, 1) := by decide +kernel
theorem dX2_join_56 : decode cX2_join 56 = .ok (.iconst 1, 1) := by decide +kernel
theorem dX2_join_57 : decode cX2_join 57 = .ok (.ireturn, 1) := by decide +kernel
def f_X2_join (N : Nat) (d_n : Int32) (d_road : Nat → Int32) (p1 : Int32) (p2 : Int32) : Option (Int32 × (Nat → Int32)) := ob1 (f_X2_told N d_n p1) fun r2 => if r2 = 0 then (some ((0 : Int32), d_road)) else (ob1 (f_X2_told N d_n p2) fun r10 => if r10 = 0 then (some ((0 : Int32), d_road)) else (if p1 = p2 then (some ((0 : Int32), d_road)) else (ob1 (f_X2_joined N d_n d_road p1 p2) fun r24 => if r24 = 0 then (gA d_road 8 p1 fun v38 => sA d_road 8 p1 (v38 ||| ((1 : Int32) <<< (p2 &&& 31))) fun d_road_43 => gA d_road_43 8 p2 fun v50 => sA d_road_43 8 p2 (v50 ||| ((1 : Int32) <<< (p1 &&& 31))) fun d_road_55 => some ((1 : Int32), d_road_55)) else (some ((0 : Int32), d_road)))))
set_option maxHeartbeats 4000000 in
set_option maxRecDepth 100000 in
theorem k_X2_join (l : Launch) (N : Nat) (D : va_G) (cI cJ cZ cB cT : ClassId) (qd0 : Nat) (qd2 : Nat) (qd1 : Nat) (d_n : Int32) (d_road : Nat → Int32) (p1 : Int32) (p2 : Int32) (o_r : Int32) (o_d_road : Nat → Int32) (hf : f_X2_join N d_n d_road p1 p2 = some (o_r, o_d_road)) : ∀ sz, Met l yX2_join (mw yX2_join cX2_join 3 (some .boolean)) ({ frames := 2, cells := 0, slots := 0, locals := 43 } : Room) (mPre D (mT cI cJ cZ cB cT) (W_L_0_2 qd0 qd2 qd1 cI cJ cZ cB cT d_n d_road) sz [.ref qd0, .int p1, .int p2]) ((mQi D (W_L_0_2 qd0 qd2 qd1 cI cJ cZ cB cT d_n o_d_road) o_r (mB o_r)) (va_A (W_L_0_2 qd0 qd2 qd1 cI cJ cZ cB cT d_n d_road) sz)) 0 0 (va_A (W_L_0_2 qd0 qd2 qd1 cI cJ cZ cB cT d_n d_road) sz) := by
  refine mMet (Qc := (mQi D (W_L_0_2 qd0 qd2 qd1 cI cJ cZ cB cT d_n o_d_road) o_r (mB o_r))) (by decide) (Nat.le_of_ble_eq_true rfl) (fun p e s m below meth c A ls hx hb hr hml hts hown hlocks hK hA hP hD hl => ?_)
  have hown : s.vm.findClass RX2 = some m.cls := hown
  have hl : lv_has ls 3 [(0, .ref qd0), (1, .int p1), (2, .int p2)] := hl
  have hS : va_S A s.heap s.heap [] := va_S.rf
  unfold f_X2_join at hf
  refine lv_aload_n hx hb dX2_join_0 rfl (lv_at hl 0 rfl) ?_
  refine lv_iload_n hx hb dX2_join_1 rfl (lv_at hl 1 rfl) ?_
  obtain ⟨r2, hg2, hf⟩ := ob1_some hf
  refine mcV_i (wr := [(qd2, .inl (cI, 8, .inl d_road))]) (As := [.int p1]) (rest := []) hx hb hml hown hts hK hP hD hS hA (k_X2_told l N D cI cJ cZ cB cT qd0 qd1 qd2 d_n p1 r2 hg2) (kwX2_28 hts rfl rfl ⟨Nat.le_of_ble_eq_true rfl, Nat.le_of_ble_eq_true rfl⟩) [0] [1] rfl rfl rfl (by decide) rfl 0 rfl rfl rfl rfl hl.1 rfl (Nat.le_of_ble_eq_true rfl) dX2_join_2 ⟨Nat.zero_le _, Nat.zero_le _⟩ (fun hB2 H locs hP hD hS => ?_)
  have hP := mP_sub (wc := (W_L_0_2 qd0 qd2 qd1 cI cJ cZ cB cT d_n d_road)) hP [1, 0] rfl
  have hD := hD.sub (ws' := (W_L_0_2 qd0 qd2 qd1 cI cJ cZ cB cT d_n d_road)) [1, 0] rfl rfl
  refine xif_eq hx hb 30 dX2_join_5 (by decide) hf (fun hf => ?_) (fun hf => ?_)
  · refine lv_iconst (v := (0 : Int32)) hx hb dX2_join_30 (by decide) ?_
    cases hf
    exact mret_z hx hb hr hlocks hP hD hS dX2_join_31 rfl rfl
  · refine lv_aload_n hx hb dX2_join_8 rfl (lv_at hl 0 rfl) ?_
    refine lv_iload_n hx hb dX2_join_9 rfl (lv_at hl 2 rfl) ?_
    obtain ⟨r10, hg10, hf⟩ := ob1_some hf
    refine mcV_i (wr := [(qd2, .inl (cI, 8, .inl d_road))]) (As := [.int p2]) (rest := []) hx hb hml hown hts hK hP hD hS hA (k_X2_told l N D cI cJ cZ cB cT qd0 qd1 qd2 d_n p2 r10 hg10) (kwX2_28 hts rfl rfl ⟨Nat.le_of_ble_eq_true rfl, Nat.le_of_ble_eq_true rfl⟩) [0] [1] rfl rfl rfl (by decide) rfl 0 rfl rfl rfl rfl hl.1 rfl (Nat.le_of_ble_eq_true rfl) dX2_join_10 ⟨Nat.zero_le _, Nat.zero_le _⟩ (fun hB10 H locs hP hD hS => ?_)
    have hP := mP_sub (wc := (W_L_0_2 qd0 qd2 qd1 cI cJ cZ cB cT d_n d_road)) hP [1, 0] rfl
    have hD := hD.sub (ws' := (W_L_0_2 qd0 qd2 qd1 cI cJ cZ cB cT d_n d_road)) [1, 0] rfl rfl
    refine xif_eq hx hb 30 dX2_join_13 (by decide) hf (fun hf => ?_) (fun hf => ?_)
    · refine lv_iconst (v := (0 : Int32)) hx hb dX2_join_30 (by decide) ?_
      cases hf
      exact mret_z hx hb hr hlocks hP hD hS dX2_join_31 rfl rfl
    · refine lv_iload_n hx hb dX2_join_16 rfl (lv_at hl 1 rfl) ?_
      refine lv_iload_n hx hb dX2_join_17 rfl (lv_at hl 2 rfl) ?_
      refine xicmp_eq hx hb 30 dX2_join_18 (by decide) hf (fun hf => ?_) (fun hf => ?_)
      · refine lv_iconst (v := (0 : Int32)) hx hb dX2_join_30 (by decide) ?_
        cases hf
        exact mret_z hx hb hr hlocks hP hD hS dX2_join_31 rfl rfl
      · refine lv_aload_n hx hb dX2_join_21 rfl (lv_at hl 0 rfl) ?_
        refine lv_iload_n hx hb dX2_join_22 rfl (lv_at hl 1 rfl) ?_
        refine lv_iload_n hx hb dX2_join_23 rfl (lv_at hl 2 rfl) ?_
        obtain ⟨r24, hg24, hf⟩ := ob1_some hf
        refine mcV1_i (As := [.int p1, .int p2]) (rest := []) hx hb hml hown hts hK hP hD hS hA (k_X2_joined l N D cI cJ cZ cB cT qd0 qd2 qd1 d_n d_road p1 p2 r24 hg24) (kwX2_32 hts rfl rfl ⟨Nat.le_of_ble_eq_true rfl, Nat.le_of_ble_eq_true rfl⟩) 0 rfl rfl rfl rfl hl.1 rfl (Nat.le_of_ble_eq_true rfl) dX2_join_24 ⟨Nat.zero_le _, Nat.zero_le _⟩ (fun hB24 H locs hP hD hS => ?_)
        have hP : va_P D vwCl (W_L_0_2 qd0 qd2 qd1 cI cJ cZ cB cT d_n d_road) H := hP
        have hD : va_D A (W_L_0_2 qd0 qd2 qd1 cI cJ cZ cB cT d_n d_road) := hD
        refine xif_eq hx hb 32 dX2_join_27 (by decide) hf (fun hf => ?_) (fun hf => ?_)
        · refine lv_aload_n hx hb dX2_join_32 rfl (lv_at hl 0 rfl) ?_
          refine gfX2_19 hx hb hts hown hK hP 0 rfl rfl dX2_join_33 ?_
          refine lv_iload_n hx hb dX2_join_36 rfl (lv_at hl 1 rfl) ?_
          refine lv_dup2_11 hx hb dX2_join_37 rfl rfl ?_
          refine xiald hx hb hK hP 1 0 rfl rfl dX2_join_38 hf (fun v38 hf => ?_)
          refine lv_iconst (v := (1 : Int32)) hx hb dX2_join_39 (by decide) ?_
          refine lv_iload_n hx hb dX2_join_40 rfl (lv_at hl 2 rfl) ?_
          refine lv_ishl hx hb dX2_join_41 ?_
          refine lv_ior hx hb dX2_join_42 ?_
          refine xiast hx hb hK hP hD hS 1 0 rfl rfl dX2_join_43 hf (fun d_road_43 hf H locs hP hD hS => ?_)
          have hP : va_P D vwCl (W_L_0_2 qd0 qd2 qd1 cI cJ cZ cB cT d_n d_road_43) H := hP
          have hD : va_D A (W_L_0_2 qd0 qd2 qd1 cI cJ cZ cB cT d_n d_road_43) := hD
          refine lv_aload_n hx hb dX2_join_44 rfl (lv_at hl 0 rfl) ?_
          refine gfX2_19 hx hb hts hown hK hP 0 rfl rfl dX2_join_45 ?_
          refine lv_iload_n hx hb dX2_join_48 rfl (lv_at hl 2 rfl) ?_
          refine lv_dup2_11 hx hb dX2_join_49 rfl rfl ?_
          refine xiald hx hb hK hP 1 0 rfl rfl dX2_join_50 hf (fun v50 hf => ?_)
          refine lv_iconst (v := (1 : Int32)) hx hb dX2_join_51 (by decide) ?_
          refine lv_iload_n hx hb dX2_join_52 rfl (lv_at hl 1 rfl) ?_
          refine lv_ishl hx hb dX2_join_53 ?_
          refine lv_ior hx hb dX2_join_54 ?_
          refine xiast hx hb hK hP hD hS 1 0 rfl rfl dX2_join_55 hf (fun d_road_55 hf H locs hP hD hS => ?_)
          have hP : va_P D vwCl (W_L_0_2 qd0 qd2 qd1 cI cJ cZ cB cT d_n d_road_55) H := hP
          have hD : va_D A (W_L_0_2 qd0 qd2 qd1 cI cJ cZ cB cT d_n d_road_55) := hD
          refine lv_iconst (v := (1 : Int32)) hx hb dX2_join_56 (by decide) ?_
          cases hf
          exact mret_z hx hb hr hlocks hP hD hS dX2_join_57 rfl rfl
        · refine lv_iconst (v := (0 : Int32)) hx hb dX2_join_30 (by decide) ?_
          cases hf
          exact mret_z hx hb hr hlocks hP hD hS dX2_join_31 rfl rfl
theorem dX2_forestOf_0 : decode cX2_forestOf 0 = .ok (.iload_n 1, 1) := by decide +kernel
theorem dX2_forestOf_1 : decode cX2_forestOf 1 = .ok (.ifCond .lt 26, 3) := by decide +kernel
theorem dX2_forestOf_4 : decode cX2_forestOf 4 = .ok (.iload_n 1, 1) := by decide +kernel
theorem dX2_forestOf_5 : decode cX2_forestOf 5 = .ok (.aload_n 0, 1) := by decide +kernel
theorem dX2_forestOf_6 : decode cX2_forestOf 6 = .ok (.getfield 9, 3) := by decide +kernel
theorem dX2_forestOf_9 : decode cX2_forestOf 9 = .ok (.if_icmp .ge 18, 3) := by decide +kernel
theorem dX2_forestOf_12 : decode cX2_forestOf 12 = .ok (.iload_n 1, 1) := by decide +kernel
theorem dX2_forestOf_13 : decode cX2_forestOf 13 = .ok (.bipush 8, 2) := by decide +kernel
theorem dX2_forestOf_15 : decode cX2_forestOf 15 = .ok (.if_icmp .ge 12, 3) := by decide +kernel
theorem dX2_forestOf_18 : decode cX2_forestOf 18 = .ok (.aload_n 0, 1) := by decide +kernel
theorem dX2_forestOf_19 : decode cX2_forestOf 19 = .ok (.getfield 15, 3) := by decide +kernel
theorem dX2_forestOf_22 : decode cX2_forestOf 22 = .ok (.iload_n 1, 1) := by decide +kernel
theorem dX2_forestOf_23 : decode cX2_forestOf 23 = .ok (.iaload, 1) := by decide +kernel
theorem dX2_forestOf_24 : decode cX2_forestOf 24 = .ok (.goto 4, 3) := by decide +kernel
theorem dX2_forestOf_27 : decode cX2_forestOf 27 = .ok (.iconst 0, 1) := by decide +kernel
theorem dX2_forestOf_28 : decode cX2_forestOf 28 = .ok (.ireturn, 1) := by decide +kernel
def f_X2_forestOf (N : Nat) (d_n : Int32) (d_for : Nat → Int32) (p1 : Int32) : Option (Int32) := if p1 < 0 then (some (0 : Int32)) else (if d_n ≤ p1 then (some (0 : Int32)) else (if (8 : Int32) ≤ p1 then (some (0 : Int32)) else (gA d_for 8 p1 fun v23 => some v23)))
set_option maxHeartbeats 4000000 in
set_option maxRecDepth 100000 in
theorem k_X2_forestOf (l : Launch) (N : Nat) (D : va_G) (cI cJ cZ cB cT : ClassId) (qd0 : Nat) (qd1 : Nat) (qd2 : Nat) (d_n : Int32) (d_for : Nat → Int32) (p1 : Int32) (o_r : Int32) (hf : f_X2_forestOf N d_n d_for p1 = some o_r) : ∀ sz, Met l yX2_forestOf (mw yX2_forestOf cX2_forestOf 2 (some .int)) ({ frames := 0, cells := 0, slots := 0, locals := 0 } : Room) (mPre D (mT cI cJ cZ cB cT) (W_L_0t1 qd0 qd1 qd2 cI cJ cZ cB cT d_n d_for) sz [.ref qd0, .int p1]) ((mQi D (W_L_0t1 qd0 qd1 qd2 cI cJ cZ cB cT d_n d_for) o_r True) (va_A (W_L_0t1 qd0 qd1 qd2 cI cJ cZ cB cT d_n d_for) sz)) 0 0 (va_A (W_L_0t1 qd0 qd1 qd2 cI cJ cZ cB cT d_n d_for) sz) := by
  refine mMet (Qc := (mQi D (W_L_0t1 qd0 qd1 qd2 cI cJ cZ cB cT d_n d_for) o_r True)) (by decide) (Nat.le_of_ble_eq_true rfl) (fun p e s m below meth c A ls hx hb hr hml hts hown hlocks hK hA hP hD hl => ?_)
  have hown : s.vm.findClass RX2 = some m.cls := hown
  have hl : lv_has ls 2 [(0, .ref qd0), (1, .int p1)] := hl
  have hS : va_S A s.heap s.heap [] := va_S.rf
  unfold f_X2_forestOf at hf
  refine lv_iload_n hx hb dX2_forestOf_0 rfl (lv_at hl 1 rfl) ?_
  refine xif_lt hx hb 27 dX2_forestOf_1 (by decide) hf (fun hf => ?_) (fun hf => ?_)
  · refine lv_iconst (v := (0 : Int32)) hx hb dX2_forestOf_27 (by decide) ?_
    cases hf
    exact mret_i hx hb hr hlocks hP hD hS dX2_forestOf_28 rfl trivial
  · refine lv_iload_n hx hb dX2_forestOf_4 rfl (lv_at hl 1 rfl) ?_
    refine lv_aload_n hx hb dX2_forestOf_5 rfl (lv_at hl 0 rfl) ?_
    refine gfX2_9 hx hb hts hown hK hP 0 rfl rfl dX2_forestOf_6 ?_
    refine xicmp_ge hx hb 27 dX2_forestOf_9 (by decide) hf (fun hf => ?_) (fun hf => ?_)
    · refine lv_iconst (v := (0 : Int32)) hx hb dX2_forestOf_27 (by decide) ?_
      cases hf
      exact mret_i hx hb hr hlocks hP hD hS dX2_forestOf_28 rfl trivial
    · refine lv_iload_n hx hb dX2_forestOf_12 rfl (lv_at hl 1 rfl) ?_
      refine lv_bipush (v := (8 : Int32)) hx hb dX2_forestOf_13 (by decide) ?_
      refine xicmp_ge hx hb 27 dX2_forestOf_15 (by decide) hf (fun hf => ?_) (fun hf => ?_)
      · refine lv_iconst (v := (0 : Int32)) hx hb dX2_forestOf_27 (by decide) ?_
        cases hf
        exact mret_i hx hb hr hlocks hP hD hS dX2_forestOf_28 rfl trivial
      · refine lv_aload_n hx hb dX2_forestOf_18 rfl (lv_at hl 0 rfl) ?_
        refine gfX2_15 hx hb hts hown hK hP 0 rfl rfl dX2_forestOf_19 ?_
        refine lv_iload_n hx hb dX2_forestOf_22 rfl (lv_at hl 1 rfl) ?_
        refine xiald hx hb hK hP 1 0 rfl rfl dX2_forestOf_23 hf (fun v23 hf => ?_)
        refine lv_goto (tgt := 28) hx hb dX2_forestOf_24 (by decide) ?_
        cases hf
        exact mret_i hx hb hr hlocks hP hD hS dX2_forestOf_28 rfl trivial
theorem dX2_near_0 : decode cX2_near 0 = .ok (.iload_n 1, 1) := by decide +kernel
theorem dX2_near_1 : decode cX2_near 1 = .ok (.ifCond .lt 26, 3) := by decide +kernel
theorem dX2_near_4 : decode cX2_near 4 = .ok (.iload_n 1, 1) := by decide +kernel
theorem dX2_near_5 : decode cX2_near 5 = .ok (.aload_n 0, 1) := by decide +kernel
theorem dX2_near_6 : decode cX2_near 6 = .ok (.getfield 9, 3) := by decide +kernel
theorem dX2_near_9 : decode cX2_near 9 = .ok (.if_icmp .ge 18, 3) := by decide +kernel
theorem dX2_near_12 : decode cX2_near 12 = .ok (.iload_n 1, 1) := by decide +kernel
theorem dX2_near_13 : decode cX2_near 13 = .ok (.bipush 8, 2) := by decide +kernel
theorem dX2_near_15 : decode cX2_near 15 = .ok (.if_icmp .ge 12, 3) := by decide +kernel
theorem dX2_near_18 : decode cX2_near 18 = .ok (.aload_n 0, 1) := by decide +kernel
theorem dX2_near_19 : decode cX2_near 19 = .ok (.getfield 19, 3) := by decide +kernel
theorem dX2_near_22 : decode cX2_near 22 = .ok (.iload_n 1, 1) := by decide +kernel
theorem dX2_near_23 : decode cX2_near 23 = .ok (.iaload, 1) := by decide +kernel
theorem dX2_near_24 : decode cX2_near 24 = .ok (.goto 4, 3) := by decide +kernel
theorem dX2_near_27 : decode cX2_near 27 = .ok (.iconst 0, 1) := by decide +kernel
theorem dX2_near_28 : decode cX2_near 28 = .ok (.ireturn, 1) := by decide +kernel
def f_X2_near (N : Nat) (d_n : Int32) (d_road : Nat → Int32) (p1 : Int32) : Option (Int32) := if p1 < 0 then (some (0 : Int32)) else (if d_n ≤ p1 then (some (0 : Int32)) else (if (8 : Int32) ≤ p1 then (some (0 : Int32)) else (gA d_road 8 p1 fun v23 => some v23)))
set_option maxHeartbeats 4000000 in
set_option maxRecDepth 100000 in
theorem k_X2_near (l : Launch) (N : Nat) (D : va_G) (cI cJ cZ cB cT : ClassId) (qd0 : Nat) (qd2 : Nat) (qd1 : Nat) (d_n : Int32) (d_road : Nat → Int32) (p1 : Int32) (o_r : Int32) (hf : f_X2_near N d_n d_road p1 = some o_r) : ∀ sz, Met l yX2_near (mw yX2_near cX2_near 2 (some .int)) ({ frames := 0, cells := 0, slots := 0, locals := 0 } : Room) (mPre D (mT cI cJ cZ cB cT) (W_L_0_2 qd0 qd2 qd1 cI cJ cZ cB cT d_n d_road) sz [.ref qd0, .int p1]) ((mQi D (W_L_0_2 qd0 qd2 qd1 cI cJ cZ cB cT d_n d_road) o_r True) (va_A (W_L_0_2 qd0 qd2 qd1 cI cJ cZ cB cT d_n d_road) sz)) 0 0 (va_A (W_L_0_2 qd0 qd2 qd1 cI cJ cZ cB cT d_n d_road) sz) := by
  refine mMet (Qc := (mQi D (W_L_0_2 qd0 qd2 qd1 cI cJ cZ cB cT d_n d_road) o_r True)) (by decide) (Nat.le_of_ble_eq_true rfl) (fun p e s m below meth c A ls hx hb hr hml hts hown hlocks hK hA hP hD hl => ?_)
  have hown : s.vm.findClass RX2 = some m.cls := hown
  have hl : lv_has ls 2 [(0, .ref qd0), (1, .int p1)] := hl
  have hS : va_S A s.heap s.heap [] := va_S.rf
  unfold f_X2_near at hf
  refine lv_iload_n hx hb dX2_near_0 rfl (lv_at hl 1 rfl) ?_
  refine xif_lt hx hb 27 dX2_near_1 (by decide) hf (fun hf => ?_) (fun hf => ?_)
  · refine lv_iconst (v := (0 : Int32)) hx hb dX2_near_27 (by decide) ?_
    cases hf
    exact mret_i hx hb hr hlocks hP hD hS dX2_near_28 rfl trivial
  · refine lv_iload_n hx hb dX2_near_4 rfl (lv_at hl 1 rfl) ?_
    refine lv_aload_n hx hb dX2_near_5 rfl (lv_at hl 0 rfl) ?_
    refine gfX2_9 hx hb hts hown hK hP 0 rfl rfl dX2_near_6 ?_
    refine xicmp_ge hx hb 27 dX2_near_9 (by decide) hf (fun hf => ?_) (fun hf => ?_)
    · refine lv_iconst (v := (0 : Int32)) hx hb dX2_near_27 (by decide) ?_
      cases hf
      exact mret_i hx hb hr hlocks hP hD hS dX2_near_28 rfl trivial
    · refine lv_iload_n hx hb dX2_near_12 rfl (lv_at hl 1 rfl) ?_
      refine lv_bipush (v := (8 : Int32)) hx hb dX2_near_13 (by decide) ?_
      refine xicmp_ge hx hb 27 dX2_near_15 (by decide) hf (fun hf => ?_) (fun hf => ?_)
      · refine lv_iconst (v := (0 : Int32)) hx hb dX2_near_27 (by decide) ?_
        cases hf
        exact mret_i hx hb hr hlocks hP hD hS dX2_near_28 rfl trivial
      · refine lv_aload_n hx hb dX2_near_18 rfl (lv_at hl 0 rfl) ?_
        refine gfX2_19 hx hb hts hown hK hP 0 rfl rfl dX2_near_19 ?_
        refine lv_iload_n hx hb dX2_near_22 rfl (lv_at hl 1 rfl) ?_
        refine xiald hx hb hK hP 1 0 rfl rfl dX2_near_23 hf (fun v23 hf => ?_)
        refine lv_goto (tgt := 28) hx hb dX2_near_24 (by decide) ?_
        cases hf
        exact mret_i hx hb hr hlocks hP hD hS dX2_near_28 rfl trivial
theorem dX2_all_0 : decode cX2_all 0 = .ok (.iconst 1, 1) := by decide +kernel
theorem dX2_all_1 : decode cX2_all 1 = .ok (.aload_n 0, 1) := by decide +kernel
theorem dX2_all_2 : decode cX2_all 2 = .ok (.getfield 9, 3) := by decide +kernel
theorem dX2_all_5 : decode cX2_all 5 = .ok (.ishl, 1) := by decide +kernel
theorem dX2_all_6 : decode cX2_all 6 = .ok (.iconst 1, 1) := by decide +kernel
theorem dX2_all_7 : decode cX2_all 7 = .ok (.isub, 1) := by decide +kernel
theorem dX2_all_8 : decode cX2_all 8 = .ok (.ireturn, 1) := by decide +kernel
def f_X2_all (N : Nat) (d_n : Int32) : Option (Int32) := some (((1 : Int32) <<< (d_n &&& 31)) - (1 : Int32))
set_option maxHeartbeats 4000000 in
set_option maxRecDepth 100000 in
theorem k_X2_all (l : Launch) (N : Nat) (D : va_G) (cI cJ cZ cB cT : ClassId) (qd0 : Nat) (qd1 : Nat) (qd2 : Nat) (d_n : Int32) (o_r : Int32) (hf : f_X2_all N d_n = some o_r) : ∀ sz, Met l yX2_all (mw yX2_all cX2_all 1 (some .int)) ({ frames := 0, cells := 0, slots := 0, locals := 0 } : Room) (mPre D (mT cI cJ cZ cB cT) (W_L_0 qd0 qd1 qd2 cI cJ cZ cB cT d_n) sz [.ref qd0]) ((mQi D (W_L_0 qd0 qd1 qd2 cI cJ cZ cB cT d_n) o_r True) (va_A (W_L_0 qd0 qd1 qd2 cI cJ cZ cB cT d_n) sz)) 0 0 (va_A (W_L_0 qd0 qd1 qd2 cI cJ cZ cB cT d_n) sz) := by
  refine mMet (Qc := (mQi D (W_L_0 qd0 qd1 qd2 cI cJ cZ cB cT d_n) o_r True)) (by decide) (Nat.le_of_ble_eq_true rfl) (fun p e s m below meth c A ls hx hb hr hml hts hown hlocks hK hA hP hD hl => ?_)
  have hown : s.vm.findClass RX2 = some m.cls := hown
  have hl : lv_has ls 1 [(0, .ref qd0)] := hl
  have hS : va_S A s.heap s.heap [] := va_S.rf
  unfold f_X2_all at hf
  refine lv_iconst (v := (1 : Int32)) hx hb dX2_all_0 (by decide) ?_
  refine lv_aload_n hx hb dX2_all_1 rfl (lv_at hl 0 rfl) ?_
  refine gfX2_9 hx hb hts hown hK hP 0 rfl rfl dX2_all_2 ?_
  refine lv_ishl hx hb dX2_all_5 ?_
  refine lv_iconst (v := (1 : Int32)) hx hb dX2_all_6 (by decide) ?_
  refine lv_isub hx hb dX2_all_7 ?_
  cases hf
  exact mret_i hx hb hr hlocks hP hD hS dX2_all_8 rfl trivial
theorem dX2_spread_0 : decode cX2_spread 0 = .ok (.iload_n 1, 1) := by decide +kernel
theorem dX2_spread_1 : decode cX2_spread 1 = .ok (.istore_n 2, 1) := by decide +kernel
theorem dX2_spread_2 : decode cX2_spread 2 = .ok (.iconst 0, 1) := by decide +kernel
theorem dX2_spread_3 : decode cX2_spread 3 = .ok (.istore_n 3, 1) := by decide +kernel
theorem dX2_spread_4 : decode cX2_spread 4 = .ok (.iload_n 3, 1) := by decide +kernel
theorem dX2_spread_5 : decode cX2_spread 5 = .ok (.aload_n 0, 1) := by decide +kernel
theorem dX2_spread_6 : decode cX2_spread 6 = .ok (.getfield 9, 3) := by decide +kernel
theorem dX2_spread_9 : decode cX2_spread 9 = .ok (.if_icmp .ge 33, 3) := by decide +kernel
theorem dX2_spread_12 : decode cX2_spread 12 = .ok (.iload_n 3, 1) := by decide +kernel
theorem dX2_spread_13 : decode cX2_spread 13 = .ok (.bipush 8, 2) := by decide +kernel
theorem dX2_spread_15 : decode cX2_spread 15 = .ok (.if_icmp .ge 27, 3) := by decide +kernel
theorem dX2_spread_18 : decode cX2_spread 18 = .ok (.iload_n 1, 1) := by decide +kernel
theorem dX2_spread_19 : decode cX2_spread 19 = .ok (.iload_n 3, 1) := by decide +kernel
theorem dX2_spread_20 : decode cX2_spread 20 = .ok (.ishr, 1) := by decide +kernel
theorem dX2_spread_21 : decode cX2_spread 21 = .ok (.iconst 1, 1) := by decide +kernel
theorem dX2_spread_22 : decode cX2_spread 22 = .ok (.iand, 1) := by decide +kernel
theorem dX2_spread_23 : decode cX2_spread 23 = .ok (.iconst 1, 1) := by decide +kernel
theorem dX2_spread_24 : decode cX2_spread 24 = .ok (.if_icmp .ne 12, 3) := by decide +kernel
theorem dX2_spread_27 : decode cX2_spread 27 = .ok (.iload_n 2, 1) := by decide +kernel
theorem dX2_spread_28 : decode cX2_spread 28 = .ok (.aload_n 0, 1) := by decide +kernel
theorem dX2_spread_29 : decode cX2_spread 29 = .ok (.getfield 19, 3) := by decide +kernel
theorem dX2_spread_32 : decode cX2_spread 32 = .ok (.iload_n 3, 1) := by decide +kernel
theorem dX2_spread_33 : decode cX2_spread 33 = .ok (.iaload, 1) := by decide +kernel
theorem dX2_spread_34 : decode cX2_spread 34 = .ok (.ior, 1) := by decide +kernel
theorem dX2_spread_35 : decode cX2_spread 35 = .ok (.istore_n 2, 1) := by decide +kernel
theorem dX2_spread_36 : decode cX2_spread 36 = .ok (.iinc 3 1, 3) := by decide +kernel
theorem dX2_spread_39 : decode cX2_spread 39 = .ok (.goto (-35), 3) := by decide +kernel
theorem dX2_spread_42 : decode cX2_spread 42 = .ok (.iload_n 2, 1) := by decide +kernel
theorem dX2_spread_43 : decode cX2_spread 43 = .ok (.ireturn, 1) := by decide +kernel
def f_X2_spread_36 (N : Nat) (k_4 : Int32 → (Nat → Int32) → Int32 → Int32 → Int32 → Option (Int32)) (d_n : Int32) (d_road : Nat → Int32) (x1 : Int32) (x2 : Int32) (x3 : Int32) : Option (Int32) := k_4 d_n d_road x1 x2 (x3 + (1 : Int32))
def f_X2_spread_4 (N : Nat) : Nat → Int32 → (Nat → Int32) → Int32 → Int32 → Int32 → Option (Int32)
  | 0, _, _, _, _, _ => none
  | n + 1, d_n, d_road, x1, x2, x3 => if d_n ≤ x3 then (some x2) else (if (8 : Int32) ≤ x3 then (some x2) else (if ((x1 >>> (x3 &&& 31)) &&& (1 : Int32)) = (1 : Int32) then (gA d_road 8 x3 fun v33 => f_X2_spread_36 N (f_X2_spread_4 N n) d_n d_road x1 (x2 ||| v33) x3) else (f_X2_spread_36 N (f_X2_spread_4 N n) d_n d_road x1 x2 x3)))
def f_X2_spread (N : Nat) (d_n : Int32) (d_road : Nat → Int32) (p1 : Int32) : Option (Int32) := f_X2_spread_4 N N d_n d_road p1 p1 (0 : Int32)
set_option maxHeartbeats 4000000 in
set_option maxRecDepth 100000 in
theorem k_X2_spread (l : Launch) (N : Nat) (D : va_G) (cI cJ cZ cB cT : ClassId) (qd0 : Nat) (qd2 : Nat) (qd1 : Nat) (d_n : Int32) (d_road : Nat → Int32) (p1 : Int32) (o_r : Int32) (hf : f_X2_spread N d_n d_road p1 = some o_r) : ∀ sz, Met l yX2_spread (mw yX2_spread cX2_spread 4 (some .int)) ({ frames := 0, cells := 0, slots := 0, locals := 0 } : Room) (mPre D (mT cI cJ cZ cB cT) (W_L_0_2 qd0 qd2 qd1 cI cJ cZ cB cT d_n d_road) sz [.ref qd0, .int p1]) ((mQi D (W_L_0_2 qd0 qd2 qd1 cI cJ cZ cB cT d_n d_road) o_r True) (va_A (W_L_0_2 qd0 qd2 qd1 cI cJ cZ cB cT d_n d_road) sz)) 0 0 (va_A (W_L_0_2 qd0 qd2 qd1 cI cJ cZ cB cT d_n d_road) sz) := by
  refine mMet (Qc := (mQi D (W_L_0_2 qd0 qd2 qd1 cI cJ cZ cB cT d_n d_road) o_r True)) (by decide) (Nat.le_of_ble_eq_true rfl) (fun p e s m below meth c A ls hx hb hr hml hts hown hlocks hK hA hP hD hl => ?_)
  have hown : s.vm.findClass RX2 = some m.cls := hown
  have hl : lv_has ls 4 [(0, .ref qd0), (1, .int p1)] := hl
  have hS : va_S A s.heap s.heap [] := va_S.rf
  have b4 : ∀ n4 : Nat, ∀ (x1 : Int32) (x2 : Int32) (x3 : Int32) (H : Heap) (locs : List Loc) (ls : Array Slot), f_X2_spread_4 N n4 d_n d_road x1 x2 x3 = some o_r → va_P D vwCl (W_L_0_2 qd0 qd2 qd1 cI cJ cZ cB cT d_n d_road) H → va_D A (W_L_0_2 qd0 qd2 qd1 cI cJ cZ cB cT d_n d_road) → va_S A s.heap H locs → lv_has ls 4 [(0, .ref qd0), (1, .int x1), (2, .int x2), (3, .int x3)] → W p l e ({ frames := 0, cells := 0, slots := 0, locals := 0 } : Room) s m ([.ref qd0, .int p1] : List Value).toArray below meth c H locs 0 0 (MQ below ((mQi D (W_L_0_2 qd0 qd2 qd1 cI cJ cZ cB cT d_n d_road) o_r True) A) ([.ref qd0, .int p1] : List Value).toArray s 0 0 A) (F0 m 4 ls []) := by
    intro n4
    induction n4 with
    | zero =>
      intro x1 x2 x3 H locs ls hf hP hD hS hl
      simp [f_X2_spread_4] at hf
    | succ n4 ih4 =>
      have b36 : ∀ (x1 : Int32) (x2 : Int32) (x3 : Int32) (H : Heap) (locs : List Loc) (ls : Array Slot), f_X2_spread_36 N (f_X2_spread_4 N n4) d_n d_road x1 x2 x3 = some o_r → va_P D vwCl (W_L_0_2 qd0 qd2 qd1 cI cJ cZ cB cT d_n d_road) H → va_D A (W_L_0_2 qd0 qd2 qd1 cI cJ cZ cB cT d_n d_road) → va_S A s.heap H locs → lv_has ls 4 [(0, .ref qd0), (1, .int x1), (2, .int x2), (3, .int x3)] → W p l e ({ frames := 0, cells := 0, slots := 0, locals := 0 } : Room) s m ([.ref qd0, .int p1] : List Value).toArray below meth c H locs 0 0 (MQ below ((mQi D (W_L_0_2 qd0 qd2 qd1 cI cJ cZ cB cT d_n d_road) o_r True) A) ([.ref qd0, .int p1] : List Value).toArray s 0 0 A) (F0 m 36 ls []) := by
        intro x1 x2 x3 H locs ls hf hP hD hS hl
        unfold f_X2_spread_36 at hf
        refine lv_iinc (v := (x3 + (1 : Int32))) (lv' := [(3, .int (x3 + (1 : Int32))), (0, .ref qd0), (1, .int x1), (2, .int x2)]) hx hb dX2_spread_36 hl (k := 3) rfl rfl (by decide) rfl (fun ls hl => ?_)
        refine lv_goto (tgt := 4) hx hb dX2_spread_39 (by decide) ?_
        exact ih4 x1 x2 (x3 + (1 : Int32)) _ _ _ hf hP hD hS (lv_sub hl [1, 2, 3, 0] rfl)
      intro x1 x2 x3 H locs ls hf hP hD hS hl
      rw [f_X2_spread_4.eq_2] at hf
      refine lv_iload_n hx hb dX2_spread_4 rfl (lv_at hl 3 rfl) ?_
      refine lv_aload_n hx hb dX2_spread_5 rfl (lv_at hl 0 rfl) ?_
      refine gfX2_9 hx hb hts hown hK hP 0 rfl rfl dX2_spread_6 ?_
      refine xicmp_ge hx hb 42 dX2_spread_9 (by decide) hf (fun hf => ?_) (fun hf => ?_)
      · refine lv_iload_n hx hb dX2_spread_42 rfl (lv_at hl 2 rfl) ?_
        cases hf
        exact mret_i hx hb hr hlocks hP hD hS dX2_spread_43 rfl trivial
      · refine lv_iload_n hx hb dX2_spread_12 rfl (lv_at hl 3 rfl) ?_
        refine lv_bipush (v := (8 : Int32)) hx hb dX2_spread_13 (by decide) ?_
        refine xicmp_ge hx hb 42 dX2_spread_15 (by decide) hf (fun hf => ?_) (fun hf => ?_)
        · refine lv_iload_n hx hb dX2_spread_42 rfl (lv_at hl 2 rfl) ?_
          cases hf
          exact mret_i hx hb hr hlocks hP hD hS dX2_spread_43 rfl trivial
        · refine lv_iload_n hx hb dX2_spread_18 rfl (lv_at hl 1 rfl) ?_
          refine lv_iload_n hx hb dX2_spread_19 rfl (lv_at hl 3 rfl) ?_
          refine lv_ishr hx hb dX2_spread_20 ?_
          refine lv_iconst (v := (1 : Int32)) hx hb dX2_spread_21 (by decide) ?_
          refine lv_iand hx hb dX2_spread_22 ?_
          refine lv_iconst (v := (1 : Int32)) hx hb dX2_spread_23 (by decide) ?_
          refine xicmp_ne hx hb 36 dX2_spread_24 (by decide) hf (fun hf => ?_) (fun hf => ?_)
          · refine lv_iload_n hx hb dX2_spread_27 rfl (lv_at hl 2 rfl) ?_
            refine lv_aload_n hx hb dX2_spread_28 rfl (lv_at hl 0 rfl) ?_
            refine gfX2_19 hx hb hts hown hK hP 0 rfl rfl dX2_spread_29 ?_
            refine lv_iload_n hx hb dX2_spread_32 rfl (lv_at hl 3 rfl) ?_
            refine xiald hx hb hK hP 1 0 rfl rfl dX2_spread_33 hf (fun v33 hf => ?_)
            refine lv_ior hx hb dX2_spread_34 ?_
            refine lv_istore_n (lv' := [(2, .int (x2 ||| v33)), (0, .ref qd0), (1, .int x1), (3, .int x3)]) hx hb dX2_spread_35 rfl hl (by decide) rfl (fun ls hl => ?_)
            exact b36 x1 (x2 ||| v33) x3 _ _ _ hf hP hD hS (lv_sub hl [1, 2, 0, 3] rfl)
          · exact b36 x1 x2 x3 _ _ _ hf hP hD hS (lv_sub hl [0, 1, 2, 3] rfl)
  unfold f_X2_spread at hf
  refine lv_iload_n hx hb dX2_spread_0 rfl (lv_at hl 1 rfl) ?_
  refine lv_istore_n (lv' := [(2, .int p1), (0, .ref qd0), (1, .int p1)]) hx hb dX2_spread_1 rfl hl (by decide) rfl (fun ls hl => ?_)
  refine lv_iconst (v := (0 : Int32)) hx hb dX2_spread_2 (by decide) ?_
  refine lv_istore_n (lv' := [(3, .int (0 : Int32)), (2, .int p1), (0, .ref qd0), (1, .int p1)]) hx hb dX2_spread_3 rfl hl (by decide) rfl (fun ls hl => ?_)
  exact b4 N p1 p1 (0 : Int32) _ _ _ hf hP hD hS (lv_sub hl [2, 3, 1, 0] rfl)
theorem dX2_distance_0 : decode cX2_distance 0 = .ok (.iconst 1, 1) := by decide +kernel
theorem dX2_distance_1 : decode cX2_distance 1 = .ok (.iload_n 1, 1) := by decide +kernel
theorem dX2_distance_2 : decode cX2_distance 2 = .ok (.ishl, 1) := by decide +kernel
theorem dX2_distance_3 : decode cX2_distance 3 = .ok (.istore_n 3, 1) := by decide +kernel
theorem dX2_distance_4 : decode cX2_distance 4 = .ok (.iconst 0, 1) := by decide +kernel
theorem dX2_distance_5 : decode cX2_distance 5 = .ok (.istore 4, 2) := by decide +kernel
theorem dX2_distance_7 : decode cX2_distance 7 = .ok (.iload 4, 2) := by decide +kernel
theorem dX2_distance_9 : decode cX2_distance 9 = .ok (.bipush 8, 2) := by decide +kernel
theorem dX2_distance_11 : decode cX2_distance 11 = .ok (.if_icmp .ge 24, 3) := by decide +kernel
theorem dX2_distance_14 : decode cX2_distance 14 = .ok (.iload_n 3, 1) := by decide +kernel
theorem dX2_distance_15 : decode cX2_distance 15 = .ok (.iload_n 2, 1) := by decide +kernel
theorem dX2_distance_16 : decode cX2_distance 16 = .ok (.iand, 1) := by decide +kernel
theorem dX2_distance_17 : decode cX2_distance 17 = .ok (.ifCond .eq 6, 3) := by decide +kernel
theorem dX2_distance_20 : decode cX2_distance 20 = .ok (.iload 4, 2) := by decide +kernel
theorem dX2_distance_22 : decode cX2_distance 22 = .ok (.ireturn, 1) := by decide +kernel
theorem dX2_distance_23 : decode cX2_distance 23 = .ok (.aload_n 0, 1) := by decide +kernel
theorem dX2_distance_24 : decode cX2_distance 24 = .ok (.iload_n 3, 1) := by decide +kernel
theorem dX2_distance_25 : decode cX2_distance 25 = .ok (.invokevirtual 36, 3) := by decide +kernel
theorem dX2_distance_28 : decode cX2_distance 28 = .ok (.istore_n 3, 1) := by decide +kernel
theorem dX2_distance_29 : decode cX2_distance 29 = .ok (.iinc 4 1, 3) := by decide +kernel
theorem dX2_distance_32 : decode cX2_distance 32 = .ok (.goto (-25), 3) := by decide +kernel
theorem dX2_distance_35 : decode cX2_distance 35 = .ok (.iconst (-1), 1) := by decide +kernel
theorem dX2_distance_36 : decode cX2_distance 36 = .ok (.ireturn, 1) := by decide +kernel
def f_X2_distance_7 (N : Nat) : Nat → Int32 → (Nat → Int32) → Int32 → Int32 → Int32 → Option (Int32)
  | 0, _, _, _, _, _ => none
  | n + 1, d_n, d_road, x2, x3, x4 => if (8 : Int32) ≤ x4 then (some (-1 : Int32)) else (if (x3 &&& x2) = 0 then (ob1 (f_X2_spread N d_n d_road x3) fun r25 => (f_X2_distance_7 N n) d_n d_road x2 r25 (x4 + (1 : Int32))) else (some x4))
def f_X2_distance (N : Nat) (d_n : Int32) (d_road : Nat → Int32) (p1 : Int32) (p2 : Int32) : Option (Int32) := f_X2_distance_7 N N d_n d_road p2 ((1 : Int32) <<< (p1 &&& 31)) (0 : Int32)
set_option maxHeartbeats 4000000 in
set_option maxRecDepth 100000 in
theorem k_X2_distance (l : Launch) (N : Nat) (D : va_G) (cI cJ cZ cB cT : ClassId) (qd0 : Nat) (qd2 : Nat) (qd1 : Nat) (d_n : Int32) (d_road : Nat → Int32) (p1 : Int32) (p2 : Int32) (o_r : Int32) (hf : f_X2_distance N d_n d_road p1 p2 = some o_r) : ∀ sz, Met l yX2_distance (mw yX2_distance cX2_distance 5 (some .int)) ({ frames := 1, cells := 0, slots := 0, locals := 23 } : Room) (mPre D (mT cI cJ cZ cB cT) (W_L_0_2 qd0 qd2 qd1 cI cJ cZ cB cT d_n d_road) sz [.ref qd0, .int p1, .int p2]) ((mQi D (W_L_0_2 qd0 qd2 qd1 cI cJ cZ cB cT d_n d_road) o_r True) (va_A (W_L_0_2 qd0 qd2 qd1 cI cJ cZ cB cT d_n d_road) sz)) 0 0 (va_A (W_L_0_2 qd0 qd2 qd1 cI cJ cZ cB cT d_n d_road) sz) := by
  refine mMet (Qc := (mQi D (W_L_0_2 qd0 qd2 qd1 cI cJ cZ cB cT d_n d_road) o_r True)) (by decide) (Nat.le_of_ble_eq_true rfl) (fun p e s m below meth c A ls hx hb hr hml hts hown hlocks hK hA hP hD hl => ?_)
  have hown : s.vm.findClass RX2 = some m.cls := hown
  have hl : lv_has ls 5 [(0, .ref qd0), (1, .int p1), (2, .int p2)] := hl
  have hS : va_S A s.heap s.heap [] := va_S.rf
  have b7 : ∀ n7 : Nat, ∀ (x2 : Int32) (x3 : Int32) (x4 : Int32) (H : Heap) (locs : List Loc) (ls : Array Slot), f_X2_distance_7 N n7 d_n d_road x2 x3 x4 = some o_r → va_P D vwCl (W_L_0_2 qd0 qd2 qd1 cI cJ cZ cB cT d_n d_road) H → va_D A (W_L_0_2 qd0 qd2 qd1 cI cJ cZ cB cT d_n d_road) → va_S A s.heap H locs → lv_has ls 5 [(0, .ref qd0), (2, .int x2), (3, .int x3), (4, .int x4)] → W p l e ({ frames := 1, cells := 0, slots := 0, locals := 23 } : Room) s m ([.ref qd0, .int p1, .int p2] : List Value).toArray below meth c H locs 0 0 (MQ below ((mQi D (W_L_0_2 qd0 qd2 qd1 cI cJ cZ cB cT d_n d_road) o_r True) A) ([.ref qd0, .int p1, .int p2] : List Value).toArray s 0 0 A) (F0 m 7 ls []) := by
    intro n7
    induction n7 with
    | zero =>
      intro x2 x3 x4 H locs ls hf hP hD hS hl
      simp [f_X2_distance_7] at hf
    | succ n7 ih7 =>
      intro x2 x3 x4 H locs ls hf hP hD hS hl
      rw [f_X2_distance_7.eq_2] at hf
      refine lv_iload hx hb dX2_distance_7 (lv_at hl 3 rfl) ?_
      refine lv_bipush (v := (8 : Int32)) hx hb dX2_distance_9 (by decide) ?_
      refine xicmp_ge hx hb 35 dX2_distance_11 (by decide) hf (fun hf => ?_) (fun hf => ?_)
      · refine lv_iconst (v := (-1 : Int32)) hx hb dX2_distance_35 (by decide) ?_
        cases hf
        exact mret_i hx hb hr hlocks hP hD hS dX2_distance_36 rfl trivial
      · refine lv_iload_n hx hb dX2_distance_14 rfl (lv_at hl 2 rfl) ?_
        refine lv_iload_n hx hb dX2_distance_15 rfl (lv_at hl 1 rfl) ?_
        refine lv_iand hx hb dX2_distance_16 ?_
        refine xif_eq hx hb 23 dX2_distance_17 (by decide) hf (fun hf => ?_) (fun hf => ?_)
        · refine lv_aload_n hx hb dX2_distance_23 rfl (lv_at hl 0 rfl) ?_
          refine lv_iload_n hx hb dX2_distance_24 rfl (lv_at hl 2 rfl) ?_
          obtain ⟨r25, hg25, hf⟩ := ob1_some hf
          refine mcV1_i (As := [.int x3]) (rest := []) hx hb hml hown hts hK hP hD hS hA (k_X2_spread l N D cI cJ cZ cB cT qd0 qd2 qd1 d_n d_road x3 r25 hg25) (kwX2_36 hts rfl rfl ⟨Nat.le_of_ble_eq_true rfl, Nat.le_of_ble_eq_true rfl⟩) 0 rfl rfl rfl rfl hl.1 rfl (Nat.le_of_ble_eq_true rfl) dX2_distance_25 ⟨Nat.zero_le _, Nat.zero_le _⟩ (fun hB25 H locs hP hD hS => ?_)
          have hP : va_P D vwCl (W_L_0_2 qd0 qd2 qd1 cI cJ cZ cB cT d_n d_road) H := hP
          have hD : va_D A (W_L_0_2 qd0 qd2 qd1 cI cJ cZ cB cT d_n d_road) := hD
          refine lv_istore_n (lv' := [(3, .int r25), (0, .ref qd0), (2, .int x2), (4, .int x4)]) hx hb dX2_distance_28 rfl hl (by decide) rfl (fun ls hl => ?_)
          refine lv_iinc (v := (x4 + (1 : Int32))) (lv' := [(4, .int (x4 + (1 : Int32))), (3, .int r25), (0, .ref qd0), (2, .int x2)]) hx hb dX2_distance_29 hl (k := 3) rfl rfl (by decide) rfl (fun ls hl => ?_)
          refine lv_goto (tgt := 7) hx hb dX2_distance_32 (by decide) ?_
          exact ih7 x2 r25 (x4 + (1 : Int32)) _ _ _ hf hP hD hS (lv_sub hl [2, 3, 1, 0] rfl)
        · refine lv_iload hx hb dX2_distance_20 (lv_at hl 3 rfl) ?_
          cases hf
          exact mret_i hx hb hr hlocks hP hD hS dX2_distance_22 rfl trivial
  unfold f_X2_distance at hf
  refine lv_iconst (v := (1 : Int32)) hx hb dX2_distance_0 (by decide) ?_
  refine lv_iload_n hx hb dX2_distance_1 rfl (lv_at hl 1 rfl) ?_
  refine lv_ishl hx hb dX2_distance_2 ?_
  refine lv_istore_n (lv' := [(3, .int ((1 : Int32) <<< (p1 &&& 31))), (0, .ref qd0), (1, .int p1), (2, .int p2)]) hx hb dX2_distance_3 rfl hl (by decide) rfl (fun ls hl => ?_)
  refine lv_iconst (v := (0 : Int32)) hx hb dX2_distance_4 (by decide) ?_
  refine lv_istore (lv' := [(4, .int (0 : Int32)), (3, .int ((1 : Int32) <<< (p1 &&& 31))), (0, .ref qd0), (1, .int p1), (2, .int p2)]) hx hb dX2_distance_5 hl (by decide) rfl (fun ls hl => ?_)
  exact b7 N p2 ((1 : Int32) <<< (p1 &&& 31)) (0 : Int32) _ _ _ hf hP hD hS (lv_sub hl [2, 4, 1, 0] rfl)
theorem dJ6_bitCount_0f7a4_0 : decode cJ6_bitCount_0f7a4 0 = .ok (.iload_n 0, 1) := by decide +kernel
theorem dJ6_bitCount_0f7a4_1 : decode cJ6_bitCount_0f7a4 1 = .ok (.iload_n 0, 1) := by decide +kernel
theorem dJ6_bitCount_0f7a4_2 : decode cJ6_bitCount_0f7a4 2 = .ok (.iconst 1, 1) := by decide +kernel
theorem dJ6_bitCount_0f7a4_3 : decode cJ6_bitCount_0f7a4 3 = .ok (.iushr, 1) := by decide +kernel
theorem dJ6_bitCount_0f7a4_4 : decode cJ6_bitCount_0f7a4 4 = .ok (.ldc_w 265, 3) := by decide +kernel
theorem dJ6_bitCount_0f7a4_7 : decode cJ6_bitCount_0f7a4 7 = .ok (.iand, 1) := by decide +kernel
theorem dJ6_bitCount_0f7a4_8 : decode cJ6_bitCount_0f7a4 8 = .ok (.isub, 1) := by decide +kernel
theorem dJ6_bitCount_0f7a4_9 : decode cJ6_bitCount_0f7a4 9 = .ok (.istore_n 0, 1) := by decide +kernel
theorem dJ6_bitCount_0f7a4_10 : decode cJ6_bitCount_0f7a4 10 = .ok (.iload_n 0, 1) := by decide +kernel
theorem dJ6_bitCount_0f7a4_11 : decode cJ6_bitCount_0f7a4 11 = .ok (.ldc_w 266, 3) := by decide +kernel
theorem dJ6_bitCount_0f7a4_14 : decode cJ6_bitCount_0f7a4 14 = .ok (.iand, 1) := by decide +kernel
theorem dJ6_bitCount_0f7a4_15 : decode cJ6_bitCount_0f7a4 15 = .ok (.iload_n 0, 1) := by decide +kernel
theorem dJ6_bitCount_0f7a4_16 : decode cJ6_bitCount_0f7a4 16 = .ok (.iconst 2, 1) := by decide +kernel
theorem dJ6_bitCount_0f7a4_17 : decode cJ6_bitCount_0f7a4 17 = .ok (.iushr, 1) := by decide +kernel
theorem dJ6_bitCount_0f7a4_18 : decode cJ6_bitCount_0f7a4 18 = .ok (.ldc_w 266, 3) := by decide +kernel
theorem dJ6_bitCount_0f7a4_21 : decode cJ6_bitCount_0f7a4 21 = .ok (.iand, 1) := by decide +kernel
theorem dJ6_bitCount_0f7a4_22 : decode cJ6_bitCount_0f7a4 22 = .ok (.iadd, 1) := by decide +kernel
theorem dJ6_bitCount_0f7a4_23 : decode cJ6_bitCount_0f7a4 23 = .ok (.istore_n 0, 1) := by decide +kernel
theorem dJ6_bitCount_0f7a4_24 : decode cJ6_bitCount_0f7a4 24 = .ok (.iload_n 0, 1) := by decide +kernel
theorem dJ6_bitCount_0f7a4_25 : decode cJ6_bitCount_0f7a4 25 = .ok (.iload_n 0, 1) := by decide +kernel
theorem dJ6_bitCount_0f7a4_26 : decode cJ6_bitCount_0f7a4 26 = .ok (.iconst 4, 1) := by decide +kernel
theorem dJ6_bitCount_0f7a4_27 : decode cJ6_bitCount_0f7a4 27 = .ok (.iushr, 1) := by decide +kernel
theorem dJ6_bitCount_0f7a4_28 : decode cJ6_bitCount_0f7a4 28 = .ok (.iadd, 1) := by decide +kernel
theorem dJ6_bitCount_0f7a4_29 : decode cJ6_bitCount_0f7a4 29 = .ok (.ldc_w 267, 3) := by decide +kernel
theorem dJ6_bitCount_0f7a4_32 : decode cJ6_bitCount_0f7a4 32 = .ok (.iand, 1) := by decide +kernel
theorem dJ6_bitCount_0f7a4_33 : decode cJ6_bitCount_0f7a4 33 = .ok (.istore_n 0, 1) := by decide +kernel
theorem dJ6_bitCount_0f7a4_34 : decode cJ6_bitCount_0f7a4 34 = .ok (.iload_n 0, 1) := by decide +kernel
theorem dJ6_bitCount_0f7a4_35 : decode cJ6_bitCount_0f7a4 35 = .ok (.iload_n 0, 1) := by decide +kernel
theorem dJ6_bitCount_0f7a4_36 : decode cJ6_bitCount_0f7a4 36 = .ok (.bipush 8, 2) := by decide +kernel
theorem dJ6_bitCount_0f7a4_38 : decode cJ6_bitCount_0f7a4 38 = .ok (.iushr, 1) := by decide +kernel
theorem dJ6_bitCount_0f7a4_39 : decode cJ6_bitCount_0f7a4 39 = .ok (.iadd, 1) := by decide +kernel
theorem dJ6_bitCount_0f7a4_40 : decode cJ6_bitCount_0f7a4 40 = .ok (.istore_n 0, 1) := by decide +kernel
theorem dJ6_bitCount_0f7a4_41 : decode cJ6_bitCount_0f7a4 41 = .ok (.iload_n 0, 1) := by decide +kernel
theorem dJ6_bitCount_0f7a4_42 : decode cJ6_bitCount_0f7a4 42 = .ok (.iload_n 0, 1) := by decide +kernel
theorem dJ6_bitCount_0f7a4_43 : decode cJ6_bitCount_0f7a4 43 = .ok (.bipush 16, 2) := by decide +kernel
theorem dJ6_bitCount_0f7a4_45 : decode cJ6_bitCount_0f7a4 45 = .ok (.iushr, 1) := by decide +kernel
theorem dJ6_bitCount_0f7a4_46 : decode cJ6_bitCount_0f7a4 46 = .ok (.iadd, 1) := by decide +kernel
theorem dJ6_bitCount_0f7a4_47 : decode cJ6_bitCount_0f7a4 47 = .ok (.istore_n 0, 1) := by decide +kernel
theorem dJ6_bitCount_0f7a4_48 : decode cJ6_bitCount_0f7a4 48 = .ok (.iload_n 0, 1) := by decide +kernel
theorem dJ6_bitCount_0f7a4_49 : decode cJ6_bitCount_0f7a4 49 = .ok (.bipush 63, 2) := by decide +kernel
theorem dJ6_bitCount_0f7a4_51 : decode cJ6_bitCount_0f7a4 51 = .ok (.iand, 1) := by decide +kernel
theorem dJ6_bitCount_0f7a4_52 : decode cJ6_bitCount_0f7a4 52 = .ok (.ireturn, 1) := by decide +kernel
def f_J6_bitCount_0f7a4 (N : Nat) (p0 : Int32) : Option (Int32) := some ((((((((p0 - ((p0.toUInt32 >>> ((1 : Int32).toUInt32 &&& Int32.toUInt32 31)).toInt32 &&& (1431655765 : Int32))) &&& (858993459 : Int32)) + (((p0 - ((p0.toUInt32 >>> ((1 : Int32).toUInt32 &&& Int32.toUInt32 31)).toInt32 &&& (1431655765 : Int32))).toUInt32 >>> ((2 : Int32).toUInt32 &&& Int32.toUInt32 31)).toInt32 &&& (858993459 : Int32))) + ((((p0 - ((p0.toUInt32 >>> ((1 : Int32).toUInt32 &&& Int32.toUInt32 31)).toInt32 &&& (1431655765 : Int32))) &&& (858993459 : Int32)) + (((p0 - ((p0.toUInt32 >>> ((1 : Int32).toUInt32 &&& Int32.toUInt32 31)).toInt32 &&& (1431655765 : Int32))).toUInt32 >>> ((2 : Int32).toUInt32 &&& Int32.toUInt32 31)).toInt32 &&& (858993459 : Int32))).toUInt32 >>> ((4 : Int32).toUInt32 &&& Int32.toUInt32 31)).toInt32) &&& (252645135 : Int32)) + ((((((p0 - ((p0.toUInt32 >>> ((1 : Int32).toUInt32 &&& Int32.toUInt32 31)).toInt32 &&& (1431655765 : Int32))) &&& (858993459 : Int32)) + (((p0 - ((p0.toUInt32 >>> ((1 : Int32).toUInt32 &&& Int32.toUInt32 31)).toInt32 &&& (1431655765 : Int32))).toUInt32 >>> ((2 : Int32).toUInt32 &&& Int32.toUInt32 31)).toInt32 &&& (858993459 : Int32))) + ((((p0 - ((p0.toUInt32 >>> ((1 : Int32).toUInt32 &&& Int32.toUInt32 31)).toInt32 &&& (1431655765 : Int32))) &&& (858993459 : Int32)) + (((p0 - ((p0.toUInt32 >>> ((1 : Int32).toUInt32 &&& Int32.toUInt32 31)).toInt32 &&& (1431655765 : Int32))).toUInt32 >>> ((2 : Int32).toUInt32 &&& Int32.toUInt32 31)).toInt32 &&& (858993459 : Int32))).toUInt32 >>> ((4 : Int32).toUInt32 &&& Int32.toUInt32 31)).toInt32) &&& (252645135 : Int32)).toUInt32 >>> ((8 : Int32).toUInt32 &&& Int32.toUInt32 31)).toInt32) + (((((((p0 - ((p0.toUInt32 >>> ((1 : Int32).toUInt32 &&& Int32.toUInt32 31)).toInt32 &&& (1431655765 : Int32))) &&& (858993459 : Int32)) + (((p0 - ((p0.toUInt32 >>> ((1 : Int32).toUInt32 &&& Int32.toUInt32 31)).toInt32 &&& (1431655765 : Int32))).toUInt32 >>> ((2 : Int32).toUInt32 &&& Int32.toUInt32 31)).toInt32 &&& (858993459 : Int32))) + ((((p0 - ((p0.toUInt32 >>> ((1 : Int32).toUInt32 &&& Int32.toUInt32 31)).toInt32 &&& (1431655765 : Int32))) &&& (858993459 : Int32)) + (((p0 - ((p0.toUInt32 >>> ((1 : Int32).toUInt32 &&& Int32.toUInt32 31)).toInt32 &&& (1431655765 : Int32))).toUInt32 >>> ((2 : Int32).toUInt32 &&& Int32.toUInt32 31)).toInt32 &&& (858993459 : Int32))).toUInt32 >>> ((4 : Int32).toUInt32 &&& Int32.toUInt32 31)).toInt32) &&& (252645135 : Int32)) + ((((((p0 - ((p0.toUInt32 >>> ((1 : Int32).toUInt32 &&& Int32.toUInt32 31)).toInt32 &&& (1431655765 : Int32))) &&& (858993459 : Int32)) + (((p0 - ((p0.toUInt32 >>> ((1 : Int32).toUInt32 &&& Int32.toUInt32 31)).toInt32 &&& (1431655765 : Int32))).toUInt32 >>> ((2 : Int32).toUInt32 &&& Int32.toUInt32 31)).toInt32 &&& (858993459 : Int32))) + ((((p0 - ((p0.toUInt32 >>> ((1 : Int32).toUInt32 &&& Int32.toUInt32 31)).toInt32 &&& (1431655765 : Int32))) &&& (858993459 : Int32)) + (((p0 - ((p0.toUInt32 >>> ((1 : Int32).toUInt32 &&& Int32.toUInt32 31)).toInt32 &&& (1431655765 : Int32))).toUInt32 >>> ((2 : Int32).toUInt32 &&& Int32.toUInt32 31)).toInt32 &&& (858993459 : Int32))).toUInt32 >>> ((4 : Int32).toUInt32 &&& Int32.toUInt32 31)).toInt32) &&& (252645135 : Int32)).toUInt32 >>> ((8 : Int32).toUInt32 &&& Int32.toUInt32 31)).toInt32).toUInt32 >>> ((16 : Int32).toUInt32 &&& Int32.toUInt32 31)).toInt32) &&& (63 : Int32))
set_option maxHeartbeats 4000000 in
set_option maxRecDepth 100000 in
theorem k_J6_bitCount_0f7a4 (l : Launch) (N : Nat) (D : va_G) (cI cJ cZ cB cT : ClassId) (p0 : Int32) (o_r : Int32) (hf : f_J6_bitCount_0f7a4 N p0 = some o_r) : ∀ sz, Met l yJ6_bitCount_0f7a4 (mw yJ6_bitCount_0f7a4 cJ6_bitCount_0f7a4 1 (some .int)) ({ frames := 0, cells := 0, slots := 0, locals := 0 } : Room) (mPre D (mT cI cJ cZ cB cT) [] sz [.int p0]) ((mQi D [] o_r True) (va_A [] sz)) 0 0 (va_A [] sz) := by
  refine mMet (Qc := (mQi D [] o_r True)) (by decide) (Nat.le_of_ble_eq_true rfl) (fun p e s m below meth c A ls hx hb hr hml hts hown hlocks hK hA hP hD hl => ?_)
  have hown : s.vm.findClass RJ6 = some m.cls := hown
  have hl : lv_has ls 1 [(0, .int p0)] := hl
  have hS : va_S A s.heap s.heap [] := va_S.rf
  unfold f_J6_bitCount_0f7a4 at hf
  refine lv_iload_n hx hb dJ6_bitCount_0f7a4_0 rfl (lv_at hl 0 rfl) ?_
  refine lv_iload_n hx hb dJ6_bitCount_0f7a4_1 rfl (lv_at hl 0 rfl) ?_
  refine lv_iconst (v := (1 : Int32)) hx hb dJ6_bitCount_0f7a4_2 (by decide) ?_
  refine lv_iushr hx hb dJ6_bitCount_0f7a4_3 rfl ?_
  refine lv_ldcw hx hb hown (hts _ ctJ6_265) dJ6_bitCount_0f7a4_4 ?_
  refine lv_iand hx hb dJ6_bitCount_0f7a4_7 ?_
  refine lv_isub hx hb dJ6_bitCount_0f7a4_8 ?_
  refine lv_istore_n (lv' := [(0, .int (p0 - ((p0.toUInt32 >>> ((1 : Int32).toUInt32 &&& Int32.toUInt32 31)).toInt32 &&& (1431655765 : Int32))))]) hx hb dJ6_bitCount_0f7a4_9 rfl hl (by decide) rfl (fun ls hl => ?_)
  refine lv_iload_n hx hb dJ6_bitCount_0f7a4_10 rfl (lv_at hl 0 rfl) ?_
  refine lv_ldcw hx hb hown (hts _ ctJ6_266) dJ6_bitCount_0f7a4_11 ?_
  refine lv_iand hx hb dJ6_bitCount_0f7a4_14 ?_
  refine lv_iload_n hx hb dJ6_bitCount_0f7a4_15 rfl (lv_at hl 0 rfl) ?_
  refine lv_iconst (v := (2 : Int32)) hx hb dJ6_bitCount_0f7a4_16 (by decide) ?_
  refine lv_iushr hx hb dJ6_bitCount_0f7a4_17 rfl ?_
  refine lv_ldcw hx hb hown (hts _ ctJ6_266) dJ6_bitCount_0f7a4_18 ?_
  refine lv_iand hx hb dJ6_bitCount_0f7a4_21 ?_
  refine lv_iadd hx hb dJ6_bitCount_0f7a4_22 ?_
  refine lv_istore_n (lv' := [(0, .int (((p0 - ((p0.toUInt32 >>> ((1 : Int32).toUInt32 &&& Int32.toUInt32 31)).toInt32 &&& (1431655765 : Int32))) &&& (858993459 : Int32)) + (((p0 - ((p0.toUInt32 >>> ((1 : Int32).toUInt32 &&& Int32.toUInt32 31)).toInt32 &&& (1431655765 : Int32))).toUInt32 >>> ((2 : Int32).toUInt32 &&& Int32.toUInt32 31)).toInt32 &&& (858993459 : Int32))))]) hx hb dJ6_bitCount_0f7a4_23 rfl hl (by decide) rfl (fun ls hl => ?_)
  refine lv_iload_n hx hb dJ6_bitCount_0f7a4_24 rfl (lv_at hl 0 rfl) ?_
  refine lv_iload_n hx hb dJ6_bitCount_0f7a4_25 rfl (lv_at hl 0 rfl) ?_
  refine lv_iconst (v := (4 : Int32)) hx hb dJ6_bitCount_0f7a4_26 (by decide) ?_
  refine lv_iushr hx hb dJ6_bitCount_0f7a4_27 rfl ?_
  refine lv_iadd hx hb dJ6_bitCount_0f7a4_28 ?_
  refine lv_ldcw hx hb hown (hts _ ctJ6_267) dJ6_bitCount_0f7a4_29 ?_
  refine lv_iand hx hb dJ6_bitCount_0f7a4_32 ?_
  refine lv_istore_n (lv' := [(0, .int (((((p0 - ((p0.toUInt32 >>> ((1 : Int32).toUInt32 &&& Int32.toUInt32 31)).toInt32 &&& (1431655765 : Int32))) &&& (858993459 : Int32)) + (((p0 - ((p0.toUInt32 >>> ((1 : Int32).toUInt32 &&& Int32.toUInt32 31)).toInt32 &&& (1431655765 : Int32))).toUInt32 >>> ((2 : Int32).toUInt32 &&& Int32.toUInt32 31)).toInt32 &&& (858993459 : Int32))) + ((((p0 - ((p0.toUInt32 >>> ((1 : Int32).toUInt32 &&& Int32.toUInt32 31)).toInt32 &&& (1431655765 : Int32))) &&& (858993459 : Int32)) + (((p0 - ((p0.toUInt32 >>> ((1 : Int32).toUInt32 &&& Int32.toUInt32 31)).toInt32 &&& (1431655765 : Int32))).toUInt32 >>> ((2 : Int32).toUInt32 &&& Int32.toUInt32 31)).toInt32 &&& (858993459 : Int32))).toUInt32 >>> ((4 : Int32).toUInt32 &&& Int32.toUInt32 31)).toInt32) &&& (252645135 : Int32)))]) hx hb dJ6_bitCount_0f7a4_33 rfl hl (by decide) rfl (fun ls hl => ?_)
  refine lv_iload_n hx hb dJ6_bitCount_0f7a4_34 rfl (lv_at hl 0 rfl) ?_
  refine lv_iload_n hx hb dJ6_bitCount_0f7a4_35 rfl (lv_at hl 0 rfl) ?_
  refine lv_bipush (v := (8 : Int32)) hx hb dJ6_bitCount_0f7a4_36 (by decide) ?_
  refine lv_iushr hx hb dJ6_bitCount_0f7a4_38 rfl ?_
  refine lv_iadd hx hb dJ6_bitCount_0f7a4_39 ?_
  refine lv_istore_n (lv' := [(0, .int ((((((p0 - ((p0.toUInt32 >>> ((1 : Int32).toUInt32 &&& Int32.toUInt32 31)).toInt32 &&& (1431655765 : Int32))) &&& (858993459 : Int32)) + (((p0 - ((p0.toUInt32 >>> ((1 : Int32).toUInt32 &&& Int32.toUInt32 31)).toInt32 &&& (1431655765 : Int32))).toUInt32 >>> ((2 : Int32).toUInt32 &&& Int32.toUInt32 31)).toInt32 &&& (858993459 : Int32))) + ((((p0 - ((p0.toUInt32 >>> ((1 : Int32).toUInt32 &&& Int32.toUInt32 31)).toInt32 &&& (1431655765 : Int32))) &&& (858993459 : Int32)) + (((p0 - ((p0.toUInt32 >>> ((1 : Int32).toUInt32 &&& Int32.toUInt32 31)).toInt32 &&& (1431655765 : Int32))).toUInt32 >>> ((2 : Int32).toUInt32 &&& Int32.toUInt32 31)).toInt32 &&& (858993459 : Int32))).toUInt32 >>> ((4 : Int32).toUInt32 &&& Int32.toUInt32 31)).toInt32) &&& (252645135 : Int32)) + ((((((p0 - ((p0.toUInt32 >>> ((1 : Int32).toUInt32 &&& Int32.toUInt32 31)).toInt32 &&& (1431655765 : Int32))) &&& (858993459 : Int32)) + (((p0 - ((p0.toUInt32 >>> ((1 : Int32).toUInt32 &&& Int32.toUInt32 31)).toInt32 &&& (1431655765 : Int32))).toUInt32 >>> ((2 : Int32).toUInt32 &&& Int32.toUInt32 31)).toInt32 &&& (858993459 : Int32))) + ((((p0 - ((p0.toUInt32 >>> ((1 : Int32).toUInt32 &&& Int32.toUInt32 31)).toInt32 &&& (1431655765 : Int32))) &&& (858993459 : Int32)) + (((p0 - ((p0.toUInt32 >>> ((1 : Int32).toUInt32 &&& Int32.toUInt32 31)).toInt32 &&& (1431655765 : Int32))).toUInt32 >>> ((2 : Int32).toUInt32 &&& Int32.toUInt32 31)).toInt32 &&& (858993459 : Int32))).toUInt32 >>> ((4 : Int32).toUInt32 &&& Int32.toUInt32 31)).toInt32) &&& (252645135 : Int32)).toUInt32 >>> ((8 : Int32).toUInt32 &&& Int32.toUInt32 31)).toInt32))]) hx hb dJ6_bitCount_0f7a4_40 rfl hl (by decide) rfl (fun ls hl => ?_)
  refine lv_iload_n hx hb dJ6_bitCount_0f7a4_41 rfl (lv_at hl 0 rfl) ?_
  refine lv_iload_n hx hb dJ6_bitCount_0f7a4_42 rfl (lv_at hl 0 rfl) ?_
  refine lv_bipush (v := (16 : Int32)) hx hb dJ6_bitCount_0f7a4_43 (by decide) ?_
  refine lv_iushr hx hb dJ6_bitCount_0f7a4_45 rfl ?_
  refine lv_iadd hx hb dJ6_bitCount_0f7a4_46 ?_
  refine lv_istore_n (lv' := [(0, .int (((((((p0 - ((p0.toUInt32 >>> ((1 : Int32).toUInt32 &&& Int32.toUInt32 31)).toInt32 &&& (1431655765 : Int32))) &&& (858993459 : Int32)) + (((p0 - ((p0.toUInt32 >>> ((1 : Int32).toUInt32 &&& Int32.toUInt32 31)).toInt32 &&& (1431655765 : Int32))).toUInt32 >>> ((2 : Int32).toUInt32 &&& Int32.toUInt32 31)).toInt32 &&& (858993459 : Int32))) + ((((p0 - ((p0.toUInt32 >>> ((1 : Int32).toUInt32 &&& Int32.toUInt32 31)).toInt32 &&& (1431655765 : Int32))) &&& (858993459 : Int32)) + (((p0 - ((p0.toUInt32 >>> ((1 : Int32).toUInt32 &&& Int32.toUInt32 31)).toInt32 &&& (1431655765 : Int32))).toUInt32 >>> ((2 : Int32).toUInt32 &&& Int32.toUInt32 31)).toInt32 &&& (858993459 : Int32))).toUInt32 >>> ((4 : Int32).toUInt32 &&& Int32.toUInt32 31)).toInt32) &&& (252645135 : Int32)) + ((((((p0 - ((p0.toUInt32 >>> ((1 : Int32).toUInt32 &&& Int32.toUInt32 31)).toInt32 &&& (1431655765 : Int32))) &&& (858993459 : Int32)) + (((p0 - ((p0.toUInt32 >>> ((1 : Int32).toUInt32 &&& Int32.toUInt32 31)).toInt32 &&& (1431655765 : Int32))).toUInt32 >>> ((2 : Int32).toUInt32 &&& Int32.toUInt32 31)).toInt32 &&& (858993459 : Int32))) + ((((p0 - ((p0.toUInt32 >>> ((1 : Int32).toUInt32 &&& Int32.toUInt32 31)).toInt32 &&& (1431655765 : Int32))) &&& (858993459 : Int32)) + (((p0 - ((p0.toUInt32 >>> ((1 : Int32).toUInt32 &&& Int32.toUInt32 31)).toInt32 &&& (1431655765 : Int32))).toUInt32 >>> ((2 : Int32).toUInt32 &&& Int32.toUInt32 31)).toInt32 &&& (858993459 : Int32))).toUInt32 >>> ((4 : Int32).toUInt32 &&& Int32.toUInt32 31)).toInt32) &&& (252645135 : Int32)).toUInt32 >>> ((8 : Int32).toUInt32 &&& Int32.toUInt32 31)).toInt32) + (((((((p0 - ((p0.toUInt32 >>> ((1 : Int32).toUInt32 &&& Int32.toUInt32 31)).toInt32 &&& (1431655765 : Int32))) &&& (858993459 : Int32)) + (((p0 - ((p0.toUInt32 >>> ((1 : Int32).toUInt32 &&& Int32.toUInt32 31)).toInt32 &&& (1431655765 : Int32))).toUInt32 >>> ((2 : Int32).toUInt32 &&& Int32.toUInt32 31)).toInt32 &&& (858993459 : Int32))) + ((((p0 - ((p0.toUInt32 >>> ((1 : Int32).toUInt32 &&& Int32.toUInt32 31)).toInt32 &&& (1431655765 : Int32))) &&& (858993459 : Int32)) + (((p0 - ((p0.toUInt32 >>> ((1 : Int32).toUInt32 &&& Int32.toUInt32 31)).toInt32 &&& (1431655765 : Int32))).toUInt32 >>> ((2 : Int32).toUInt32 &&& Int32.toUInt32 31)).toInt32 &&& (858993459 : Int32))).toUInt32 >>> ((4 : Int32).toUInt32 &&& Int32.toUInt32 31)).toInt32) &&& (252645135 : Int32)) + ((((((p0 - ((p0.toUInt32 >>> ((1 : Int32).toUInt32 &&& Int32.toUInt32 31)).toInt32 &&& (1431655765 : Int32))) &&& (858993459 : Int32)) + (((p0 - ((p0.toUInt32 >>> ((1 : Int32).toUInt32 &&& Int32.toUInt32 31)).toInt32 &&& (1431655765 : Int32))).toUInt32 >>> ((2 : Int32).toUInt32 &&& Int32.toUInt32 31)).toInt32 &&& (858993459 : Int32))) + ((((p0 - ((p0.toUInt32 >>> ((1 : Int32).toUInt32 &&& Int32.toUInt32 31)).toInt32 &&& (1431655765 : Int32))) &&& (858993459 : Int32)) + (((p0 - ((p0.toUInt32 >>> ((1 : Int32).toUInt32 &&& Int32.toUInt32 31)).toInt32 &&& (1431655765 : Int32))).toUInt32 >>> ((2 : Int32).toUInt32 &&& Int32.toUInt32 31)).toInt32 &&& (858993459 : Int32))).toUInt32 >>> ((4 : Int32).toUInt32 &&& Int32.toUInt32 31)).toInt32) &&& (252645135 : Int32)).toUInt32 >>> ((8 : Int32).toUInt32 &&& Int32.toUInt32 31)).toInt32).toUInt32 >>> ((16 : Int32).toUInt32 &&& Int32.toUInt32 31)).toInt32))]) hx hb dJ6_bitCount_0f7a4_47 rfl hl (by decide) rfl (fun ls hl => ?_)
  refine lv_iload_n hx hb dJ6_bitCount_0f7a4_48 rfl (lv_at hl 0 rfl) ?_
  refine lv_bipush (v := (63 : Int32)) hx hb dJ6_bitCount_0f7a4_49 (by decide) ?_
  refine lv_iand hx hb dJ6_bitCount_0f7a4_51 ?_
  cases hf
  exact mret_i hx hb hr hlocks hP hD hS dJ6_bitCount_0f7a4_52 rfl trivial
theorem dX2_fewestHelpers_0 : decode cX2_fewestHelpers 0 = .ok (.aload_n 0, 1) := by decide +kernel
theorem dX2_fewestHelpers_1 : decode cX2_fewestHelpers 1 = .ok (.invokevirtual 40, 3) := by decide +kernel
theorem dX2_fewestHelpers_4 : decode cX2_fewestHelpers 4 = .ok (.istore_n 1, 1) := by decide +kernel
theorem dX2_fewestHelpers_5 : decode cX2_fewestHelpers 5 = .ok (.iload_n 1, 1) := by decide +kernel
theorem dX2_fewestHelpers_6 : decode cX2_fewestHelpers 6 = .ok (.istore_n 2, 1) := by decide +kernel
theorem dX2_fewestHelpers_7 : decode cX2_fewestHelpers 7 = .ok (.iconst 0, 1) := by decide +kernel
theorem dX2_fewestHelpers_8 : decode cX2_fewestHelpers 8 = .ok (.istore_n 3, 1) := by decide +kernel
theorem dX2_fewestHelpers_9 : decode cX2_fewestHelpers 9 = .ok (.iload_n 3, 1) := by decide +kernel
theorem dX2_fewestHelpers_10 : decode cX2_fewestHelpers 10 = .ok (.iload_n 1, 1) := by decide +kernel
theorem dX2_fewestHelpers_11 : decode cX2_fewestHelpers 11 = .ok (.if_icmp .gt 43, 3) := by decide +kernel
theorem dX2_fewestHelpers_14 : decode cX2_fewestHelpers 14 = .ok (.iload_n 3, 1) := by decide +kernel
theorem dX2_fewestHelpers_15 : decode cX2_fewestHelpers 15 = .ok (.invokestatic 44, 3) := by decide +kernel
theorem dX2_fewestHelpers_18 : decode cX2_fewestHelpers 18 = .ok (.iload_n 2, 1) := by decide +kernel
theorem dX2_fewestHelpers_19 : decode cX2_fewestHelpers 19 = .ok (.invokestatic 44, 3) := by decide +kernel
theorem dX2_fewestHelpers_22 : decode cX2_fewestHelpers 22 = .ok (.if_icmp .ge 7, 3) := by decide +kernel
theorem dX2_fewestHelpers_25 : decode cX2_fewestHelpers 25 = .ok (.iconst 1, 1) := by decide +kernel
theorem dX2_fewestHelpers_26 : decode cX2_fewestHelpers 26 = .ok (.goto 4, 3) := by decide +kernel
theorem dX2_fewestHelpers_29 : decode cX2_fewestHelpers 29 = .ok (.iconst 0, 1) := by decide +kernel
theorem dX2_fewestHelpers_30 : decode cX2_fewestHelpers 30 = .ok (.istore 4, 2) := by decide +kernel
theorem dX2_fewestHelpers_32 : decode cX2_fewestHelpers 32 = .ok (.iload 4, 2) := by decide +kernel
theorem dX2_fewestHelpers_34 : decode cX2_fewestHelpers 34 = .ok (.ifCond .eq 14, 3) := by decide +kernel
theorem dX2_fewestHelpers_37 : decode cX2_fewestHelpers 37 = .ok (.aload_n 0, 1) := by decide +kernel
theorem dX2_fewestHelpers_38 : decode cX2_fewestHelpers 38 = .ok (.iload_n 3, 1) := by decide +kernel
theorem dX2_fewestHelpers_39 : decode cX2_fewestHelpers 39 = .ok (.invokevirtual 36, 3) := by decide +kernel
theorem dX2_fewestHelpers_42 : decode cX2_fewestHelpers 42 = .ok (.iload_n 1, 1) := by decide +kernel
theorem dX2_fewestHelpers_43 : decode cX2_fewestHelpers 43 = .ok (.if_icmp .ne 5, 3) := by decide +kernel
theorem dX2_fewestHelpers_46 : decode cX2_fewestHelpers 46 = .ok (.iload_n 3, 1) := by decide +kernel
theorem dX2_fewestHelpers_47 : decode cX2_fewestHelpers 47 = .ok (.istore_n 2, 1) := by decide +kernel
theorem dX2_fewestHelpers_48 : decode cX2_fewestHelpers 48 = .ok (.iinc 3 1, 3) := by decide +kernel
theorem dX2_fewestHelpers_51 : decode cX2_fewestHelpers 51 = .ok (.goto (-42), 3) := by decide +kernel
theorem dX2_fewestHelpers_54 : decode cX2_fewestHelpers 54 = .ok (.iload_n 2, 1) := by decide +kernel
theorem dX2_fewestHelpers_55 : decode cX2_fewestHelpers 55 = .ok (.ireturn, 1) := by decide +kernel
def f_X2_fewestHelpers_48 (N : Nat) (k_9 : Int32 → (Nat → Int32) → Int32 → Int32 → Int32 → Option (Int32)) (d_n : Int32) (d_road : Nat → Int32) (x1 : Int32) (x2 : Int32) (x3 : Int32) : Option (Int32) := k_9 d_n d_road x1 x2 (x3 + (1 : Int32))
def f_X2_fewestHelpers_30 (N : Nat) (k_9 : Int32 → (Nat → Int32) → Int32 → Int32 → Int32 → Option (Int32)) (d_n : Int32) (d_road : Nat → Int32) (x1 : Int32) (x2 : Int32) (x3 : Int32) (s0 : Int32) : Option (Int32) := if s0 = 0 then (f_X2_fewestHelpers_48 N k_9 d_n d_road x1 x2 x3) else (ob1 (f_X2_spread N d_n d_road x3) fun r39 => if r39 = x1 then (f_X2_fewestHelpers_48 N k_9 d_n d_road x1 x3 x3) else (f_X2_fewestHelpers_48 N k_9 d_n d_road x1 x2 x3))
def f_X2_fewestHelpers_9 (N : Nat) : Nat → Int32 → (Nat → Int32) → Int32 → Int32 → Int32 → Option (Int32)
  | 0, _, _, _, _, _ => none
  | n + 1, d_n, d_road, x1, x2, x3 => if x1 < x3 then (some x2) else (ob1 (f_J6_bitCount_0f7a4 N x3) fun r15 => ob1 (f_J6_bitCount_0f7a4 N x2) fun r19 => if r19 ≤ r15 then (f_X2_fewestHelpers_30 N (f_X2_fewestHelpers_9 N n) d_n d_road x1 x2 x3 (0 : Int32)) else (f_X2_fewestHelpers_30 N (f_X2_fewestHelpers_9 N n) d_n d_road x1 x2 x3 (1 : Int32)))
def f_X2_fewestHelpers (N : Nat) (d_n : Int32) (d_road : Nat → Int32) : Option (Int32) := ob1 (f_X2_all N d_n) fun r1 => f_X2_fewestHelpers_9 N N d_n d_road r1 r1 (0 : Int32)
set_option maxHeartbeats 4000000 in
set_option maxRecDepth 100000 in
theorem k_X2_fewestHelpers (l : Launch) (N : Nat) (D : va_G) (cI cJ cZ cB cT : ClassId) (qd0 : Nat) (qd2 : Nat) (qd1 : Nat) (d_n : Int32) (d_road : Nat → Int32) (o_r : Int32) (hf : f_X2_fewestHelpers N d_n d_road = some o_r) : ∀ sz, Met l yX2_fewestHelpers (mw yX2_fewestHelpers cX2_fewestHelpers 5 (some .int)) ({ frames := 1, cells := 0, slots := 0, locals := 23 } : Room) (mPre D (mT cI cJ cZ cB cT) (W_L_0_2 qd0 qd2 qd1 cI cJ cZ cB cT d_n d_road) sz [.ref qd0]) ((mQi D (W_L_0_2 qd0 qd2 qd1 cI cJ cZ cB cT d_n d_road) o_r True) (va_A (W_L_0_2 qd0 qd2 qd1 cI cJ cZ cB cT d_n d_road) sz)) 0 0 (va_A (W_L_0_2 qd0 qd2 qd1 cI cJ cZ cB cT d_n d_road) sz) := by
  refine mMet (Qc := (mQi D (W_L_0_2 qd0 qd2 qd1 cI cJ cZ cB cT d_n d_road) o_r True)) (by decide) (Nat.le_of_ble_eq_true rfl) (fun p e s m below meth c A ls hx hb hr hml hts hown hlocks hK hA hP hD hl => ?_)
  have hown : s.vm.findClass RX2 = some m.cls := hown
  have hl : lv_has ls 5 [(0, .ref qd0)] := hl
  have hS : va_S A s.heap s.heap [] := va_S.rf
  have b9 : ∀ n9 : Nat, ∀ (x1 : Int32) (x2 : Int32) (x3 : Int32) (H : Heap) (locs : List Loc) (ls : Array Slot), f_X2_fewestHelpers_9 N n9 d_n d_road x1 x2 x3 = some o_r → va_P D vwCl (W_L_0_2 qd0 qd2 qd1 cI cJ cZ cB cT d_n d_road) H → va_D A (W_L_0_2 qd0 qd2 qd1 cI cJ cZ cB cT d_n d_road) → va_S A s.heap H locs → lv_has ls 5 [(0, .ref qd0), (1, .int x1), (2, .int x2), (3, .int x3)] → W p l e ({ frames := 1, cells := 0, slots := 0, locals := 23 } : Room) s m ([.ref qd0] : List Value).toArray below meth c H locs 0 0 (MQ below ((mQi D (W_L_0_2 qd0 qd2 qd1 cI cJ cZ cB cT d_n d_road) o_r True) A) ([.ref qd0] : List Value).toArray s 0 0 A) (F0 m 9 ls []) := by
    intro n9
    induction n9 with
    | zero =>
      intro x1 x2 x3 H locs ls hf hP hD hS hl
      simp [f_X2_fewestHelpers_9] at hf
    | succ n9 ih9 =>
      have b48 : ∀ (x1 : Int32) (x2 : Int32) (x3 : Int32) (H : Heap) (locs : List Loc) (ls : Array Slot), f_X2_fewestHelpers_48 N (f_X2_fewestHelpers_9 N n9) d_n d_road x1 x2 x3 = some o_r → va_P D vwCl (W_L_0_2 qd0 qd2 qd1 cI cJ cZ cB cT d_n d_road) H → va_D A (W_L_0_2 qd0 qd2 qd1 cI cJ cZ cB cT d_n d_road) → va_S A s.heap H locs → lv_has ls 5 [(0, .ref qd0), (1, .int x1), (2, .int x2), (3, .int x3)] → W p l e ({ frames := 1, cells := 0, slots := 0, locals := 23 } : Room) s m ([.ref qd0] : List Value).toArray below meth c H locs 0 0 (MQ below ((mQi D (W_L_0_2 qd0 qd2 qd1 cI cJ cZ cB cT d_n d_road) o_r True) A) ([.ref qd0] : List Value).toArray s 0 0 A) (F0 m 48 ls []) := by
        intro x1 x2 x3 H locs ls hf hP hD hS hl
        unfold f_X2_fewestHelpers_48 at hf
        refine lv_iinc (v := (x3 + (1 : Int32))) (lv' := [(3, .int (x3 + (1 : Int32))), (0, .ref qd0), (1, .int x1), (2, .int x2)]) hx hb dX2_fewestHelpers_48 hl (k := 3) rfl rfl (by decide) rfl (fun ls hl => ?_)
        refine lv_goto (tgt := 9) hx hb dX2_fewestHelpers_51 (by decide) ?_
        exact ih9 x1 x2 (x3 + (1 : Int32)) _ _ _ hf hP hD hS (lv_sub hl [1, 2, 3, 0] rfl)
      have b30 : ∀ (x1 : Int32) (x2 : Int32) (x3 : Int32) (s0 : Int32) (H : Heap) (locs : List Loc) (ls : Array Slot), f_X2_fewestHelpers_30 N (f_X2_fewestHelpers_9 N n9) d_n d_road x1 x2 x3 s0 = some o_r → va_P D vwCl (W_L_0_2 qd0 qd2 qd1 cI cJ cZ cB cT d_n d_road) H → va_D A (W_L_0_2 qd0 qd2 qd1 cI cJ cZ cB cT d_n d_road) → va_S A s.heap H locs → lv_has ls 5 [(0, .ref qd0), (1, .int x1), (2, .int x2), (3, .int x3)] → W p l e ({ frames := 1, cells := 0, slots := 0, locals := 23 } : Room) s m ([.ref qd0] : List Value).toArray below meth c H locs 0 0 (MQ below ((mQi D (W_L_0_2 qd0 qd2 qd1 cI cJ cZ cB cT d_n d_road) o_r True) A) ([.ref qd0] : List Value).toArray s 0 0 A) (F0 m 30 ls [.int s0]) := by
        intro x1 x2 x3 s0 H locs ls hf hP hD hS hl
        unfold f_X2_fewestHelpers_30 at hf
        refine lv_istore (lv' := [(4, .int s0), (0, .ref qd0), (1, .int x1), (2, .int x2), (3, .int x3)]) hx hb dX2_fewestHelpers_30 hl (by decide) rfl (fun ls hl => ?_)
        refine lv_iload hx hb dX2_fewestHelpers_32 (lv_at hl 0 rfl) ?_
        refine xif_eq hx hb 48 dX2_fewestHelpers_34 (by decide) hf (fun hf => ?_) (fun hf => ?_)
        · exact b48 x1 x2 x3 _ _ _ hf hP hD hS (lv_sub hl [1, 2, 3, 4] rfl)
        · refine lv_aload_n hx hb dX2_fewestHelpers_37 rfl (lv_at hl 1 rfl) ?_
          refine lv_iload_n hx hb dX2_fewestHelpers_38 rfl (lv_at hl 4 rfl) ?_
          obtain ⟨r39, hg39, hf⟩ := ob1_some hf
          refine mcV1_i (As := [.int x3]) (rest := []) hx hb hml hown hts hK hP hD hS hA (k_X2_spread l N D cI cJ cZ cB cT qd0 qd2 qd1 d_n d_road x3 r39 hg39) (kwX2_36 hts rfl rfl ⟨Nat.le_of_ble_eq_true rfl, Nat.le_of_ble_eq_true rfl⟩) 0 rfl rfl rfl rfl hl.1 rfl (Nat.le_of_ble_eq_true rfl) dX2_fewestHelpers_39 ⟨Nat.zero_le _, Nat.zero_le _⟩ (fun hB39 H locs hP hD hS => ?_)
          have hP : va_P D vwCl (W_L_0_2 qd0 qd2 qd1 cI cJ cZ cB cT d_n d_road) H := hP
          have hD : va_D A (W_L_0_2 qd0 qd2 qd1 cI cJ cZ cB cT d_n d_road) := hD
          refine lv_iload_n hx hb dX2_fewestHelpers_42 rfl (lv_at hl 2 rfl) ?_
          refine xicmp_ne hx hb 48 dX2_fewestHelpers_43 (by decide) hf (fun hf => ?_) (fun hf => ?_)
          · refine lv_iload_n hx hb dX2_fewestHelpers_46 rfl (lv_at hl 4 rfl) ?_
            refine lv_istore_n (lv' := [(2, .int x3), (4, .int s0), (0, .ref qd0), (1, .int x1), (3, .int x3)]) hx hb dX2_fewestHelpers_47 rfl hl (by decide) rfl (fun ls hl => ?_)
            exact b48 x1 x3 x3 _ _ _ hf hP hD hS (lv_sub hl [2, 3, 0, 4] rfl)
          · exact b48 x1 x2 x3 _ _ _ hf hP hD hS (lv_sub hl [1, 2, 3, 4] rfl)
      intro x1 x2 x3 H locs ls hf hP hD hS hl
      rw [f_X2_fewestHelpers_9.eq_2] at hf
      refine lv_iload_n hx hb dX2_fewestHelpers_9 rfl (lv_at hl 3 rfl) ?_
      refine lv_iload_n hx hb dX2_fewestHelpers_10 rfl (lv_at hl 1 rfl) ?_
      refine xicmp_gt hx hb 54 dX2_fewestHelpers_11 (by decide) hf (fun hf => ?_) (fun hf => ?_)
      · refine lv_iload_n hx hb dX2_fewestHelpers_54 rfl (lv_at hl 2 rfl) ?_
        cases hf
        exact mret_i hx hb hr hlocks hP hD hS dX2_fewestHelpers_55 rfl trivial
      · refine lv_iload_n hx hb dX2_fewestHelpers_14 rfl (lv_at hl 3 rfl) ?_
        obtain ⟨r15, hg15, hf⟩ := ob1_some hf
        refine mcS0_i (As := [.int x3]) (rest := []) hx hb hml hown hts hK hP hD hS hA (k_J6_bitCount_0f7a4 l N D cI cJ cZ cB cT x3 r15 hg15) (kwX2_44 hts rfl rfl ⟨Nat.le_of_ble_eq_true rfl, Nat.le_of_ble_eq_true rfl⟩) rfl hl.1 rfl (Nat.le_of_ble_eq_true rfl) dX2_fewestHelpers_15 ⟨Nat.zero_le _, Nat.zero_le _⟩ (fun hB15 H locs hP hD hS => ?_)
        refine lv_iload_n hx hb dX2_fewestHelpers_18 rfl (lv_at hl 2 rfl) ?_
        obtain ⟨r19, hg19, hf⟩ := ob1_some hf
        refine mcS0_i (As := [.int x2]) (rest := [.int r15]) hx hb hml hown hts hK hP hD hS hA (k_J6_bitCount_0f7a4 l N D cI cJ cZ cB cT x2 r19 hg19) (kwX2_44 hts rfl rfl ⟨Nat.le_of_ble_eq_true rfl, Nat.le_of_ble_eq_true rfl⟩) rfl hl.1 rfl (Nat.le_of_ble_eq_true rfl) dX2_fewestHelpers_19 ⟨Nat.zero_le _, Nat.zero_le _⟩ (fun hB19 H locs hP hD hS => ?_)
        refine xicmp_ge hx hb 29 dX2_fewestHelpers_22 (by decide) hf (fun hf => ?_) (fun hf => ?_)
        · refine lv_iconst (v := (0 : Int32)) hx hb dX2_fewestHelpers_29 (by decide) ?_
          exact b30 x1 x2 x3 (0 : Int32) _ _ _ hf hP hD hS (lv_sub hl [0, 1, 2, 3] rfl)
        · refine lv_iconst (v := (1 : Int32)) hx hb dX2_fewestHelpers_25 (by decide) ?_
          refine lv_goto (tgt := 30) hx hb dX2_fewestHelpers_26 (by decide) ?_
          exact b30 x1 x2 x3 (1 : Int32) _ _ _ hf hP hD hS (lv_sub hl [0, 1, 2, 3] rfl)
  unfold f_X2_fewestHelpers at hf
  refine lv_aload_n hx hb dX2_fewestHelpers_0 rfl (lv_at hl 0 rfl) ?_
  obtain ⟨r1, hg1, hf⟩ := ob1_some hf
  refine mcV_i (wr := [(qd2, .inl (cI, 8, .inl d_road))]) (As := []) (rest := []) hx hb hml hown hts hK hP hD hS hA (k_X2_all l N D cI cJ cZ cB cT qd0 qd1 qd2 d_n r1 hg1) (kwX2_40 hts rfl rfl ⟨Nat.le_of_ble_eq_true rfl, Nat.le_of_ble_eq_true rfl⟩) [0] [1] rfl rfl rfl (by decide) rfl 0 rfl rfl rfl rfl hl.1 rfl (Nat.le_of_ble_eq_true rfl) dX2_fewestHelpers_1 ⟨Nat.zero_le _, Nat.zero_le _⟩ (fun hB1 H locs hP hD hS => ?_)
  have hP := mP_sub (wc := (W_L_0_2 qd0 qd2 qd1 cI cJ cZ cB cT d_n d_road)) hP [1, 0] rfl
  have hD := hD.sub (ws' := (W_L_0_2 qd0 qd2 qd1 cI cJ cZ cB cT d_n d_road)) [1, 0] rfl rfl
  refine lv_istore_n (lv' := [(1, .int r1), (0, .ref qd0)]) hx hb dX2_fewestHelpers_4 rfl hl (by decide) rfl (fun ls hl => ?_)
  refine lv_iload_n hx hb dX2_fewestHelpers_5 rfl (lv_at hl 0 rfl) ?_
  refine lv_istore_n (lv' := [(2, .int r1), (1, .int r1), (0, .ref qd0)]) hx hb dX2_fewestHelpers_6 rfl hl (by decide) rfl (fun ls hl => ?_)
  refine lv_iconst (v := (0 : Int32)) hx hb dX2_fewestHelpers_7 (by decide) ?_
  refine lv_istore_n (lv' := [(3, .int (0 : Int32)), (2, .int r1), (1, .int r1), (0, .ref qd0)]) hx hb dX2_fewestHelpers_8 rfl hl (by decide) rfl (fun ls hl => ?_)
  exact b9 N r1 r1 (0 : Int32) _ _ _ hf hP hD hS (lv_sub hl [3, 2, 1, 0] rfl)
theorem dX2_parts_0 : decode cX2_parts 0 = .ok (.iconst 1, 1) := by decide +kernel
theorem dX2_parts_1 : decode cX2_parts 1 = .ok (.iload_n 2, 1) := by decide +kernel
theorem dX2_parts_2 : decode cX2_parts 2 = .ok (.ishl, 1) := by decide +kernel
theorem dX2_parts_3 : decode cX2_parts 3 = .ok (.istore 4, 2) := by decide +kernel
theorem dX2_parts_5 : decode cX2_parts 5 = .ok (.iconst 0, 1) := by decide +kernel
theorem dX2_parts_6 : decode cX2_parts 6 = .ok (.istore 5, 2) := by decide +kernel
theorem dX2_parts_8 : decode cX2_parts 8 = .ok (.iload 5, 2) := by decide +kernel
theorem dX2_parts_10 : decode cX2_parts 10 = .ok (.bipush 8, 2) := by decide +kernel
theorem dX2_parts_12 : decode cX2_parts 12 = .ok (.if_icmp .ge 35, 3) := by decide +kernel
theorem dX2_parts_15 : decode cX2_parts 15 = .ok (.aload_n 0, 1) := by decide +kernel
theorem dX2_parts_16 : decode cX2_parts 16 = .ok (.iload 4, 2) := by decide +kernel
theorem dX2_parts_18 : decode cX2_parts 18 = .ok (.invokevirtual 36, 3) := by decide +kernel
theorem dX2_parts_21 : decode cX2_parts 21 = .ok (.iload_n 1, 1) := by decide +kernel
theorem dX2_parts_22 : decode cX2_parts 22 = .ok (.iconst (-1), 1) := by decide +kernel
theorem dX2_parts_23 : decode cX2_parts 23 = .ok (.ixor, 1) := by decide +kernel
theorem dX2_parts_24 : decode cX2_parts 24 = .ok (.iand, 1) := by decide +kernel
theorem dX2_parts_25 : decode cX2_parts 25 = .ok (.istore 6, 2) := by decide +kernel
theorem dX2_parts_27 : decode cX2_parts 27 = .ok (.iload 6, 2) := by decide +kernel
theorem dX2_parts_29 : decode cX2_parts 29 = .ok (.iload 4, 2) := by decide +kernel
theorem dX2_parts_31 : decode cX2_parts 31 = .ok (.if_icmp .ne 6, 3) := by decide +kernel
theorem dX2_parts_34 : decode cX2_parts 34 = .ok (.goto 13, 3) := by decide +kernel
theorem dX2_parts_37 : decode cX2_parts 37 = .ok (.iload 6, 2) := by decide +kernel
theorem dX2_parts_39 : decode cX2_parts 39 = .ok (.istore 4, 2) := by decide +kernel
theorem dX2_parts_41 : decode cX2_parts 41 = .ok (.iinc 5 1, 3) := by decide +kernel
theorem dX2_parts_44 : decode cX2_parts 44 = .ok (.goto (-36), 3) := by decide +kernel
theorem dX2_parts_47 : decode cX2_parts 47 = .ok (.iload 4, 2) := by decide +kernel
theorem dX2_parts_49 : decode cX2_parts 49 = .ok (.iload_n 3, 1) := by decide +kernel
theorem dX2_parts_50 : decode cX2_parts 50 = .ok (.ishr, 1) := by decide +kernel
theorem dX2_parts_51 : decode cX2_parts 51 = .ok (.iconst 1, 1) := by decide +kernel
theorem dX2_parts_52 : decode cX2_parts 52 = .ok (.iand, 1) := by decide +kernel
theorem dX2_parts_53 : decode cX2_parts 53 = .ok (.ifCond .ne 7, 3) := by decide +kernel
theorem dX2_parts_56 : decode cX2_parts 56 = .ok (.iconst 1, 1) := by decide +kernel
theorem dX2_parts_57 : decode cX2_parts 57 = .ok (.goto 4, 3) := by decide +kernel
theorem dX2_parts_60 : decode cX2_parts 60 = .ok (.iconst 0, 1) := by decide +kernel
theorem dX2_parts_61 : decode cX2_parts 61 = .ok (.ireturn, 1) := by decide +kernel
def f_X2_parts_47 (N : Nat) (d_n : Int32) (d_road : Nat → Int32) (x3 : Int32) (x4 : Int32) : Option (Int32) := if ((x4 >>> (x3 &&& 31)) &&& (1 : Int32)) = 0 then (some (1 : Int32)) else (some (0 : Int32))
def f_X2_parts_8 (N : Nat) : Nat → Int32 → (Nat → Int32) → Int32 → Int32 → Int32 → Int32 → Option (Int32)
  | 0, _, _, _, _, _, _ => none
  | n + 1, d_n, d_road, x1, x3, x4, x5 => if (8 : Int32) ≤ x5 then (f_X2_parts_47 N d_n d_road x3 x4) else (ob1 (f_X2_spread N d_n d_road x4) fun r18 => if (r18 &&& (x1 ^^^ (-1 : Int32))) = x4 then (f_X2_parts_47 N d_n d_road x3 x4) else ((f_X2_parts_8 N n) d_n d_road x1 x3 (r18 &&& (x1 ^^^ (-1 : Int32))) (x5 + (1 : Int32))))
def f_X2_parts (N : Nat) (d_n : Int32) (d_road : Nat → Int32) (p1 : Int32) (p2 : Int32) (p3 : Int32) : Option (Int32) := f_X2_parts_8 N N d_n d_road p1 p3 ((1 : Int32) <<< (p2 &&& 31)) (0 : Int32)
set_option maxHeartbeats 4000000 in
set_option maxRecDepth 100000 in
theorem k_X2_parts (l : Launch) (N : Nat) (D : va_G) (cI cJ cZ cB cT : ClassId) (qd0 : Nat) (qd2 : Nat) (qd1 : Nat) (d_n : Int32) (d_road : Nat → Int32) (p1 : Int32) (p2 : Int32) (p3 : Int32) (o_r : Int32) (hf : f_X2_parts N d_n d_road p1 p2 p3 = some o_r) : ∀ sz, Met l yX2_parts (mw yX2_parts cX2_parts 7 (some .boolean)) ({ frames := 1, cells := 0, slots := 0, locals := 23 } : Room) (mPre D (mT cI cJ cZ cB cT) (W_L_0_2 qd0 qd2 qd1 cI cJ cZ cB cT d_n d_road) sz [.ref qd0, .int p1, .int p2, .int p3]) ((mQi D (W_L_0_2 qd0 qd2 qd1 cI cJ cZ cB cT d_n d_road) o_r (mB o_r)) (va_A (W_L_0_2 qd0 qd2 qd1 cI cJ cZ cB cT d_n d_road) sz)) 0 0 (va_A (W_L_0_2 qd0 qd2 qd1 cI cJ cZ cB cT d_n d_road) sz) := by
  refine mMet (Qc := (mQi D (W_L_0_2 qd0 qd2 qd1 cI cJ cZ cB cT d_n d_road) o_r (mB o_r))) (by decide) (Nat.le_of_ble_eq_true rfl) (fun p e s m below meth c A ls hx hb hr hml hts hown hlocks hK hA hP hD hl => ?_)
  have hown : s.vm.findClass RX2 = some m.cls := hown
  have hl : lv_has ls 7 [(0, .ref qd0), (1, .int p1), (2, .int p2), (3, .int p3)] := hl
  have hS : va_S A s.heap s.heap [] := va_S.rf
  have b47 : ∀ (x3 : Int32) (x4 : Int32) (H : Heap) (locs : List Loc) (ls : Array Slot), f_X2_parts_47 N d_n d_road x3 x4 = some o_r → va_P D vwCl (W_L_0_2 qd0 qd2 qd1 cI cJ cZ cB cT d_n d_road) H → va_D A (W_L_0_2 qd0 qd2 qd1 cI cJ cZ cB cT d_n d_road) → va_S A s.heap H locs → lv_has ls 7 [(3, .int x3), (4, .int x4)] → W p l e ({ frames := 1, cells := 0, slots := 0, locals := 23 } : Room) s m ([.ref qd0, .int p1, .int p2, .int p3] : List Value).toArray below meth c H locs 0 0 (MQ below ((mQi D (W_L_0_2 qd0 qd2 qd1 cI cJ cZ cB cT d_n d_road) o_r (mB o_r)) A) ([.ref qd0, .int p1, .int p2, .int p3] : List Value).toArray s 0 0 A) (F0 m 47 ls []) := by
    intro x3 x4 H locs ls hf hP hD hS hl
    unfold f_X2_parts_47 at hf
    refine lv_iload hx hb dX2_parts_47 (lv_at hl 1 rfl) ?_
    refine lv_iload_n hx hb dX2_parts_49 rfl (lv_at hl 0 rfl) ?_
    refine lv_ishr hx hb dX2_parts_50 ?_
    refine lv_iconst (v := (1 : Int32)) hx hb dX2_parts_51 (by decide) ?_
    refine lv_iand hx hb dX2_parts_52 ?_
    refine xif_ne hx hb 60 dX2_parts_53 (by decide) hf (fun hf => ?_) (fun hf => ?_)
    · refine lv_iconst (v := (1 : Int32)) hx hb dX2_parts_56 (by decide) ?_
      refine lv_goto (tgt := 61) hx hb dX2_parts_57 (by decide) ?_
      cases hf
      exact mret_z hx hb hr hlocks hP hD hS dX2_parts_61 rfl rfl
    · refine lv_iconst (v := (0 : Int32)) hx hb dX2_parts_60 (by decide) ?_
      cases hf
      exact mret_z hx hb hr hlocks hP hD hS dX2_parts_61 rfl rfl
  have b8 : ∀ n8 : Nat, ∀ (x1 : Int32) (x3 : Int32) (x4 : Int32) (x5 : Int32) (H : Heap) (locs : List Loc) (ls : Array Slot), f_X2_parts_8 N n8 d_n d_road x1 x3 x4 x5 = some o_r → va_P D vwCl (W_L_0_2 qd0 qd2 qd1 cI cJ cZ cB cT d_n d_road) H → va_D A (W_L_0_2 qd0 qd2 qd1 cI cJ cZ cB cT d_n d_road) → va_S A s.heap H locs → lv_has ls 7 [(0, .ref qd0), (1, .int x1), (3, .int x3), (4, .int x4), (5, .int x5)] → W p l e ({ frames := 1, cells := 0, slots := 0, locals := 23 } : Room) s m ([.ref qd0, .int p1, .int p2, .int p3] : List Value).toArray below meth c H locs 0 0 (MQ below ((mQi D (W_L_0_2 qd0 qd2 qd1 cI cJ cZ cB cT d_n d_road) o_r (mB o_r)) A) ([.ref qd0, .int p1, .int p2, .int p3] : List Value).toArray s 0 0 A) (F0 m 8 ls []) := by
    intro n8
    induction n8 with
    | zero =>
      intro x1 x3 x4 x5 H locs ls hf hP hD hS hl
      simp [f_X2_parts_8] at hf
    | succ n8 ih8 =>
      intro x1 x3 x4 x5 H locs ls hf hP hD hS hl
      rw [f_X2_parts_8.eq_2] at hf
      refine lv_iload hx hb dX2_parts_8 (lv_at hl 4 rfl) ?_
      refine lv_bipush (v := (8 : Int32)) hx hb dX2_parts_10 (by decide) ?_
      refine xicmp_ge hx hb 47 dX2_parts_12 (by decide) hf (fun hf => ?_) (fun hf => ?_)
      · exact b47 x3 x4 _ _ _ hf hP hD hS (lv_sub hl [2, 3] rfl)
      · refine lv_aload_n hx hb dX2_parts_15 rfl (lv_at hl 0 rfl) ?_
        refine lv_iload hx hb dX2_parts_16 (lv_at hl 3 rfl) ?_
        obtain ⟨r18, hg18, hf⟩ := ob1_some hf
        refine mcV1_i (As := [.int x4]) (rest := []) hx hb hml hown hts hK hP hD hS hA (k_X2_spread l N D cI cJ cZ cB cT qd0 qd2 qd1 d_n d_road x4 r18 hg18) (kwX2_36 hts rfl rfl ⟨Nat.le_of_ble_eq_true rfl, Nat.le_of_ble_eq_true rfl⟩) 0 rfl rfl rfl rfl hl.1 rfl (Nat.le_of_ble_eq_true rfl) dX2_parts_18 ⟨Nat.zero_le _, Nat.zero_le _⟩ (fun hB18 H locs hP hD hS => ?_)
        have hP : va_P D vwCl (W_L_0_2 qd0 qd2 qd1 cI cJ cZ cB cT d_n d_road) H := hP
        have hD : va_D A (W_L_0_2 qd0 qd2 qd1 cI cJ cZ cB cT d_n d_road) := hD
        refine lv_iload_n hx hb dX2_parts_21 rfl (lv_at hl 1 rfl) ?_
        refine lv_iconst (v := (-1 : Int32)) hx hb dX2_parts_22 (by decide) ?_
        refine lv_ixor hx hb dX2_parts_23 ?_
        refine lv_iand hx hb dX2_parts_24 ?_
        refine lv_istore (lv' := [(6, .int (r18 &&& (x1 ^^^ (-1 : Int32)))), (0, .ref qd0), (1, .int x1), (3, .int x3), (4, .int x4), (5, .int x5)]) hx hb dX2_parts_25 hl (by decide) rfl (fun ls hl => ?_)
        refine lv_iload hx hb dX2_parts_27 (lv_at hl 0 rfl) ?_
        refine lv_iload hx hb dX2_parts_29 (lv_at hl 4 rfl) ?_
        refine xicmp_ne hx hb 37 dX2_parts_31 (by decide) hf (fun hf => ?_) (fun hf => ?_)
        · refine lv_goto (tgt := 47) hx hb dX2_parts_34 (by decide) ?_
          exact b47 x3 x4 _ _ _ hf hP hD hS (lv_sub hl [3, 4] rfl)
        · refine lv_iload hx hb dX2_parts_37 (lv_at hl 0 rfl) ?_
          refine lv_istore (lv' := [(4, .int (r18 &&& (x1 ^^^ (-1 : Int32)))), (6, .int (r18 &&& (x1 ^^^ (-1 : Int32)))), (0, .ref qd0), (1, .int x1), (3, .int x3), (5, .int x5)]) hx hb dX2_parts_39 hl (by decide) rfl (fun ls hl => ?_)
          refine lv_iinc (v := (x5 + (1 : Int32))) (lv' := [(5, .int (x5 + (1 : Int32))), (4, .int (r18 &&& (x1 ^^^ (-1 : Int32)))), (6, .int (r18 &&& (x1 ^^^ (-1 : Int32)))), (0, .ref qd0), (1, .int x1), (3, .int x3)]) hx hb dX2_parts_41 hl (k := 5) rfl rfl (by decide) rfl (fun ls hl => ?_)
          refine lv_goto (tgt := 8) hx hb dX2_parts_44 (by decide) ?_
          exact ih8 x1 x3 (r18 &&& (x1 ^^^ (-1 : Int32))) (x5 + (1 : Int32)) _ _ _ hf hP hD hS (lv_sub hl [3, 4, 5, 1, 0] rfl)
  unfold f_X2_parts at hf
  refine lv_iconst (v := (1 : Int32)) hx hb dX2_parts_0 (by decide) ?_
  refine lv_iload_n hx hb dX2_parts_1 rfl (lv_at hl 2 rfl) ?_
  refine lv_ishl hx hb dX2_parts_2 ?_
  refine lv_istore (lv' := [(4, .int ((1 : Int32) <<< (p2 &&& 31))), (0, .ref qd0), (1, .int p1), (2, .int p2), (3, .int p3)]) hx hb dX2_parts_3 hl (by decide) rfl (fun ls hl => ?_)
  refine lv_iconst (v := (0 : Int32)) hx hb dX2_parts_5 (by decide) ?_
  refine lv_istore (lv' := [(5, .int (0 : Int32)), (4, .int ((1 : Int32) <<< (p2 &&& 31))), (0, .ref qd0), (1, .int p1), (2, .int p2), (3, .int p3)]) hx hb dX2_parts_6 hl (by decide) rfl (fun ls hl => ?_)
  exact b8 N p1 p3 ((1 : Int32) <<< (p2 &&& 31)) (0 : Int32) _ _ _ hf hP hD hS (lv_sub hl [2, 3, 5, 1, 0] rfl)
theorem dX2_fewestWatched_0 : decode cX2_fewestWatched 0 = .ok (.aload_n 0, 1) := by decide +kernel
theorem dX2_fewestWatched_1 : decode cX2_fewestWatched 1 = .ok (.iload_n 1, 1) := by decide +kernel
theorem dX2_fewestWatched_2 : decode cX2_fewestWatched 2 = .ok (.invokevirtual 28, 3) := by decide +kernel
theorem dX2_fewestWatched_5 : decode cX2_fewestWatched 5 = .ok (.ifCond .eq 25, 3) := by decide +kernel
theorem dX2_fewestWatched_8 : decode cX2_fewestWatched 8 = .ok (.aload_n 0, 1) := by decide +kernel
theorem dX2_fewestWatched_9 : decode cX2_fewestWatched 9 = .ok (.iload_n 2, 1) := by decide +kernel
theorem dX2_fewestWatched_10 : decode cX2_fewestWatched 10 = .ok (.invokevirtual 28, 3) := by decide +kernel
theorem dX2_fewestWatched_13 : decode cX2_fewestWatched 13 = .ok (.ifCond .eq 17, 3) := by decide +kernel
theorem dX2_fewestWatched_16 : decode cX2_fewestWatched 16 = .ok (.iload_n 1, 1) := by decide +kernel
theorem dX2_fewestWatched_17 : decode cX2_fewestWatched 17 = .ok (.iload_n 2, 1) := by decide +kernel
theorem dX2_fewestWatched_18 : decode cX2_fewestWatched 18 = .ok (.if_icmp .eq 12, 3) := by decide +kernel
theorem dX2_fewestWatched_21 : decode cX2_fewestWatched 21 = .ok (.aload_n 0, 1) := by decide +kernel
theorem dX2_fewestWatched_22 : decode cX2_fewestWatched 22 = .ok (.iload_n 1, 1) := by decide +kernel
theorem dX2_fewestWatched_23 : decode cX2_fewestWatched 23 = .ok (.iload_n 2, 1) := by decide +kernel
theorem dX2_fewestWatched_24 : decode cX2_fewestWatched 24 = .ok (.invokevirtual 32, 3) := by decide +kernel
theorem dX2_fewestWatched_27 : decode cX2_fewestWatched 27 = .ok (.ifCond .eq 5, 3) := by decide +kernel
theorem dX2_fewestWatched_30 : decode cX2_fewestWatched 30 = .ok (.iconst (-1), 1) := by decide +kernel
theorem dX2_fewestWatched_31 : decode cX2_fewestWatched 31 = .ok (.ireturn, 1) := by decide +kernel
theorem dX2_fewestWatched_32 : decode cX2_fewestWatched 32 = .ok (.aload_n 0, 1) := by decide +kernel
theorem dX2_fewestWatched_33 : decode cX2_fewestWatched 33 = .ok (.invokevirtual 40, 3) := by decide +kernel
theorem dX2_fewestWatched_36 : decode cX2_fewestWatched 36 = .ok (.iconst 1, 1) := by decide +kernel
theorem dX2_fewestWatched_37 : decode cX2_fewestWatched 37 = .ok (.iload_n 1, 1) := by decide +kernel
theorem dX2_fewestWatched_38 : decode cX2_fewestWatched 38 = .ok (.ishl, 1) := by decide +kernel
theorem dX2_fewestWatched_39 : decode cX2_fewestWatched 39 = .ok (.iconst (-1), 1) := by decide +kernel
theorem dX2_fewestWatched_40 : decode cX2_fewestWatched 40 = .ok (.ixor, 1) := by decide +kernel
theorem dX2_fewestWatched_41 : decode cX2_fewestWatched 41 = .ok (.iand, 1) := by decide +kernel
theorem dX2_fewestWatched_42 : decode cX2_fewestWatched 42 = .ok (.iconst 1, 1) := by decide +kernel
theorem dX2_fewestWatched_43 : decode cX2_fewestWatched 43 = .ok (.iload_n 2, 1) := by decide +kernel
theorem dX2_fewestWatched_44 : decode cX2_fewestWatched 44 = .ok (.ishl, 1) := by decide +kernel
theorem dX2_fewestWatched_45 : decode cX2_fewestWatched 45 = .ok (.iconst (-1), 1) := by decide +kernel
theorem dX2_fewestWatched_46 : decode cX2_fewestWatched 46 = .ok (.ixor, 1) := by decide +kernel
theorem dX2_fewestWatched_47 : decode cX2_fewestWatched 47 = .ok (.iand, 1) := by decide +kernel
theorem dX2_fewestWatched_48 : decode cX2_fewestWatched 48 = .ok (.istore_n 3, 1) := by decide +kernel
theorem dX2_fewestWatched_49 : decode cX2_fewestWatched 49 = .ok (.iload_n 3, 1) := by decide +kernel
theorem dX2_fewestWatched_50 : decode cX2_fewestWatched 50 = .ok (.istore 4, 2) := by decide +kernel
theorem dX2_fewestWatched_52 : decode cX2_fewestWatched 52 = .ok (.iconst 0, 1) := by decide +kernel
theorem dX2_fewestWatched_53 : decode cX2_fewestWatched 53 = .ok (.istore 5, 2) := by decide +kernel
theorem dX2_fewestWatched_55 : decode cX2_fewestWatched 55 = .ok (.iload 5, 2) := by decide +kernel
theorem dX2_fewestWatched_57 : decode cX2_fewestWatched 57 = .ok (.iload_n 3, 1) := by decide +kernel
theorem dX2_fewestWatched_58 : decode cX2_fewestWatched 58 = .ok (.if_icmp .gt 58, 3) := by decide +kernel
theorem dX2_fewestWatched_61 : decode cX2_fewestWatched 61 = .ok (.iload 5, 2) := by decide +kernel
theorem dX2_fewestWatched_63 : decode cX2_fewestWatched 63 = .ok (.invokestatic 44, 3) := by decide +kernel
theorem dX2_fewestWatched_66 : decode cX2_fewestWatched 66 = .ok (.iload 4, 2) := by decide +kernel
theorem dX2_fewestWatched_68 : decode cX2_fewestWatched 68 = .ok (.invokestatic 44, 3) := by decide +kernel
theorem dX2_fewestWatched_71 : decode cX2_fewestWatched 71 = .ok (.if_icmp .ge 7, 3) := by decide +kernel
theorem dX2_fewestWatched_74 : decode cX2_fewestWatched 74 = .ok (.iconst 1, 1) := by decide +kernel
theorem dX2_fewestWatched_75 : decode cX2_fewestWatched 75 = .ok (.goto 4, 3) := by decide +kernel
theorem dX2_fewestWatched_78 : decode cX2_fewestWatched 78 = .ok (.iconst 0, 1) := by decide +kernel
theorem dX2_fewestWatched_79 : decode cX2_fewestWatched 79 = .ok (.istore 6, 2) := by decide +kernel
theorem dX2_fewestWatched_81 : decode cX2_fewestWatched 81 = .ok (.iload 6, 2) := by decide +kernel
theorem dX2_fewestWatched_83 : decode cX2_fewestWatched 83 = .ok (.ifCond .eq 27, 3) := by decide +kernel
theorem dX2_fewestWatched_86 : decode cX2_fewestWatched 86 = .ok (.iload 5, 2) := by decide +kernel
theorem dX2_fewestWatched_88 : decode cX2_fewestWatched 88 = .ok (.iload_n 3, 1) := by decide +kernel
theorem dX2_fewestWatched_89 : decode cX2_fewestWatched 89 = .ok (.iconst (-1), 1) := by decide +kernel
theorem dX2_fewestWatched_90 : decode cX2_fewestWatched 90 = .ok (.ixor, 1) := by decide +kernel
theorem dX2_fewestWatched_91 : decode cX2_fewestWatched 91 = .ok (.iand, 1) := by decide +kernel
theorem dX2_fewestWatched_92 : decode cX2_fewestWatched 92 = .ok (.ifCond .ne 18, 3) := by decide +kernel
theorem dX2_fewestWatched_95 : decode cX2_fewestWatched 95 = .ok (.aload_n 0, 1) := by decide +kernel
theorem dX2_fewestWatched_96 : decode cX2_fewestWatched 96 = .ok (.iload 5, 2) := by decide +kernel
theorem dX2_fewestWatched_98 : decode cX2_fewestWatched 98 = .ok (.iload_n 1, 1) := by decide +kernel
theorem dX2_fewestWatched_99 : decode cX2_fewestWatched 99 = .ok (.iload_n 2, 1) := by decide +kernel
theorem dX2_fewestWatched_100 : decode cX2_fewestWatched 100 = .ok (.invokevirtual 49, 3) := by decide +kernel
theorem dX2_fewestWatched_103 : decode cX2_fewestWatched 103 = .ok (.ifCond .eq 7, 3) := by decide +kernel
theorem dX2_fewestWatched_106 : decode cX2_fewestWatched 106 = .ok (.iload 5, 2) := by decide +kernel
theorem dX2_fewestWatched_108 : decode cX2_fewestWatched 108 = .ok (.istore 4, 2) := by decide +kernel
theorem dX2_fewestWatched_110 : decode cX2_fewestWatched 110 = .ok (.iinc 5 1, 3) := by decide +kernel
theorem dX2_fewestWatched_113 : decode cX2_fewestWatched 113 = .ok (.goto (-58), 3) := by decide +kernel
theorem dX2_fewestWatched_116 : decode cX2_fewestWatched 116 = .ok (.iload 4, 2) := by decide +kernel
theorem dX2_fewestWatched_118 : decode cX2_fewestWatched 118 = .ok (.ireturn, 1) := by decide +kernel
def f_X2_fewestWatched_110 (N : Nat) (k_55 : Int32 → (Nat → Int32) → Int32 → Int32 → Int32 → Int32 → Int32 → Option (Int32)) (d_n : Int32) (d_road : Nat → Int32) (x1 : Int32) (x2 : Int32) (x3 : Int32) (x4 : Int32) (x5 : Int32) : Option (Int32) := k_55 d_n d_road x1 x2 x3 x4 (x5 + (1 : Int32))
def f_X2_fewestWatched_79 (N : Nat) (k_55 : Int32 → (Nat → Int32) → Int32 → Int32 → Int32 → Int32 → Int32 → Option (Int32)) (d_n : Int32) (d_road : Nat → Int32) (x1 : Int32) (x2 : Int32) (x3 : Int32) (x4 : Int32) (x5 : Int32) (s0 : Int32) : Option (Int32) := if s0 = 0 then (f_X2_fewestWatched_110 N k_55 d_n d_road x1 x2 x3 x4 x5) else (if (x5 &&& (x3 ^^^ (-1 : Int32))) = 0 then (ob1 (f_X2_parts N d_n d_road x5 x1 x2) fun r100 => if r100 = 0 then (f_X2_fewestWatched_110 N k_55 d_n d_road x1 x2 x3 x4 x5) else (f_X2_fewestWatched_110 N k_55 d_n d_road x1 x2 x3 x5 x5)) else (f_X2_fewestWatched_110 N k_55 d_n d_road x1 x2 x3 x4 x5))
def f_X2_fewestWatched_55 (N : Nat) : Nat → Int32 → (Nat → Int32) → Int32 → Int32 → Int32 → Int32 → Int32 → Option (Int32)
  | 0, _, _, _, _, _, _, _ => none
  | n + 1, d_n, d_road, x1, x2, x3, x4, x5 => if x3 < x5 then (some x4) else (ob1 (f_J6_bitCount_0f7a4 N x5) fun r63 => ob1 (f_J6_bitCount_0f7a4 N x4) fun r68 => if r68 ≤ r63 then (f_X2_fewestWatched_79 N (f_X2_fewestWatched_55 N n) d_n d_road x1 x2 x3 x4 x5 (0 : Int32)) else (f_X2_fewestWatched_79 N (f_X2_fewestWatched_55 N n) d_n d_road x1 x2 x3 x4 x5 (1 : Int32)))
def f_X2_fewestWatched (N : Nat) (d_n : Int32) (d_road : Nat → Int32) (p1 : Int32) (p2 : Int32) : Option (Int32) := ob1 (f_X2_told N d_n p1) fun r2 => if r2 = 0 then (some (-1 : Int32)) else (ob1 (f_X2_told N d_n p2) fun r10 => if r10 = 0 then (some (-1 : Int32)) else (if p1 = p2 then (some (-1 : Int32)) else (ob1 (f_X2_joined N d_n d_road p1 p2) fun r24 => if r24 = 0 then (ob1 (f_X2_all N d_n) fun r33 => f_X2_fewestWatched_55 N N d_n d_road p1 p2 ((r33 &&& (((1 : Int32) <<< (p1 &&& 31)) ^^^ (-1 : Int32))) &&& (((1 : Int32) <<< (p2 &&& 31)) ^^^ (-1 : Int32))) ((r33 &&& (((1 : Int32) <<< (p1 &&& 31)) ^^^ (-1 : Int32))) &&& (((1 : Int32) <<< (p2 &&& 31)) ^^^ (-1 : Int32))) (0 : Int32)) else (some (-1 : Int32)))))
set_option maxHeartbeats 4000000 in
set_option maxRecDepth 100000 in
theorem k_X2_fewestWatched (l : Launch) (N : Nat) (D : va_G) (cI cJ cZ cB cT : ClassId) (qd0 : Nat) (qd2 : Nat) (qd1 : Nat) (d_n : Int32) (d_road : Nat → Int32) (p1 : Int32) (p2 : Int32) (o_r : Int32) (hf : f_X2_fewestWatched N d_n d_road p1 p2 = some o_r) : ∀ sz, Met l yX2_fewestWatched (mw yX2_fewestWatched cX2_fewestWatched 7 (some .int)) ({ frames := 2, cells := 0, slots := 0, locals := 49 } : Room) (mPre D (mT cI cJ cZ cB cT) (W_L_0_2 qd0 qd2 qd1 cI cJ cZ cB cT d_n d_road) sz [.ref qd0, .int p1, .int p2]) ((mQi D (W_L_0_2 qd0 qd2 qd1 cI cJ cZ cB cT d_n d_road) o_r True) (va_A (W_L_0_2 qd0 qd2 qd1 cI cJ cZ cB cT d_n d_road) sz)) 0 0 (va_A (W_L_0_2 qd0 qd2 qd1 cI cJ cZ cB cT d_n d_road) sz) := by
  refine mMet (Qc := (mQi D (W_L_0_2 qd0 qd2 qd1 cI cJ cZ cB cT d_n d_road) o_r True)) (by decide) (Nat.le_of_ble_eq_true rfl) (fun p e s m below meth c A ls hx hb hr hml hts hown hlocks hK hA hP hD hl => ?_)
  have hown : s.vm.findClass RX2 = some m.cls := hown
  have hl : lv_has ls 7 [(0, .ref qd0), (1, .int p1), (2, .int p2)] := hl
  have hS : va_S A s.heap s.heap [] := va_S.rf
  have b55 : ∀ n55 : Nat, ∀ (x1 : Int32) (x2 : Int32) (x3 : Int32) (x4 : Int32) (x5 : Int32) (H : Heap) (locs : List Loc) (ls : Array Slot), f_X2_fewestWatched_55 N n55 d_n d_road x1 x2 x3 x4 x5 = some o_r → va_P D vwCl (W_L_0_2 qd0 qd2 qd1 cI cJ cZ cB cT d_n d_road) H → va_D A (W_L_0_2 qd0 qd2 qd1 cI cJ cZ cB cT d_n d_road) → va_S A s.heap H locs → lv_has ls 7 [(0, .ref qd0), (1, .int x1), (2, .int x2), (3, .int x3), (4, .int x4), (5, .int x5)] → W p l e ({ frames := 2, cells := 0, slots := 0, locals := 49 } : Room) s m ([.ref qd0, .int p1, .int p2] : List Value).toArray below meth c H locs 0 0 (MQ below ((mQi D (W_L_0_2 qd0 qd2 qd1 cI cJ cZ cB cT d_n d_road) o_r True) A) ([.ref qd0, .int p1, .int p2] : List Value).toArray s 0 0 A) (F0 m 55 ls []) := by
    intro n55
    induction n55 with
    | zero =>
      intro x1 x2 x3 x4 x5 H locs ls hf hP hD hS hl
      simp [f_X2_fewestWatched_55] at hf
    | succ n55 ih55 =>
      have b110 : ∀ (x1 : Int32) (x2 : Int32) (x3 : Int32) (x4 : Int32) (x5 : Int32) (H : Heap) (locs : List Loc) (ls : Array Slot), f_X2_fewestWatched_110 N (f_X2_fewestWatched_55 N n55) d_n d_road x1 x2 x3 x4 x5 = some o_r → va_P D vwCl (W_L_0_2 qd0 qd2 qd1 cI cJ cZ cB cT d_n d_road) H → va_D A (W_L_0_2 qd0 qd2 qd1 cI cJ cZ cB cT d_n d_road) → va_S A s.heap H locs → lv_has ls 7 [(0, .ref qd0), (1, .int x1), (2, .int x2), (3, .int x3), (4, .int x4), (5, .int x5)] → W p l e ({ frames := 2, cells := 0, slots := 0, locals := 49 } : Room) s m ([.ref qd0, .int p1, .int p2] : List Value).toArray below meth c H locs 0 0 (MQ below ((mQi D (W_L_0_2 qd0 qd2 qd1 cI cJ cZ cB cT d_n d_road) o_r True) A) ([.ref qd0, .int p1, .int p2] : List Value).toArray s 0 0 A) (F0 m 110 ls []) := by
        intro x1 x2 x3 x4 x5 H locs ls hf hP hD hS hl
        unfold f_X2_fewestWatched_110 at hf
        refine lv_iinc (v := (x5 + (1 : Int32))) (lv' := [(5, .int (x5 + (1 : Int32))), (0, .ref qd0), (1, .int x1), (2, .int x2), (3, .int x3), (4, .int x4)]) hx hb dX2_fewestWatched_110 hl (k := 5) rfl rfl (by decide) rfl (fun ls hl => ?_)
        refine lv_goto (tgt := 55) hx hb dX2_fewestWatched_113 (by decide) ?_
        exact ih55 x1 x2 x3 x4 (x5 + (1 : Int32)) _ _ _ hf hP hD hS (lv_sub hl [1, 2, 3, 4, 5, 0] rfl)
      have b79 : ∀ (x1 : Int32) (x2 : Int32) (x3 : Int32) (x4 : Int32) (x5 : Int32) (s0 : Int32) (H : Heap) (locs : List Loc) (ls : Array Slot), f_X2_fewestWatched_79 N (f_X2_fewestWatched_55 N n55) d_n d_road x1 x2 x3 x4 x5 s0 = some o_r → va_P D vwCl (W_L_0_2 qd0 qd2 qd1 cI cJ cZ cB cT d_n d_road) H → va_D A (W_L_0_2 qd0 qd2 qd1 cI cJ cZ cB cT d_n d_road) → va_S A s.heap H locs → lv_has ls 7 [(0, .ref qd0), (1, .int x1), (2, .int x2), (3, .int x3), (4, .int x4), (5, .int x5)] → W p l e ({ frames := 2, cells := 0, slots := 0, locals := 49 } : Room) s m ([.ref qd0, .int p1, .int p2] : List Value).toArray below meth c H locs 0 0 (MQ below ((mQi D (W_L_0_2 qd0 qd2 qd1 cI cJ cZ cB cT d_n d_road) o_r True) A) ([.ref qd0, .int p1, .int p2] : List Value).toArray s 0 0 A) (F0 m 79 ls [.int s0]) := by
        intro x1 x2 x3 x4 x5 s0 H locs ls hf hP hD hS hl
        unfold f_X2_fewestWatched_79 at hf
        refine lv_istore (lv' := [(6, .int s0), (0, .ref qd0), (1, .int x1), (2, .int x2), (3, .int x3), (4, .int x4), (5, .int x5)]) hx hb dX2_fewestWatched_79 hl (by decide) rfl (fun ls hl => ?_)
        refine lv_iload hx hb dX2_fewestWatched_81 (lv_at hl 0 rfl) ?_
        refine xif_eq hx hb 110 dX2_fewestWatched_83 (by decide) hf (fun hf => ?_) (fun hf => ?_)
        · exact b110 x1 x2 x3 x4 x5 _ _ _ hf hP hD hS (lv_sub hl [1, 2, 3, 4, 5, 6] rfl)
        · refine lv_iload hx hb dX2_fewestWatched_86 (lv_at hl 6 rfl) ?_
          refine lv_iload_n hx hb dX2_fewestWatched_88 rfl (lv_at hl 4 rfl) ?_
          refine lv_iconst (v := (-1 : Int32)) hx hb dX2_fewestWatched_89 (by decide) ?_
          refine lv_ixor hx hb dX2_fewestWatched_90 ?_
          refine lv_iand hx hb dX2_fewestWatched_91 ?_
          refine xif_ne hx hb 110 dX2_fewestWatched_92 (by decide) hf (fun hf => ?_) (fun hf => ?_)
          · refine lv_aload_n hx hb dX2_fewestWatched_95 rfl (lv_at hl 1 rfl) ?_
            refine lv_iload hx hb dX2_fewestWatched_96 (lv_at hl 6 rfl) ?_
            refine lv_iload_n hx hb dX2_fewestWatched_98 rfl (lv_at hl 2 rfl) ?_
            refine lv_iload_n hx hb dX2_fewestWatched_99 rfl (lv_at hl 3 rfl) ?_
            obtain ⟨r100, hg100, hf⟩ := ob1_some hf
            refine mcV1_i (As := [.int x5, .int x1, .int x2]) (rest := []) hx hb hml hown hts hK hP hD hS hA (k_X2_parts l N D cI cJ cZ cB cT qd0 qd2 qd1 d_n d_road x5 x1 x2 r100 hg100) (kwX2_49 hts rfl rfl ⟨Nat.le_of_ble_eq_true rfl, Nat.le_of_ble_eq_true rfl⟩) 0 rfl rfl rfl rfl hl.1 rfl (Nat.le_of_ble_eq_true rfl) dX2_fewestWatched_100 ⟨Nat.zero_le _, Nat.zero_le _⟩ (fun hB100 H locs hP hD hS => ?_)
            have hP : va_P D vwCl (W_L_0_2 qd0 qd2 qd1 cI cJ cZ cB cT d_n d_road) H := hP
            have hD : va_D A (W_L_0_2 qd0 qd2 qd1 cI cJ cZ cB cT d_n d_road) := hD
            refine xif_eq hx hb 110 dX2_fewestWatched_103 (by decide) hf (fun hf => ?_) (fun hf => ?_)
            · exact b110 x1 x2 x3 x4 x5 _ _ _ hf hP hD hS (lv_sub hl [1, 2, 3, 4, 5, 6] rfl)
            · refine lv_iload hx hb dX2_fewestWatched_106 (lv_at hl 6 rfl) ?_
              refine lv_istore (lv' := [(4, .int x5), (6, .int s0), (0, .ref qd0), (1, .int x1), (2, .int x2), (3, .int x3), (5, .int x5)]) hx hb dX2_fewestWatched_108 hl (by decide) rfl (fun ls hl => ?_)
              exact b110 x1 x2 x3 x5 x5 _ _ _ hf hP hD hS (lv_sub hl [2, 3, 4, 5, 0, 6] rfl)
          · exact b110 x1 x2 x3 x4 x5 _ _ _ hf hP hD hS (lv_sub hl [1, 2, 3, 4, 5, 6] rfl)
      intro x1 x2 x3 x4 x5 H locs ls hf hP hD hS hl
      rw [f_X2_fewestWatched_55.eq_2] at hf
      refine lv_iload hx hb dX2_fewestWatched_55 (lv_at hl 5 rfl) ?_
      refine lv_iload_n hx hb dX2_fewestWatched_57 rfl (lv_at hl 3 rfl) ?_
      refine xicmp_gt hx hb 116 dX2_fewestWatched_58 (by decide) hf (fun hf => ?_) (fun hf => ?_)
      · refine lv_iload hx hb dX2_fewestWatched_116 (lv_at hl 4 rfl) ?_
        cases hf
        exact mret_i hx hb hr hlocks hP hD hS dX2_fewestWatched_118 rfl trivial
      · refine lv_iload hx hb dX2_fewestWatched_61 (lv_at hl 5 rfl) ?_
        obtain ⟨r63, hg63, hf⟩ := ob1_some hf
        refine mcS0_i (As := [.int x5]) (rest := []) hx hb hml hown hts hK hP hD hS hA (k_J6_bitCount_0f7a4 l N D cI cJ cZ cB cT x5 r63 hg63) (kwX2_44 hts rfl rfl ⟨Nat.le_of_ble_eq_true rfl, Nat.le_of_ble_eq_true rfl⟩) rfl hl.1 rfl (Nat.le_of_ble_eq_true rfl) dX2_fewestWatched_63 ⟨Nat.zero_le _, Nat.zero_le _⟩ (fun hB63 H locs hP hD hS => ?_)
        refine lv_iload hx hb dX2_fewestWatched_66 (lv_at hl 4 rfl) ?_
        obtain ⟨r68, hg68, hf⟩ := ob1_some hf
        refine mcS0_i (As := [.int x4]) (rest := [.int r63]) hx hb hml hown hts hK hP hD hS hA (k_J6_bitCount_0f7a4 l N D cI cJ cZ cB cT x4 r68 hg68) (kwX2_44 hts rfl rfl ⟨Nat.le_of_ble_eq_true rfl, Nat.le_of_ble_eq_true rfl⟩) rfl hl.1 rfl (Nat.le_of_ble_eq_true rfl) dX2_fewestWatched_68 ⟨Nat.zero_le _, Nat.zero_le _⟩ (fun hB68 H locs hP hD hS => ?_)
        refine xicmp_ge hx hb 78 dX2_fewestWatched_71 (by decide) hf (fun hf => ?_) (fun hf => ?_)
        · refine lv_iconst (v := (0 : Int32)) hx hb dX2_fewestWatched_78 (by decide) ?_
          exact b79 x1 x2 x3 x4 x5 (0 : Int32) _ _ _ hf hP hD hS (lv_sub hl [0, 1, 2, 3, 4, 5] rfl)
        · refine lv_iconst (v := (1 : Int32)) hx hb dX2_fewestWatched_74 (by decide) ?_
          refine lv_goto (tgt := 79) hx hb dX2_fewestWatched_75 (by decide) ?_
          exact b79 x1 x2 x3 x4 x5 (1 : Int32) _ _ _ hf hP hD hS (lv_sub hl [0, 1, 2, 3, 4, 5] rfl)
  unfold f_X2_fewestWatched at hf
  refine lv_aload_n hx hb dX2_fewestWatched_0 rfl (lv_at hl 0 rfl) ?_
  refine lv_iload_n hx hb dX2_fewestWatched_1 rfl (lv_at hl 1 rfl) ?_
  obtain ⟨r2, hg2, hf⟩ := ob1_some hf
  refine mcV_i (wr := [(qd2, .inl (cI, 8, .inl d_road))]) (As := [.int p1]) (rest := []) hx hb hml hown hts hK hP hD hS hA (k_X2_told l N D cI cJ cZ cB cT qd0 qd1 qd2 d_n p1 r2 hg2) (kwX2_28 hts rfl rfl ⟨Nat.le_of_ble_eq_true rfl, Nat.le_of_ble_eq_true rfl⟩) [0] [1] rfl rfl rfl (by decide) rfl 0 rfl rfl rfl rfl hl.1 rfl (Nat.le_of_ble_eq_true rfl) dX2_fewestWatched_2 ⟨Nat.zero_le _, Nat.zero_le _⟩ (fun hB2 H locs hP hD hS => ?_)
  have hP := mP_sub (wc := (W_L_0_2 qd0 qd2 qd1 cI cJ cZ cB cT d_n d_road)) hP [1, 0] rfl
  have hD := hD.sub (ws' := (W_L_0_2 qd0 qd2 qd1 cI cJ cZ cB cT d_n d_road)) [1, 0] rfl rfl
  refine xif_eq hx hb 30 dX2_fewestWatched_5 (by decide) hf (fun hf => ?_) (fun hf => ?_)
  · refine lv_iconst (v := (-1 : Int32)) hx hb dX2_fewestWatched_30 (by decide) ?_
    cases hf
    exact mret_i hx hb hr hlocks hP hD hS dX2_fewestWatched_31 rfl trivial
  · refine lv_aload_n hx hb dX2_fewestWatched_8 rfl (lv_at hl 0 rfl) ?_
    refine lv_iload_n hx hb dX2_fewestWatched_9 rfl (lv_at hl 2 rfl) ?_
    obtain ⟨r10, hg10, hf⟩ := ob1_some hf
    refine mcV_i (wr := [(qd2, .inl (cI, 8, .inl d_road))]) (As := [.int p2]) (rest := []) hx hb hml hown hts hK hP hD hS hA (k_X2_told l N D cI cJ cZ cB cT qd0 qd1 qd2 d_n p2 r10 hg10) (kwX2_28 hts rfl rfl ⟨Nat.le_of_ble_eq_true rfl, Nat.le_of_ble_eq_true rfl⟩) [0] [1] rfl rfl rfl (by decide) rfl 0 rfl rfl rfl rfl hl.1 rfl (Nat.le_of_ble_eq_true rfl) dX2_fewestWatched_10 ⟨Nat.zero_le _, Nat.zero_le _⟩ (fun hB10 H locs hP hD hS => ?_)
    have hP := mP_sub (wc := (W_L_0_2 qd0 qd2 qd1 cI cJ cZ cB cT d_n d_road)) hP [1, 0] rfl
    have hD := hD.sub (ws' := (W_L_0_2 qd0 qd2 qd1 cI cJ cZ cB cT d_n d_road)) [1, 0] rfl rfl
    refine xif_eq hx hb 30 dX2_fewestWatched_13 (by decide) hf (fun hf => ?_) (fun hf => ?_)
    · refine lv_iconst (v := (-1 : Int32)) hx hb dX2_fewestWatched_30 (by decide) ?_
      cases hf
      exact mret_i hx hb hr hlocks hP hD hS dX2_fewestWatched_31 rfl trivial
    · refine lv_iload_n hx hb dX2_fewestWatched_16 rfl (lv_at hl 1 rfl) ?_
      refine lv_iload_n hx hb dX2_fewestWatched_17 rfl (lv_at hl 2 rfl) ?_
      refine xicmp_eq hx hb 30 dX2_fewestWatched_18 (by decide) hf (fun hf => ?_) (fun hf => ?_)
      · refine lv_iconst (v := (-1 : Int32)) hx hb dX2_fewestWatched_30 (by decide) ?_
        cases hf
        exact mret_i hx hb hr hlocks hP hD hS dX2_fewestWatched_31 rfl trivial
      · refine lv_aload_n hx hb dX2_fewestWatched_21 rfl (lv_at hl 0 rfl) ?_
        refine lv_iload_n hx hb dX2_fewestWatched_22 rfl (lv_at hl 1 rfl) ?_
        refine lv_iload_n hx hb dX2_fewestWatched_23 rfl (lv_at hl 2 rfl) ?_
        obtain ⟨r24, hg24, hf⟩ := ob1_some hf
        refine mcV1_i (As := [.int p1, .int p2]) (rest := []) hx hb hml hown hts hK hP hD hS hA (k_X2_joined l N D cI cJ cZ cB cT qd0 qd2 qd1 d_n d_road p1 p2 r24 hg24) (kwX2_32 hts rfl rfl ⟨Nat.le_of_ble_eq_true rfl, Nat.le_of_ble_eq_true rfl⟩) 0 rfl rfl rfl rfl hl.1 rfl (Nat.le_of_ble_eq_true rfl) dX2_fewestWatched_24 ⟨Nat.zero_le _, Nat.zero_le _⟩ (fun hB24 H locs hP hD hS => ?_)
        have hP : va_P D vwCl (W_L_0_2 qd0 qd2 qd1 cI cJ cZ cB cT d_n d_road) H := hP
        have hD : va_D A (W_L_0_2 qd0 qd2 qd1 cI cJ cZ cB cT d_n d_road) := hD
        refine xif_eq hx hb 32 dX2_fewestWatched_27 (by decide) hf (fun hf => ?_) (fun hf => ?_)
        · refine lv_aload_n hx hb dX2_fewestWatched_32 rfl (lv_at hl 0 rfl) ?_
          obtain ⟨r33, hg33, hf⟩ := ob1_some hf
          refine mcV_i (wr := [(qd2, .inl (cI, 8, .inl d_road))]) (As := []) (rest := []) hx hb hml hown hts hK hP hD hS hA (k_X2_all l N D cI cJ cZ cB cT qd0 qd1 qd2 d_n r33 hg33) (kwX2_40 hts rfl rfl ⟨Nat.le_of_ble_eq_true rfl, Nat.le_of_ble_eq_true rfl⟩) [0] [1] rfl rfl rfl (by decide) rfl 0 rfl rfl rfl rfl hl.1 rfl (Nat.le_of_ble_eq_true rfl) dX2_fewestWatched_33 ⟨Nat.zero_le _, Nat.zero_le _⟩ (fun hB33 H locs hP hD hS => ?_)
          have hP := mP_sub (wc := (W_L_0_2 qd0 qd2 qd1 cI cJ cZ cB cT d_n d_road)) hP [1, 0] rfl
          have hD := hD.sub (ws' := (W_L_0_2 qd0 qd2 qd1 cI cJ cZ cB cT d_n d_road)) [1, 0] rfl rfl
          refine lv_iconst (v := (1 : Int32)) hx hb dX2_fewestWatched_36 (by decide) ?_
          refine lv_iload_n hx hb dX2_fewestWatched_37 rfl (lv_at hl 1 rfl) ?_
          refine lv_ishl hx hb dX2_fewestWatched_38 ?_
          refine lv_iconst (v := (-1 : Int32)) hx hb dX2_fewestWatched_39 (by decide) ?_
          refine lv_ixor hx hb dX2_fewestWatched_40 ?_
          refine lv_iand hx hb dX2_fewestWatched_41 ?_
          refine lv_iconst (v := (1 : Int32)) hx hb dX2_fewestWatched_42 (by decide) ?_
          refine lv_iload_n hx hb dX2_fewestWatched_43 rfl (lv_at hl 2 rfl) ?_
          refine lv_ishl hx hb dX2_fewestWatched_44 ?_
          refine lv_iconst (v := (-1 : Int32)) hx hb dX2_fewestWatched_45 (by decide) ?_
          refine lv_ixor hx hb dX2_fewestWatched_46 ?_
          refine lv_iand hx hb dX2_fewestWatched_47 ?_
          refine lv_istore_n (lv' := [(3, .int ((r33 &&& (((1 : Int32) <<< (p1 &&& 31)) ^^^ (-1 : Int32))) &&& (((1 : Int32) <<< (p2 &&& 31)) ^^^ (-1 : Int32)))), (0, .ref qd0), (1, .int p1), (2, .int p2)]) hx hb dX2_fewestWatched_48 rfl hl (by decide) rfl (fun ls hl => ?_)
          refine lv_iload_n hx hb dX2_fewestWatched_49 rfl (lv_at hl 0 rfl) ?_
          refine lv_istore (lv' := [(4, .int ((r33 &&& (((1 : Int32) <<< (p1 &&& 31)) ^^^ (-1 : Int32))) &&& (((1 : Int32) <<< (p2 &&& 31)) ^^^ (-1 : Int32)))), (3, .int ((r33 &&& (((1 : Int32) <<< (p1 &&& 31)) ^^^ (-1 : Int32))) &&& (((1 : Int32) <<< (p2 &&& 31)) ^^^ (-1 : Int32)))), (0, .ref qd0), (1, .int p1), (2, .int p2)]) hx hb dX2_fewestWatched_50 hl (by decide) rfl (fun ls hl => ?_)
          refine lv_iconst (v := (0 : Int32)) hx hb dX2_fewestWatched_52 (by decide) ?_
          refine lv_istore (lv' := [(5, .int (0 : Int32)), (4, .int ((r33 &&& (((1 : Int32) <<< (p1 &&& 31)) ^^^ (-1 : Int32))) &&& (((1 : Int32) <<< (p2 &&& 31)) ^^^ (-1 : Int32)))), (3, .int ((r33 &&& (((1 : Int32) <<< (p1 &&& 31)) ^^^ (-1 : Int32))) &&& (((1 : Int32) <<< (p2 &&& 31)) ^^^ (-1 : Int32)))), (0, .ref qd0), (1, .int p1), (2, .int p2)]) hx hb dX2_fewestWatched_53 hl (by decide) rfl (fun ls hl => ?_)
          exact b55 N p1 p2 ((r33 &&& (((1 : Int32) <<< (p1 &&& 31)) ^^^ (-1 : Int32))) &&& (((1 : Int32) <<< (p2 &&& 31)) ^^^ (-1 : Int32))) ((r33 &&& (((1 : Int32) <<< (p1 &&& 31)) ^^^ (-1 : Int32))) &&& (((1 : Int32) <<< (p2 &&& 31)) ^^^ (-1 : Int32))) (0 : Int32) _ _ _ hf hP hD hS (lv_sub hl [3, 4, 5, 2, 1, 0] rfl)
        · refine lv_iconst (v := (-1 : Int32)) hx hb dX2_fewestWatched_30 (by decide) ?_
          cases hf
          exact mret_i hx hb hr hlocks hP hD hS dX2_fewestWatched_31 rfl trivial
