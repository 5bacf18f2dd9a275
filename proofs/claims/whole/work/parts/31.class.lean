theorem dX2_tell_0 : decode cX2_tell 0 = .ok (.iload_n 1, 1) := by decide +kernel
theorem dX2_tell_1 : decode cX2_tell 1 = .ok (.ifCond .lt 25, 3) := by decide +kernel
theorem dX2_tell_4 : decode cX2_tell 4 = .ok (.iload_n 1, 1) := by decide +kernel
theorem dX2_tell_5 : decode cX2_tell 5 = .ok (.bipush 9, 2) := by decide +kernel
theorem dX2_tell_7 : decode cX2_tell 7 = .ok (.if_icmp .gt 19, 3) := by decide +kernel
theorem dX2_tell_10 : decode cX2_tell 10 = .ok (.aload_n 0, 1) := by decide +kernel
theorem dX2_tell_11 : decode cX2_tell 11 = .ok (.getfield 9, 3) := by decide +kernel
theorem dX2_tell_14 : decode cX2_tell 14 = .ok (.ifCond .lt 12, 3) := by decide +kernel
theorem dX2_tell_17 : decode cX2_tell 17 = .ok (.aload_n 0, 1) := by decide +kernel
theorem dX2_tell_18 : decode cX2_tell 18 = .ok (.getfield 9, 3) := by decide +kernel
theorem dX2_tell_21 : decode cX2_tell 21 = .ok (.bipush 8, 2) := by decide +kernel
theorem dX2_tell_23 : decode cX2_tell 23 = .ok (.if_icmp .lt 5, 3) := by decide +kernel
theorem dX2_tell_26 : decode cX2_tell 26 = .ok (.iconst (-1), 1) := by decide +kernel
theorem dX2_tell_27 : decode cX2_tell 27 = .ok (.ireturn, 1) := by decide +kernel
theorem dX2_tell_28 : decode cX2_tell 28 = .ok (.aload_n 0, 1) := by decide +kernel
theorem dX2_tell_29 : decode cX2_tell 29 = .ok (.getfield 15, 3) := by decide +kernel
theorem dX2_tell_32 : decode cX2_tell 32 = .ok (.aload_n 0, 1) := by decide +kernel
theorem dX2_tell_33 : decode cX2_tell 33 = .ok (.getfield 9, 3) := by decide +kernel
theorem dX2_tell_36 : decode cX2_tell 36 = .ok (.iload_n 1, 1) := by decide +kernel
theorem dX2_tell_37 : decode cX2_tell 37 = .ok (.iastore, 1) := by decide +kernel
theorem dX2_tell_38 : decode cX2_tell 38 = .ok (.aload_n 0, 1) := by decide +kernel
theorem dX2_tell_39 : decode cX2_tell 39 = .ok (.dup, 1) := by decide +kernel
theorem dX2_tell_40 : decode cX2_tell 40 = .ok (.getfield 9, 3) := by decide +kernel
theorem dX2_tell_43 : decode cX2_tell 43 = .ok (.iconst 1, 1) := by decide +kernel
theorem dX2_tell_44 : decode cX2_tell 44 = .ok (.iadd, 1) := by decide +kernel
theorem dX2_tell_45 : decode cX2_tell 45 = .ok (.putfield 9, 3) := by decide +kernel
theorem dX2_tell_48 : decode cX2_tell 48 = .ok (.aload_n 0, 1) := by decide +kernel
theorem dX2_tell_49 : decode cX2_tell 49 = .ok (.getfield 9, 3) := by decide +kernel
theorem dX2_tell_52 : decode cX2_tell 52 = .ok (.iconst 1, 1) := by decide +kernel
theorem dX2_tell_53 : decode cX2_tell 53 = .ok (.isub, 1) := by decide +kernel
theorem dX2_tell_54 : decode cX2_tell 54 = .ok (.ireturn, 1) := by decide +kernel
def f_X2_tell (N : Nat) (d_n : Int32) (d_for : Nat → Int32) (p1 : Int32) : Option (Int32 × Int32 × (Nat → Int32)) := if p1 < 0 then (some ((-1 : Int32), d_n, d_for)) else (if (9 : Int32) < p1 then (some ((-1 : Int32), d_n, d_for)) else (if d_n < 0 then (some ((-1 : Int32), d_n, d_for)) else (if d_n < (8 : Int32) then (sA d_for 8 d_n p1 fun d_for_37 => some (((d_n + (1 : Int32)) - (1 : Int32)), (d_n + (1 : Int32)), d_for_37)) else (some ((-1 : Int32), d_n, d_for)))))
set_option maxHeartbeats 4000000 in
set_option maxRecDepth 100000 in
theorem k_X2_tell (l : Launch) (N : Nat) (D : va_G) (cI cJ cZ cB cT : ClassId) (qd0 : Nat) (qd1 : Nat) (qd2 : Nat) (d_n : Int32) (d_for : Nat → Int32) (p1 : Int32) (o_r : Int32) (o_d_n : Int32) (o_d_for : Nat → Int32) (hf : f_X2_tell N d_n d_for p1 = some (o_r, o_d_n, o_d_for)) : ∀ sz, Met l yX2_tell (mw yX2_tell cX2_tell 2 (some .int)) ({ frames := 0, cells := 0, slots := 0, locals := 0 } : Room) (mPre D (mT cI cJ cZ cB cT) (W_L_0t1 qd0 qd1 qd2 cI cJ cZ cB cT d_n d_for) sz [.ref qd0, .int p1]) ((mQi D (W_L_0t1 qd0 qd1 qd2 cI cJ cZ cB cT o_d_n o_d_for) o_r True) (va_A (W_L_0t1 qd0 qd1 qd2 cI cJ cZ cB cT d_n d_for) sz)) 0 0 (va_A (W_L_0t1 qd0 qd1 qd2 cI cJ cZ cB cT d_n d_for) sz) := by
  refine mMet (Qc := (mQi D (W_L_0t1 qd0 qd1 qd2 cI cJ cZ cB cT o_d_n o_d_for) o_r True)) (by decide) (Nat.le_of_ble_eq_true rfl) (fun p e s m below meth c A ls hx hb hr hml hts hown hlocks hK hA hP hD hl => ?_)
  have hown : s.vm.findClass RX2 = some m.cls := hown
  have hl : lv_has ls 2 [(0, .ref qd0), (1, .int p1)] := hl
  have hS : va_S A s.heap s.heap [] := va_S.rf
  unfold f_X2_tell at hf
  refine lv_iload_n hx hb dX2_tell_0 rfl (lv_at hl 1 rfl) ?_
  refine xif_lt hx hb 26 dX2_tell_1 (by decide) hf (fun hf => ?_) (fun hf => ?_)
  · refine lv_iconst (v := (-1 : Int32)) hx hb dX2_tell_26 (by decide) ?_
    cases hf
    exact mret_i hx hb hr hlocks hP hD hS dX2_tell_27 rfl trivial
  · refine lv_iload_n hx hb dX2_tell_4 rfl (lv_at hl 1 rfl) ?_
    refine lv_bipush (v := (9 : Int32)) hx hb dX2_tell_5 (by decide) ?_
    refine xicmp_gt hx hb 26 dX2_tell_7 (by decide) hf (fun hf => ?_) (fun hf => ?_)
    · refine lv_iconst (v := (-1 : Int32)) hx hb dX2_tell_26 (by decide) ?_
      cases hf
      exact mret_i hx hb hr hlocks hP hD hS dX2_tell_27 rfl trivial
    · refine lv_aload_n hx hb dX2_tell_10 rfl (lv_at hl 0 rfl) ?_
      refine gfX2_9 hx hb hts hown hK hP 0 rfl rfl dX2_tell_11 ?_
      refine xif_lt hx hb 26 dX2_tell_14 (by decide) hf (fun hf => ?_) (fun hf => ?_)
      · refine lv_iconst (v := (-1 : Int32)) hx hb dX2_tell_26 (by decide) ?_
        cases hf
        exact mret_i hx hb hr hlocks hP hD hS dX2_tell_27 rfl trivial
      · refine lv_aload_n hx hb dX2_tell_17 rfl (lv_at hl 0 rfl) ?_
        refine gfX2_9 hx hb hts hown hK hP 0 rfl rfl dX2_tell_18 ?_
        refine lv_bipush (v := (8 : Int32)) hx hb dX2_tell_21 (by decide) ?_
        refine xicmp_lt hx hb 28 dX2_tell_23 (by decide) hf (fun hf => ?_) (fun hf => ?_)
        · refine lv_aload_n hx hb dX2_tell_28 rfl (lv_at hl 0 rfl) ?_
          refine gfX2_15 hx hb hts hown hK hP 0 rfl rfl dX2_tell_29 ?_
          refine lv_aload_n hx hb dX2_tell_32 rfl (lv_at hl 0 rfl) ?_
          refine gfX2_9 hx hb hts hown hK hP 0 rfl rfl dX2_tell_33 ?_
          refine lv_iload_n hx hb dX2_tell_36 rfl (lv_at hl 1 rfl) ?_
          refine xiast hx hb hK hP hD hS 1 0 rfl rfl dX2_tell_37 hf (fun d_for_37 hf H locs hP hD hS => ?_)
          have hP : va_P D vwCl (W_L_0t1 qd0 qd1 qd2 cI cJ cZ cB cT d_n d_for_37) H := hP
          have hD : va_D A (W_L_0t1 qd0 qd1 qd2 cI cJ cZ cB cT d_n d_for_37) := hD
          refine lv_aload_n hx hb dX2_tell_38 rfl (lv_at hl 0 rfl) ?_
          refine lv_dup hx hb dX2_tell_39 rfl ?_
          refine gfX2_9 hx hb hts hown hK hP 0 rfl rfl dX2_tell_40 ?_
          refine lv_iconst (v := (1 : Int32)) hx hb dX2_tell_43 (by decide) ?_
          refine lv_iadd hx hb dX2_tell_44 ?_
          refine pfX2_9 hx hb hts hown hK hP hD hS 0 rfl (Nat.le_of_ble_eq_true rfl) dX2_tell_45 (fun H locs hP hD hS => ?_)
          have hP : va_P D vwCl (W_L_0t1 qd0 qd1 qd2 cI cJ cZ cB cT (d_n + (1 : Int32)) d_for_37) H := hP
          have hD : va_D A (W_L_0t1 qd0 qd1 qd2 cI cJ cZ cB cT (d_n + (1 : Int32)) d_for_37) := hD
          refine lv_aload_n hx hb dX2_tell_48 rfl (lv_at hl 0 rfl) ?_
          refine gfX2_9 hx hb hts hown hK hP 0 rfl rfl dX2_tell_49 ?_
          refine lv_iconst (v := (1 : Int32)) hx hb dX2_tell_52 (by decide) ?_
          refine lv_isub hx hb dX2_tell_53 ?_
          cases hf
          exact mret_i hx hb hr hlocks hP hD hS dX2_tell_54 rfl trivial
        · refine lv_iconst (v := (-1 : Int32)) hx hb dX2_tell_26 (by decide) ?_
          cases hf
          exact mret_i hx hb hr hlocks hP hD hS dX2_tell_27 rfl trivial
theorem dX2_join_0 : decode cX2_join 0 = .ok (.aload_n 0, 1) := by decide +kernel
theorem dX2_join_1 : decode cX2_join 1 = .ok (.iload_n 1, 1) := by decide +kernel
theorem dX2_join_2 : decode cX2_join 2 = .ok (.invokevirtual 28, 3) := by decide +kernel
theorem dX2_join_5 : decode cX2_join 5 = .ok (.ifCond .eq 25, 3) := by decide +kernel
theorem dX2_join_8 : decode cX2_join 8 = .ok (.aload_n 0, 1) := by decide +kernel
theorem dX2_join_9 : decode cX2_join 9 = .ok (.iload_n 2, 1) := by decide +kernel
theorem dX2_join_10 : decode cX2_join 10 = .ok (.invokevirtual 28, 3) := by decide +kernel
theorem dX2_join_13 : decode cX2_join 13 = .ok (.ifCond .eq 17, 3) := by decide +kernel
theorem dX2_join_16 : decode cX2_join 16 = .ok (.iload_n 1, 1) := by decide +kernel
theorem dX2_join_17 : decode cX2_join 17 = .ok (.iload_n 2, 1) := by decide +kernel
theorem dX2_join_18 : decode cX2_join 18 = .ok (.if_icmp .eq 12, 3) := by decide +kernel
theorem dX2_join_21 : decode cX2_join 21 = .ok (.aload_n 0, 1) := by decide +kernel
theorem dX2_join_22 : decode cX2_join 22 = .ok (.iload_n 1, 1) := by decide +kernel
theorem dX2_join_23 : decode cX2_join 23 = .ok (.iload_n 2, 1) := by decide +kernel
theorem dX2_join_24 : decode cX2_join 24 = .ok (.invokevirtual 32, 3) := by decide +kernel
theorem dX2_join_27 : decode cX2_join 27 = .ok (.ifCond .eq 5, 3) := by decide +kernel
theorem dX2_join_30 : decode cX2_join 30 = .ok (.iconst 0, 1) := by decide +kernel
theorem dX2_join_31 : decode cX2_join 31 = .ok (.ireturn, 1) := by decide +kernel
theorem dX2_join_32 : decode cX2_join 32 = .ok (.aload_n 0, 1) := by decide +kernel
theorem dX2_join_33 : decode cX2_join 33 = .ok (.getfield 19, 3) := by decide +kernel
theorem dX2_join_36 : decode cX2_join 36 = .ok (.iload_n 1, 1) := by decide +kernel
theorem dX2_join_37 : decode cX2_join 37 = .ok (.dup2, 1) := by decide +kernel
theorem dX2_join_38 : decode cX2_join 38 = .ok (.iaload, 1) := by decide +kernel
theorem dX2_join_39 : decode cX2_join 39 = .ok (.iconst 1, 1) := by decide +kernel
theorem dX2_join_40 : decode cX2_join 40 = .ok (.iload_n 2, 1) := by decide +kernel
theorem dX2_join_41 : decode cX2_join 41 = .ok (.ishl, 1) := by decide +kernel
theorem dX2_join_42 : decode cX2_join 42 = .ok (.ior, 1) := by decide +kernel
theorem dX2_join_43 : decode cX2_join 43 = .ok (.iastore, 1) := by decide +kernel
theorem dX2_join_44 : decode cX2_join 44 = .ok (.aload_n 0, 1) := by decide +kernel
theorem dX2_join_45 : decode cX2_join 45 = .ok (.getfield 19, 3) := by decide +kernel
theorem dX2_join_48 : decode cX2_join 48 = .ok (.iload_n 2, 1) := by decide +kernel
theorem dX2_join_49 : decode cX2_join 49 = .ok (.dup2, 1) := by decide +kernel
theorem dX2_join_50 : decode cX2_join 50 = .ok (.iaload, 1) := by decide +kernel
theorem dX2_join_51 : decode cX2_join 51 = .ok (.iconst 1, 1) := by decide +kernel
theorem dX2_join_52 : decode cX2_join 52 = .ok (.iload_n 1, 1) := by decide +kernel
theorem dX2_join_53 : decode cX2_join 53 = .ok (.ishl, 1) := by decide +kernel
theorem dX2_join_54 : decode cX2_join 54 = .ok (.ior, 1) := by decide +kernel
theorem dX2_join_55 : decode cX2_join 55 = .ok (.iastore, 1) := by decide +kernel
theorem dX2_join_56 : decode cX2_join 56 = .ok (.iconst 1, 1) := by decide +kernel
theorem dX2_join_57 : decode cX2_join 57 = .ok (.ireturn, 1) := by decide +kernel
def f_X2_join (N : Nat) (d_n : Int32) (d_road : Nat → Int32) (p1 : Int32) (p2 : Int32) : Option (Int32 × (Nat → Int32)) := ob1 (f_X2_told N d_n p1) fun r2 => if r2 = 0 then (some ((0 : Int32), d_road)) else (ob1 (f_X2_told N d_n p2) fun r10 => if r10 = 0 then (some ((0 : Int32), d_road)) else (if p1 = p2 then (some ((0 : Int32), d_road)) else (ob1 (f_X2_joined N d_n d_road p1 p2) fun r24 => if r24 = 0 then (gA d_road 8 p1 fun v38 => sA d_road 8 p1 (v38 ||| ((1 : Int32) <<< (p2 &&& 31))) fun d_road_43 => gA d_road_43 8 p2 fun v50 => sA d_road_43 8 p2 (v50 ||| ((1 : Int32) <<< (p1 &&& 31))) fun d_road_55 => some ((1 : Int32), d_road_55)) else (some ((0 : Int32), d_road)))))
set_option maxHeartbeats 4000000 in
set_option maxRecDepth 100000 in
theorem k_X2_join (l : Launch) (N : Nat) (D : va_G) (cI cJ cZ cB cT : ClassId) (qd0 : Nat) (qd2 : Nat) (qd1 : Nat) (d_n : Int32) (d_road : Nat → Int32) (p1 : Int32) (p2 : Int32) (o_r : Int32) (o_d_road : Nat → Int32) (hf : f_X2_join N d_n d_road p1 p2 = some (o_r, o_d_road)) : ∀ sz, Met l yX2_join (mw yX2_join cX2_join 3 (some .boolean)) ({ frames := 2, cells := 0, slots := 0, locals := 43 } : Room) (mPre D (mT cI cJ cZ cB cT) (W_L_0_2 qd0 qd2 qd1 cI cJ cZ cB cT d_n d_road) sz [.ref qd0, .int p1, .int p2]) ((mQi D (W_L_0_2 qd0 qd2 qd1 cI cJ cZ cB cT d_n o_d_road) o_r (mB o_r)) (va_A (W_L_0_2 qd0 qd2 qd1 cI cJ cZ cB cT d_n d_road) sz)) 0 0 (va_A (W_L_0_2 qd0 qd2 qd1 cI cJ cZ cB cT d_n d_road) sz) := by
  refine mMet (Qc := (mQi D (W_L_0_2 qd0 qd2 qd1 cI cJ cZ cB cT d_n o_d_road) o_r (mB o_r))) (by decide) (Nat.le_of_ble_eq_true rfl) (fun p e s m below meth c A ls hx hb hr hml hts hown hlocks hK hA hP hD hl => ?_)
  have hown : s.vm.findClass RX2 = some m.cls := hown
  have hl : lv_has ls 3 [(0, .ref qd0), (1, .int p1), (2, .int p2)] := hl
  have hS : va_S A s.heap s.heap [] := va_S.rf
  unfold f_X2_join at hf
  refine lv_aload_n hx hb dX2_join_0 rfl (lv_at hl 0 rfl) ?_
  refine lv_iload_n hx hb dX2_join_1 rfl (lv_at hl 1 rfl) ?_
  obtain ⟨r2, hg2, hf⟩ := ob1_some hf
  refine mcV_i (wr := [(qd2, .inl (cI, 8, .inl d_road))]) (As := [.int p1]) (rest := []) hx hb hml hown hts hK hP hD hS hA (k_X2_told l N D cI cJ cZ cB cT qd0 qd1 qd2 d_n p1 r2 hg2) (kwX2_28 hts rfl rfl ⟨Nat.le_of_ble_eq_true rfl, Nat.le_of_ble_eq_true rfl⟩) [0] [1] rfl rfl rfl (by decide) rfl 0 rfl rfl rfl rfl hl.1 rfl (Nat.le_of_ble_eq_true rfl) dX2_join_2 ⟨Nat.zero_le _, Nat.zero_le _⟩ (fun hB2 H locs hP hD hS => ?_)
  have hP := mP_sub (wc := (W_L_0_2 qd0 qd2 qd1 cI cJ cZ cB cT d_n d_road)) hP [1, 0] rfl
  have hD := hD.sub (ws' := (W_L_0_2 qd0 qd2 qd1 cI cJ cZ cB cT d_n d_road)) [1, 0] rfl rfl
  refine xif_eq hx hb 30 dX2_join_5 (by decide) hf (fun hf => ?_) (fun hf => ?_)
  · refine lv_iconst (v := (0 : Int32)) hx hb dX2_join_30 (by decide) ?_
    cases hf
    exact mret_z hx hb hr hlocks hP hD hS dX2_join_31 rfl rfl
  · refine lv_aload_n hx hb dX2_join_8 rfl (lv_at hl 0 rfl) ?_
    refine lv_iload_n hx hb dX2_join_9 rfl (lv_at hl 2 rfl) ?_
    obtain ⟨r10, hg10, hf⟩ := ob1_some hf
    refine mcV_i (wr := [(qd2, .inl (cI, 8, .inl d_road))]) (As := [.int p2]) (rest := []) hx hb hml hown hts hK hP hD hS hA (k_X2_told l N D cI cJ cZ cB cT qd0 qd1 qd2 d_n p2 r10 hg10) (kwX2_28 hts rfl rfl ⟨Nat.le_of_ble_eq_true rfl, Nat.le_of_ble_eq_true rfl⟩) [0] [1] rfl rfl rfl (by decide) rfl 0 rfl rfl rfl rfl hl.1 rfl (Nat.le_of_ble_eq_true rfl) dX2_join_10 ⟨Nat.zero_le _, Nat.zero_le _⟩ (fun hB10 H locs hP hD hS => ?_)
    have hP := mP_sub (wc := (W_L_0_2 qd0 qd2 qd1 cI cJ cZ cB cT d_n d_road)) hP [1, 0] rfl
    have hD := hD.sub (ws' := (W_L_0_2 qd0 qd2 qd1 cI cJ cZ cB cT d_n d_road)) [1, 0] rfl rfl
    refine xif_eq hx hb 30 dX2_join_13 (by decide) hf (fun hf => ?_) (fun hf => ?_)
    · refine lv_iconst (v := (0 : Int32)) hx hb dX2_join_30 (by decide) ?_
      cases hf
      exact mret_z hx hb hr hlocks hP hD hS dX2_join_31 rfl rfl
    · refine lv_iload_n hx hb dX2_join_16 rfl (lv_at hl 1 rfl) ?_
      refine lv_iload_n hx hb dX2_join_17 rfl (lv_at hl 2 rfl) ?_
      refine xicmp_eq hx hb 30 dX2_join_18 (by decide) hf (fun hf => ?_) (fun hf => ?_)
      · refine lv_iconst (v := (0 : Int32)) hx hb dX2_join_30 (by decide) ?_
        cases hf
        exact mret_z hx hb hr hlocks hP hD hS dX2_join_31 rfl rfl
      · refine lv_aload_n hx hb dX2_join_21 rfl (lv_at hl 0 rfl) ?_
        refine lv_iload_n hx hb dX2_join_22 rfl (lv_at hl 1 rfl) ?_
        refine lv_iload_n hx hb dX2_join_23 rfl (lv_at hl 2 rfl) ?_
        obtain ⟨r24, hg24, hf⟩ := ob1_some hf
        refine mcV1_i (As := [.int p1, .int p2]) (rest := []) hx hb hml hown hts hK hP hD hS hA (k_X2_joined l N D cI cJ cZ cB cT qd0 qd2 qd1 d_n d_road p1 p2 r24 hg24) (kwX2_32 hts rfl rfl ⟨Nat.le_of_ble_eq_true rfl, Nat.le_of_ble_eq_true rfl⟩) 0 rfl rfl rfl rfl hl.1 rfl (Nat.le_of_ble_eq_true rfl) dX2_join_24 ⟨Nat.zero_le _, Nat.zero_le _⟩ (fun hB24 H locs hP hD hS => ?_)
        have hP : va_P D vwCl (W_L_0_2 qd0 qd2 qd1 cI cJ cZ cB cT d_n d_road) H := hP
        have hD : va_D A (W_L_0_2 qd0 qd2 qd1 cI cJ cZ cB cT d_n d_road) := hD
        refine xif_eq hx hb 32 dX2_join_27 (by decide) hf (fun hf => ?_) (fun hf => ?_)
        · refine lv_aload_n hx hb dX2_join_32 rfl (lv_at hl 0 rfl) ?_
          refine gfX2_19 hx hb hts hown hK hP 0 rfl rfl dX2_join_33 ?_
          refine lv_iload_n hx hb dX2_join_36 rfl (lv_at hl 1 rfl) ?_
          refine lv_dup2_11 hx hb dX2_join_37 rfl rfl ?_
          refine xiald hx hb hK hP 1 0 rfl rfl dX2_join_38 hf (fun v38 hf => ?_)
          refine lv_iconst (v := (1 : Int32)) hx hb dX2_join_39 (by decide) ?_
          refine lv_iload_n hx hb dX2_join_40 rfl (lv_at hl 2 rfl) ?_
          refine lv_ishl hx hb dX2_join_41 ?_
          refine lv_ior hx hb dX2_join_42 ?_
          refine xiast hx hb hK hP hD hS 1 0 rfl rfl dX2_join_43 hf (fun d_road_43 hf H locs hP hD hS => ?_)
          have hP : va_P D vwCl (W_L_0_2 qd0 qd2 qd1 cI cJ cZ cB cT d_n d_road_43) H := hP
          have hD : va_D A (W_L_0_2 qd0 qd2 qd1 cI cJ cZ cB cT d_n d_road_43) := hD
          refine lv_aload_n hx hb dX2_join_44 rfl (lv_at hl 0 rfl) ?_
          refine gfX2_19 hx hb hts hown hK hP 0 rfl rfl dX2_join_45 ?_
          refine lv_iload_n hx hb dX2_join_48 rfl (lv_at hl 2 rfl) ?_
          refine lv_dup2_11 hx hb dX2_join_49 rfl rfl ?_
          refine xiald hx hb hK hP 1 0 rfl rfl dX2_join_50 hf (fun v50 hf => ?_)
          refine lv_iconst (v := (1 : Int32)) hx hb dX2_join_51 (by decide) ?_
          refine lv_iload_n hx hb dX2_join_52 rfl (lv_at hl 1 rfl) ?_
          refine lv_ishl hx hb dX2_join_53 ?_
          refine lv_ior hx hb dX2_join_54 ?_
          refine xiast hx hb hK hP hD hS 1 0 rfl rfl dX2_join_55 hf (fun d_road_55 hf H locs hP hD hS => ?_)
          have hP : va_P D vwCl (W_L_0_2 qd0 qd2 qd1 cI cJ cZ cB cT d_n d_road_55) H := hP
          have hD : va_D A (W_L_0_2 qd0 qd2 qd1 cI cJ cZ cB cT d_n d_road_55) := hD
          refine lv_iconst (v := (1 : Int32)) hx hb dX2_join_56 (by decide) ?_
          cases hf
          exact mret_z hx hb hr hlocks hP hD hS dX2_join_57 rfl rfl
        · refine lv_iconst (v := (0 : Int32)) hx hb dX2_join_30 (by decide) ?_
          cases hf
          exact mret_z hx hb hr hlocks hP hD hS dX2_join_31 rfl rfl
theorem dX2_near_0 : decode cX2_near 0 = .ok (.iload_n 1, 1) := by decide +kernel
theorem dX2_near_1 : decode cX2_near 1 = .ok (.ifCond .lt 26, 3) := by decide +kernel
theorem dX2_near_4 : decode cX2_near 4 = .ok (.iload_n 1, 1) := by decide +kernel
theorem dX2_near_5 : decode cX2_near 5 = .ok (.aload_n 0, 1) := by decide +kernel
theorem dX2_near_6 : decode cX2_near 6 = .ok (.getfield 9, 3) := by decide +kernel
theorem dX2_near_9 : decode cX2_near 9 = .ok (.if_icmp .ge 18, 3) := by decide +kernel
theorem dX2_near_12 : decode cX2_near 12 = .ok (.iload_n 1, 1) := by decide +kernel
theorem dX2_near_13 : decode cX2_near 13 = .ok (.bipush 8, 2) := by decide +kernel
theorem dX2_near_15 : decode cX2_near 15 = .ok (.if_icmp .ge 12, 3) := by decide +kernel
theorem dX2_near_18 : decode cX2_near 18 = .ok (.aload_n 0, 1) := by decide +kernel
theorem dX2_near_19 : decode cX2_near 19 = .ok (.getfield 19, 3) := by decide +kernel
theorem dX2_near_22 : decode cX2_near 22 = .ok (.iload_n 1, 1) := by decide +kernel
theorem dX2_near_23 : decode cX2_near 23 = .ok (.iaload, 1) := by decide +kernel
theorem dX2_near_24 : decode cX2_near 24 = .ok (.goto 4, 3) := by decide +kernel
theorem dX2_near_27 : decode cX2_near 27 = .ok (.iconst 0, 1) := by decide +kernel
theorem dX2_near_28 : decode cX2_near 28 = .ok (.ireturn, 1) := by decide +kernel
def f_X2_near (N : Nat) (d_n : Int32) (d_road : Nat → Int32) (p1 : Int32) : Option (Int32) := if p1 < 0 then (some (0 : Int32)) else (if d_n ≤ p1 then (some (0 : Int32)) else (if (8 : Int32) ≤ p1 then (some (0 : Int32)) else (gA d_road 8 p1 fun v23 => some v23)))
set_option maxHeartbeats 4000000 in
set_option maxRecDepth 100000 in
theorem k_X2_near (l : Launch) (N : Nat) (D : va_G) (cI cJ cZ cB cT : ClassId) (qd0 : Nat) (qd2 : Nat) (qd1 : Nat) (d_n : Int32) (d_road : Nat → Int32) (p1 : Int32) (o_r : Int32) (hf : f_X2_near N d_n d_road p1 = some o_r) : ∀ sz, Met l yX2_near (mw yX2_near cX2_near 2 (some .int)) ({ frames := 0, cells := 0, slots := 0, locals := 0 } : Room) (mPre D (mT cI cJ cZ cB cT) (W_L_0_2 qd0 qd2 qd1 cI cJ cZ cB cT d_n d_road) sz [.ref qd0, .int p1]) ((mQi D (W_L_0_2 qd0 qd2 qd1 cI cJ cZ cB cT d_n d_road) o_r True) (va_A (W_L_0_2 qd0 qd2 qd1 cI cJ cZ cB cT d_n d_road) sz)) 0 0 (va_A (W_L_0_2 qd0 qd2 qd1 cI cJ cZ cB cT d_n d_road) sz) := by
  refine mMet (Qc := (mQi D (W_L_0_2 qd0 qd2 qd1 cI cJ cZ cB cT d_n d_road) o_r True)) (by decide) (Nat.le_of_ble_eq_true rfl) (fun p e s m below meth c A ls hx hb hr hml hts hown hlocks hK hA hP hD hl => ?_)
  have hown : s.vm.findClass RX2 = some m.cls := hown
  have hl : lv_has ls 2 [(0, .ref qd0), (1, .int p1)] := hl
  have hS : va_S A s.heap s.heap [] := va_S.rf
  unfold f_X2_near at hf
  refine lv_iload_n hx hb dX2_near_0 rfl (lv_at hl 1 rfl) ?_
  refine xif_lt hx hb 27 dX2_near_1 (by decide) hf (fun hf => ?_) (fun hf => ?_)
  · refine lv_iconst (v := (0 : Int32)) hx hb dX2_near_27 (by decide) ?_
    cases hf
    exact mret_i hx hb hr hlocks hP hD hS dX2_near_28 rfl trivial
  · refine lv_iload_n hx hb dX2_near_4 rfl (lv_at hl 1 rfl) ?_
    refine lv_aload_n hx hb dX2_near_5 rfl (lv_at hl 0 rfl) ?_
    refine gfX2_9 hx hb hts hown hK hP 0 rfl rfl dX2_near_6 ?_
    refine xicmp_ge hx hb 27 dX2_near_9 (by decide) hf (fun hf => ?_) (fun hf => ?_)
    · refine lv_iconst (v := (0 : Int32)) hx hb dX2_near_27 (by decide) ?_
      cases hf
      exact mret_i hx hb hr hlocks hP hD hS dX2_near_28 rfl trivial
    · refine lv_iload_n hx hb dX2_near_12 rfl (lv_at hl 1 rfl) ?_
      refine lv_bipush (v := (8 : Int32)) hx hb dX2_near_13 (by decide) ?_
      refine xicmp_ge hx hb 27 dX2_near_15 (by decide) hf (fun hf => ?_) (fun hf => ?_)
      · refine lv_iconst (v := (0 : Int32)) hx hb dX2_near_27 (by decide) ?_
        cases hf
        exact mret_i hx hb hr hlocks hP hD hS dX2_near_28 rfl trivial
      · refine lv_aload_n hx hb dX2_near_18 rfl (lv_at hl 0 rfl) ?_
        refine gfX2_19 hx hb hts hown hK hP 0 rfl rfl dX2_near_19 ?_
        refine lv_iload_n hx hb dX2_near_22 rfl (lv_at hl 1 rfl) ?_
        refine xiald hx hb hK hP 1 0 rfl rfl dX2_near_23 hf (fun v23 hf => ?_)
        refine lv_goto (tgt := 28) hx hb dX2_near_24 (by decide) ?_
        cases hf
        exact mret_i hx hb hr hlocks hP hD hS dX2_near_28 rfl trivial
theorem dX2_all_0 : decode cX2_all 0 = .ok (.iconst 1, 1) := by decide +kernel
theorem dX2_all_1 : decode cX2_all 1 = .ok (.aload_n 0, 1) := by decide +kernel
theorem dX2_all_2 : decode cX2_all 2 = .ok (.getfield 9, 3) := by decide +kernel
theorem dX2_all_5 : decode cX2_all 5 = .ok (.ishl, 1) := by decide +kernel
theorem dX2_all_6 : decode cX2_all 6 = .ok (.iconst 1, 1) := by decide +kernel
theorem dX2_all_7 : decode cX2_all 7 = .ok (.isub, 1) := by decide +kernel
theorem dX2_all_8 : decode cX2_all 8 = .ok (.ireturn, 1) := by decide +kernel
def f_X2_all (N : Nat) (d_n : Int32) : Option (Int32) := some (((1 : Int32) <<< (d_n &&& 31)) - (1 : Int32))
set_option maxHeartbeats 4000000 in
set_option maxRecDepth 100000 in
theorem k_X2_all (l : Launch) (N : Nat) (D : va_G) (cI cJ cZ cB cT : ClassId) (qd0 : Nat) (qd1 : Nat) (qd2 : Nat) (d_n : Int32) (o_r : Int32) (hf : f_X2_all N d_n = some o_r) : ∀ sz, Met l yX2_all (mw yX2_all cX2_all 1 (some .int)) ({ frames := 0, cells := 0, slots := 0, locals := 0 } : Room) (mPre D (mT cI cJ cZ cB cT) (W_L_0 qd0 qd1 qd2 cI cJ cZ cB cT d_n) sz [.ref qd0]) ((mQi D (W_L_0 qd0 qd1 qd2 cI cJ cZ cB cT d_n) o_r True) (va_A (W_L_0 qd0 qd1 qd2 cI cJ cZ cB cT d_n) sz)) 0 0 (va_A (W_L_0 qd0 qd1 qd2 cI cJ cZ cB cT d_n) sz) := by
  refine mMet (Qc := (mQi D (W_L_0 qd0 qd1 qd2 cI cJ cZ cB cT d_n) o_r True)) (by decide) (Nat.le_of_ble_eq_true rfl) (fun p e s m below meth c A ls hx hb hr hml hts hown hlocks hK hA hP hD hl => ?_)
  have hown : s.vm.findClass RX2 = some m.cls := hown
  have hl : lv_has ls 1 [(0, .ref qd0)] := hl
  have hS : va_S A s.heap s.heap [] := va_S.rf
  unfold f_X2_all at hf
  refine lv_iconst (v := (1 : Int32)) hx hb dX2_all_0 (by decide) ?_
  refine lv_aload_n hx hb dX2_all_1 rfl (lv_at hl 0 rfl) ?_
  refine gfX2_9 hx hb hts hown hK hP 0 rfl rfl dX2_all_2 ?_
  refine lv_ishl hx hb dX2_all_5 ?_
  refine lv_iconst (v := (1 : Int32)) hx hb dX2_all_6 (by decide) ?_
  refine lv_isub hx hb dX2_all_7 ?_
  cases hf
  exact mret_i hx hb hr hlocks hP hD hS dX2_all_8 rfl trivial
theorem dX2_spread_0 : decode cX2_spread 0 = .ok (.iload_n 1, 1) := by decide +kernel
theorem dX2_spread_1 : decode cX2_spread 1 = .ok (.istore_n 2, 1) := by decide +kernel
theorem dX2_spread_2 : decode cX2_spread 2 = .ok (.iconst 0, 1) := by decide +kernel
theorem dX2_spread_3 : decode cX2_spread 3 = .ok (.istore_n 3, 1) := by decide +kernel
theorem dX2_spread_4 : decode cX2_spread 4 = .ok (.iload_n 3, 1) := by decide +kernel
theorem dX2_spread_5 : decode cX2_spread 5 = .ok (.aload_n 0, 1) := by decide +kernel
theorem dX2_spread_6 : decode cX2_spread 6 = .ok (.getfield 9, 3) := by decide +kernel
theorem dX2_spread_9 : decode cX2_spread 9 = .ok (.if_icmp .ge 33, 3) := by decide +kernel
theorem dX2_spread_12 : decode cX2_spread 12 = .ok (.iload_n 3, 1) := by decide +kernel
theorem dX2_spread_13 : decode cX2_spread 13 = .ok (.bipush 8, 2) := by decide +kernel
theorem dX2_spread_15 : decode cX2_spread 15 = .ok (.if_icmp .ge 27, 3) := by decide +kernel
theorem dX2_spread_18 : decode cX2_spread 18 = .ok (.iload_n 1, 1) := by decide +kernel
theorem dX2_spread_19 : decode cX2_spread 19 = .ok (.iload_n 3, 1) := by decide +kernel
theorem dX2_spread_20 : decode cX2_spread 20 = .ok (.ishr, 1) := by decide +kernel
theorem dX2_spread_21 : decode cX2_spread 21 = .ok (.iconst 1, 1) := by decide +kernel
theorem dX2_spread_22 : decode cX2_spread 22 = .ok (.iand, 1) := by decide +kernel
theorem dX2_spread_23 : decode cX2_spread 23 = .ok (.iconst 1, 1) := by decide +kernel
theorem dX2_spread_24 : decode cX2_spread 24 = .ok (.if_icmp .ne 12, 3) := by decide +kernel
theorem dX2_spread_27 : decode cX2_spread 27 = .ok (.iload_n 2, 1) := by decide +kernel
theorem dX2_spread_28 : decode cX2_spread 28 = .ok (.aload_n 0, 1) := by decide +kernel
theorem dX2_spread_29 : decode cX2_spread 29 = .ok (.getfield 19, 3) := by decide +kernel
theorem dX2_spread_32 : decode cX2_spread 32 = .ok (.iload_n 3, 1) := by decide +kernel
theorem dX2_spread_33 : decode cX2_spread 33 = .ok (.iaload, 1) := by decide +kernel
theorem dX2_spread_34 : decode cX2_spread 34 = .ok (.ior, 1) := by decide +kernel
theorem dX2_spread_35 : decode cX2_spread 35 = .ok (.istore_n 2, 1) := by decide +kernel
theorem dX2_spread_36 : decode cX2_spread 36 = .ok (.iinc 3 1, 3) := by decide +kernel
theorem dX2_spread_39 : decode cX2_spread 39 = .ok (.goto (-35), 3) := by decide +kernel
theorem dX2_spread_42 : decode cX2_spread 42 = .ok (.iload_n 2, 1) := by decide +kernel
theorem dX2_spread_43 : decode cX2_spread 43 = .ok (.ireturn, 1) := by decide +kernel
def f_X2_spread_36 (N : Nat) (k_4 : Int32 → (Nat → Int32) → Int32 → Int32 → Int32 → Option (Int32)) (d_n : Int32) (d_road : Nat → Int32) (x1 : Int32) (x2 : Int32) (x3 : Int32) : Option (Int32) := k_4 d_n d_road x1 x2 (x3 + (1 : Int32))
def f_X2_spread_4 (N : Nat) : Nat → Int32 → (Nat → Int32) → Int32 → Int32 → Int32 → Option (Int32)
  | 0, _, _, _, _, _ => none
  | n + 1, d_n, d_road, x1, x2, x3 => if d_n ≤ x3 then (some x2) else (if (8 : Int32) ≤ x3 then (some x2) else (if ((x1 >>> (x3 &&& 31)) &&& (1 : Int32)) = (1 : Int32) then (gA d_road 8 x3 fun v33 => f_X2_spread_36 N (f_X2_spread_4 N n) d_n d_road x1 (x2 ||| v33) x3) else (f_X2_spread_36 N (f_X2_spread_4 N n) d_n d_road x1 x2 x3)))
def f_X2_spread (N : Nat) (d_n : Int32) (d_road : Nat → Int32) (p1 : Int32) : Option (Int32) := f_X2_spread_4 N N d_n d_road p1 p1 (0 : Int32)
set_option maxHeartbeats 4000000 in
set_option maxRecDepth 100000 in
theorem k_X2_spread (l : Launch) (N : Nat) (D : va_G) (cI cJ cZ cB cT : ClassId) (qd0 : Nat) (qd2 : Nat) (qd1 : Nat) (d_n : Int32) (d_road : Nat → Int32) (p1 : Int32) (o_r : Int32) (hf : f_X2_spread N d_n d_road p1 = some o_r) : ∀ sz, Met l yX2_spread (mw yX2_spread cX2_spread 4 (some .int)) ({ frames := 0, cells := 0, slots := 0, locals := 0 } : Room) (mPre D (mT cI cJ cZ cB cT) (W_L_0_2 qd0 qd2 qd1 cI cJ cZ cB cT d_n d_road) sz [.ref qd0, .int p1]) ((mQi D (W_L_0_2 qd0 qd2 qd1 cI cJ cZ cB cT d_n d_road) o_r True) (va_A (W_L_0_2 qd0 qd2 qd1 cI cJ cZ cB cT d_n d_road) sz)) 0 0 (va_A (W_L_0_2 qd0 qd2 qd1 cI cJ cZ cB cT d_n d_road) sz) := by
  refine mMet (Qc := (mQi D (W_L_0_2 qd0 qd2 qd1 cI cJ cZ cB cT d_n d_road) o_r True)) (by decide) (Nat.le_of_ble_eq_true rfl) (fun p e s m below meth c A ls hx hb hr hml hts hown hlocks hK hA hP hD hl => ?_)
  have hown : s.vm.findClass RX2 = some m.cls := hown
  have hl : lv_has ls 4 [(0, .ref qd0), (1, .int p1)] := hl
  have hS : va_S A s.heap s.heap [] := va_S.rf
  have b4 : ∀ n4 : Nat, ∀ (x1 : Int32) (x2 : Int32) (x3 : Int32) (H : Heap) (locs : List Loc) (ls : Array Slot), f_X2_spread_4 N n4 d_n d_road x1 x2 x3 = some o_r → va_P D vwCl (W_L_0_2 qd0 qd2 qd1 cI cJ cZ cB cT d_n d_road) H → va_D A (W_L_0_2 qd0 qd2 qd1 cI cJ cZ cB cT d_n d_road) → va_S A s.heap H locs → lv_has ls 4 [(0, .ref qd0), (1, .int x1), (2, .int x2), (3, .int x3)] → W p l e ({ frames := 0, cells := 0, slots := 0, locals := 0 } : Room) s m ([.ref qd0, .int p1] : List Value).toArray below meth c H locs 0 0 (MQ below ((mQi D (W_L_0_2 qd0 qd2 qd1 cI cJ cZ cB cT d_n d_road) o_r True) A) ([.ref qd0, .int p1] : List Value).toArray s 0 0 A) (F0 m 4 ls []) := by
    intro n4
    induction n4 with
    | zero =>
      intro x1 x2 x3 H locs ls hf hP hD hS hl
      simp [f_X2_spread_4] at hf
    | succ n4 ih4 =>
      have b36 : ∀ (x1 : Int32) (x2 : Int32) (x3 : Int32) (H : Heap) (locs : List Loc) (ls : Array Slot), f_X2_spread_36 N (f_X2_spread_4 N n4) d_n d_road x1 x2 x3 = some o_r → va_P D vwCl (W_L_0_2 qd0 qd2 qd1 cI cJ cZ cB cT d_n d_road) H → va_D A (W_L_0_2 qd0 qd2 qd1 cI cJ cZ cB cT d_n d_road) → va_S A s.heap H locs → lv_has ls 4 [(0, .ref qd0), (1, .int x1), (2, .int x2), (3, .int x3)] → W p l e ({ frames := 0, cells := 0, slots := 0, locals := 0 } : Room) s m ([.ref qd0, .int p1] : List Value).toArray below meth c H locs 0 0 (MQ below ((mQi D (W_L_0_2 qd0 qd2 qd1 cI cJ cZ cB cT d_n d_road) o_r True) A) ([.ref qd0, .int p1] : List Value).toArray s 0 0 A) (F0 m 36 ls []) := by
        intro x1 x2 x3 H locs ls hf hP hD hS hl
        unfold f_X2_spread_36 at hf
        refine lv_iinc (v := (x3 + (1 : Int32))) (lv' := [(3, .int (x3 + (1 : Int32))), (0, .ref qd0), (1, .int x1), (2, .int x2)]) hx hb dX2_spread_36 hl (k := 3) rfl rfl (by decide) rfl (fun ls hl => ?_)
        refine lv_goto (tgt := 4) hx hb dX2_spread_39 (by decide) ?_
        exact ih4 x1 x2 (x3 + (1 : Int32)) _ _ _ hf hP hD hS (lv_sub hl [1, 2, 3, 0] rfl)
      intro x1 x2 x3 H locs ls hf hP hD hS hl
      rw [f_X2_spread_4.eq_2] at hf
      refine lv_iload_n hx hb dX2_spread_4 rfl (lv_at hl 3 rfl) ?_
      refine lv_aload_n hx hb dX2_spread_5 rfl (lv_at hl 0 rfl) ?_
      refine gfX2_9 hx hb hts hown hK hP 0 rfl rfl dX2_spread_6 ?_
      refine xicmp_ge hx hb 42 dX2_spread_9 (by decide) hf (fun hf => ?_) (fun hf => ?_)
      · refine lv_iload_n hx hb dX2_spread_42 rfl (lv_at hl 2 rfl) ?_
        cases hf
        exact mret_i hx hb hr hlocks hP hD hS dX2_spread_43 rfl trivial
      · refine lv_iload_n hx hb dX2_spread_12 rfl (lv_at hl 3 rfl) ?_
        refine lv_bipush (v := (8 : Int32)) hx hb dX2_spread_13 (by decide) ?_
        refine xicmp_ge hx hb 42 dX2_spread_15 (by decide) hf (fun hf => ?_) (fun hf => ?_)
        · refine lv_iload_n hx hb dX2_spread_42 rfl (lv_at hl 2 rfl) ?_
          cases hf
          exact mret_i hx hb hr hlocks hP hD hS dX2_spread_43 rfl trivial
        · refine lv_iload_n hx hb dX2_spread_18 rfl (lv_at hl 1 rfl) ?_
          refine lv_iload_n hx hb dX2_spread_19 rfl (lv_at hl 3 rfl) ?_
          refine lv_ishr hx hb dX2_spread_20 ?_
          refine lv_iconst (v := (1 : Int32)) hx hb dX2_spread_21 (by decide) ?_
          refine lv_iand hx hb dX2_spread_22 ?_
          refine lv_iconst (v := (1 : Int32)) hx hb dX2_spread_23 (by decide) ?_
          refine xicmp_ne hx hb 36 dX2_spread_24 (by decide) hf (fun hf => ?_) (fun hf => ?_)
          · refine lv_iload_n hx hb dX2_spread_27 rfl (lv_at hl 2 rfl) ?_
            refine lv_aload_n hx hb dX2_spread_28 rfl (lv_at hl 0 rfl) ?_
            refine gfX2_19 hx hb hts hown hK hP 0 rfl rfl dX2_spread_29 ?_
            refine lv_iload_n hx hb dX2_spread_32 rfl (lv_at hl 3 rfl) ?_
            refine xiald hx hb hK hP 1 0 rfl rfl dX2_spread_33 hf (fun v33 hf => ?_)
            refine lv_ior hx hb dX2_spread_34 ?_
            refine lv_istore_n (lv' := [(2, .int (x2 ||| v33)), (0, .ref qd0), (1, .int x1), (3, .int x3)]) hx hb dX2_spread_35 rfl hl (by decide) rfl (fun ls hl => ?_)
            exact b36 x1 (x2 ||| v33) x3 _ _ _ hf hP hD hS (lv_sub hl [1, 2, 0, 3] rfl)
          · exact b36 x1 x2 x3 _ _ _ hf hP hD hS (lv_sub hl [0, 1, 2, 3] rfl)
  unfold f_X2_spread at hf
  refine lv_iload_n hx hb dX2_spread_0 rfl (lv_at hl 1 rfl) ?_
  refine lv_istore_n (lv' := [(2, .int p1), (0, .ref qd0), (1, .int p1)]) hx hb dX2_spread_1 rfl hl (by decide) rfl (fun ls hl => ?_)
  refine lv_iconst (v := (0 : Int32)) hx hb dX2_spread_2 (by decide) ?_
  refine lv_istore_n (lv' := [(3, .int (0 : Int32)), (2, .int p1), (0, .ref qd0), (1, .int p1)]) hx hb dX2_spread_3 rfl hl (by decide) rfl (fun ls hl => ?_)
  exact b4 N p1 p1 (0 : Int32) _ _ _ hf hP hD hS (lv_sub hl [2, 3, 1, 0] rfl)
theorem dX2_distance_0 : decode cX2_distance 0 = .ok (.iconst 1, 1) := by decide +kernel
theorem dX2_distance_1 : decode cX2_distance 1 = .ok (.iload_n 1, 1) := by decide +kernel
theorem dX2_distance_2 : decode cX2_distance 2 = .ok (.ishl, 1) := by decide +kernel
theorem dX2_distance_3 : decode cX2_distance 3 = .ok (.istore_n 3, 1) := by decide +kernel
theorem dX2_distance_4 : decode cX2_distance 4 = .ok (.iconst 0, 1) := by decide +kernel
theorem dX2_distance_5 : decode cX2_distance 5 = .ok (.istore 4, 2) := by decide +kernel
theorem dX2_distance_7 : decode cX2_distance 7 = .ok (.iload 4, 2) := by decide +kernel
theorem dX2_distance_9 : decode cX2_distance 9 = .ok (.bipush 8, 2) := by decide +kernel
theorem dX2_distance_11 : decode cX2_distance 11 = .ok (.if_icmp .ge 24, 3) := by decide +kernel
theorem dX2_distance_14 : decode cX2_distance 14 = .ok (.iload_n 3, 1) := by decide +kernel
theorem dX2_distance_15 : decode cX2_distance 15 = .ok (.iload_n 2, 1) := by decide +kernel
theorem dX2_distance_16 : decode cX2_distance 16 = .ok (.iand, 1) := by decide +kernel
theorem dX2_distance_17 : decode cX2_distance 17 = .ok (.ifCond .eq 6, 3) := by decide +kernel
theorem dX2_distance_20 : decode cX2_distance 20 = .ok (.iload 4, 2) := by decide +kernel
theorem dX2_distance_22 : decode cX2_distance 22 = .ok (.ireturn, 1) := by decide +kernel
theorem dX2_distance_23 : decode cX2_distance 23 = .ok (.aload_n 0, 1) := by decide +kernel
theorem dX2_distance_24 : decode cX2_distance 24 = .ok (.iload_n 3, 1) := by decide +kernel
theorem dX2_distance_25 : decode cX2_distance 25 = .ok (.invokevirtual 36, 3) := by decide +kernel
theorem dX2_distance_28 : decode cX2_distance 28 = .ok (.istore_n 3, 1) := by decide +kernel
theorem dX2_distance_29 : decode cX2_distance 29 = .ok (.iinc 4 1, 3) := by decide +kernel
theorem dX2_distance_32 : decode cX2_distance 32 = .ok (.goto (-25), 3) := by decide +kernel
theorem dX2_distance_35 : decode cX2_distance 35 = .ok (.iconst (-1), 1) := by decide +kernel
theorem dX2_distance_36 : decode cX2_distance 36 = .ok (.ireturn, 1) := by decide +kernel
def f_X2_distance_7 (N : Nat) : Nat → Int32 → (Nat → Int32) → Int32 → Int32 → Int32 → Option (Int32)
  | 0, _, _, _, _, _ => none
  | n + 1, d_n, d_road, x2, x3, x4 => if (8 : Int32) ≤ x4 then (some (-1 : Int32)) else (if (x3 &&& x2) = 0 then (ob1 (f_X2_spread N d_n d_road x3) fun r25 => (f_X2_distance_7 N n) d_n d_road x2 r25 (x4 + (1 : Int32))) else (some x4))
def f_X2_distance (N : Nat) (d_n : Int32) (d_road : Nat → Int32) (p1 : Int32) (p2 : Int32) : Option (Int32) := f_X2_distance_7 N N d_n d_road p2 ((1 : Int32) <<< (p1 &&& 31)) (0 : Int32)
set_option maxHeartbeats 4000000 in
set_option maxRecDepth 100000 in
theorem k_X2_distance (l : Launch) (N : Nat) (D : va_G) (cI cJ cZ cB cT : ClassId) (qd0 : Nat) (qd2 : Nat) (qd1 : Nat) (d_n : Int32) (d_road : Nat → Int32) (p1 : Int32) (p2 : Int32) (o_r : Int32) (hf : f_X2_distance N d_n d_road p1 p2 = some o_r) : ∀ sz, Met l yX2_distance (mw yX2_distance cX2_distance 5 (some .int)) ({ frames := 1, cells := 0, slots := 0, locals := 23 } : Room) (mPre D (mT cI cJ cZ cB cT) (W_L_0_2 qd0 qd2 qd1 cI cJ cZ cB cT d_n d_road) sz [.ref qd0, .int p1, .int p2]) ((mQi D (W_L_0_2 qd0 qd2 qd1 cI cJ cZ cB cT d_n d_road) o_r True) (va_A (W_L_0_2 qd0 qd2 qd1 cI cJ cZ cB cT d_n d_road) sz)) 0 0 (va_A (W_L_0_2 qd0 qd2 qd1 cI cJ cZ cB cT d_n d_road) sz) := by
  refine mMet (Qc := (mQi D (W_L_0_2 qd0 qd2 qd1 cI cJ cZ cB cT d_n d_road) o_r True)) (by decide) (Nat.le_of_ble_eq_true rfl) (fun p e s m below meth c A ls hx hb hr hml hts hown hlocks hK hA hP hD hl => ?_)
  have hown : s.vm.findClass RX2 = some m.cls := hown
  have hl : lv_has ls 5 [(0, .ref qd0), (1, .int p1), (2, .int p2)] := hl
  have hS : va_S A s.heap s.heap [] := va_S.rf
  have b7 : ∀ n7 : Nat, ∀ (x2 : Int32) (x3 : Int32) (x4 : Int32) (H : Heap) (locs : List Loc) (ls : Array Slot), f_X2_distance_7 N n7 d_n d_road x2 x3 x4 = some o_r → va_P D vwCl (W_L_0_2 qd0 qd2 qd1 cI cJ cZ cB cT d_n d_road) H → va_D A (W_L_0_2 qd0 qd2 qd1 cI cJ cZ cB cT d_n d_road) → va_S A s.heap H locs → lv_has ls 5 [(0, .ref qd0), (2, .int x2), (3, .int x3), (4, .int x4)] → W p l e ({ frames := 1, cells := 0, slots := 0, locals := 23 } : Room) s m ([.ref qd0, .int p1, .int p2] : List Value).toArray below meth c H locs 0 0 (MQ below ((mQi D (W_L_0_2 qd0 qd2 qd1 cI cJ cZ cB cT d_n d_road) o_r True) A) ([.ref qd0, .int p1, .int p2] : List Value).toArray s 0 0 A) (F0 m 7 ls []) := by
    intro n7
    induction n7 with
    | zero =>
      intro x2 x3 x4 H locs ls hf hP hD hS hl
      simp [f_X2_distance_7] at hf
    | succ n7 ih7 =>
      intro x2 x3 x4 H locs ls hf hP hD hS hl
      rw [f_X2_distance_7.eq_2] at hf
      refine lv_iload hx hb dX2_distance_7 (lv_at hl 3 rfl) ?_
      refine lv_bipush (v := (8 : Int32)) hx hb dX2_distance_9 (by decide) ?_
      refine xicmp_ge hx hb 35 dX2_distance_11 (by decide) hf (fun hf => ?_) (fun hf => ?_)
      · refine lv_iconst (v := (-1 : Int32)) hx hb dX2_distance_35 (by decide) ?_
        cases hf
        exact mret_i hx hb hr hlocks hP hD hS dX2_distance_36 rfl trivial
      · refine lv_iload_n hx hb dX2_distance_14 rfl (lv_at hl 2 rfl) ?_
        refine lv_iload_n hx hb dX2_distance_15 rfl (lv_at hl 1 rfl) ?_
        refine lv_iand hx hb dX2_distance_16 ?_
        refine xif_eq hx hb 23 dX2_distance_17 (by decide) hf (fun hf => ?_) (fun hf => ?_)
        · refine lv_aload_n hx hb dX2_distance_23 rfl (lv_at hl 0 rfl) ?_
          refine lv_iload_n hx hb dX2_distance_24 rfl (lv_at hl 2 rfl) ?_
          obtain ⟨r25, hg25, hf⟩ := ob1_some hf
          refine mcV1_i (As := [.int x3]) (rest := []) hx hb hml hown hts hK hP hD hS hA (k_X2_spread l N D cI cJ cZ cB cT qd0 qd2 qd1 d_n d_road x3 r25 hg25) (kwX2_36 hts rfl rfl ⟨Nat.le_of_ble_eq_true rfl, Nat.le_of_ble_eq_true rfl⟩) 0 rfl rfl rfl rfl hl.1 rfl (Nat.le_of_ble_eq_true rfl) dX2_distance_25 ⟨Nat.zero_le _, Nat.zero_le _⟩ (fun hB25 H locs hP hD hS => ?_)
          have hP : va_P D vwCl (W_L_0_2 qd0 qd2 qd1 cI cJ cZ cB cT d_n d_road) H := hP
          have hD : va_D A (W_L_0_2 qd0 qd2 qd1 cI cJ cZ cB cT d_n d_road) := hD
          refine lv_istore_n (lv' := [(3, .int r25), (0, .ref qd0), (2, .int x2), (4, .int x4)]) hx hb dX2_distance_28 rfl hl (by decide) rfl (fun ls hl => ?_)
          refine lv_iinc (v := (x4 + (1 : Int32))) (lv' := [(4, .int (x4 + (1 : Int32))), (3, .int r25), (0, .ref qd0), (2, .int x2)]) hx hb dX2_distance_29 hl (k := 3) rfl rfl (by decide) rfl (fun ls hl => ?_)
          refine lv_goto (tgt := 7) hx hb dX2_distance_32 (by decide) ?_
          exact ih7 x2 r25 (x4 + (1 : Int32)) _ _ _ hf hP hD hS (lv_sub hl [2, 3, 1, 0] rfl)
        · refine lv_iload hx hb dX2_distance_20 (lv_at hl 3 rfl) ?_
          cases hf
          exact mret_i hx hb hr hlocks hP hD hS dX2_distance_22 rfl trivial
  unfold f_X2_distance at hf
  refine lv_iconst (v := (1 : Int32)) hx hb dX2_distance_0 (by decide) ?_
  refine lv_iload_n hx hb dX2_distance_1 rfl (lv_at hl 1 rfl) ?_
  refine lv_ishl hx hb dX2_distance_2 ?_
  refine lv_istore_n (lv' := [(3, .int ((1 : Int32) <<< (p1 &&& 31))), (0, .ref qd0), (1, .int p1), (2, .int p2)]) hx hb dX2_distance_3 rfl hl (by decide) rfl (fun ls hl => ?_)
  refine lv_iconst (v := (0 : Int32)) hx hb dX2_distance_4 (by decide) ?_
  refine lv_istore (lv' := [(4, .int (0 : Int32)), (3, .int ((1 : Int32) <<< (p1 &&& 31))), (0, .ref qd0), (1, .int p1), (2, .int p2)]) hx hb dX2_distance_5 hl (by decide) rfl (fun ls hl => ?_)
  exact b7 N p2 ((1 : Int32) <<< (p1 &&& 31)) (0 : Int32) _ _ _ hf hP hD hS (lv_sub hl [2, 4, 1, 0] rfl)
theorem dX2_fewestHelpers_0 : decode cX2_fewestHelpers 0 = .ok (.aload_n 0, 1) := by decide +kernel
theorem dX2_fewestHelpers_1 : decode cX2_fewestHelpers 1 = .ok (.invokevirtual 40, 3) := by decide +kernel
theorem dX2_fewestHelpers_4 : decode cX2_fewestHelpers 4 = .ok (.istore_n 1, 1) := by decide +kernel
theorem dX2_fewestHelpers_5 : decode cX2_fewestHelpers 5 = .ok (.iload_n 1, 1) := by decide +kernel
theorem dX2_fewestHelpers_6 : decode cX2_fewestHelpers 6 = .ok (.istore_n 2, 1) := by decide +kernel
theorem dX2_fewestHelpers_7 : decode cX2_fewestHelpers 7 = .ok (.iconst 0, 1) := by decide +kernel
theorem dX2_fewestHelpers_8 : decode cX2_fewestHelpers 8 = .ok (.istore_n 3, 1) := by decide +kernel
theorem dX2_fewestHelpers_9 : decode cX2_fewestHelpers 9 = .ok (.iload_n 3, 1) := by decide +kernel
theorem dX2_fewestHelpers_10 : decode cX2_fewestHelpers 10 = .ok (.iload_n 1, 1) := by decide +kernel
theorem dX2_fewestHelpers_11 : decode cX2_fewestHelpers 11 = .ok (.if_icmp .gt 43, 3) := by decide +kernel
theorem dX2_fewestHelpers_14 : decode cX2_fewestHelpers 14 = .ok (.iload_n 3, 1) := by decide +kernel
theorem dX2_fewestHelpers_15 : decode cX2_fewestHelpers 15 = .ok (.invokestatic 44, 3) := by decide +kernel
theorem dX2_fewestHelpers_18 : decode cX2_fewestHelpers 18 = .ok (.iload_n 2, 1) := by decide +kernel
theorem dX2_fewestHelpers_19 : decode cX2_fewestHelpers 19 = .ok (.invokestatic 44, 3) := by decide +kernel
theorem dX2_fewestHelpers_22 : decode cX2_fewestHelpers 22 = .ok (.if_icmp .ge 7, 3) := by decide +kernel
theorem dX2_fewestHelpers_25 : decode cX2_fewestHelpers 25 = .ok (.iconst 1, 1) := by decide +kernel
theorem dX2_fewestHelpers_26 : decode cX2_fewestHelpers 26 = .ok (.goto 4, 3) := by decide +kernel
theorem dX2_fewestHelpers_29 : decode cX2_fewestHelpers 29 = .ok (.iconst 0, 1) := by decide +kernel
theorem dX2_fewestHelpers_30 : decode cX2_fewestHelpers 30 = .ok (.istore 4, 2) := by decide +kernel
theorem dX2_fewestHelpers_32 : decode cX2_fewestHelpers 32 = .ok (.iload 4, 2) := by decide +kernel
theorem dX2_fewestHelpers_34 : decode cX2_fewestHelpers 34 = .ok (.ifCond .eq 14, 3) := by decide +kernel
theorem dX2_fewestHelpers_37 : decode cX2_fewestHelpers 37 = .ok (.aload_n 0, 1) := by decide +kernel
theorem dX2_fewestHelpers_38 : decode cX2_fewestHelpers 38 = .ok (.iload_n 3, 1) := by decide +kernel
theorem dX2_fewestHelpers_39 : decode cX2_fewestHelpers 39 = .ok (.invokevirtual 36, 3) := by decide +kernel
theorem dX2_fewestHelpers_42 : decode cX2_fewestHelpers 42 = .ok (.iload_n 1, 1) := by decide +kernel
theorem dX2_fewestHelpers_43 : decode cX2_fewestHelpers 43 = .ok (.if_icmp .ne 5, 3) := by decide +kernel
theorem dX2_fewestHelpers_46 : decode cX2_fewestHelpers 46 = .ok (.iload_n 3, 1) := by decide +kernel
theorem dX2_fewestHelpers_47 : decode cX2_fewestHelpers 47 = .ok (.istore_n 2, 1) := by decide +kernel
theorem dX2_fewestHelpers_48 : decode cX2_fewestHelpers 48 = .ok (.iinc 3 1, 3) := by decide +kernel
theorem dX2_fewestHelpers_51 : decode cX2_fewestHelpers 51 = .ok (.goto (-42), 3) := by decide +kernel
theorem dX2_fewestHelpers_54 : decode cX2_fewestHelpers 54 = .ok (.iload_n 2, 1) := by decide +kernel
theorem dX2_fewestHelpers_55 : decode cX2_fewestHelpers 55 = .ok (.ireturn, 1) := by decide +kernel
def f_X2_fewestHelpers_48 (N : Nat) (k_9 : Int32 → (Nat → Int32) → Int32 → Int32 → Int32 → Option (Int32)) (d_n : Int32) (d_road : Nat → Int32) (x1 : Int32) (x2 : Int32) (x3 : Int32) : Option (Int32) := k_9 d_n d_road x1 x2 (x3 + (1 : Int32))
def f_X2_fewestHelpers_30 (N : Nat) (k_9 : Int32 → (Nat → Int32) → Int32 → Int32 → Int32 → Option (Int32)) (d_n : Int32) (d_road : Nat → Int32) (x1 : Int32) (x2 : Int32) (x3 : Int32) (s0 : Int32) : Option (Int32) := if s0 = 0 then (f_X2_fewestHelpers_48 N k_9 d_n d_road x1 x2 x3) else (ob1 (f_X2_spread N d_n d_road x3) fun r39 => if r39 = x1 then (f_X2_fewestHelpers_48 N k_9 d_n d_road x1 x3 x3) else (f_X2_fewestHelpers_48 N k_9 d_n d_road x1 x2 x3))
def f_X2_fewestHelpers_9 (N : Nat) : Nat → Int32 → (Nat → Int32) → Int32 → Int32 → Int32 → Option (Int32)
  | 0, _, _, _, _, _ => none
  | n + 1, d_n, d_road, x1, x2, x3 => if x1 < x3 then (some x2) else (ob1 (f_J6_bitCount_0f7a4 N x3) fun r15 => ob1 (f_J6_bitCount_0f7a4 N x2) fun r19 => if r19 ≤ r15 then (f_X2_fewestHelpers_30 N (f_X2_fewestHelpers_9 N n) d_n d_road x1 x2 x3 (0 : Int32)) else (f_X2_fewestHelpers_30 N (f_X2_fewestHelpers_9 N n) d_n d_road x1 x2 x3 (1 : Int32)))
def f_X2_fewestHelpers (N : Nat) (d_n : Int32) (d_road : Nat → Int32) : Option (Int32) := ob1 (f_X2_all N d_n) fun r1 => f_X2_fewestHelpers_9 N N d_n d_road r1 r1 (0 : Int32)
set_option maxHeartbeats 4000000 in
set_option maxRecDepth 100000 in
theorem k_X2_fewestHelpers (l : Launch) (N : Nat) (D : va_G) (cI cJ cZ cB cT : ClassId) (qd0 : Nat) (qd2 : Nat) (qd1 : Nat) (d_n : Int32) (d_road : Nat → Int32) (o_r : Int32) (hf : f_X2_fewestHelpers N d_n d_road = some o_r) : ∀ sz, Met l yX2_fewestHelpers (mw yX2_fewestHelpers cX2_fewestHelpers 5 (some .int)) ({ frames := 1, cells := 0, slots := 0, locals := 23 } : Room) (mPre D (mT cI cJ cZ cB cT) (W_L_0_2 qd0 qd2 qd1 cI cJ cZ cB cT d_n d_road) sz [.ref qd0]) ((mQi D (W_L_0_2 qd0 qd2 qd1 cI cJ cZ cB cT d_n d_road) o_r True) (va_A (W_L_0_2 qd0 qd2 qd1 cI cJ cZ cB cT d_n d_road) sz)) 0 0 (va_A (W_L_0_2 qd0 qd2 qd1 cI cJ cZ cB cT d_n d_road) sz) := by
  refine mMet (Qc := (mQi D (W_L_0_2 qd0 qd2 qd1 cI cJ cZ cB cT d_n d_road) o_r True)) (by decide) (Nat.le_of_ble_eq_true rfl) (fun p e s m below meth c A ls hx hb hr hml hts hown hlocks hK hA hP hD hl => ?_)
  have hown : s.vm.findClass RX2 = some m.cls := hown
  have hl : lv_has ls 5 [(0, .ref qd0)] := hl
  have hS : va_S A s.heap s.heap [] := va_S.rf
  have b9 : ∀ n9 : Nat, ∀ (x1 : Int32) (x2 : Int32) (x3 : Int32) (H : Heap) (locs : List Loc) (ls : Array Slot), f_X2_fewestHelpers_9 N n9 d_n d_road x1 x2 x3 = some o_r → va_P D vwCl (W_L_0_2 qd0 qd2 qd1 cI cJ cZ cB cT d_n d_road) H → va_D A (W_L_0_2 qd0 qd2 qd1 cI cJ cZ cB cT d_n d_road) → va_S A s.heap H locs → lv_has ls 5 [(0, .ref qd0), (1, .int x1), (2, .int x2), (3, .int x3)] → W p l e ({ frames := 1, cells := 0, slots := 0, locals := 23 } : Room) s m ([.ref qd0] : List Value).toArray below meth c H locs 0 0 (MQ below ((mQi D (W_L_0_2 qd0 qd2 qd1 cI cJ cZ cB cT d_n d_road) o_r True) A) ([.ref qd0] : List Value).toArray s 0 0 A) (F0 m 9 ls []) := by
    intro n9
    induction n9 with
    | zero =>
      intro x1 x2 x3 H locs ls hf hP hD hS hl
      simp [f_X2_fewestHelpers_9] at hf
    | succ n9 ih9 =>
      have b48 : ∀ (x1 : Int32) (x2 : Int32) (x3 : Int32) (H : Heap) (locs : List Loc) (ls : Array Slot), f_X2_fewestHelpers_48 N (f_X2_fewestHelpers_9 N n9) d_n d_road x1 x2 x3 = some o_r → va_P D vwCl (W_L_0_2 qd0 qd2 qd1 cI cJ cZ cB cT d_n d_road) H → va_D A (W_L_0_2 qd0 qd2 qd1 cI cJ cZ cB cT d_n d_road) → va_S A s.heap H locs → lv_has ls 5 [(0, .ref qd0), (1, .int x1), (2, .int x2), (3, .int x3)] → W p l e ({ frames := 1, cells := 0, slots := 0, locals := 23 } : Room) s m ([.ref qd0] : List Value).toArray below meth c H locs 0 0 (MQ below ((mQi D (W_L_0_2 qd0 qd2 qd1 cI cJ cZ cB cT d_n d_road) o_r True) A) ([.ref qd0] : List Value).toArray s 0 0 A) (F0 m 48 ls []) := by
        intro x1 x2 x3 H locs ls hf hP hD hS hl
        unfold f_X2_fewestHelpers_48 at hf
        refine lv_iinc (v := (x3 + (1 : Int32))) (lv' := [(3, .int (x3 + (1 : Int32))), (0, .ref qd0), (1, .int x1), (2, .int x2)]) hx hb dX2_fewestHelpers_48 hl (k := 3) rfl rfl (by decide) rfl (fun ls hl => ?_)
        refine lv_goto (tgt := 9) hx hb dX2_fewestHelpers_51 (by decide) ?_
        exact ih9 x1 x2 (x3 + (1 : Int32)) _ _ _ hf hP hD hS (lv_sub hl [1, 2, 3, 0] rfl)
      have b30 : ∀ (x1 : Int32) (x2 : Int32) (x3 : Int32) (s0 : Int32) (H : Heap) (locs : List Loc) (ls : Array Slot), f_X2_fewestHelpers_30 N (f_X2_fewestHelpers_9 N n9) d_n d_road x1 x2 x3 s0 = some o_r → va_P D vwCl (W_L_0_2 qd0 qd2 qd1 cI cJ cZ cB cT d_n d_road) H → va_D A (W_L_0_2 qd0 qd2 qd1 cI cJ cZ cB cT d_n d_road) → va_S A s.heap H locs → lv_has ls 5 [(0, .ref qd0), (1, .int x1), (2, .int x2), (3, .int x3)] → W p l e ({ frames := 1, cells := 0, slots := 0, locals := 23 } : Room) s m ([.ref qd0] : List Value).toArray below meth c H locs 0 0 (MQ below ((mQi D (W_L_0_2 qd0 qd2 qd1 cI cJ cZ cB cT d_n d_road) o_r True) A) ([.ref qd0] : List Value).toArray s 0 0 A) (F0 m 30 ls [.int s0]) := by
        intro x1 x2 x3 s0 H locs ls hf hP hD hS hl
        unfold f_X2_fewestHelpers_30 at hf
        refine lv_istore (lv' := [(4, .int s0), (0, .ref qd0), (1, .int x1), (2, .int x2), (3, .int x3)]) hx hb dX2_fewestHelpers_30 hl (by decide) rfl (fun ls hl => ?_)
        refine lv_iload hx hb dX2_fewestHelpers_32 (lv_at hl 0 rfl) ?_
        refine xif_eq hx hb 48 dX2_fewestHelpers_34 (by decide) hf (fun hf => ?_) (fun hf => ?_)
        · exact b48 x1 x2 x3 _ _ _ hf hP hD hS (lv_sub hl [1, 2, 3, 4] rfl)
        · refine lv_aload_n hx hb dX2_fewestHelpers_37 rfl (lv_at hl 1 rfl) ?_
          refine lv_iload_n hx hb dX2_fewestHelpers_38 rfl (lv_at hl 4 rfl) ?_
          obtain ⟨r39, hg39, hf⟩ := ob1_some hf
          refine mcV1_i (As := [.int x3]) (rest := []) hx hb hml hown hts hK hP hD hS hA (k_X2_spread l N D cI cJ cZ cB cT qd0 qd2 qd1 d_n d_road x3 r39 hg39) (kwX2_36 hts rfl rfl ⟨Nat.le_of_ble_eq_true rfl, Nat.le_of_ble_eq_true rfl⟩) 0 rfl rfl rfl rfl hl.1 rfl (Nat.le_of_ble_eq_true rfl) dX2_fewestHelpers_39 ⟨Nat.zero_le _, Nat.zero_le _⟩ (fun hB39 H locs hP hD hS => ?_)
          have hP : va_P D vwCl (W_L_0_2 qd0 qd2 qd1 cI cJ cZ cB cT d_n d_road) H := hP
          have hD : va_D A (W_L_0_2 qd0 qd2 qd1 cI cJ cZ cB cT d_n d_road) := hD
          refine lv_iload_n hx hb dX2_fewestHelpers_42 rfl (lv_at hl 2 rfl) ?_
          refine xicmp_ne hx hb 48 dX2_fewestHelpers_43 (by decide) hf (fun hf => ?_) (fun hf => ?_)
          · refine lv_iload_n hx hb dX2_fewestHelpers_46 rfl (lv_at hl 4 rfl) ?_
            refine lv_istore_n (lv' := [(2, .int x3), (4, .int s0), (0, .ref qd0), (1, .int x1), (3, .int x3)]) hx hb dX2_fewestHelpers_47 rfl hl (by decide) rfl (fun ls hl => ?_)
            exact b48 x1 x3 x3 _ _ _ hf hP hD hS (lv_sub hl [2, 3, 0, 4] rfl)
          · exact b48 x1 x2 x3 _ _ _ hf hP hD hS (lv_sub hl [1, 2, 3, 4] rfl)
      intro x1 x2 x3 H locs ls hf hP hD hS hl
      rw [f_X2_fewestHelpers_9.eq_2] at hf
      refine lv_iload_n hx hb dX2_fewestHelpers_9 rfl (lv_at hl 3 rfl) ?_
      refine lv_iload_n hx hb dX2_fewestHelpers_10 rfl (lv_at hl 1 rfl) ?_
      refine xicmp_gt hx hb 54 dX2_fewestHelpers_11 (by decide) hf (fun hf => ?_) (fun hf => ?_)
      · refine lv_iload_n hx hb dX2_fewestHelpers_54 rfl (lv_at hl 2 rfl) ?_
        cases hf
        exact mret_i hx hb hr hlocks hP hD hS dX2_fewestHelpers_55 rfl trivial
      · refine lv_iload_n hx hb dX2_fewestHelpers_14 rfl (lv_at hl 3 rfl) ?_
        obtain ⟨r15, hg15, hf⟩ := ob1_some hf
        refine mcS0_i (As := [.int x3]) (rest := []) hx hb hml hown hts hK hP hD hS hA (k_J6_bitCount_0f7a4 l N D cI cJ cZ cB cT x3 r15 hg15) (kwX2_44 hts rfl rfl ⟨Nat.le_of_ble_eq_true rfl, Nat.le_of_ble_eq_true rfl⟩) rfl hl.1 rfl (Nat.le_of_ble_eq_true rfl) dX2_fewestHelpers_15 ⟨Nat.zero_le _, Nat.zero_le _⟩ (fun hB15 H locs hP hD hS => ?_)
        refine lv_iload_n hx hb dX2_fewestHelpers_18 rfl (lv_at hl 2 rfl) ?_
        obtain ⟨r19, hg19, hf⟩ := ob1_some hf
        refine mcS0_i (As := [.int x2]) (rest := [.int r15]) hx hb hml hown hts hK hP hD hS hA (k_J6_bitCount_0f7a4 l N D cI cJ cZ cB cT x2 r19 hg19) (kwX2_44 hts rfl rfl ⟨Nat.le_of_ble_eq_true rfl, Nat.le_of_ble_eq_true rfl⟩) rfl hl.1 rfl (Nat.le_of_ble_eq_true rfl) dX2_fewestHelpers_19 ⟨Nat.zero_le _, Nat.zero_le _⟩ (fun hB19 H locs hP hD hS => ?_)
        refine xicmp_ge hx hb 29 dX2_fewestHelpers_22 (by decide) hf (fun hf => ?_) (fun hf => ?_)
        · refine lv_iconst (v := (0 : Int32)) hx hb dX2_fewestHelpers_29 (by decide) ?_
          exact b30 x1 x2 x3 (0 : Int32) _ _ _ hf hP hD hS (lv_sub hl [0, 1, 2, 3] rfl)
        · refine lv_iconst (v := (1 : Int32)) hx hb dX2_fewestHelpers_25 (by decide) ?_
          refine lv_goto (tgt := 30) hx hb dX2_fewestHelpers_26 (by decide) ?_
          exact b30 x1 x2 x3 (1 : Int32) _ _ _ hf hP hD hS (lv_sub hl [0, 1, 2, 3] rfl)
  unfold f_X2_fewestHelpers at hf
  refine lv_aload_n hx hb dX2_fewestHelpers_0 rfl (lv_at hl 0 rfl) ?_
  obtain ⟨r1, hg1, hf⟩ := ob1_some hf
  refine mcV_i (wr := [(qd2, .inl (cI, 8, .inl d_road))]) (As := []) (rest := []) hx hb hml hown hts hK hP hD hS hA (k_X2_all l N D cI cJ cZ cB cT qd0 qd1 qd2 d_n r1 hg1) (kwX2_40 hts rfl rfl ⟨Nat.le_of_ble_eq_true rfl, Nat.le_of_ble_eq_true rfl⟩) [0] [1] rfl rfl rfl (by decide) rfl 0 rfl rfl rfl rfl hl.1 rfl (Nat.le_of_ble_eq_true rfl) dX2_fewestHelpers_1 ⟨Nat.zero_le _, Nat.zero_le _⟩ (fun hB1 H locs hP hD hS => ?_)
  have hP := mP_sub (wc := (W_L_0_2 qd0 qd2 qd1 cI cJ cZ cB cT d_n d_road)) hP [1, 0] rfl
  have hD := hD.sub (ws' := (W_L_0_2 qd0 qd2 qd1 cI cJ cZ cB cT d_n d_road)) [1, 0] rfl rfl
  refine lv_istore_n (lv' := [(1, .int r1), (0, .ref qd0)]) hx hb dX2_fewestHelpers_4 rfl hl (by decide) rfl (fun ls hl => ?_)
  refine lv_iload_n hx hb dX2_fewestHelpers_5 rfl (lv_at hl 0 rfl) ?_
  refine lv_istore_n (lv' := [(2, .int r1), (1, .int r1), (0, .ref qd0)]) hx hb dX2_fewestHelpers_6 rfl hl (by decide) rfl (fun ls hl => ?_)
  refine lv_iconst (v := (0 : Int32)) hx hb dX2_fewestHelpers_7 (by decide) ?_
  refine lv_istore_n (lv' := [(3, .int (0 : Int32)), (2, .int r1), (1, .int r1), (0, .ref qd0)]) hx hb dX2_fewestHelpers_8 rfl hl (by decide) rfl (fun ls hl => ?_)
  exact b9 N r1 r1 (0 : Int32) _ _ _ hf hP hD hS (lv_sub hl [3, 2, 1, 0] rfl)
theorem dX2_parts_0 : decode cX2_parts 0 = .ok (.iconst 1, 1) := by decide +kernel
theorem dX2_parts_1 : decode cX2_parts 1 = .ok (.iload_n 2, 1) := by decide +kernel
theorem dX2_parts_2 : decode cX2_parts 2 = .ok (.ishl, 1) := by decide +kernel
theorem dX2_parts_3 : decode cX2_parts 3 = .ok (.istore 4, 2) := by decide +kernel
theorem dX2_parts_5 : decode cX2_parts 5 = .ok (.iconst 0, 1) := by decide +kernel
theorem dX2_parts_6 : decode cX2_parts 6 = .ok (.istore 5, 2) := by decide +kernel
theorem dX2_parts_8 : decode cX2_parts 8 = .ok (.iload 5, 2) := by decide +kernel
theorem dX2_parts_10 : decode cX2_parts 10 = .ok (.bipush 8, 2) := by decide +kernel
theorem dX2_parts_12 : decode cX2_parts 12 = .ok (.if_icmp .ge 35, 3) := by decide +kernel
theorem dX2_parts_15 : decode cX2_parts 15 = .ok (.aload_n 0, 1) := by decide +kernel
theorem dX2_parts_16 : decode cX2_parts 16 = .ok (.iload 4, 2) := by decide +kernel
theorem dX2_parts_18 : decode cX2_parts 18 = .ok (.invokevirtual 36, 3) := by decide +kernel
theorem dX2_parts_21 : decode cX2_parts 21 = .ok (.iload_n 1, 1) := by decide +kernel
theorem dX2_parts_22 : decode cX2_parts 22 = .ok (.iconst (-1), 1) := by decide +kernel
theorem dX2_parts_23 : decode cX2_parts 23 = .ok (.ixor, 1) := by decide +kernel
theorem dX2_parts_24 : decode cX2_parts 24 = .ok (.iand, 1) := by decide +kernel
theorem dX2_parts_25 : decode cX2_parts 25 = .ok (.istore 6, 2) := by decide +kernel
theorem dX2_parts_27 : decode cX2_parts 27 = .ok (.iload 6, 2) := by decide +kernel
theorem dX2_parts_29 : decode cX2_parts 29 = .ok (.iload 4, 2) := by decide +kernel
theorem dX2_parts_31 : decode cX2_parts 31 = .ok (.if_icmp .ne 6, 3) := by decide +kernel
theorem dX2_parts_34 : decode cX2_parts 34 = .ok (.goto 13, 3) := by decide +kernel
theorem dX2_parts_37 : decode cX2_parts 37 = .ok (.iload 6, 2) := by decide +kernel
theorem dX2_parts_39 : decode cX2_parts 39 = .ok (.istore 4, 2) := by decide +kernel
theorem dX2_parts_41 : decode cX2_parts 41 = .ok (.iinc 5 1, 3) := by decide +kernel
theorem dX2_parts_44 : decode cX2_parts 44 = .ok (.goto (-36), 3) := by decide +kernel
theorem dX2_parts_47 : decode cX2_parts 47 = .ok (.iload 4, 2) := by decide +kernel
theorem dX2_parts_49 : decode cX2_parts 49 = .ok (.iload_n 3, 1) := by decide +kernel
theorem dX2_parts_50 : decode cX2_parts 50 = .ok (.ishr, 1) := by decide +kernel
theorem dX2_parts_51 : decode cX2_parts 51 = .ok (.iconst 1, 1) := by decide +kernel
theorem dX2_parts_52 : decode cX2_parts 52 = .ok (.iand, 1) := by decide +kernel
theorem dX2_parts_53 : decode cX2_parts 53 = .ok (.ifCond .ne 7, 3) := by decide +kernel
theorem dX2_parts_56 : decode cX2_parts 56 = .ok (.iconst 1, 1) := by decide +kernel
theorem dX2_parts_57 : decode cX2_parts 57 = .ok (.goto 4, 3) := by decide +kernel
theorem dX2_parts_60 : decode cX2_parts 60 = .ok (.iconst 0, 1) := by decide +kernel
theorem dX2_parts_61 : decode cX2_parts 61 = .ok (.ireturn, 1) := by decide +kernel
def f_X2_parts_47 (N : Nat) (d_n : Int32) (d_road : Nat → Int32) (x3 : Int32) (x4 : Int32) : Option (Int32) := if ((x4 >>> (x3 &&& 31)) &&& (1 : Int32)) = 0 then (some (1 : Int32)) else (some (0 : Int32))
def f_X2_parts_8 (N : Nat) : Nat → Int32 → (Nat → Int32) → Int32 → Int32 → Int32 → Int32 → Option (Int32)
  | 0, _, _, _, _, _, _ => none
  | n + 1, d_n, d_road, x1, x3, x4, x5 => if (8 : Int32) ≤ x5 then (f_X2_parts_47 N d_n d_road x3 x4) else (ob1 (f_X2_spread N d_n d_road x4) fun r18 => if (r18 &&& (x1 ^^^ (-1 : Int32))) = x4 then (f_X2_parts_47 N d_n d_road x3 x4) else ((f_X2_parts_8 N n) d_n d_road x1 x3 (r18 &&& (x1 ^^^ (-1 : Int32))) (x5 + (1 : Int32))))
def f_X2_parts (N : Nat) (d_n : Int32) (d_road : Nat → Int32) (p1 : Int32) (p2 : Int32) (p3 : Int32) : Option (Int32) := f_X2_parts_8 N N d_n d_road p1 p3 ((1 : Int32) <<< (p2 &&& 31)) (0 : Int32)
set_option maxHeartbeats 4000000 in
set_option maxRecDepth 100000 in
theorem k_X2_parts (l : Launch) (N : Nat) (D : va_G) (cI cJ cZ cB cT : ClassId) (qd0 : Nat) (qd2 : Nat) (qd1 : Nat) (d_n : Int32) (d_road : Nat → Int32) (p1 : Int32) (p2 : Int32) (p3 : Int32) (o_r : Int32) (hf : f_X2_parts N d_n d_road p1 p2 p3 = some o_r) : ∀ sz, Met l yX2_parts (mw yX2_parts cX2_parts 7 (some .boolean)) ({ frames := 1, cells := 0, slots := 0, locals := 23 } : Room) (mPre D (mT cI cJ cZ cB cT) (W_L_0_2 qd0 qd2 qd1 cI cJ cZ cB cT d_n d_road) sz [.ref qd0, .int p1, .int p2, .int p3]) ((mQi D (W_L_0_2 qd0 qd2 qd1 cI cJ cZ cB cT d_n d_road) o_r (mB o_r)) (va_A (W_L_0_2 qd0 qd2 qd1 cI cJ cZ cB cT d_n d_road) sz)) 0 0 (va_A (W_L_0_2 qd0 qd2 qd1 cI cJ cZ cB cT d_n d_road) sz) := by
  refine mMet (Qc := (mQi D (W_L_0_2 qd0 qd2 qd1 cI cJ cZ cB cT d_n d_road) o_r (mB o_r))) (by decide) (Nat.le_of_ble_eq_true rfl) (fun p e s m below meth c A ls hx hb hr hml hts hown hlocks hK hA hP hD hl => ?_)
  have hown : s.vm.findClass RX2 = some m.cls := hown
  have hl : lv_has ls 7 [(0, .ref qd0), (1, .int p1), (2, .int p2), (3, .int p3)] := hl
  have hS : va_S A s.heap s.heap [] := va_S.rf
  have b47 : ∀ (x3 : Int32) (x4 : Int32) (H : Heap) (locs : List Loc) (ls : Array Slot), f_X2_parts_47 N d_n d_road x3 x4 = some o_r → va_P D vwCl (W_L_0_2 qd0 qd2 qd1 cI cJ cZ cB cT d_n d_road) H → va_D A (W_L_0_2 qd0 qd2 qd1 cI cJ cZ cB cT d_n d_road) → va_S A s.heap H locs → lv_has ls 7 [(3, .int x3), (4, .int x4)] → W p l e ({ frames := 1, cells := 0, slots := 0, locals := 23 } : Room) s m ([.ref qd0, .int p1, .int p2, .int p3] : List Value).toArray below meth c H locs 0 0 (MQ below ((mQi D (W_L_0_2 qd0 qd2 qd1 cI cJ cZ cB cT d_n d_road) o_r (mB o_r)) A) ([.ref qd0, .int p1, .int p2, .int p3] : List Value).toArray s 0 0 A) (F0 m 47 ls []) := by
    intro x3 x4 H locs ls hf hP hD hS hl
    unfold f_X2_parts_47 at hf
    refine lv_iload hx hb dX2_parts_47 (lv_at hl 1 rfl) ?_
    refine lv_iload_n hx hb dX2_parts_49 rfl (lv_at hl 0 rfl) ?_
    refine lv_ishr hx hb dX2_parts_50 ?_
    refine lv_iconst (v := (1 : Int32)) hx hb dX2_parts_51 (by decide) ?_
    refine lv_iand hx hb dX2_parts_52 ?_
    refine xif_ne hx hb 60 dX2_parts_53 (by decide) hf (fun hf => ?_) (fun hf => ?_)
    · refine lv_iconst (v := (1 : Int32)) hx hb dX2_parts_56 (by decide) ?_
      refine lv_goto (tgt := 61) hx hb dX2_parts_57 (by decide) ?_
      cases hf
      exact mret_z hx hb hr hlocks hP hD hS dX2_parts_61 rfl rfl
    · refine lv_iconst (v := (0 : Int32)) hx hb dX2_parts_60 (by decide) ?_
      cases hf
      exact mret_z hx hb hr hlocks hP hD hS dX2_parts_61 rfl rfl
  have b8 : ∀ n8 : Nat, ∀ (x1 : Int32) (x3 : Int32) (x4 : Int32) (x5 : Int32) (H : Heap) (locs : List Loc) (ls : Array Slot), f_X2_parts_8 N n8 d_n d_road x1 x3 x4 x5 = some o_r → va_P D vwCl (W_L_0_2 qd0 qd2 qd1 cI cJ cZ cB cT d_n d_road) H → va_D A (W_L_0_2 qd0 qd2 qd1 cI cJ cZ cB cT d_n d_road) → va_S A s.heap H locs → lv_has ls 7 [(0, .ref qd0), (1, .int x1), (3, .int x3), (4, .int x4), (5, .int x5)] → W p l e ({ frames := 1, cells := 0, slots := 0, locals := 23 } : Room) s m ([.ref qd0, .int p1, .int p2, .int p3] : List Value).toArray below meth c H locs 0 0 (MQ below ((mQi D (W_L_0_2 qd0 qd2 qd1 cI cJ cZ cB cT d_n d_road) o_r (mB o_r)) A) ([.ref qd0, .int p1, .int p2, .int p3] : List Value).toArray s 0 0 A) (F0 m 8 ls []) := by
    intro n8
    induction n8 with
    | zero =>
      intro x1 x3 x4 x5 H locs ls hf hP hD hS hl
      simp [f_X2_parts_8] at hf
    | succ n8 ih8 =>
      intro x1 x3 x4 x5 H locs ls hf hP hD hS hl
      rw [f_X2_parts_8.eq_2] at hf
      refine lv_iload hx hb dX2_parts_8 (lv_at hl 4 rfl) ?_
      refine lv_bipush (v := (8 : Int32)) hx hb dX2_parts_10 (by decide) ?_
      refine xicmp_ge hx hb 47 dX2_parts_12 (by decide) hf (fun hf => ?_) (fun hf => ?_)
      · exact b47 x3 x4 _ _ _ hf hP hD hS (lv_sub hl [2, 3] rfl)
      · refine lv_aload_n hx hb dX2_parts_15 rfl (lv_at hl 0 rfl) ?_
        refine lv_iload hx hb dX2_parts_16 (lv_at hl 3 rfl) ?_
        obtain ⟨r18, hg18, hf⟩ := ob1_some hf
        refine mcV1_i (As := [.int x4]) (rest := []) hx hb hml hown hts hK hP hD hS hA (k_X2_spread l N D cI cJ cZ cB cT qd0 qd2 qd1 d_n d_road x4 r18 hg18) (kwX2_36 hts rfl rfl ⟨Nat.le_of_ble_eq_true rfl, Nat.le_of_ble_eq_true rfl⟩) 0 rfl rfl rfl rfl hl.1 rfl (Nat.le_of_ble_eq_true rfl) dX2_parts_18 ⟨Nat.zero_le _, Nat.zero_le _⟩ (fun hB18 H locs hP hD hS => ?_)
        have hP : va_P D vwCl (W_L_0_2 qd0 qd2 qd1 cI cJ cZ cB cT d_n d_road) H := hP
        have hD : va_D A (W_L_0_2 qd0 qd2 qd1 cI cJ cZ cB cT d_n d_road) := hD
        refine lv_iload_n hx hb dX2_parts_21 rfl (lv_at hl 1 rfl) ?_
        refine lv_iconst (v := (-1 : Int32)) hx hb dX2_parts_22 (by decide) ?_
        refine lv_ixor hx hb dX2_parts_23 ?_
        refine lv_iand hx hb dX2_parts_24 ?_
        refine lv_istore (lv' := [(6, .int (r18 &&& (x1 ^^^ (-1 : Int32)))), (0, .ref qd0), (1, .int x1), (3, .int x3), (4, .int x4), (5, .int x5)]) hx hb dX2_parts_25 hl (by decide) rfl (fun ls hl => ?_)
        refine lv_iload hx hb dX2_parts_27 (lv_at hl 0 rfl) ?_
        refine lv_iload hx hb dX2_parts_29 (lv_at hl 4 rfl) ?_
        refine xicmp_ne hx hb 37 dX2_parts_31 (by decide) hf (fun hf => ?_) (fun hf => ?_)
        · refine lv_goto (tgt := 47) hx hb dX2_parts_34 (by decide) ?_
          exact b47 x3 x4 _ _ _ hf hP hD hS (lv_sub hl [3, 4] rfl)
        · refine lv_iload hx hb dX2_parts_37 (lv_at hl 0 rfl) ?_
          refine lv_istore (lv' := [(4, .int (r18 &&& (x1 ^^^ (-1 : Int32)))), (6, .int (r18 &&& (x1 ^^^ (-1 : Int32)))), (0, .ref qd0), (1, .int x1), (3, .int x3), (5, .int x5)]) hx hb dX2_parts_39 hl (by decide) rfl (fun ls hl => ?_)
          refine lv_iinc (v := (x5 + (1 : Int32))) (lv' := [(5, .int (x5 + (1 : Int32))), (4, .int (r18 &&& (x1 ^^^ (-1 : Int32)))), (6, .int (r18 &&& (x1 ^^^ (-1 : Int32)))), (0, .ref qd0), (1, .int x1), (3, .int x3)]) hx hb dX2_parts_41 hl (k := 5) rfl rfl (by decide) rfl (fun ls hl => ?_)
          refine lv_goto (tgt := 8) hx hb dX2_parts_44 (by decide) ?_
          exact ih8 x1 x3 (r18 &&& (x1 ^^^ (-1 : Int32))) (x5 + (1 : Int32)) _ _ _ hf hP hD hS (lv_sub hl [3, 4, 5, 1, 0] rfl)
  unfold f_X2_parts at hf
  refine lv_iconst (v := (1 : Int32)) hx hb dX2_parts_0 (by decide) ?_
  refine lv_iload_n hx hb dX2_parts_1 rfl (lv_at hl 2 rfl) ?_
  refine lv_ishl hx hb dX2_parts_2 ?_
  refine lv_istore (lv' := [(4, .int ((1 : Int32) <<< (p2 &&& 31))), (0, .ref qd0), (1, .int p1), (2, .int p2), (3, .int p3)]) hx hb dX2_parts_3 hl (by decide) rfl (fun ls hl => ?_)
  refine lv_iconst (v := (0 : Int32)) hx hb dX2_parts_5 (by decide) ?_
  refine lv_istore (lv' := [(5, .int (0 : Int32)), (4, .int ((1 : Int32) <<< (p2 &&& 31))), (0, .ref qd0), (1, .int p1), (2, .int p2), (3, .int p3)]) hx hb dX2_parts_6 hl (by decide) rfl (fun ls hl => ?_)
  exact b8 N p1 p3 ((1 : Int32) <<< (p2 &&& 31)) (0 : Int32) _ _ _ hf hP hD hS (lv_sub hl [2, 3, 5, 1, 0] rfl)
theorem dX2_fewestWatched_0 : decode cX2_fewestWatched 0 = .ok (.aload_n 0, 1) := by decide +kernel
theorem dX2_fewestWatched_1 : decode cX2_fewestWatched 1 = .ok (.iload_n 1, 1) := by decide +kernel
theorem dX2_fewestWatched_2 : decode cX2_fewestWatched 2 = .ok (.invokevirtual 28, 3) := by decide +kernel
theorem dX2_fewestWatched_5 : decode cX2_fewestWatched 5 = .ok (.ifCond .eq 25, 3) := by decide +kernel
theorem dX2_fewestWatched_8 : decode cX2_fewestWatched 8 = .ok (.aload_n 0, 1) := by decide +kernel
theorem dX2_fewestWatched_9 : decode cX2_fewestWatched 9 = .ok (.iload_n 2, 1) := by decide +kernel
theorem dX2_fewestWatched_10 : decode cX2_fewestWatched 10 = .ok (.invokevirtual 28, 3) := by decide +kernel
theorem dX2_fewestWatched_13 : decode cX2_fewestWatched 13 = .ok (.ifCond .eq 17, 3) := by decide +kernel
theorem dX2_fewestWatched_16 : decode cX2_fewestWatched 16 = .ok (.iload_n 1, 1) := by decide +kernel
theorem dX2_fewestWatched_17 : decode cX2_fewestWatched 17 = .ok (.iload_n 2, 1) := by decide +kernel
theorem dX2_fewestWatched_18 : decode cX2_fewestWatched 18 = .ok (.if_icmp .eq 12, 3) := by decide +kernel
theorem dX2_fewestWatched_21 : decode cX2_fewestWatched 21 = .ok (.aload_n 0, 1) := by decide +kernel
theorem dX2_fewestWatched_22 : decode cX2_fewestWatched 22 = .ok (.iload_n 1, 1) := by decide +kernel
theorem dX2_fewestWatched_23 : decode cX2_fewestWatched 23 = .ok (.iload_n 2, 1) := by decide +kernel
theorem dX2_fewestWatched_24 : decode cX2_fewestWatched 24 = .ok (.invokevirtual 32, 3) := by decide +kernel
theorem dX2_fewestWatched_27 : decode cX2_fewestWatched 27 = .ok (.ifCond .eq 5, 3) := by decide +kernel
theorem dX2_fewestWatched_30 : decode cX2_fewestWatched 30 = .ok (.iconst (-1), 1) := by decide +kernel
theorem dX2_fewestWatched_31 : decode cX2_fewestWatched 31 = .ok (.ireturn, 1) := by decide +kernel
theorem dX2_fewestWatched_32 : decode cX2_fewestWatched 32 = .ok (.aload_n 0, 1) := by decide +kernel
theorem dX2_fewestWatched_33 : decode cX2_fewestWatched 33 = .ok (.invokevirtual 40, 3) := by decide +kernel
theorem dX2_fewestWatched_36 : decode cX2_fewestWatched 36 = .ok (.iconst 1, 1) := by decide +kernel
theorem dX2_fewestWatched_37 : decode cX2_fewestWatched 37 = .ok (.iload_n 1, 1) := by decide +kernel
theorem dX2_fewestWatched_38 : decode cX2_fewestWatched 38 = .ok (.ishl, 1) := by decide +kernel
theorem dX2_fewestWatched_39 : decode cX2_fewestWatched 39 = .ok (.iconst (-1), 1) := by decide +kernel
theorem dX2_fewestWatched_40 : decode cX2_fewestWatched 40 = .ok (.ixor, 1) := by decide +kernel
theorem dX2_fewestWatched_41 : decode cX2_fewestWatched 41 = .ok (.iand, 1) := by decide +kernel
theorem dX2_fewestWatched_42 : decode cX2_fewestWatched 42 = .ok (.iconst 1, 1) := by decide +kernel
theorem dX2_fewestWatched_43 : decode cX2_fewestWatched 43 = .ok (.iload_n 2, 1) := by decide +kernel
theorem dX2_fewestWatched_44 : decode cX2_fewestWatched 44 = .ok (.ishl, 1) := by decide +kernel
theorem dX2_fewestWatched_45 : decode cX2_fewestWatched 45 = .ok (.iconst (-1), 1) := by decide +kernel
theorem dX2_fewestWatched_46 : decode cX2_fewestWatched 46 = .ok (.ixor, 1) := by decide +kernel
theorem dX2_fewestWatched_47 : decode cX2_fewestWatched 47 = .ok (.iand, 1) := by decide +kernel
theorem dX2_fewestWatched_48 : decode cX2_fewestWatched 48 = .ok (.istore_n 3, 1) := by decide +kernel
theorem dX2_fewestWatched_49 : decode cX2_fewestWatched 49 = .ok (.iload_n 3, 1) := by decide +kernel
theorem dX2_fewestWatched_50 : decode cX2_fewestWatched 50 = .ok (.istore 4, 2) := by decide +kernel
theorem dX2_fewestWatched_52 : decode cX2_fewestWatched 52 = .ok (.iconst 0, 1) := by decide +kernel
theorem dX2_fewestWatched_53 : decode cX2_fewestWatched 53 = .ok (.istore 5, 2) := by decide +kernel
theorem dX2_fewestWatched_55 : decode cX2_fewestWatched 55 = .ok (.iload 5, 2) := by decide +kernel
theorem dX2_fewestWatched_57 : decode cX2_fewestWatched 57 = .ok (.iload_n 3, 1) := by decide +kernel
theorem dX2_fewestWatched_58 : decode cX2_fewestWatched 58 = .ok (.if_icmp .gt 58, 3) := by decide +kernel
theorem dX2_fewestWatched_61 : decode cX2_fewestWatched 61 = .ok (.iload 5, 2) := by decide +kernel
theorem dX2_fewestWatched_63 : decode cX2_fewestWatched 63 = .ok (.invokestatic 44, 3) := by decide +kernel
theorem dX2_fewestWatched_66 : decode cX2_fewestWatched 66 = .ok (.iload 4, 2) := by decide +kernel
theorem dX2_fewestWatched_68 : decode cX2_fewestWatched 68 = .ok (.invokestatic 44, 3) := by decide +kernel
theorem dX2_fewestWatched_71 : decode cX2_fewestWatched 71 = .ok (.if_icmp .ge 7, 3) := by decide +kernel
theorem dX2_fewestWatched_74 : decode cX2_fewestWatched 74 = .ok (.iconst 1, 1) := by decide +kernel
theorem dX2_fewestWatched_75 : decode cX2_fewestWatched 75 = .ok (.goto 4, 3) := by decide +kernel
theorem dX2_fewestWatched_78 : decode cX2_fewestWatched 78 = .ok (.iconst 0, 1) := by decide +kernel
theorem dX2_fewestWatched_79 : decode cX2_fewestWatched 79 = .ok (.istore 6, 2) := by decide +kernel
theorem dX2_fewestWatched_81 : decode cX2_fewestWatched 81 = .ok (.iload 6, 2) := by decide +kernel
theorem dX2_fewestWatched_83 : decode cX2_fewestWatched 83 = .ok (.ifCond .eq 27, 3) := by decide +kernel
theorem dX2_fewestWatched_86 : decode cX2_fewestWatched 86 = .ok (.iload 5, 2) := by decide +kernel
theorem dX2_fewestWatched_88 : decode cX2_fewestWatched 88 = .ok (.iload_n 3, 1) := by decide +kernel
theorem dX2_fewestWatched_89 : decode cX2_fewestWatched 89 = .ok (.iconst (-1), 1) := by decide +kernel
theorem dX2_fewestWatched_90 : decode cX2_fewestWatched 90 = .ok (.ixor, 1) := by decide +kernel
theorem dX2_fewestWatched_91 : decode cX2_fewestWatched 91 = .ok (.iand, 1) := by decide +kernel
theorem dX2_fewestWatched_92 : decode cX2_fewestWatched 92 = .ok (.ifCond .ne 18, 3) := by decide +kernel
theorem dX2_fewestWatched_95 : decode cX2_fewestWatched 95 = .ok (.aload_n 0, 1) := by decide +kernel
theorem dX2_fewestWatched_96 : decode cX2_fewestWatched 96 = .ok (.iload 5, 2) := by decide +kernel
theorem dX2_fewestWatched_98 : decode cX2_fewestWatched 98 = .ok (.iload_n 1, 1) := by decide +kernel
theorem dX2_fewestWatched_99 : decode cX2_fewestWatched 99 = .ok (.iload_n 2, 1) := by decide +kernel
theorem dX2_fewestWatched_100 : decode cX2_fewestWatched 100 = .ok (.invokevirtual 49, 3) := by decide +kernel
theorem dX2_fewestWatched_103 : decode cX2_fewestWatched 103 = .ok (.ifCond .eq 7, 3) := by decide +kernel
theorem dX2_fewestWatched_106 : decode cX2_fewestWatched 106 = .ok (.iload 5, 2) := by decide +kernel
theorem dX2_fewestWatched_108 : decode cX2_fewestWatched 108 = .ok (.istore 4, 2) := by decide +kernel
theorem dX2_fewestWatched_110 : decode cX2_fewestWatched 110 = .ok (.iinc 5 1, 3) := by decide +kernel
theorem dX2_fewestWatched_113 : decode cX2_fewestWatched 113 = .ok (.goto (-58), 3) := by decide +kernel
theorem dX2_fewestWatched_116 : decode cX2_fewestWatched 116 = .ok (.iload 4, 2) := by decide +kernel
theorem dX2_fewestWatched_118 : decode cX2_fewestWatched 118 = .ok (.ireturn, 1) := by decide +kernel
def f_X2_fewestWatched_110 (N : Nat) (k_55 : Int32 → (Nat → Int32) → Int32 → Int32 → Int32 → Int32 → Int32 → Option (Int32)) (d_n : Int32) (d_road : Nat → Int32) (x1 : Int32) (x2 : Int32) (x3 : Int32) (x4 : Int32) (x5 : Int32) : Option (Int32) := k_55 d_n d_road x1 x2 x3 x4 (x5 + (1 : Int32))
def f_X2_fewestWatched_79 (N : Nat) (k_55 : Int32 → (Nat → Int32) → Int32 → Int32 → Int32 → Int32 → Int32 → Option (Int32)) (d_n : Int32) (d_road : Nat → Int32) (x1 : Int32) (x2 : Int32) (x3 : Int32) (x4 : Int32) (x5 : Int32) (s0 : Int32) : Option (Int32) := if s0 = 0 then (f_X2_fewestWatched_110 N k_55 d_n d_road x1 x2 x3 x4 x5) else (if (x5 &&& (x3 ^^^ (-1 : Int32))) = 0 then (ob1 (f_X2_parts N d_n d_road x5 x1 x2) fun r100 => if r100 = 0 then (f_X2_fewestWatched_110 N k_55 d_n d_road x1 x2 x3 x4 x5) else (f_X2_fewestWatched_110 N k_55 d_n d_road x1 x2 x3 x5 x5)) else (f_X2_fewestWatched_110 N k_55 d_n d_road x1 x2 x3 x4 x5))
def f_X2_fewestWatched_55 (N : Nat) : Nat → Int32 → (Nat → Int32) → Int32 → Int32 → Int32 → Int32 → Int32 → Option (Int32)
  | 0, _, _, _, _, _, _, _ => none
  | n + 1, d_n, d_road, x1, x2, x3, x4, x5 => if x3 < x5 then (some x4) else (ob1 (f_J6_bitCount_0f7a4 N x5) fun r63 => ob1 (f_J6_bitCount_0f7a4 N x4) fun r68 => if r68 ≤ r63 then (f_X2_fewestWatched_79 N (f_X2_fewestWatched_55 N n) d_n d_road x1 x2 x3 x4 x5 (0 : Int32)) else (f_X2_fewestWatched_79 N (f_X2_fewestWatched_55 N n) d_n d_road x1 x2 x3 x4 x5 (1 : Int32)))
def f_X2_fewestWatched (N : Nat) (d_n : Int32) (d_road : Nat → Int32) (p1 : Int32) (p2 : Int32) : Option (Int32) := ob1 (f_X2_told N d_n p1) fun r2 => if r2 = 0 then (some (-1 : Int32)) else (ob1 (f_X2_told N d_n p2) fun r10 => if r10 = 0 then (some (-1 : Int32)) else (if p1 = p2 then (some (-1 : Int32)) else (ob1 (f_X2_joined N d_n d_road p1 p2) fun r24 => if r24 = 0 then (ob1 (f_X2_all N d_n) fun r33 => f_X2_fewestWatched_55 N N d_n d_road p1 p2 ((r33 &&& (((1 : Int32) <<< (p1 &&& 31)) ^^^ (-1 : Int32))) &&& (((1 : Int32) <<< (p2 &&& 31)) ^^^ (-1 : Int32))) ((r33 &&& (((1 : Int32) <<< (p1 &&& 31)) ^^^ (-1 : Int32))) &&& (((1 : Int32) <<< (p2 &&& 31)) ^^^ (-1 : Int32))) (0 : Int32)) else (some (-1 : Int32)))))
set_option maxHeartbeats 4000000 in
set_option maxRecDepth 100000 in
theorem k_X2_fewestWatched (l : Launch) (N : Nat) (D : va_G) (cI cJ cZ cB cT : ClassId) (qd0 : Nat) (qd2 : Nat) (qd1 : Nat) (d_n : Int32) (d_road : Nat → Int32) (p1 : Int32) (p2 : Int32) (o_r : Int32) (hf : f_X2_fewestWatched N d_n d_road p1 p2 = some o_r) : ∀ sz, Met l yX2_fewestWatched (mw yX2_fewestWatched cX2_fewestWatched 7 (some .int)) ({ frames := 2, cells := 0, slots := 0, locals := 49 } : Room) (mPre D (mT cI cJ cZ cB cT) (W_L_0_2 qd0 qd2 qd1 cI cJ cZ cB cT d_n d_road) sz [.ref qd0, .int p1, .int p2]) ((mQi D (W_L_0_2 qd0 qd2 qd1 cI cJ cZ cB cT d_n d_road) o_r True) (va_A (W_L_0_2 qd0 qd2 qd1 cI cJ cZ cB cT d_n d_road) sz)) 0 0 (va_A (W_L_0_2 qd0 qd2 qd1 cI cJ cZ cB cT d_n d_road) sz) := by
  refine mMet (Qc := (mQi D (W_L_0_2 qd0 qd2 qd1 cI cJ cZ cB cT d_n d_road) o_r True)) (by decide) (Nat.le_of_ble_eq_true rfl) (fun p e s m below meth c A ls hx hb hr hml hts hown hlocks hK hA hP hD hl => ?_)
  have hown : s.vm.findClass RX2 = some m.cls := hown
  have hl : lv_has ls 7 [(0, .ref qd0), (1, .int p1), (2, .int p2)] := hl
  have hS : va_S A s.heap s.heap [] := va_S.rf
  have b55 : ∀ n55 : Nat, ∀ (x1 : Int32) (x2 : Int32) (x3 : Int32) (x4 : Int32) (x5 : Int32) (H : Heap) (locs : List Loc) (ls : Array Slot), f_X2_fewestWatched_55 N n55 d_n d_road x1 x2 x3 x4 x5 = some o_r → va_P D vwCl (W_L_0_2 qd0 qd2 qd1 cI cJ cZ cB cT d_n d_road) H → va_D A (W_L_0_2 qd0 qd2 qd1 cI cJ cZ cB cT d_n d_road) → va_S A s.heap H locs → lv_has ls 7 [(0, .ref qd0), (1, .int x1), (2, .int x2), (3, .int x3), (4, .int x4), (5, .int x5)] → W p l e ({ frames := 2, cells := 0, slots := 0, locals := 49 } : Room) s m ([.ref qd0, .int p1, .int p2] : List Value).toArray below meth c H locs 0 0 (MQ below ((mQi D (W_L_0_2 qd0 qd2 qd1 cI cJ cZ cB cT d_n d_road) o_r True) A) ([.ref qd0, .int p1, .int p2] : List Value).toArray s 0 0 A) (F0 m 55 ls []) := by
    intro n55
    induction n55 with
    | zero =>
      intro x1 x2 x3 x4 x5 H locs ls hf hP hD hS hl
      simp [f_X2_fewestWatched_55] at hf
    | succ n55 ih55 =>
      have b110 : ∀ (x1 : Int32) (x2 : Int32) (x3 : Int32) (x4 : Int32) (x5 : Int32) (H : Heap) (locs : List Loc) (ls : Array Slot), f_X2_fewestWatched_110 N (f_X2_fewestWatched_55 N n55) d_n d_road x1 x2 x3 x4 x5 = some o_r → va_P D vwCl (W_L_0_2 qd0 qd2 qd1 cI cJ cZ cB cT d_n d_road) H → va_D A (W_L_0_2 qd0 qd2 qd1 cI cJ cZ cB cT d_n d_road) → va_S A s.heap H locs → lv_has ls 7 [(0, .ref qd0), (1, .int x1), (2, .int x2), (3, .int x3), (4, .int x4), (5, .int x5)] → W p l e ({ frames := 2, cells := 0, slots := 0, locals := 49 } : Room) s m ([.ref qd0, .int p1, .int p2] : List Value).toArray below meth c H locs 0 0 (MQ below ((mQi D (W_L_0_2 qd0 qd2 qd1 cI cJ cZ cB cT d_n d_road) o_r True) A) ([.ref qd0, .int p1, .int p2] : List Value).toArray s 0 0 A) (F0 m 110 ls []) := by
        intro x1 x2 x3 x4 x5 H locs ls hf hP hD hS hl
        unfold f_X2_fewestWatched_110 at hf
        refine lv_iinc (v := (x5 + (1 : Int32))) (lv' := [(5, .int (x5 + (1 : Int32))), (0, .ref qd0), (1, .int x1), (2, .int x2), (3, .int x3), (4, .int x4)]) hx hb dX2_fewestWatched_110 hl (k := 5) rfl rfl (by decide) rfl (fun ls hl => ?_)
        refine lv_goto (tgt := 55) hx hb dX2_fewestWatched_113 (by decide) ?_
        exact ih55 x1 x2 x3 x4 (x5 + (1 : Int32)) _ _ _ hf hP hD hS (lv_sub hl [1, 2, 3, 4, 5, 0] rfl)
      have b79 : ∀ (x1 : Int32) (x2 : Int32) (x3 : Int32) (x4 : Int32) (x5 : Int32) (s0 : Int32) (H : Heap) (locs : List Loc) (ls : Array Slot), f_X2_fewestWatched_79 N (f_X2_fewestWatched_55 N n55) d_n d_road x1 x2 x3 x4 x5 s0 = some o_r → va_P D vwCl (W_L_0_2 qd0 qd2 qd1 cI cJ cZ cB cT d_n d_road) H → va_D A (W_L_0_2 qd0 qd2 qd1 cI cJ cZ cB cT d_n d_road) → va_S A s.heap H locs → lv_has ls 7 [(0, .ref qd0), (1, .int x1), (2, .int x2), (3, .int x3), (4, .int x4), (5, .int x5)] → W p l e ({ frames := 2, cells := 0, slots := 0, locals := 49 } : Room) s m ([.ref qd0, .int p1, .int p2] : List Value).toArray below meth c H locs 0 0 (MQ below ((mQi D (W_L_0_2 qd0 qd2 qd1 cI cJ cZ cB cT d_n d_road) o_r True) A) ([.ref qd0, .int p1, .int p2] : List Value).toArray s 0 0 A) (F0 m 79 ls [.int s0]) := by
        intro x1 x2 x3 x4 x5 s0 H locs ls hf hP hD hS hl
        unfold f_X2_fewestWatched_79 at hf
        refine lv_istore (lv' := [(6, .int s0), (0, .ref qd0), (1, .int x1), (2, .int x2), (3, .int x3), (4, .int x4), (5, .int x5)]) hx hb dX2_fewestWatched_79 hl (by decide) rfl (fun ls hl => ?_)
        refine lv_iload hx hb dX2_fewestWatched_81 (lv_at hl 0 rfl) ?_
        refine xif_eq hx hb 110 dX2_fewestWatched_83 (by decide) hf (fun hf => ?_) (fun hf => ?_)
        · exact b110 x1 x2 x3 x4 x5 _ _ _ hf hP hD hS (lv_sub hl [1, 2, 3, 4, 5, 6] rfl)
        · refine lv_iload hx hb dX2_fewestWatched_86 (lv_at hl 6 rfl) ?_
          refine lv_iload_n hx hb dX2_fewestWatched_88 rfl (lv_at hl 4 rfl) ?_
          refine lv_iconst (v := (-1 : Int32)) hx hb dX2_fewestWatched_89 (by decide) ?_
          refine lv_ixor hx hb dX2_fewestWatched_90 ?_
          refine lv_iand hx hb dX2_fewestWatched_91 ?_
          refine xif_ne hx hb 110 dX2_fewestWatched_92 (by decide) hf (fun hf => ?_) (fun hf => ?_)
          · refine lv_aload_n hx hb dX2_fewestWatched_95 rfl (lv_at hl 1 rfl) ?_
            refine lv_iload hx hb dX2_fewestWatched_96 (lv_at hl 6 rfl) ?_
            refine lv_iload_n hx hb dX2_fewestWatched_98 rfl (lv_at hl 2 rfl) ?_
            refine lv_iload_n hx hb dX2_fewestWatched_99 rfl (lv_at hl 3 rfl) ?_
            obtain ⟨r100, hg100, hf⟩ := ob1_some hf
            refine mcV1_i (As := [.int x5, .int x1, .int x2]) (rest := []) hx hb hml hown hts hK hP hD hS hA (k_X2_parts l N D cI cJ cZ cB cT qd0 qd2 qd1 d_n d_road x5 x1 x2 r100 hg100) (kwX2_49 hts rfl rfl ⟨Nat.le_of_ble_eq_true rfl, Nat.le_of_ble_eq_true rfl⟩) 0 rfl rfl rfl rfl hl.1 rfl (Nat.le_of_ble_eq_true rfl) dX2_fewestWatched_100 ⟨Nat.zero_le _, Nat.zero_le _⟩ (fun hB100 H locs hP hD hS => ?_)
            have hP : va_P D vwCl (W_L_0_2 qd0 qd2 qd1 cI cJ cZ cB cT d_n d_road) H := hP
            have hD : va_D A (W_L_0_2 qd0 qd2 qd1 cI cJ cZ cB cT d_n d_road) := hD
            refine xif_eq hx hb 110 dX2_fewestWatched_103 (by decide) hf (fun hf => ?_) (fun hf => ?_)
            · exact b110 x1 x2 x3 x4 x5 _ _ _ hf hP hD hS (lv_sub hl [1, 2, 3, 4, 5, 6] rfl)
            · refine lv_iload hx hb dX2_fewestWatched_106 (lv_at hl 6 rfl) ?_
              refine lv_istore (lv' := [(4, .int x5), (6, .int s0), (0, .ref qd0), (1, .int x1), (2, .int x2), (3, .int x3), (5, .int x5)]) hx hb dX2_fewestWatched_108 hl (by decide) rfl (fun ls hl => ?_)
              exact b110 x1 x2 x3 x5 x5 _ _ _ hf hP hD hS (lv_sub hl [2, 3, 4, 5, 0, 6] rfl)
          · exact b110 x1 x2 x3 x4 x5 _ _ _ hf hP hD hS (lv_sub hl [1, 2, 3, 4, 5, 6] rfl)
      intro x1 x2 x3 x4 x5 H locs ls hf hP hD hS hl
      rw [f_X2_fewestWatched_55.eq_2] at hf
      refine lv_iload hx hb dX2_fewestWatched_55 (lv_at hl 5 rfl) ?_
      refine lv_iload_n hx hb dX2_fewestWatched_57 rfl (lv_at hl 3 rfl) ?_
      refine xicmp_gt hx hb 116 dX2_fewestWatched_58 (by decide) hf (fun hf => ?_) (fun hf => ?_)
      · refine lv_iload hx hb dX2_fewestWatched_116 (lv_at hl 4 rfl) ?_
        cases hf
        exact mret_i hx hb hr hlocks hP hD hS dX2_fewestWatched_118 rfl trivial
      · refine lv_iload hx hb dX2_fewestWatched_61 (lv_at hl 5 rfl) ?_
        obtain ⟨r63, hg63, hf⟩ := ob1_some hf
        refine mcS0_i (As := [.int x5]) (rest := []) hx hb hml hown hts hK hP hD hS hA (k_J6_bitCount_0f7a4 l N D cI cJ cZ cB cT x5 r63 hg63) (kwX2_44 hts rfl rfl ⟨Nat.le_of_ble_eq_true rfl, Nat.le_of_ble_eq_true rfl⟩) rfl hl.1 rfl (Nat.le_of_ble_eq_true rfl) dX2_fewestWatched_63 ⟨Nat.zero_le _, Nat.zero_le _⟩ (fun hB63 H locs hP hD hS => ?_)
        refine lv_iload hx hb dX2_fewestWatched_66 (lv_at hl 4 rfl) ?_
        obtain ⟨r68, hg68, hf⟩ := ob1_some hf
        refine mcS0_i (As := [.int x4]) (rest := [.int r63]) hx hb hml hown hts hK hP hD hS hA (k_J6_bitCount_0f7a4 l N D cI cJ cZ cB cT x4 r68 hg68) (kwX2_44 hts rfl rfl ⟨Nat.le_of_ble_eq_true rfl, Nat.le_of_ble_eq_true rfl⟩) rfl hl.1 rfl (Nat.le_of_ble_eq_true rfl) dX2_fewestWatched_68 ⟨Nat.zero_le _, Nat.zero_le _⟩ (fun hB68 H locs hP hD hS => ?_)
        refine xicmp_ge hx hb 78 dX2_fewestWatched_71 (by decide) hf (fun hf => ?_) (fun hf => ?_)
        · refine lv_iconst (v := (0 : Int32)) hx hb dX2_fewestWatched_78 (by decide) ?_
          exact b79 x1 x2 x3 x4 x5 (0 : Int32) _ _ _ hf hP hD hS (lv_sub hl [0, 1, 2, 3, 4, 5] rfl)
        · refine lv_iconst (v := (1 : Int32)) hx hb dX2_fewestWatched_74 (by decide) ?_
          refine lv_goto (tgt := 79) hx hb dX2_fewestWatched_75 (by decide) ?_
          exact b79 x1 x2 x3 x4 x5 (1 : Int32) _ _ _ hf hP hD hS (lv_sub hl [0, 1, 2, 3, 4, 5] rfl)
  unfold f_X2_fewestWatched at hf
  refine lv_aload_n hx hb dX2_fewestWatched_0 rfl (lv_at hl 0 rfl) ?_
  refine lv_iload_n hx hb dX2_fewestWatched_1 rfl (lv_at hl 1 rfl) ?_
  obtain ⟨r2, hg2, hf⟩ := ob1_some hf
  refine mcV_i (wr := [(qd2, .inl (cI, 8, .inl d_road))]) (As := [.int p1]) (rest := []) hx hb hml hown hts hK hP hD hS hA (k_X2_told l N D cI cJ cZ cB cT qd0 qd1 qd2 d_n p1 r2 hg2) (kwX2_28 hts rfl rfl ⟨Nat.le_of_ble_eq_true rfl, Nat.le_of_ble_eq_true rfl⟩) [0] [1] rfl rfl rfl (by decide) rfl 0 rfl rfl rfl rfl hl.1 rfl (Nat.le_of_ble_eq_true rfl) dX2_fewestWatched_2 ⟨Nat.zero_le _, Nat.zero_le _⟩ (fun hB2 H locs hP hD hS => ?_)
  have hP := mP_sub (wc := (W_L_0_2 qd0 qd2 qd1 cI cJ cZ cB cT d_n d_road)) hP [1, 0] rfl
  have hD := hD.sub (ws' := (W_L_0_2 qd0 qd2 qd1 cI cJ cZ cB cT d_n d_road)) [1, 0] rfl rfl
  refine xif_eq hx hb 30 dX2_fewestWatched_5 (by decide) hf (fun hf => ?_) (fun hf => ?_)
  · refine lv_iconst (v := (-1 : Int32)) hx hb dX2_fewestWatched_30 (by decide) ?_
    cases hf
    exact mret_i hx hb hr hlocks hP hD hS dX2_fewestWatched_31 rfl trivial
  · refine lv_aload_n hx hb dX2_fewestWatched_8 rfl (lv_at hl 0 rfl) ?_
    refine lv_iload_n hx hb dX2_fewestWatched_9 rfl (lv_at hl 2 rfl) ?_
    obtain ⟨r10, hg10, hf⟩ := ob1_some hf
    refine mcV_i (wr := [(qd2, .inl (cI, 8, .inl d_road))]) (As := [.int p2]) (rest := []) hx hb hml hown hts hK hP hD hS hA (k_X2_told l N D cI cJ cZ cB cT qd0 qd1 qd2 d_n p2 r10 hg10) (kwX2_28 hts rfl rfl ⟨Nat.le_of_ble_eq_true rfl, Nat.le_of_ble_eq_true rfl⟩) [0] [1] rfl rfl rfl (by decide) rfl 0 rfl rfl rfl rfl hl.1 rfl (Nat.le_of_ble_eq_true rfl) dX2_fewestWatched_10 ⟨Nat.zero_le _, Nat.zero_le _⟩ (fun hB10 H locs hP hD hS => ?_)
    have hP := mP_sub (wc := (W_L_0_2 qd0 qd2 qd1 cI cJ cZ cB cT d_n d_road)) hP [1, 0] rfl
    have hD := hD.sub (ws' := (W_L_0_2 qd0 qd2 qd1 cI cJ cZ cB cT d_n d_road)) [1, 0] rfl rfl
    refine xif_eq hx hb 30 dX2_fewestWatched_13 (by decide) hf (fun hf => ?_) (fun hf => ?_)
    · refine lv_iconst (v := (-1 : Int32)) hx hb dX2_fewestWatched_30 (by decide) ?_
      cases hf
      exact mret_i hx hb hr hlocks hP hD hS dX2_fewestWatched_31 rfl trivial
    · refine lv_iload_n hx hb dX2_fewestWatched_16 rfl (lv_at hl 1 rfl) ?_
      refine lv_iload_n hx hb dX2_fewestWatched_17 rfl (lv_at hl 2 rfl) ?_
      refine xicmp_eq hx hb 30 dX2_fewestWatched_18 (by decide) hf (fun hf => ?_) (fun hf => ?_)
      · refine lv_iconst (v := (-1 : Int32)) hx hb dX2_fewestWatched_30 (by decide) ?_
        cases hf
        exact mret_i hx hb hr hlocks hP hD hS dX2_fewestWatched_31 rfl trivial
      · refine lv_aload_n hx hb dX2_fewestWatched_21 rfl (lv_at hl 0 rfl) ?_
        refine lv_iload_n hx hb dX2_fewestWatched_22 rfl (lv_at hl 1 rfl) ?_
        refine lv_iload_n hx hb dX2_fewestWatched_23 rfl (lv_at hl 2 rfl) ?_
        obtain ⟨r24, hg24, hf⟩ := ob1_some hf
        refine mcV1_i (As := [.int p1, .int p2]) (rest := []) hx hb hml hown hts hK hP hD hS hA (k_X2_joined l N D cI cJ cZ cB cT qd0 qd2 qd1 d_n d_road p1 p2 r24 hg24) (kwX2_32 hts rfl rfl ⟨Nat.le_of_ble_eq_true rfl, Nat.le_of_ble_eq_true rfl⟩) 0 rfl rfl rfl rfl hl.1 rfl (Nat.le_of_ble_eq_true rfl) dX2_fewestWatched_24 ⟨Nat.zero_le _, Nat.zero_le _⟩ (fun hB24 H locs hP hD hS => ?_)
        have hP : va_P D vwCl (W_L_0_2 qd0 qd2 qd1 cI cJ cZ cB cT d_n d_road) H := hP
        have hD : va_D A (W_L_0_2 qd0 qd2 qd1 cI cJ cZ cB cT d_n d_road) := hD
        refine xif_eq hx hb 32 dX2_fewestWatched_27 (by decide) hf (fun hf => ?_) (fun hf => ?_)
        · refine lv_aload_n hx hb dX2_fewestWatched_32 rfl (lv_at hl 0 rfl) ?_
          obtain ⟨r33, hg33, hf⟩ := ob1_some hf
          refine mcV_i (wr := [(qd2, .inl (cI, 8, .inl d_road))]) (As := []) (rest := []) hx hb hml hown hts hK hP hD hS hA (k_X2_all l N D cI cJ cZ cB cT qd0 qd1 qd2 d_n r33 hg33) (kwX2_40 hts rfl rfl ⟨Nat.le_of_ble_eq_true rfl, Nat.le_of_ble_eq_true rfl⟩) [0] [1] rfl rfl rfl (by decide) rfl 0 rfl rfl rfl rfl hl.1 rfl (Nat.le_of_ble_eq_true rfl) dX2_fewestWatched_33 ⟨Nat.zero_le _, Nat.zero_le _⟩ (fun hB33 H locs hP hD hS => ?_)
          have hP := mP_sub (wc := (W_L_0_2 qd0 qd2 qd1 cI cJ cZ cB cT d_n d_road)) hP [1, 0] rfl
          have hD := hD.sub (ws' := (W_L_0_2 qd0 qd2 qd1 cI cJ cZ cB cT d_n d_road)) [1, 0] rfl rfl
          refine lv_iconst (v := (1 : Int32)) hx hb dX2_fewestWatched_36 (by decide) ?_
          refine lv_iload_n hx hb dX2_fewestWatched_37 rfl (lv_at hl 1 rfl) ?_
          refine lv_ishl hx hb dX2_fewestWatched_38 ?_
          refine lv_iconst (v := (-1 : Int32)) hx hb dX2_fewestWatched_39 (by decide) ?_
          refine lv_ixor hx hb dX2_fewestWatched_40 ?_
          refine lv_iand hx hb dX2_fewestWatched_41 ?_
          refine lv_iconst (v := (1 : Int32)) hx hb dX2_fewestWatched_42 (by decide) ?_
          refine lv_iload_n hx hb dX2_fewestWatched_43 rfl (lv_at hl 2 rfl) ?_
          refine lv_ishl hx hb dX2_fewestWatched_44 ?_
          refine lv_iconst (v := (-1 : Int32)) hx hb dX2_fewestWatched_45 (by decide) ?_
          refine lv_ixor hx hb dX2_fewestWatched_46 ?_
          refine lv_iand hx hb dX2_fewestWatched_47 ?_
          refine lv_istore_n (lv' := [(3, .int ((r33 &&& (((1 : Int32) <<< (p1 &&& 31)) ^^^ (-1 : Int32))) &&& (((1 : Int32) <<< (p2 &&& 31)) ^^^ (-1 : Int32)))), (0, .ref qd0), (1, .int p1), (2, .int p2)]) hx hb dX2_fewestWatched_48 rfl hl (by decide) rfl (fun ls hl => ?_)
          refine lv_iload_n hx hb dX2_fewestWatched_49 rfl (lv_at hl 0 rfl) ?_
          refine lv_istore (lv' := [(4, .int ((r33 &&& (((1 : Int32) <<< (p1 &&& 31)) ^^^ (-1 : Int32))) &&& (((1 : Int32) <<< (p2 &&& 31)) ^^^ (-1 : Int32)))), (3, .int ((r33 &&& (((1 : Int32) <<< (p1 &&& 31)) ^^^ (-1 : Int32))) &&& (((1 : Int32) <<< (p2 &&& 31)) ^^^ (-1 : Int32)))), (0, .ref qd0), (1, .int p1), (2, .int p2)]) hx hb dX2_fewestWatched_50 hl (by decide) rfl (fun ls hl => ?_)
          refine lv_iconst (v := (0 : Int32)) hx hb dX2_fewestWatched_52 (by decide) ?_
          refine lv_istore (lv' := [(5, .int (0 : Int32)), (4, .int ((r33 &&& (((1 : Int32) <<< (p1 &&& 31)) ^^^ (-1 : Int32))) &&& (((1 : Int32) <<< (p2 &&& 31)) ^^^ (-1 : Int32)))), (3, .int ((r33 &&& (((1 : Int32) <<< (p1 &&& 31)) ^^^ (-1 : Int32))) &&& (((1 : Int32) <<< (p2 &&& 31)) ^^^ (-1 : Int32)))), (0, .ref qd0), (1, .int p1), (2, .int p2)]) hx hb dX2_fewestWatched_53 hl (by decide) rfl (fun ls hl => ?_)
          exact b55 N p1 p2 ((r33 &&& (((1 : Int32) <<< (p1 &&& 31)) ^^^ (-1 : Int32))) &&& (((1 : Int32) <<< (p2 &&& 31)) ^^^ (-1 : Int32))) ((r33 &&& (((1 : Int32) <<< (p1 &&& 31)) ^^^ (-1 : Int32))) &&& (((1 : Int32) <<< (p2 &&& 31)) ^^^ (-1 : Int32))) (0 : Int32) _ _ _ hf hP hD hS (lv_sub hl [3, 4, 5, 2, 1, 0] rfl)
        · refine lv_iconst (v := (-1 : Int32)) hx hb dX2_fewestWatched_30 (by decide) ?_
          cases hf
          exact mret_i hx hb hr hlocks hP hD hS dX2_fewestWatched_31 rfl trivial
theorem dX4_become_0 : decode cX4_become 0 = .ok (.aload_n 0, 1) := by decide +kernel
theorem dX4_become_1 : decode cX4_become 1 = .ok (.aload_n 1, 1) := by decide +kernel
theorem dX4_become_2 : decode cX4_become 2 = .ok (.getfield 9, 3) := by decide +kernel
theorem dX4_become_5 : decode cX4_become 5 = .ok (.putfield 9, 3) := by decide +kernel
theorem dX4_become_8 : decode cX4_become 8 = .ok (.aload_n 0, 1) := by decide +kernel
theorem dX4_become_9 : decode cX4_become 9 = .ok (.aload_n 1, 1) := by decide +kernel
theorem dX4_become_10 : decode cX4_become 10 = .ok (.getfield 15, 3) := by decide +kernel
theorem dX4_become_13 : decode cX4_become 13 = .ok (.putfield 15, 3) := by decide +kernel
theorem dX4_become_16 : decode cX4_become 16 = .ok (.aload_n 0, 1) := by decide +kernel
theorem dX4_become_17 : decode cX4_become 17 = .ok (.aload_n 1, 1) := by decide +kernel
theorem dX4_become_18 : decode cX4_become 18 = .ok (.getfield 18, 3) := by decide +kernel
theorem dX4_become_21 : decode cX4_become 21 = .ok (.putfield 18, 3) := by decide +kernel
theorem dX4_become_24 : decode cX4_become 24 = .ok (.aload_n 0, 1) := by decide +kernel
theorem dX4_become_25 : decode cX4_become 25 = .ok (.aload_n 1, 1) := by decide +kernel
theorem dX4_become_26 : decode cX4_become 26 = .ok (.getfield 21, 3) := by decide +kernel
theorem dX4_become_29 : decode cX4_become 29 = .ok (.putfield 21, 3) := by decide +kernel
theorem dX4_become_32 : decode cX4_become 32 = .ok (.aload_n 0, 1) := by decide +kernel
theorem dX4_become_33 : decode cX4_become 33 = .ok (.aload_n 1, 1) := by decide +kernel
theorem dX4_become_34 : decode cX4_become 34 = .ok (.getfield 24, 3) := by decide +kernel
theorem dX4_become_37 : decode cX4_become 37 = .ok (.putfield 24, 3) := by decide +kernel
theorem dX4_become_40 : decode cX4_become 40 = .ok (.aload_n 1, 1) := by decide +kernel
theorem dX4_become_41 : decode cX4_become 41 = .ok (.getfield 27, 3) := by decide +kernel
theorem dX4_become_44 : decode cX4_become 44 = .ok (.iconst 0, 1) := by decide +kernel
theorem dX4_become_45 : decode cX4_become 45 = .ok (.aload_n 0, 1) := by decide +kernel
theorem dX4_become_46 : decode cX4_become 46 = .ok (.getfield 27, 3) := by decide +kernel
theorem dX4_become_49 : decode cX4_become 49 = .ok (.iconst 0, 1) := by decide +kernel
theorem dX4_become_50 : decode cX4_become 50 = .ok (.iconst 5, 1) := by decide +kernel
theorem dX4_become_51 : decode cX4_become 51 = .ok (.invokestatic 46, 3) := by decide +kernel
theorem dX4_become_54 : decode cX4_become 54 = .ok (.aload_n 1, 1) := by decide +kernel
theorem dX4_become_55 : decode cX4_become 55 = .ok (.getfield 31, 3) := by decide +kernel
theorem dX4_become_58 : decode cX4_become 58 = .ok (.iconst 0, 1) := by decide +kernel
theorem dX4_become_59 : decode cX4_become 59 = .ok (.aload_n 0, 1) := by decide +kernel
theorem dX4_become_60 : decode cX4_become 60 = .ok (.getfield 31, 3) := by decide +kernel
theorem dX4_become_63 : decode cX4_become 63 = .ok (.iconst 0, 1) := by decide +kernel
theorem dX4_become_64 : decode cX4_become 64 = .ok (.bipush 8, 2) := by decide +kernel
theorem dX4_become_66 : decode cX4_become 66 = .ok (.invokestatic 46, 3) := by decide +kernel
theorem dX4_become_69 : decode cX4_become 69 = .ok (.aload_n 1, 1) := by decide +kernel
theorem dX4_become_70 : decode cX4_become 70 = .ok (.getfield 37, 3) := by decide +kernel
theorem dX4_become_73 : decode cX4_become 73 = .ok (.iconst 0, 1) := by decide +kernel
theorem dX4_become_74 : decode cX4_become 74 = .ok (.aload_n 0, 1) := by decide +kernel
theorem dX4_become_75 : decode cX4_become 75 = .ok (.getfield 37, 3) := by decide +kernel
theorem dX4_become_78 : decode cX4_become 78 = .ok (.iconst 0, 1) := by decide +kernel
theorem dX4_become_79 : decode cX4_become 79 = .ok (.bipush 8, 2) := by decide +kernel
theorem dX4_become_81 : decode cX4_become 81 = .ok (.invokestatic 46, 3) := by decide +kernel
theorem dX4_become_84 : decode cX4_become 84 = .ok (.aload_n 1, 1) := by decide +kernel
theorem dX4_become_85 : decode cX4_become 85 = .ok (.getfield 40, 3) := by decide +kernel
theorem dX4_become_88 : decode cX4_become 88 = .ok (.iconst 0, 1) := by decide +kernel
theorem dX4_become_89 : decode cX4_become 89 = .ok (.aload_n 0, 1) := by decide +kernel
theorem dX4_become_90 : decode cX4_become 90 = .ok (.getfield 40, 3) := by decide +kernel
theorem dX4_become_93 : decode cX4_become 93 = .ok (.iconst 0, 1) := by decide +kernel
theorem dX4_become_94 : decode cX4_become 94 = .ok (.bipush 8, 2) := by decide +kernel
theorem dX4_become_96 : decode cX4_become 96 = .ok (.invokestatic 46, 3) := by decide +kernel
theorem dX4_become_99 : decode cX4_become 99 = .ok (.aload_n 1, 1) := by decide +kernel
theorem dX4_become_100 : decode cX4_become 100 = .ok (.getfield 43, 3) := by decide +kernel
theorem dX4_become_103 : decode cX4_become 103 = .ok (.iconst 0, 1) := by decide +kernel
theorem dX4_become_104 : decode cX4_become 104 = .ok (.aload_n 0, 1) := by decide +kernel
theorem dX4_become_105 : decode cX4_become 105 = .ok (.getfield 43, 3) := by decide +kernel
theorem dX4_become_108 : decode cX4_become 108 = .ok (.iconst 0, 1) := by decide +kernel
theorem dX4_become_109 : decode cX4_become 109 = .ok (.bipush 8, 2) := by decide +kernel
theorem dX4_become_111 : decode cX4_become 111 = .ok (.invokestatic 46, 3) := by decide +kernel
theorem dX4_become_114 : decode cX4_become 114 = .ok (.return_, 1) := by decide +kernel
def f_X4_become (N : Nat) (n_calls : Int32) (n_bord : Int32) (n_rep : Int32) (n_unl : Int32) (n_pay : Int32) (n_cl : Nat → Int32) (n_ul : Nat → Int32) (n_ga : Nat → Int32) (n_py : Nat → Int32) (n_pr : Nat → Int32) (o_calls : Int32) (o_bord : Int32) (o_rep : Int32) (o_unl : Int32) (o_pay : Int32) (o_cl : Nat → Int32) (o_ul : Nat → Int32) (o_ga : Nat → Int32) (o_py : Nat → Int32) (o_pr : Nat → Int32) : Option (Int32 × Int32 × Int32 × Int32 × Int32 × (Nat → Int32) × (Nat → Int32) × (Nat → Int32) × (Nat → Int32) × (Nat → Int32)) := cpI o_cl 5 n_cl 5 (0 : Int32) (0 : Int32) (5 : Int32) fun n_cl_51 => cpI o_ul 8 n_ul 8 (0 : Int32) (0 : Int32) (8 : Int32) fun n_ul_66 => cpI o_ga 8 n_ga 8 (0 : Int32) (0 : Int32) (8 : Int32) fun n_ga_81 => cpI o_py 8 n_py 8 (0 : Int32) (0 : Int32) (8 : Int32) fun n_py_96 => cpI o_pr 8 n_pr 8 (0 : Int32) (0 : Int32) (8 : Int32) fun n_pr_111 => some (o_calls, o_bord, o_rep, o_unl, o_pay, n_cl_51, n_ul_66, n_ga_81, n_py_96, n_pr_111)
set_option maxHeartbeats 4000000 in
set_option maxRecDepth 100000 in
theorem k_X4_become (l : Launch) (N : Nat) (D : va_G) (cI cJ cZ cB cT : ClassId) (qn0 : Nat) (qn1 : Nat) (qn2 : Nat) (qn4 : Nat) (qn5 : Nat) (qn6 : Nat) (qo0 : Nat) (qo1 : Nat) (qo2 : Nat) (qo4 : Nat) (qo5 : Nat) (qo6 : Nat) (qn3 : Nat) (qo3 : Nat) (n_calls : Int32) (n_bord : Int32) (n_rep : Int32) (n_unl : Int32) (n_pay : Int32) (n_cl : Nat → Int32) (n_ul : Nat → Int32) (n_ga : Nat → Int32) (n_py : Nat → Int32) (n_pr : Nat → Int32) (o_calls : Int32) (o_bord : Int32) (o_rep : Int32) (o_unl : Int32) (o_pay : Int32) (o_cl : Nat → Int32) (o_ul : Nat → Int32) (o_ga : Nat → Int32) (o_py : Nat → Int32) (o_pr : Nat → Int32) (o_n_calls : Int32) (o_n_bord : Int32) (o_n_rep : Int32) (o_n_unl : Int32) (o_n_pay : Int32) (o_n_cl : Nat → Int32) (o_n_ul : Nat → Int32) (o_n_ga : Nat → Int32) (o_n_py : Nat → Int32) (o_n_pr : Nat → Int32) (hf : f_X4_become N n_calls n_bord n_rep n_unl n_pay n_cl n_ul n_ga n_py n_pr o_calls o_bord o_rep o_unl o_pay o_cl o_ul o_ga o_py o_pr = some (o_n_calls, o_n_bord, o_n_rep, o_n_unl, o_n_pay, o_n_cl, o_n_ul, o_n_ga, o_n_py, o_n_pr)) : ∀ sz, Met l yX4_become (mw yX4_become cX4_become 2 none) ({ frames := 1, cells := 0, slots := 0, locals := 60 } : Room) (mPre D (mT cI cJ cZ cB cT) (W_NN_0t2_4t9_11t13 qn0 qn1 qn2 qn4 qn5 qn6 qo0 qo1 qo2 qo4 qo5 qo6 qn3 qo3 cI cJ cZ cB cT n_calls n_bord n_rep n_unl n_pay n_cl n_ul n_ga n_py n_pr o_calls o_bord o_rep o_unl o_pay o_cl o_ul o_ga o_py o_pr) sz [.ref qn0, .ref qo0]) ((mQv D (W_NN_0t2_4t9_11t13 qn0 qn1 qn2 qn4 qn5 qn6 qo0 qo1 qo2 qo4 qo5 qo6 qn3 qo3 cI cJ cZ cB cT o_n_calls o_n_bord o_n_rep o_n_unl o_n_pay o_n_cl o_n_ul o_n_ga o_n_py o_n_pr o_calls o_bord o_rep o_unl o_pay o_cl o_ul o_ga o_py o_pr)) (va_A (W_NN_0t2_4t9_11t13 qn0 qn1 qn2 qn4 qn5 qn6 qo0 qo1 qo2 qo4 qo5 qo6 qn3 qo3 cI cJ cZ cB cT n_calls n_bord n_rep n_unl n_pay n_cl n_ul n_ga n_py n_pr o_calls o_bord o_rep o_unl o_pay o_cl o_ul o_ga o_py o_pr) sz)) 0 0 (va_A (W_NN_0t2_4t9_11t13 qn0 qn1 qn2 qn4 qn5 qn6 qo0 qo1 qo2 qo4 qo5 qo6 qn3 qo3 cI cJ cZ cB cT n_calls n_bord n_rep n_unl n_pay n_cl n_ul n_ga n_py n_pr o_calls o_bord o_rep o_unl o_pay o_cl o_ul o_ga o_py o_pr) sz) := by
  refine mMet (Qc := (mQv D (W_NN_0t2_4t9_11t13 qn0 qn1 qn2 qn4 qn5 qn6 qo0 qo1 qo2 qo4 qo5 qo6 qn3 qo3 cI cJ cZ cB cT o_n_calls o_n_bord o_n_rep o_n_unl o_n_pay o_n_cl o_n_ul o_n_ga o_n_py o_n_pr o_calls o_bord o_rep o_unl o_pay o_cl o_ul o_ga o_py o_pr))) (by decide) (Nat.le_of_ble_eq_true rfl) (fun p e s m below meth c A ls hx hb hr hml hts hown hlocks hK hA hP hD hl => ?_)
  have hown : s.vm.findClass RX4 = some m.cls := hown
  have hl : lv_has ls 2 [(0, .ref qn0), (1, .ref qo0)] := hl
  have hS : va_S A s.heap s.heap [] := va_S.rf
  unfold f_X4_become at hf
  refine lv_aload_n hx hb dX4_become_0 rfl (lv_at hl 0 rfl) ?_
  refine lv_aload_n hx hb dX4_become_1 rfl (lv_at hl 1 rfl) ?_
  refine gfX4_9 hx hb hts hown hK hP 6 rfl rfl dX4_become_2 ?_
  refine pfX4_9 hx hb hts hown hK hP hD hS 0 rfl (Nat.le_of_ble_eq_true rfl) dX4_become_5 (fun H locs hP hD hS => ?_)
  have hP : va_P D vwCl (W_NN_0t2_4t9_11t13 qn0 qn1 qn2 qn4 qn5 qn6 qo0 qo1 qo2 qo4 qo5 qo6 qn3 qo3 cI cJ cZ cB cT o_calls n_bord n_rep n_unl n_pay n_cl n_ul n_ga n_py n_pr o_calls o_bord o_rep o_unl o_pay o_cl o_ul o_ga o_py o_pr) H := hP
  have hD : va_D A (W_NN_0t2_4t9_11t13 qn0 qn1 qn2 qn4 qn5 qn6 qo0 qo1 qo2 qo4 qo5 qo6 qn3 qo3 cI cJ cZ cB cT o_calls n_bord n_rep n_unl n_pay n_cl n_ul n_ga n_py n_pr o_calls o_bord o_rep o_unl o_pay o_cl o_ul o_ga o_py o_pr) := hD
  refine lv_aload_n hx hb dX4_become_8 rfl (lv_at hl 0 rfl) ?_
  refine lv_aload_n hx hb dX4_become_9 rfl (lv_at hl 1 rfl) ?_
  refine gfX4_15 hx hb hts hown hK hP 6 rfl rfl dX4_become_10 ?_
  refine pfX4_15 hx hb hts hown hK hP hD hS 0 rfl (Nat.le_of_ble_eq_true rfl) dX4_become_13 (fun H locs hP hD hS => ?_)
  have hP : va_P D vwCl (W_NN_0t2_4t9_11t13 qn0 qn1 qn2 qn4 qn5 qn6 qo0 qo1 qo2 qo4 qo5 qo6 qn3 qo3 cI cJ cZ cB cT o_calls o_bord n_rep n_unl n_pay n_cl n_ul n_ga n_py n_pr o_calls o_bord o_rep o_unl o_pay o_cl o_ul o_ga o_py o_pr) H := hP
  have hD : va_D A (W_NN_0t2_4t9_11t13 qn0 qn1 qn2 qn4 qn5 qn6 qo0 qo1 qo2 qo4 qo5 qo6 qn3 qo3 cI cJ cZ cB cT o_calls o_bord n_rep n_unl n_pay n_cl n_ul n_ga n_py n_pr o_calls o_bord o_rep o_unl o_pay o_cl o_ul o_ga o_py o_pr) := hD
  refine lv_aload_n hx hb dX4_become_16 rfl (lv_at hl 0 rfl) ?_
  refine lv_aload_n hx hb dX4_become_17 rfl (lv_at hl 1 rfl) ?_
  refine gfX4_18 hx hb hts hown hK hP 6 rfl rfl dX4_become_18 ?_
  refine pfX4_18 hx hb hts hown hK hP hD hS 0 rfl (Nat.le_of_ble_eq_true rfl) dX4_become_21 (fun H locs hP hD hS => ?_)
  have hP : va_P D vwCl (W_NN_0t2_4t9_11t13 qn0 qn1 qn2 qn4 qn5 qn6 qo0 qo1 qo2 qo4 qo5 qo6 qn3 qo3 cI cJ cZ cB cT o_calls o_bord o_rep n_unl n_pay n_cl n_ul n_ga n_py n_pr o_calls o_bord o_rep o_unl o_pay o_cl o_ul o_ga o_py o_pr) H := hP
  have hD : va_D A (W_NN_0t2_4t9_11t13 qn0 qn1 qn2 qn4 qn5 qn6 qo0 qo1 qo2 qo4 qo5 qo6 qn3 qo3 cI cJ cZ cB cT o_calls o_bord o_rep n_unl n_pay n_cl n_ul n_ga n_py n_pr o_calls o_bord o_rep o_unl o_pay o_cl o_ul o_ga o_py o_pr) := hD
  refine lv_aload_n hx hb dX4_become_24 rfl (lv_at hl 0 rfl) ?_
  refine lv_aload_n hx hb dX4_become_25 rfl (lv_at hl 1 rfl) ?_
  refine gfX4_21 hx hb hts hown hK hP 6 rfl rfl dX4_become_26 ?_
  refine pfX4_21 hx hb hts hown hK hP hD hS 0 rfl (Nat.le_of_ble_eq_true rfl) dX4_become_29 (fun H locs hP hD hS => ?_)
  have hP : va_P D vwCl (W_NN_0t2_4t9_11t13 qn0 qn1 qn2 qn4 qn5 qn6 qo0 qo1 qo2 qo4 qo5 qo6 qn3 qo3 cI cJ cZ cB cT o_calls o_bord o_rep o_unl n_pay n_cl n_ul n_ga n_py n_pr o_calls o_bord o_rep o_unl o_pay o_cl o_ul o_ga o_py o_pr) H := hP
  have hD : va_D A (W_NN_0t2_4t9_11t13 qn0 qn1 qn2 qn4 qn5 qn6 qo0 qo1 qo2 qo4 qo5 qo6 qn3 qo3 cI cJ cZ cB cT o_calls o_bord o_rep o_unl n_pay n_cl n_ul n_ga n_py n_pr o_calls o_bord o_rep o_unl o_pay o_cl o_ul o_ga o_py o_pr) := hD
  refine lv_aload_n hx hb dX4_become_32 rfl (lv_at hl 0 rfl) ?_
  refine lv_aload_n hx hb dX4_become_33 rfl (lv_at hl 1 rfl) ?_
  refine gfX4_24 hx hb hts hown hK hP 6 rfl rfl dX4_become_34 ?_
  refine pfX4_24 hx hb hts hown hK hP hD hS 0 rfl (Nat.le_of_ble_eq_true rfl) dX4_become_37 (fun H locs hP hD hS => ?_)
  have hP : va_P D vwCl (W_NN_0t2_4t9_11t13 qn0 qn1 qn2 qn4 qn5 qn6 qo0 qo1 qo2 qo4 qo5 qo6 qn3 qo3 cI cJ cZ cB cT o_calls o_bord o_rep o_unl o_pay n_cl n_ul n_ga n_py n_pr o_calls o_bord o_rep o_unl o_pay o_cl o_ul o_ga o_py o_pr) H := hP
  have hD : va_D A (W_NN_0t2_4t9_11t13 qn0 qn1 qn2 qn4 qn5 qn6 qo0 qo1 qo2 qo4 qo5 qo6 qn3 qo3 cI cJ cZ cB cT o_calls o_bord o_rep o_unl o_pay n_cl n_ul n_ga n_py n_pr o_calls o_bord o_rep o_unl o_pay o_cl o_ul o_ga o_py o_pr) := hD
  refine lv_aload_n hx hb dX4_become_40 rfl (lv_at hl 1 rfl) ?_
  refine gfX4_27 hx hb hts hown hK hP 6 rfl rfl dX4_become_41 ?_
  refine lv_iconst (v := (0 : Int32)) hx hb dX4_become_44 (by decide) ?_
  refine lv_aload_n hx hb dX4_become_45 rfl (lv_at hl 0 rfl) ?_
  refine gfX4_27 hx hb hts hown hK hP 0 rfl rfl dX4_become_46 ?_
  refine lv_iconst (v := (0 : Int32)) hx hb dX4_become_49 (by decide) ?_
  refine lv_iconst (v := (5 : Int32)) hx hb dX4_become_50 (by decide) ?_
  refine xcopy hx hb hml hl.1 hown hts cpwX4_46 hK hP hD hS 7 1 0 0 rfl rfl rfl rfl (Nat.le_of_ble_eq_true rfl) (by decide) dX4_become_51 hf (fun n_cl_51 hf H locs hP hD hS => ?_)
  have hP : va_P D vwCl (W_NN_0t2_4t9_11t13 qn0 qn1 qn2 qn4 qn5 qn6 qo0 qo1 qo2 qo4 qo5 qo6 qn3 qo3 cI cJ cZ cB cT o_calls o_bord o_rep o_unl o_pay n_cl_51 n_ul n_ga n_py n_pr o_calls o_bord o_rep o_unl o_pay o_cl o_ul o_ga o_py o_pr) H := hP
  have hD : va_D A (W_NN_0t2_4t9_11t13 qn0 qn1 qn2 qn4 qn5 qn6 qo0 qo1 qo2 qo4 qo5 qo6 qn3 qo3 cI cJ cZ cB cT o_calls o_bord o_rep o_unl o_pay n_cl_51 n_ul n_ga n_py n_pr o_calls o_bord o_rep o_unl o_pay o_cl o_ul o_ga o_py o_pr) := hD
  refine lv_aload_n hx hb dX4_become_54 rfl (lv_at hl 1 rfl) ?_
  refine gfX4_31 hx hb hts hown hK hP 6 rfl rfl dX4_become_55 ?_
  refine lv_iconst (v := (0 : Int32)) hx hb dX4_become_58 (by decide) ?_
  refine lv_aload_n hx hb dX4_become_59 rfl (lv_at hl 0 rfl) ?_
  refine gfX4_31 hx hb hts hown hK hP 0 rfl rfl dX4_become_60 ?_
  refine lv_iconst (v := (0 : Int32)) hx hb dX4_become_63 (by decide) ?_
  refine lv_bipush (v := (8 : Int32)) hx hb dX4_become_64 (by decide) ?_
  refine xcopy hx hb hml hl.1 hown hts cpwX4_46 hK hP hD hS 8 2 0 0 rfl rfl rfl rfl (Nat.le_of_ble_eq_true rfl) (by decide) dX4_become_66 hf (fun n_ul_66 hf H locs hP hD hS => ?_)
  have hP : va_P D vwCl (W_NN_0t2_4t9_11t13 qn0 qn1 qn2 qn4 qn5 qn6 qo0 qo1 qo2 qo4 qo5 qo6 qn3 qo3 cI cJ cZ cB cT o_calls o_bord o_rep o_unl o_pay n_cl_51 n_ul_66 n_ga n_py n_pr o_calls o_bord o_rep o_unl o_pay o_cl o_ul o_ga o_py o_pr) H := hP
  have hD : va_D A (W_NN_0t2_4t9_11t13 qn0 qn1 qn2 qn4 qn5 qn6 qo0 qo1 qo2 qo4 qo5 qo6 qn3 qo3 cI cJ cZ cB cT o_calls o_bord o_rep o_unl o_pay n_cl_51 n_ul_66 n_ga n_py n_pr o_calls o_bord o_rep o_unl o_pay o_cl o_ul o_ga o_py o_pr) := hD
  refine lv_aload_n hx hb dX4_become_69 rfl (lv_at hl 1 rfl) ?_
  refine gfX4_37 hx hb hts hown hK hP 6 rfl rfl dX4_become_70 ?_
  refine lv_iconst (v := (0 : Int32)) hx hb dX4_become_73 (by decide) ?_
  refine lv_aload_n hx hb dX4_become_74 rfl (lv_at hl 0 rfl) ?_
  refine gfX4_37 hx hb hts hown hK hP 0 rfl rfl dX4_become_75 ?_
  refine lv_iconst (v := (0 : Int32)) hx hb dX4_become_78 (by decide) ?_
  refine lv_bipush (v := (8 : Int32)) hx hb dX4_become_79 (by decide) ?_
  refine xcopy hx hb hml hl.1 hown hts cpwX4_46 hK hP hD hS 9 3 0 0 rfl rfl rfl rfl (Nat.le_of_ble_eq_true rfl) (by decide) dX4_become_81 hf (fun n_ga_81 hf H locs hP hD hS => ?_)
  have hP : va_P D vwCl (W_NN_0t2_4t9_11t13 qn0 qn1 qn2 qn4 qn5 qn6 qo0 qo1 qo2 qo4 qo5 qo6 qn3 qo3 cI cJ cZ cB cT o_calls o_bord o_rep o_unl o_pay n_cl_51 n_ul_66 n_ga_81 n_py n_pr o_calls o_bord o_rep o_unl o_pay o_cl o_ul o_ga o_py o_pr) H := hP
  have hD : va_D A (W_NN_0t2_4t9_11t13 qn0 qn1 qn2 qn4 qn5 qn6 qo0 qo1 qo2 qo4 qo5 qo6 qn3 qo3 cI cJ cZ cB cT o_calls o_bord o_rep o_unl o_pay n_cl_51 n_ul_66 n_ga_81 n_py n_pr o_calls o_bord o_rep o_unl o_pay o_cl o_ul o_ga o_py o_pr) := hD
  refine lv_aload_n hx hb dX4_become_84 rfl (lv_at hl 1 rfl) ?_
  refine gfX4_40 hx hb hts hown hK hP 6 rfl rfl dX4_become_85 ?_
  refine lv_iconst (v := (0 : Int32)) hx hb dX4_become_88 (by decide) ?_
  refine lv_aload_n hx hb dX4_become_89 rfl (lv_at hl 0 rfl) ?_
  refine gfX4_40 hx hb hts hown hK hP 0 rfl rfl dX4_become_90 ?_
  refine lv_iconst (v := (0 : Int32)) hx hb dX4_become_93 (by decide) ?_
  refine lv_bipush (v := (8 : Int32)) hx hb dX4_become_94 (by decide) ?_
  refine xcopy hx hb hml hl.1 hown hts cpwX4_46 hK hP hD hS 10 4 0 0 rfl rfl rfl rfl (Nat.le_of_ble_eq_true rfl) (by decide) dX4_become_96 hf (fun n_py_96 hf H locs hP hD hS => ?_)
  have hP : va_P D vwCl (W_NN_0t2_4t9_11t13 qn0 qn1 qn2 qn4 qn5 qn6 qo0 qo1 qo2 qo4 qo5 qo6 qn3 qo3 cI cJ cZ cB cT o_calls o_bord o_rep o_unl o_pay n_cl_51 n_ul_66 n_ga_81 n_py_96 n_pr o_calls o_bord o_rep o_unl o_pay o_cl o_ul o_ga o_py o_pr) H := hP
  have hD : va_D A (W_NN_0t2_4t9_11t13 qn0 qn1 qn2 qn4 qn5 qn6 qo0 qo1 qo2 qo4 qo5 qo6 qn3 qo3 cI cJ cZ cB cT o_calls o_bord o_rep o_unl o_pay n_cl_51 n_ul_66 n_ga_81 n_py_96 n_pr o_calls o_bord o_rep o_unl o_pay o_cl o_ul o_ga o_py o_pr) := hD
  refine lv_aload_n hx hb dX4_become_99 rfl (lv_at hl 1 rfl) ?_
  refine gfX4_43 hx hb hts hown hK hP 6 rfl rfl dX4_become_100 ?_
  refine lv_iconst (v := (0 : Int32)) hx hb dX4_become_103 (by decide) ?_
  refine lv_aload_n hx hb dX4_become_104 rfl (lv_at hl 0 rfl) ?_
  refine gfX4_43 hx hb hts hown hK hP 0 rfl rfl dX4_become_105 ?_
  refine lv_iconst (v := (0 : Int32)) hx hb dX4_become_108 (by decide) ?_
  refine lv_bipush (v := (8 : Int32)) hx hb dX4_become_109 (by decide) ?_
  refine xcopy hx hb hml hl.1 hown hts cpwX4_46 hK hP hD hS 11 5 0 0 rfl rfl rfl rfl (Nat.le_of_ble_eq_true rfl) (by decide) dX4_become_111 hf (fun n_pr_111 hf H locs hP hD hS => ?_)
  have hP : va_P D vwCl (W_NN_0t2_4t9_11t13 qn0 qn1 qn2 qn4 qn5 qn6 qo0 qo1 qo2 qo4 qo5 qo6 qn3 qo3 cI cJ cZ cB cT o_calls o_bord o_rep o_unl o_pay n_cl_51 n_ul_66 n_ga_81 n_py_96 n_pr_111 o_calls o_bord o_rep o_unl o_pay o_cl o_ul o_ga o_py o_pr) H := hP
  have hD : va_D A (W_NN_0t2_4t9_11t13 qn0 qn1 qn2 qn4 qn5 qn6 qo0 qo1 qo2 qo4 qo5 qo6 qn3 qo3 cI cJ cZ cB cT o_calls o_bord o_rep o_unl o_pay n_cl_51 n_ul_66 n_ga_81 n_py_96 n_pr_111 o_calls o_bord o_rep o_unl o_pay o_cl o_ul o_ga o_py o_pr) := hD
  cases hf
  exact mret_v hx hb hr hlocks hP hD hS dX4_become_114
theorem dX4_forgetCalls_0 : decode cX4_forgetCalls 0 = .ok (.aload_n 0, 1) := by decide +kernel
theorem dX4_forgetCalls_1 : decode cX4_forgetCalls 1 = .ok (.iconst 0, 1) := by decide +kernel
theorem dX4_forgetCalls_2 : decode cX4_forgetCalls 2 = .ok (.putfield 9, 3) := by decide +kernel
theorem dX4_forgetCalls_5 : decode cX4_forgetCalls 5 = .ok (.return_, 1) := by decide +kernel
def f_X4_forgetCalls (N : Nat) (n_calls : Int32) : Option (Int32) := some (0 : Int32)
set_option maxHeartbeats 4000000 in
set_option maxRecDepth 100000 in
theorem k_X4_forgetCalls (l : Launch) (N : Nat) (D : va_G) (cI cJ cZ cB cT : ClassId) (qn0 : Nat) (qn1 : Nat) (qn2 : Nat) (qn3 : Nat) (qn4 : Nat) (qn5 : Nat) (qn6 : Nat) (n_calls : Int32) (n_bord : Int32) (n_rep : Int32) (n_unl : Int32) (n_pay : Int32) (o_n_calls : Int32) (hf : f_X4_forgetCalls N n_calls = some o_n_calls) : ∀ sz, Met l yX4_forgetCalls (mw yX4_forgetCalls cX4_forgetCalls 1 none) ({ frames := 0, cells := 0, slots := 0, locals := 0 } : Room) (mPre D (mT cI cJ cZ cB cT) (W_N_0 qn0 qn1 qn2 qn3 qn4 qn5 qn6 cI cJ cZ cB cT n_calls n_bord n_rep n_unl n_pay) sz [.ref qn0]) ((mQv D (W_N_0 qn0 qn1 qn2 qn3 qn4 qn5 qn6 cI cJ cZ cB cT o_n_calls n_bord n_rep n_unl n_pay)) (va_A (W_N_0 qn0 qn1 qn2 qn3 qn4 qn5 qn6 cI cJ cZ cB cT n_calls n_bord n_rep n_unl n_pay) sz)) 0 0 (va_A (W_N_0 qn0 qn1 qn2 qn3 qn4 qn5 qn6 cI cJ cZ cB cT n_calls n_bord n_rep n_unl n_pay) sz) := by
  refine mMet (Qc := (mQv D (W_N_0 qn0 qn1 qn2 qn3 qn4 qn5 qn6 cI cJ cZ cB cT o_n_calls n_bord n_rep n_unl n_pay))) (by decide) (Nat.le_of_ble_eq_true rfl) (fun p e s m below meth c A ls hx hb hr hml hts hown hlocks hK hA hP hD hl => ?_)
  have hown : s.vm.findClass RX4 = some m.cls := hown
  have hl : lv_has ls 1 [(0, .ref qn0)] := hl
  have hS : va_S A s.heap s.heap [] := va_S.rf
  unfold f_X4_forgetCalls at hf
  refine lv_aload_n hx hb dX4_forgetCalls_0 rfl (lv_at hl 0 rfl) ?_
  refine lv_iconst (v := (0 : Int32)) hx hb dX4_forgetCalls_1 (by decide) ?_
  refine pfX4_9 hx hb hts hown hK hP hD hS 0 rfl (Nat.le_of_ble_eq_true rfl) dX4_forgetCalls_2 (fun H locs hP hD hS => ?_)
  have hP : va_P D vwCl (W_N_0 qn0 qn1 qn2 qn3 qn4 qn5 qn6 cI cJ cZ cB cT (0 : Int32) n_bord n_rep n_unl n_pay) H := hP
  have hD : va_D A (W_N_0 qn0 qn1 qn2 qn3 qn4 qn5 qn6 cI cJ cZ cB cT (0 : Int32) n_bord n_rep n_unl n_pay) := hD
  cases hf
  exact mret_v hx hb hr hlocks hP hD hS dX4_forgetCalls_5
theorem dX4_noteCall_0 : decode cX4_noteCall 0 = .ok (.aload_n 0, 1) := by decide +kernel
theorem dX4_noteCall_1 : decode cX4_noteCall 1 = .ok (.getfield 9, 3) := by decide +kernel
theorem dX4_noteCall_4 : decode cX4_noteCall 4 = .ok (.ifCond .lt 11, 3) := by decide +kernel
theorem dX4_noteCall_7 : decode cX4_noteCall 7 = .ok (.aload_n 0, 1) := by decide +kernel
theorem dX4_noteCall_8 : decode cX4_noteCall 8 = .ok (.getfield 9, 3) := by decide +kernel
theorem dX4_noteCall_11 : decode cX4_noteCall 11 = .ok (.iconst 5, 1) := by decide +kernel
theorem dX4_noteCall_12 : decode cX4_noteCall 12 = .ok (.if_icmp .lt 6, 3) := by decide +kernel
theorem dX4_noteCall_15 : decode cX4_noteCall 15 = .ok (.bipush (-2), 2) := by decide +kernel
theorem dX4_noteCall_17 : decode cX4_noteCall 17 = .ok (.ireturn, 1) := by decide +kernel
theorem dX4_noteCall_18 : decode cX4_noteCall 18 = .ok (.aload_n 0, 1) := by decide +kernel
theorem dX4_noteCall_19 : decode cX4_noteCall 19 = .ok (.getfield 27, 3) := by decide +kernel
theorem dX4_noteCall_22 : decode cX4_noteCall 22 = .ok (.aload_n 0, 1) := by decide +kernel
theorem dX4_noteCall_23 : decode cX4_noteCall 23 = .ok (.getfield 9, 3) := by decide +kernel
theorem dX4_noteCall_26 : decode cX4_noteCall 26 = .ok (.iload_n 1, 1) := by decide +kernel
theorem dX4_noteCall_27 : decode cX4_noteCall 27 = .ok (.iastore, 1) := by decide +kernel
theorem dX4_noteCall_28 : decode cX4_noteCall 28 = .ok (.aload_n 0, 1) := by decide +kernel
theorem dX4_noteCall_29 : decode cX4_noteCall 29 = .ok (.dup, 1) := by decide +kernel
theorem dX4_noteCall_30 : decode cX4_noteCall 30 = .ok (.getfield 9, 3) := by decide +kernel
theorem dX4_noteCall_33 : decode cX4_noteCall 33 = .ok (.iconst 1, 1) := by decide +kernel
theorem dX4_noteCall_34 : decode cX4_noteCall 34 = .ok (.iadd, 1) := by decide +kernel
theorem dX4_noteCall_35 : decode cX4_noteCall 35 = .ok (.putfield 9, 3) := by decide +kernel
theorem dX4_noteCall_38 : decode cX4_noteCall 38 = .ok (.aload_n 0, 1) := by decide +kernel
theorem dX4_noteCall_39 : decode cX4_noteCall 39 = .ok (.getfield 9, 3) := by decide +kernel
theorem dX4_noteCall_42 : decode cX4_noteCall 42 = .ok (.ireturn, 1) := by decide +kernel
def f_X4_noteCall (N : Nat) (n_calls : Int32) (n_cl : Nat → Int32) (p1 : Int32) : Option (Int32 × Int32 × (Nat → Int32)) := if n_calls < 0 then (some ((-2 : Int32), n_calls, n_cl)) else (if n_calls < (5 : Int32) then (sA n_cl 5 n_calls p1 fun n_cl_27 => some ((n_calls + (1 : Int32)), (n_calls + (1 : Int32)), n_cl_27)) else (some ((-2 : Int32), n_calls, n_cl)))
set_option maxHeartbeats 4000000 in
set_option maxRecDepth 100000 in
theorem k_X4_noteCall (l : Launch) (N : Nat) (D : va_G) (cI cJ cZ cB cT : ClassId) (qn0 : Nat) (qn1 : Nat) (qn2 : Nat) (qn3 : Nat) (qn4 : Nat) (qn5 : Nat) (qn6 : Nat) (n_calls : Int32) (n_bord : Int32) (n_rep : Int32) (n_unl : Int32) (n_pay : Int32) (n_cl : Nat → Int32) (p1 : Int32) (o_r : Int32) (o_n_calls : Int32) (o_n_cl : Nat → Int32) (hf : f_X4_noteCall N n_calls n_cl p1 = some (o_r, o_n_calls, o_n_cl)) : ∀ sz, Met l yX4_noteCall (mw yX4_noteCall cX4_noteCall 2 (some .int)) ({ frames := 0, cells := 0, slots := 0, locals := 0 } : Room) (mPre D (mT cI cJ cZ cB cT) (W_N_0t1 qn0 qn1 qn2 qn3 qn4 qn5 qn6 cI cJ cZ cB cT n_calls n_bord n_rep n_unl n_pay n_cl) sz [.ref qn0, .int p1]) ((mQi D (W_N_0t1 qn0 qn1 qn2 qn3 qn4 qn5 qn6 cI cJ cZ cB cT o_n_calls n_bord n_rep n_unl n_pay o_n_cl) o_r True) (va_A (W_N_0t1 qn0 qn1 qn2 qn3 qn4 qn5 qn6 cI cJ cZ cB cT n_calls n_bord n_rep n_unl n_pay n_cl) sz)) 0 0 (va_A (W_N_0t1 qn0 qn1 qn2 qn3 qn4 qn5 qn6 cI cJ cZ cB cT n_calls n_bord n_rep n_unl n_pay n_cl) sz) := by
  refine mMet (Qc := (mQi D (W_N_0t1 qn0 qn1 qn2 qn3 qn4 qn5 qn6 cI cJ cZ cB cT o_n_calls n_bord n_rep n_unl n_pay o_n_cl) o_r True)) (by decide) (Nat.le_of_ble_eq_true rfl) (fun p e s m below meth c A ls hx hb hr hml hts hown hlocks hK hA hP hD hl => ?_)
  have hown : s.vm.findClass RX4 = some m.cls := hown
  have hl : lv_has ls 2 [(0, .ref qn0), (1, .int p1)] := hl
  have hS : va_S A s.heap s.heap [] := va_S.rf
  unfold f_X4_noteCall at hf
  refine lv_aload_n hx hb dX4_noteCall_0 rfl (lv_at hl 0 rfl) ?_
  refine gfX4_9 hx hb hts hown hK hP 0 rfl rfl dX4_noteCall_1 ?_
  refine xif_lt hx hb 15 dX4_noteCall_4 (by decide) hf (fun hf => ?_) (fun hf => ?_)
  · refine lv_bipush (v := (-2 : Int32)) hx hb dX4_noteCall_15 (by decide) ?_
    cases hf
    exact mret_i hx hb hr hlocks hP hD hS dX4_noteCall_17 rfl trivial
  · refine lv_aload_n hx hb dX4_noteCall_7 rfl (lv_at hl 0 rfl) ?_
    refine gfX4_9 hx hb hts hown hK hP 0 rfl rfl dX4_noteCall_8 ?_
    refine lv_iconst (v := (5 : Int32)) hx hb dX4_noteCall_11 (by decide) ?_
    refine xicmp_lt hx hb 18 dX4_noteCall_12 (by decide) hf (fun hf => ?_) (fun hf => ?_)
    · refine lv_aload_n hx hb dX4_noteCall_18 rfl (lv_at hl 0 rfl) ?_
      refine gfX4_27 hx hb hts hown hK hP 0 rfl rfl dX4_noteCall_19 ?_
      refine lv_aload_n hx hb dX4_noteCall_22 rfl (lv_at hl 0 rfl) ?_
      refine gfX4_9 hx hb hts hown hK hP 0 rfl rfl dX4_noteCall_23 ?_
      refine lv_iload_n hx hb dX4_noteCall_26 rfl (lv_at hl 1 rfl) ?_
      refine xiast hx hb hK hP hD hS 1 0 rfl rfl dX4_noteCall_27 hf (fun n_cl_27 hf H locs hP hD hS => ?_)
      have hP : va_P D vwCl (W_N_0t1 qn0 qn1 qn2 qn3 qn4 qn5 qn6 cI cJ cZ cB cT n_calls n_bord n_rep n_unl n_pay n_cl_27) H := hP
      have hD : va_D A (W_N_0t1 qn0 qn1 qn2 qn3 qn4 qn5 qn6 cI cJ cZ cB cT n_calls n_bord n_rep n_unl n_pay n_cl_27) := hD
      refine lv_aload_n hx hb dX4_noteCall_28 rfl (lv_at hl 0 rfl) ?_
      refine lv_dup hx hb dX4_noteCall_29 rfl ?_
      refine gfX4_9 hx hb hts hown hK hP 0 rfl rfl dX4_noteCall_30 ?_
      refine lv_iconst (v := (1 : Int32)) hx hb dX4_noteCall_33 (by decide) ?_
      refine lv_iadd hx hb dX4_noteCall_34 ?_
      refine pfX4_9 hx hb hts hown hK hP hD hS 0 rfl (Nat.le_of_ble_eq_true rfl) dX4_noteCall_35 (fun H locs hP hD hS => ?_)
      have hP : va_P D vwCl (W_N_0t1 qn0 qn1 qn2 qn3 qn4 qn5 qn6 cI cJ cZ cB cT (n_calls + (1 : Int32)) n_bord n_rep n_unl n_pay n_cl_27) H := hP
      have hD : va_D A (W_N_0t1 qn0 qn1 qn2 qn3 qn4 qn5 qn6 cI cJ cZ cB cT (n_calls + (1 : Int32)) n_bord n_rep n_unl n_pay n_cl_27) := hD
      refine lv_aload_n hx hb dX4_noteCall_38 rfl (lv_at hl 0 rfl) ?_
      refine gfX4_9 hx hb hts hown hK hP 0 rfl rfl dX4_noteCall_39 ?_
      cases hf
      exact mret_i hx hb hr hlocks hP hD hS dX4_noteCall_42 rfl trivial
    · refine lv_bipush (v := (-2 : Int32)) hx hb dX4_noteCall_15 (by decide) ?_
      cases hf
      exact mret_i hx hb hr hlocks hP hD hS dX4_noteCall_17 rfl trivial
theorem dX4_callLand_0 : decode cX4_callLand 0 = .ok (.iload_n 1, 1) := by decide +kernel
theorem dX4_callLand_1 : decode cX4_callLand 1 = .ok (.ifCond .lt 25, 3) := by decide +kernel
theorem dX4_callLand_4 : decode cX4_callLand 4 = .ok (.iload_n 1, 1) := by decide +kernel
theorem dX4_callLand_5 : decode cX4_callLand 5 = .ok (.aload_n 0, 1) := by decide +kernel
theorem dX4_callLand_6 : decode cX4_callLand 6 = .ok (.getfield 9, 3) := by decide +kernel
theorem dX4_callLand_9 : decode cX4_callLand 9 = .ok (.if_icmp .ge 17, 3) := by decide +kernel
theorem dX4_callLand_12 : decode cX4_callLand 12 = .ok (.iload_n 1, 1) := by decide +kernel
theorem dX4_callLand_13 : decode cX4_callLand 13 = .ok (.iconst 5, 1) := by decide +kernel
theorem dX4_callLand_14 : decode cX4_callLand 14 = .ok (.if_icmp .ge 12, 3) := by decide +kernel
theorem dX4_callLand_17 : decode cX4_callLand 17 = .ok (.aload_n 0, 1) := by decide +kernel
theorem dX4_callLand_18 : decode cX4_callLand 18 = .ok (.getfield 27, 3) := by decide +kernel
theorem dX4_callLand_21 : decode cX4_callLand 21 = .ok (.iload_n 1, 1) := by decide +kernel
theorem dX4_callLand_22 : decode cX4_callLand 22 = .ok (.iaload, 1) := by decide +kernel
theorem dX4_callLand_23 : decode cX4_callLand 23 = .ok (.goto 4, 3) := by decide +kernel
theorem dX4_callLand_26 : decode cX4_callLand 26 = .ok (.iconst (-1), 1) := by decide +kernel
theorem dX4_callLand_27 : decode cX4_callLand 27 = .ok (.ireturn, 1) := by decide +kernel
def f_X4_callLand (N : Nat) (n_calls : Int32) (n_cl : Nat → Int32) (p1 : Int32) : Option (Int32) := if p1 < 0 then (some (-1 : Int32)) else (if n_calls ≤ p1 then (some (-1 : Int32)) else (if (5 : Int32) ≤ p1 then (some (-1 : Int32)) else (gA n_cl 5 p1 fun v22 => some v22)))
set_option maxHeartbeats 4000000 in
set_option maxRecDepth 100000 in
theorem k_X4_callLand (l : Launch) (N : Nat) (D : va_G) (cI cJ cZ cB cT : ClassId) (qn0 : Nat) (qn1 : Nat) (qn2 : Nat) (qn3 : Nat) (qn4 : Nat) (qn5 : Nat) (qn6 : Nat) (n_calls : Int32) (n_bord : Int32) (n_rep : Int32) (n_unl : Int32) (n_pay : Int32) (n_cl : Nat → Int32) (p1 : Int32) (o_r : Int32) (hf : f_X4_callLand N n_calls n_cl p1 = some o_r) : ∀ sz, Met l yX4_callLand (mw yX4_callLand cX4_callLand 2 (some .int)) ({ frames := 0, cells := 0, slots := 0, locals := 0 } : Room) (mPre D (mT cI cJ cZ cB cT) (W_N_0t1 qn0 qn1 qn2 qn3 qn4 qn5 qn6 cI cJ cZ cB cT n_calls n_bord n_rep n_unl n_pay n_cl) sz [.ref qn0, .int p1]) ((mQi D (W_N_0t1 qn0 qn1 qn2 qn3 qn4 qn5 qn6 cI cJ cZ cB cT n_calls n_bord n_rep n_unl n_pay n_cl) o_r True) (va_A (W_N_0t1 qn0 qn1 qn2 qn3 qn4 qn5 qn6 cI cJ cZ cB cT n_calls n_bord n_rep n_unl n_pay n_cl) sz)) 0 0 (va_A (W_N_0t1 qn0 qn1 qn2 qn3 qn4 qn5 qn6 cI cJ cZ cB cT n_calls n_bord n_rep n_unl n_pay n_cl) sz) := by
  refine mMet (Qc := (mQi D (W_N_0t1 qn0 qn1 qn2 qn3 qn4 qn5 qn6 cI cJ cZ cB cT n_calls n_bord n_rep n_unl n_pay n_cl) o_r True)) (by decide) (Nat.le_of_ble_eq_true rfl) (fun p e s m below meth c A ls hx hb hr hml hts hown hlocks hK hA hP hD hl => ?_)
  have hown : s.vm.findClass RX4 = some m.cls := hown
  have hl : lv_has ls 2 [(0, .ref qn0), (1, .int p1)] := hl
  have hS : va_S A s.heap s.heap [] := va_S.rf
  unfold f_X4_callLand at hf
  refine lv_iload_n hx hb dX4_callLand_0 rfl (lv_at hl 1 rfl) ?_
  refine xif_lt hx hb 26 dX4_callLand_1 (by decide) hf (fun hf => ?_) (fun hf => ?_)
  · refine lv_iconst (v := (-1 : Int32)) hx hb dX4_callLand_26 (by decide) ?_
    cases hf
    exact mret_i hx hb hr hlocks hP hD hS dX4_callLand_27 rfl trivial
  · refine lv_iload_n hx hb dX4_callLand_4 rfl (lv_at hl 1 rfl) ?_
    refine lv_aload_n hx hb dX4_callLand_5 rfl (lv_at hl 0 rfl) ?_
    refine gfX4_9 hx hb hts hown hK hP 0 rfl rfl dX4_callLand_6 ?_
    refine xicmp_ge hx hb 26 dX4_callLand_9 (by decide) hf (fun hf => ?_) (fun hf => ?_)
    · refine lv_iconst (v := (-1 : Int32)) hx hb dX4_callLand_26 (by decide) ?_
      cases hf
      exact mret_i hx hb hr hlocks hP hD hS dX4_callLand_27 rfl trivial
    · refine lv_iload_n hx hb dX4_callLand_12 rfl (lv_at hl 1 rfl) ?_
      refine lv_iconst (v := (5 : Int32)) hx hb dX4_callLand_13 (by decide) ?_
      refine xicmp_ge hx hb 26 dX4_callLand_14 (by decide) hf (fun hf => ?_) (fun hf => ?_)
      · refine lv_iconst (v := (-1 : Int32)) hx hb dX4_callLand_26 (by decide) ?_
        cases hf
        exact mret_i hx hb hr hlocks hP hD hS dX4_callLand_27 rfl trivial
      · refine lv_aload_n hx hb dX4_callLand_17 rfl (lv_at hl 0 rfl) ?_
        refine gfX4_27 hx hb hts hown hK hP 0 rfl rfl dX4_callLand_18 ?_
        refine lv_iload_n hx hb dX4_callLand_21 rfl (lv_at hl 1 rfl) ?_
        refine xiald hx hb hK hP 1 0 rfl rfl dX4_callLand_22 hf (fun v22 hf => ?_)
        refine lv_goto (tgt := 27) hx hb dX4_callLand_23 (by decide) ?_
        cases hf
        exact mret_i hx hb hr hlocks hP hD hS dX4_callLand_27 rfl trivial
theorem dX4_tellReports_0 : decode cX4_tellReports 0 = .ok (.iload_n 1, 1) := by decide +kernel
theorem dX4_tellReports_1 : decode cX4_tellReports 1 = .ok (.ifCond .lt 9, 3) := by decide +kernel
theorem dX4_tellReports_4 : decode cX4_tellReports 4 = .ok (.iload_n 1, 1) := by decide +kernel
theorem dX4_tellReports_5 : decode cX4_tellReports 5 = .ok (.bipush 8, 2) := by decide +kernel
theorem dX4_tellReports_7 : decode cX4_tellReports 7 = .ok (.if_icmp .le 5, 3) := by decide +kernel
theorem dX4_tellReports_10 : decode cX4_tellReports 10 = .ok (.iconst 0, 1) := by decide +kernel
theorem dX4_tellReports_11 : decode cX4_tellReports 11 = .ok (.ireturn, 1) := by decide +kernel
theorem dX4_tellReports_12 : decode cX4_tellReports 12 = .ok (.aload_n 0, 1) := by decide +kernel
theorem dX4_tellReports_13 : decode cX4_tellReports 13 = .ok (.iload_n 1, 1) := by decide +kernel
theorem dX4_tellReports_14 : decode cX4_tellReports 14 = .ok (.putfield 18, 3) := by decide +kernel
theorem dX4_tellReports_17 : decode cX4_tellReports 17 = .ok (.aload_n 0, 1) := by decide +kernel
theorem dX4_tellReports_18 : decode cX4_tellReports 18 = .ok (.iconst 0, 1) := by decide +kernel
theorem dX4_tellReports_19 : decode cX4_tellReports 19 = .ok (.putfield 21, 3) := by decide +kernel
theorem dX4_tellReports_22 : decode cX4_tellReports 22 = .ok (.iconst 0, 1) := by decide +kernel
theorem dX4_tellReports_23 : decode cX4_tellReports 23 = .ok (.istore_n 2, 1) := by decide +kernel
theorem dX4_tellReports_24 : decode cX4_tellReports 24 = .ok (.iload_n 2, 1) := by decide +kernel
theorem dX4_tellReports_25 : decode cX4_tellReports 25 = .ok (.bipush 8, 2) := by decide +kernel
theorem dX4_tellReports_27 : decode cX4_tellReports 27 = .ok (.if_icmp .ge 16, 3) := by decide +kernel
theorem dX4_tellReports_30 : decode cX4_tellReports 30 = .ok (.aload_n 0, 1) := by decide +kernel
theorem dX4_tellReports_31 : decode cX4_tellReports 31 = .ok (.getfield 31, 3) := by decide +kernel
theorem dX4_tellReports_34 : decode cX4_tellReports 34 = .ok (.iload_n 2, 1) := by decide +kernel
theorem dX4_tellReports_35 : decode cX4_tellReports 35 = .ok (.iconst 0, 1) := by decide +kernel
theorem dX4_tellReports_36 : decode cX4_tellReports 36 = .ok (.iastore, 1) := by decide +kernel
theorem dX4_tellReports_37 : decode cX4_tellReports 37 = .ok (.iinc 2 1, 3) := by decide +kernel
theorem dX4_tellReports_40 : decode cX4_tellReports 40 = .ok (.goto (-16), 3) := by decide +kernel
theorem dX4_tellReports_43 : decode cX4_tellReports 43 = .ok (.iconst 1, 1) := by decide +kernel
theorem dX4_tellReports_44 : decode cX4_tellReports 44 = .ok (.ireturn, 1) := by decide +kernel
def f_X4_tellReports_24 (N : Nat) : Nat → Int32 → Int32 → (Nat → Int32) → Int32 → Option (Int32 × Int32 × Int32 × (Nat → Int32))
  | 0, _, _, _, _ => none
  | n + 1, n_rep, n_unl, n_ul, x2 => if (8 : Int32) ≤ x2 then (some ((1 : Int32), n_rep, n_unl, n_ul)) else (sA n_ul 8 x2 (0 : Int32) fun n_ul_36 => (f_X4_tellReports_24 N n) n_rep n_unl n_ul_36 (x2 + (1 : Int32)))
def f_X4_tellReports (N : Nat) (n_rep : Int32) (n_unl : Int32) (n_ul : Nat → Int32) (p1 : Int32) : Option (Int32 × Int32 × Int32 × (Nat → Int32)) := if p1 < 0 then (some ((0 : Int32), n_rep, n_unl, n_ul)) else (if p1 ≤ (8 : Int32) then (f_X4_tellReports_24 N N p1 (0 : Int32) n_ul (0 : Int32)) else (some ((0 : Int32), n_rep, n_unl, n_ul)))
set_option maxHeartbeats 4000000 in
set_option maxRecDepth 100000 in
theorem k_X4_tellReports (l : Launch) (N : Nat) (D : va_G) (cI cJ cZ cB cT : ClassId) (qn0 : Nat) (qn2 : Nat) (qn1 : Nat) (qn3 : Nat) (qn4 : Nat) (qn5 : Nat) (qn6 : Nat) (n_calls : Int32) (n_bord : Int32) (n_rep : Int32) (n_unl : Int32) (n_pay : Int32) (n_ul : Nat → Int32) (p1 : Int32) (o_r : Int32) (o_n_rep : Int32) (o_n_unl : Int32) (o_n_ul : Nat → Int32) (hf : f_X4_tellReports N n_rep n_unl n_ul p1 = some (o_r, o_n_rep, o_n_unl, o_n_ul)) : ∀ sz, Met l yX4_tellReports (mw yX4_tellReports cX4_tellReports 3 (some .boolean)) ({ frames := 0, cells := 0, slots := 0, locals := 0 } : Room) (mPre D (mT cI cJ cZ cB cT) (W_N_0_2 qn0 qn2 qn1 qn3 qn4 qn5 qn6 cI cJ cZ cB cT n_calls n_bord n_rep n_unl n_pay n_ul) sz [.ref qn0, .int p1]) ((mQi D (W_N_0_2 qn0 qn2 qn1 qn3 qn4 qn5 qn6 cI cJ cZ cB cT n_calls n_bord o_n_rep o_n_unl n_pay o_n_ul) o_r (mB o_r)) (va_A (W_N_0_2 qn0 qn2 qn1 qn3 qn4 qn5 qn6 cI cJ cZ cB cT n_calls n_bord n_rep n_unl n_pay n_ul) sz)) 0 0 (va_A (W_N_0_2 qn0 qn2 qn1 qn3 qn4 qn5 qn6 cI cJ cZ cB cT n_calls n_bord n_rep n_unl n_pay n_ul) sz) := by
  refine mMet (Qc := (mQi D (W_N_0_2 qn0 qn2 qn1 qn3 qn4 qn5 qn6 cI cJ cZ cB cT n_calls n_bord o_n_rep o_n_unl n_pay o_n_ul) o_r (mB o_r))) (by decide) (Nat.le_of_ble_eq_true rfl) (fun p e s m below meth c A ls hx hb hr hml hts hown hlocks hK hA hP hD hl => ?_)
  have hown : s.vm.findClass RX4 = some m.cls := hown
  have hl : lv_has ls 3 [(0, .ref qn0), (1, .int p1)] := hl
  have hS : va_S A s.heap s.heap [] := va_S.rf
  have b24 : ∀ n24 : Nat, ∀ (n_rep : Int32) (n_unl : Int32) (n_ul : Nat → Int32) (x2 : Int32) (H : Heap) (locs : List Loc) (ls : Array Slot), f_X4_tellReports_24 N n24 n_rep n_unl n_ul x2 = some (o_r, o_n_rep, o_n_unl, o_n_ul) → va_P D vwCl (W_N_0_2 qn0 qn2 qn1 qn3 qn4 qn5 qn6 cI cJ cZ cB cT n_calls n_bord n_rep n_unl n_pay n_ul) H → va_D A (W_N_0_2 qn0 qn2 qn1 qn3 qn4 qn5 qn6 cI cJ cZ cB cT n_calls n_bord n_rep n_unl n_pay n_ul) → va_S A s.heap H locs → lv_has ls 3 [(0, .ref qn0), (2, .int x2)] → W p l e ({ frames := 0, cells := 0, slots := 0, locals := 0 } : Room) s m ([.ref qn0, .int p1] : List Value).toArray below meth c H locs 0 0 (MQ below ((mQi D (W_N_0_2 qn0 qn2 qn1 qn3 qn4 qn5 qn6 cI cJ cZ cB cT n_calls n_bord o_n_rep o_n_unl n_pay o_n_ul) o_r (mB o_r)) A) ([.ref qn0, .int p1] : List Value).toArray s 0 0 A) (F0 m 24 ls []) := by
    intro n24
    induction n24 with
    | zero =>
      intro n_rep n_unl n_ul x2 H locs ls hf hP hD hS hl
      simp [f_X4_tellReports_24] at hf
    | succ n24 ih24 =>
      intro n_rep n_unl n_ul x2 H locs ls hf hP hD hS hl
      rw [f_X4_tellReports_24.eq_2] at hf
      refine lv_iload_n hx hb dX4_tellReports_24 rfl (lv_at hl 1 rfl) ?_
      refine lv_bipush (v := (8 : Int32)) hx hb dX4_tellReports_25 (by decide) ?_
      refine xicmp_ge hx hb 43 dX4_tellReports_27 (by decide) hf (fun hf => ?_) (fun hf => ?_)
      · refine lv_iconst (v := (1 : Int32)) hx hb dX4_tellReports_43 (by decide) ?_
        cases hf
        exact mret_z hx hb hr hlocks hP hD hS dX4_tellReports_44 rfl rfl
      · refine lv_aload_n hx hb dX4_tellReports_30 rfl (lv_at hl 0 rfl) ?_
        refine gfX4_31 hx hb hts hown hK hP 0 rfl rfl dX4_tellReports_31 ?_
        refine lv_iload_n hx hb dX4_tellReports_34 rfl (lv_at hl 1 rfl) ?_
        refine lv_iconst (v := (0 : Int32)) hx hb dX4_tellReports_35 (by decide) ?_
        refine xiast hx hb hK hP hD hS 1 0 rfl rfl dX4_tellReports_36 hf (fun n_ul_36 hf H locs hP hD hS => ?_)
        have hP : va_P D vwCl (W_N_0_2 qn0 qn2 qn1 qn3 qn4 qn5 qn6 cI cJ cZ cB cT n_calls n_bord n_rep n_unl n_pay n_ul_36) H := hP
        have hD : va_D A (W_N_0_2 qn0 qn2 qn1 qn3 qn4 qn5 qn6 cI cJ cZ cB cT n_calls n_bord n_rep n_unl n_pay n_ul_36) := hD
        refine lv_iinc (v := (x2 + (1 : Int32))) (lv' := [(2, .int (x2 + (1 : Int32))), (0, .ref qn0)]) hx hb dX4_tellReports_37 hl (k := 1) rfl rfl (by decide) rfl (fun ls hl => ?_)
        refine lv_goto (tgt := 24) hx hb dX4_tellReports_40 (by decide) ?_
        exact ih24 n_rep n_unl n_ul_36 (x2 + (1 : Int32)) _ _ _ hf hP hD hS (lv_sub hl [1, 0] rfl)
  unfold f_X4_tellReports at hf
  refine lv_iload_n hx hb dX4_tellReports_0 rfl (lv_at hl 1 rfl) ?_
  refine xif_lt hx hb 10 dX4_tellReports_1 (by decide) hf (fun hf => ?_) (fun hf => ?_)
  · refine lv_iconst (v := (0 : Int32)) hx hb dX4_tellReports_10 (by decide) ?_
    cases hf
    exact mret_z hx hb hr hlocks hP hD hS dX4_tellReports_11 rfl rfl
  · refine lv_iload_n hx hb dX4_tellReports_4 rfl (lv_at hl 1 rfl) ?_
    refine lv_bipush (v := (8 : Int32)) hx hb dX4_tellReports_5 (by decide) ?_
    refine xicmp_le hx hb 12 dX4_tellReports_7 (by decide) hf (fun hf => ?_) (fun hf => ?_)
    · refine lv_aload_n hx hb dX4_tellReports_12 rfl (lv_at hl 0 rfl) ?_
      refine lv_iload_n hx hb dX4_tellReports_13 rfl (lv_at hl 1 rfl) ?_
      refine pfX4_18 hx hb hts hown hK hP hD hS 0 rfl (Nat.le_of_ble_eq_true rfl) dX4_tellReports_14 (fun H locs hP hD hS => ?_)
      have hP : va_P D vwCl (W_N_0_2 qn0 qn2 qn1 qn3 qn4 qn5 qn6 cI cJ cZ cB cT n_calls n_bord p1 n_unl n_pay n_ul) H := hP
      have hD : va_D A (W_N_0_2 qn0 qn2 qn1 qn3 qn4 qn5 qn6 cI cJ cZ cB cT n_calls n_bord p1 n_unl n_pay n_ul) := hD
      refine lv_aload_n hx hb dX4_tellReports_17 rfl (lv_at hl 0 rfl) ?_
      refine lv_iconst (v := (0 : Int32)) hx hb dX4_tellReports_18 (by decide) ?_
      refine pfX4_21 hx hb hts hown hK hP hD hS 0 rfl (Nat.le_of_ble_eq_true rfl) dX4_tellReports_19 (fun H locs hP hD hS => ?_)
      have hP : va_P D vwCl (W_N_0_2 qn0 qn2 qn1 qn3 qn4 qn5 qn6 cI cJ cZ cB cT n_calls n_bord p1 (0 : Int32) n_pay n_ul) H := hP
      have hD : va_D A (W_N_0_2 qn0 qn2 qn1 qn3 qn4 qn5 qn6 cI cJ cZ cB cT n_calls n_bord p1 (0 : Int32) n_pay n_ul) := hD
      refine lv_iconst (v := (0 : Int32)) hx hb dX4_tellReports_22 (by decide) ?_
      refine lv_istore_n (lv' := [(2, .int (0 : Int32)), (0, .ref qn0), (1, .int p1)]) hx hb dX4_tellReports_23 rfl hl (by decide) rfl (fun ls hl => ?_)
      exact b24 N p1 (0 : Int32) n_ul (0 : Int32) _ _ _ hf hP hD hS (lv_sub hl [1, 0] rfl)
    · refine lv_iconst (v := (0 : Int32)) hx hb dX4_tellReports_10 (by decide) ?_
      cases hf
      exact mret_z hx hb hr hlocks hP hD hS dX4_tellReports_11 rfl rfl
theorem dX4_reported_0 : decode cX4_reported 0 = .ok (.iload_n 1, 1) := by decide +kernel
theorem dX4_reported_1 : decode cX4_reported 1 = .ok (.ifCond .lt 21, 3) := by decide +kernel
theorem dX4_reported_4 : decode cX4_reported 4 = .ok (.iload_n 1, 1) := by decide +kernel
theorem dX4_reported_5 : decode cX4_reported 5 = .ok (.aload_n 0, 1) := by decide +kernel
theorem dX4_reported_6 : decode cX4_reported 6 = .ok (.getfield 18, 3) := by decide +kernel
theorem dX4_reported_9 : decode cX4_reported 9 = .ok (.if_icmp .ge 13, 3) := by decide +kernel
theorem dX4_reported_12 : decode cX4_reported 12 = .ok (.iload_n 1, 1) := by decide +kernel
theorem dX4_reported_13 : decode cX4_reported 13 = .ok (.bipush 8, 2) := by decide +kernel
theorem dX4_reported_15 : decode cX4_reported 15 = .ok (.if_icmp .ge 7, 3) := by decide +kernel
theorem dX4_reported_18 : decode cX4_reported 18 = .ok (.iconst 1, 1) := by decide +kernel
theorem dX4_reported_19 : decode cX4_reported 19 = .ok (.goto 4, 3) := by decide +kernel
theorem dX4_reported_22 : decode cX4_reported 22 = .ok (.iconst 0, 1) := by decide +kernel
theorem dX4_reported_23 : decode cX4_reported 23 = .ok (.ireturn, 1) := by decide +kernel
def f_X4_reported (N : Nat) (n_rep : Int32) (p1 : Int32) : Option (Int32) := if p1 < 0 then (some (0 : Int32)) else (if n_rep ≤ p1 then (some (0 : Int32)) else (if (8 : Int32) ≤ p1 then (some (0 : Int32)) else (some (1 : Int32))))
set_option maxHeartbeats 4000000 in
set_option maxRecDepth 100000 in
theorem k_X4_reported (l : Launch) (N : Nat) (D : va_G) (cI cJ cZ cB cT : ClassId) (qn0 : Nat) (qn1 : Nat) (qn2 : Nat) (qn3 : Nat) (qn4 : Nat) (qn5 : Nat) (qn6 : Nat) (n_calls : Int32) (n_bord : Int32) (n_rep : Int32) (n_unl : Int32) (n_pay : Int32) (p1 : Int32) (o_r : Int32) (hf : f_X4_reported N n_rep p1 = some o_r) : ∀ sz, Met l yX4_reported (mw yX4_reported cX4_reported 2 (some .boolean)) ({ frames := 0, cells := 0, slots := 0, locals := 0 } : Room) (mPre D (mT cI cJ cZ cB cT) (W_N_0 qn0 qn1 qn2 qn3 qn4 qn5 qn6 cI cJ cZ cB cT n_calls n_bord n_rep n_unl n_pay) sz [.ref qn0, .int p1]) ((mQi D (W_N_0 qn0 qn1 qn2 qn3 qn4 qn5 qn6 cI cJ cZ cB cT n_calls n_bord n_rep n_unl n_pay) o_r (mB o_r)) (va_A (W_N_0 qn0 qn1 qn2 qn3 qn4 qn5 qn6 cI cJ cZ cB cT n_calls n_bord n_rep n_unl n_pay) sz)) 0 0 (va_A (W_N_0 qn0 qn1 qn2 qn3 qn4 qn5 qn6 cI cJ cZ cB cT n_calls n_bord n_rep n_unl n_pay) sz) := by
  refine mMet (Qc := (mQi D (W_N_0 qn0 qn1 qn2 qn3 qn4 qn5 qn6 cI cJ cZ cB cT n_calls n_bord n_rep n_unl n_pay) o_r (mB o_r))) (by decide) (Nat.le_of_ble_eq_true rfl) (fun p e s m below meth c A ls hx hb hr hml hts hown hlocks hK hA hP hD hl => ?_)
  have hown : s.vm.findClass RX4 = some m.cls := hown
  have hl : lv_has ls 2 [(0, .ref qn0), (1, .int p1)] := hl
  have hS : va_S A s.heap s.heap [] := va_S.rf
  unfold f_X4_reported at hf
  refine lv_iload_n hx hb dX4_reported_0 rfl (lv_at hl 1 rfl) ?_
  refine xif_lt hx hb 22 dX4_reported_1 (by decide) hf (fun hf => ?_) (fun hf => ?_)
  · refine lv_iconst (v := (0 : Int32)) hx hb dX4_reported_22 (by decide) ?_
    cases hf
    exact mret_z hx hb hr hlocks hP hD hS dX4_reported_23 rfl rfl
  · refine lv_iload_n hx hb dX4_reported_4 rfl (lv_at hl 1 rfl) ?_
    refine lv_aload_n hx hb dX4_reported_5 rfl (lv_at hl 0 rfl) ?_
    refine gfX4_18 hx hb hts hown hK hP 0 rfl rfl dX4_reported_6 ?_
    refine xicmp_ge hx hb 22 dX4_reported_9 (by decide) hf (fun hf => ?_) (fun hf => ?_)
    · refine lv_iconst (v := (0 : Int32)) hx hb dX4_reported_22 (by decide) ?_
      cases hf
      exact mret_z hx hb hr hlocks hP hD hS dX4_reported_23 rfl rfl
    · refine lv_iload_n hx hb dX4_reported_12 rfl (lv_at hl 1 rfl) ?_
      refine lv_bipush (v := (8 : Int32)) hx hb dX4_reported_13 (by decide) ?_
      refine xicmp_ge hx hb 22 dX4_reported_15 (by decide) hf (fun hf => ?_) (fun hf => ?_)
      · refine lv_iconst (v := (0 : Int32)) hx hb dX4_reported_22 (by decide) ?_
        cases hf
        exact mret_z hx hb hr hlocks hP hD hS dX4_reported_23 rfl rfl
      · refine lv_iconst (v := (1 : Int32)) hx hb dX4_reported_18 (by decide) ?_
        refine lv_goto (tgt := 23) hx hb dX4_reported_19 (by decide) ?_
        cases hf
        exact mret_z hx hb hr hlocks hP hD hS dX4_reported_23 rfl rfl
theorem dX4_tellUnlike_0 : decode cX4_tellUnlike 0 = .ok (.aload_n 0, 1) := by decide +kernel
theorem dX4_tellUnlike_1 : decode cX4_tellUnlike 1 = .ok (.iload_n 1, 1) := by decide +kernel
theorem dX4_tellUnlike_2 : decode cX4_tellUnlike 2 = .ok (.invokevirtual 52, 3) := by decide +kernel
theorem dX4_tellUnlike_5 : decode cX4_tellUnlike 5 = .ok (.ifCond .eq 25, 3) := by decide +kernel
theorem dX4_tellUnlike_8 : decode cX4_tellUnlike 8 = .ok (.aload_n 0, 1) := by decide +kernel
theorem dX4_tellUnlike_9 : decode cX4_tellUnlike 9 = .ok (.iload_n 2, 1) := by decide +kernel
theorem dX4_tellUnlike_10 : decode cX4_tellUnlike 10 = .ok (.invokevirtual 52, 3) := by decide +kernel
theorem dX4_tellUnlike_13 : decode cX4_tellUnlike 13 = .ok (.ifCond .eq 17, 3) := by decide +kernel
theorem dX4_tellUnlike_16 : decode cX4_tellUnlike 16 = .ok (.iload_n 1, 1) := by decide +kernel
theorem dX4_tellUnlike_17 : decode cX4_tellUnlike 17 = .ok (.iload_n 2, 1) := by decide +kernel
theorem dX4_tellUnlike_18 : decode cX4_tellUnlike 18 = .ok (.if_icmp .eq 12, 3) := by decide +kernel
theorem dX4_tellUnlike_21 : decode cX4_tellUnlike 21 = .ok (.aload_n 0, 1) := by decide +kernel
theorem dX4_tellUnlike_22 : decode cX4_tellUnlike 22 = .ok (.getfield 21, 3) := by decide +kernel
theorem dX4_tellUnlike_25 : decode cX4_tellUnlike 25 = .ok (.bipush 8, 2) := by decide +kernel
theorem dX4_tellUnlike_27 : decode cX4_tellUnlike 27 = .ok (.if_icmp .lt 6, 3) := by decide +kernel
theorem dX4_tellUnlike_30 : decode cX4_tellUnlike 30 = .ok (.bipush (-2), 2) := by decide +kernel
theorem dX4_tellUnlike_32 : decode cX4_tellUnlike 32 = .ok (.ireturn, 1) := by decide +kernel
theorem dX4_tellUnlike_33 : decode cX4_tellUnlike 33 = .ok (.aload_n 0, 1) := by decide +kernel
theorem dX4_tellUnlike_34 : decode cX4_tellUnlike 34 = .ok (.getfield 31, 3) := by decide +kernel
theorem dX4_tellUnlike_37 : decode cX4_tellUnlike 37 = .ok (.iload_n 1, 1) := by decide +kernel
theorem dX4_tellUnlike_38 : decode cX4_tellUnlike 38 = .ok (.dup2, 1) := by decide +kernel
theorem dX4_tellUnlike_39 : decode cX4_tellUnlike 39 = .ok (.iaload, 1) := by decide +kernel
theorem dX4_tellUnlike_40 : decode cX4_tellUnlike 40 = .ok (.iconst 1, 1) := by decide +kernel
theorem dX4_tellUnlike_41 : decode cX4_tellUnlike 41 = .ok (.iload_n 2, 1) := by decide +kernel
theorem dX4_tellUnlike_42 : decode cX4_tellUnlike 42 = .ok (.ishl, 1) := by decide +kernel
theorem dX4_tellUnlike_43 : decode cX4_tellUnlike 43 = .ok (.ior, 1) := by decide +kernel
theorem dX4_tellUnlike_44 : decode cX4_tellUnlike 44 = .ok (.iastore, 1) := by decide +kernel
theorem dX4_tellUnlike_45 : decode cX4_tellUnlike 45 = .ok (.aload_n 0, 1) := by decide +kernel
theorem dX4_tellUnlike_46 : decode cX4_tellUnlike 46 = .ok (.getfield 31, 3) := by decide +kernel
theorem dX4_tellUnlike_49 : decode cX4_tellUnlike 49 = .ok (.iload_n 2, 1) := by decide +kernel
theorem dX4_tellUnlike_50 : decode cX4_tellUnlike 50 = .ok (.dup2, 1) := by decide +kernel
theorem dX4_tellUnlike_51 : decode cX4_tellUnlike 51 = .ok (.iaload, 1) := by decide +kernel
theorem dX4_tellUnlike_52 : decode cX4_tellUnlike 52 = .ok (.iconst 1, 1) := by decide +kernel
theorem dX4_tellUnlike_53 : decode cX4_tellUnlike 53 = .ok (.iload_n 1, 1) := by decide +kernel
theorem dX4_tellUnlike_54 : decode cX4_tellUnlike 54 = .ok (.ishl, 1) := by decide +kernel
theorem dX4_tellUnlike_55 : decode cX4_tellUnlike 55 = .ok (.ior, 1) := by decide +kernel
theorem dX4_tellUnlike_56 : decode cX4_tellUnlike 56 = .ok (.iastore, 1) := by decide +kernel
theorem dX4_tellUnlike_57 : decode cX4_tellUnlike 57 = .ok (.aload_n 0, 1) := by decide +kernel
theorem dX4_tellUnlike_58 : decode cX4_tellUnlike 58 = .ok (.dup, 1) := by decide +kernel
theorem dX4_tellUnlike_59 : decode cX4_tellUnlike 59 = .ok (.getfield 21, 3) := by decide +kernel
theorem dX4_tellUnlike_62 : decode cX4_tellUnlike 62 = .ok (.iconst 1, 1) := by decide +kernel
theorem dX4_tellUnlike_63 : decode cX4_tellUnlike 63 = .ok (.iadd, 1) := by decide +kernel
theorem dX4_tellUnlike_64 : decode cX4_tellUnlike 64 = .ok (.putfield 21, 3) := by decide +kernel
theorem dX4_tellUnlike_67 : decode cX4_tellUnlike 67 = .ok (.aload_n 0, 1) := by decide +kernel
theorem dX4_tellUnlike_68 : decode cX4_tellUnlike 68 = .ok (.getfield 21, 3) := by decide +kernel
theorem dX4_tellUnlike_71 : decode cX4_tellUnlike 71 = .ok (.ireturn, 1) := by decide +kernel
def f_X4_tellUnlike (N : Nat) (n_rep : Int32) (n_unl : Int32) (n_ul : Nat → Int32) (p1 : Int32) (p2 : Int32) : Option (Int32 × Int32 × (Nat → Int32)) := ob1 (f_X4_reported N n_rep p1) fun r2 => if r2 = 0 then (some ((-2 : Int32), n_unl, n_ul)) else (ob1 (f_X4_reported N n_rep p2) fun r10 => if r10 = 0 then (some ((-2 : Int32), n_unl, n_ul)) else (if p1 = p2 then (some ((-2 : Int32), n_unl, n_ul)) else (if n_unl < (8 : Int32) then (gA n_ul 8 p1 fun v39 => sA n_ul 8 p1 (v39 ||| ((1 : Int32) <<< (p2 &&& 31))) fun n_ul_44 => gA n_ul_44 8 p2 fun v51 => sA n_ul_44 8 p2 (v51 ||| ((1 : Int32) <<< (p1 &&& 31))) fun n_ul_56 => some ((n_unl + (1 : Int32)), (n_unl + (1 : Int32)), n_ul_56)) else (some ((-2 : Int32), n_unl, n_ul)))))
set_option maxHeartbeats 4000000 in
set_option maxRecDepth 100000 in
theorem k_X4_tellUnlike (l : Launch) (N : Nat) (D : va_G) (cI cJ cZ cB cT : ClassId) (qn0 : Nat) (qn2 : Nat) (qn1 : Nat) (qn3 : Nat) (qn4 : Nat) (qn5 : Nat) (qn6 : Nat) (n_calls : Int32) (n_bord : Int32) (n_rep : Int32) (n_unl : Int32) (n_pay : Int32) (n_ul : Nat → Int32) (p1 : Int32) (p2 : Int32) (o_r : Int32) (o_n_unl : Int32) (o_n_ul : Nat → Int32) (hf : f_X4_tellUnlike N n_rep n_unl n_ul p1 p2 = some (o_r, o_n_unl, o_n_ul)) : ∀ sz, Met l yX4_tellUnlike (mw yX4_tellUnlike cX4_tellUnlike 3 (some .int)) ({ frames := 1, cells := 0, slots := 0, locals := 21 } : Room) (mPre D (mT cI cJ cZ cB cT) (W_N_0_2 qn0 qn2 qn1 qn3 qn4 qn5 qn6 cI cJ cZ cB cT n_calls n_bord n_rep n_unl n_pay n_ul) sz [.ref qn0, .int p1, .int p2]) ((mQi D (W_N_0_2 qn0 qn2 qn1 qn3 qn4 qn5 qn6 cI cJ cZ cB cT n_calls n_bord n_rep o_n_unl n_pay o_n_ul) o_r True) (va_A (W_N_0_2 qn0 qn2 qn1 qn3 qn4 qn5 qn6 cI cJ cZ cB cT n_calls n_bord n_rep n_unl n_pay n_ul) sz)) 0 0 (va_A (W_N_0_2 qn0 qn2 qn1 qn3 qn4 qn5 qn6 cI cJ cZ cB cT n_calls n_bord n_rep n_unl n_pay n_ul) sz) := by
  refine mMet (Qc := (mQi D (W_N_0_2 qn0 qn2 qn1 qn3 qn4 qn5 qn6 cI cJ cZ cB cT n_calls n_bord n_rep o_n_unl n_pay o_n_ul) o_r True)) (by decide) (Nat.le_of_ble_eq_true rfl) (fun p e s m below meth c A ls hx hb hr hml hts hown hlocks hK hA hP hD hl => ?_)
  have hown : s.vm.findClass RX4 = some m.cls := hown
  have hl : lv_has ls 3 [(0, .ref qn0), (1, .int p1), (2, .int p2)] := hl
  have hS : va_S A s.heap s.heap [] := va_S.rf
  unfold f_X4_tellUnlike at hf
  refine lv_aload_n hx hb dX4_tellUnlike_0 rfl (lv_at hl 0 rfl) ?_
  refine lv_iload_n hx hb dX4_tellUnlike_1 rfl (lv_at hl 1 rfl) ?_
  obtain ⟨r2, hg2, hf⟩ := ob1_some hf
  refine mcV_i (wr := [(qn2, .inl (cI, 8, .inl n_ul))]) (As := [.int p1]) (rest := []) hx hb hml hown hts hK hP hD hS hA (k_X4_reported l N D cI cJ cZ cB cT qn0 qn1 qn2 qn3 qn4 qn5 qn6 n_calls n_bord n_rep n_unl n_pay p1 r2 hg2) (kwX4_52 hts rfl rfl ⟨Nat.le_of_ble_eq_true rfl, Nat.le_of_ble_eq_true rfl⟩) [0] [1] rfl rfl rfl (by decide) rfl 0 rfl rfl rfl rfl hl.1 rfl (Nat.le_of_ble_eq_true rfl) dX4_tellUnlike_2 ⟨Nat.zero_le _, Nat.zero_le _⟩ (fun hB2 H locs hP hD hS => ?_)
  have hP := mP_sub (wc := (W_N_0_2 qn0 qn2 qn1 qn3 qn4 qn5 qn6 cI cJ cZ cB cT n_calls n_bord n_rep n_unl n_pay n_ul)) hP [1, 0] rfl
  have hD := hD.sub (ws' := (W_N_0_2 qn0 qn2 qn1 qn3 qn4 qn5 qn6 cI cJ cZ cB cT n_calls n_bord n_rep n_unl n_pay n_ul)) [1, 0] rfl rfl
  refine xif_eq hx hb 30 dX4_tellUnlike_5 (by decide) hf (fun hf => ?_) (fun hf => ?_)
  · refine lv_bipush (v := (-2 : Int32)) hx hb dX4_tellUnlike_30 (by decide) ?_
    cases hf
    exact mret_i hx hb hr hlocks hP hD hS dX4_tellUnlike_32 rfl trivial
  · refine lv_aload_n hx hb dX4_tellUnlike_8 rfl (lv_at hl 0 rfl) ?_
    refine lv_iload_n hx hb dX4_tellUnlike_9 rfl (lv_at hl 2 rfl) ?_
    obtain ⟨r10, hg10, hf⟩ := ob1_some hf
    refine mcV_i (wr := [(qn2, .inl (cI, 8, .inl n_ul))]) (As := [.int p2]) (rest := []) hx hb hml hown hts hK hP hD hS hA (k_X4_reported l N D cI cJ cZ cB cT qn0 qn1 qn2 qn3 qn4 qn5 qn6 n_calls n_bord n_rep n_unl n_pay p2 r10 hg10) (kwX4_52 hts rfl rfl ⟨Nat.le_of_ble_eq_true rfl, Nat.le_of_ble_eq_true rfl⟩) [0] [1] rfl rfl rfl (by decide) rfl 0 rfl rfl rfl rfl hl.1 rfl (Nat.le_of_ble_eq_true rfl) dX4_tellUnlike_10 ⟨Nat.zero_le _, Nat.zero_le _⟩ (fun hB10 H locs hP hD hS => ?_)
    have hP := mP_sub (wc := (W_N_0_2 qn0 qn2 qn1 qn3 qn4 qn5 qn6 cI cJ cZ cB cT n_calls n_bord n_rep n_unl n_pay n_ul)) hP [1, 0] rfl
    have hD := hD.sub (ws' := (W_N_0_2 qn0 qn2 qn1 qn3 qn4 qn5 qn6 cI cJ cZ cB cT n_calls n_bord n_rep n_unl n_pay n_ul)) [1, 0] rfl rfl
    refine xif_eq hx hb 30 dX4_tellUnlike_13 (by decide) hf (fun hf => ?_) (fun hf => ?_)
    · refine lv_bipush (v := (-2 : Int32)) hx hb dX4_tellUnlike_30 (by decide) ?_
      cases hf
      exact mret_i hx hb hr hlocks hP hD hS dX4_tellUnlike_32 rfl trivial
    · refine lv_iload_n hx hb dX4_tellUnlike_16 rfl (lv_at hl 1 rfl) ?_
      refine lv_iload_n hx hb dX4_tellUnlike_17 rfl (lv_at hl 2 rfl) ?_
      refine xicmp_eq hx hb 30 dX4_tellUnlike_18 (by decide) hf (fun hf => ?_) (fun hf => ?_)
      · refine lv_bipush (v := (-2 : Int32)) hx hb dX4_tellUnlike_30 (by decide) ?_
        cases hf
        exact mret_i hx hb hr hlocks hP hD hS dX4_tellUnlike_32 rfl trivial
      · refine lv_aload_n hx hb dX4_tellUnlike_21 rfl (lv_at hl 0 rfl) ?_
        refine gfX4_21 hx hb hts hown hK hP 0 rfl rfl dX4_tellUnlike_22 ?_
        refine lv_bipush (v := (8 : Int32)) hx hb dX4_tellUnlike_25 (by decide) ?_
        refine xicmp_lt hx hb 33 dX4_tellUnlike_27 (by decide) hf (fun hf => ?_) (fun hf => ?_)
        · refine lv_aload_n hx hb dX4_tellUnlike_33 rfl (lv_at hl 0 rfl) ?_
          refine gfX4_31 hx hb hts hown hK hP 0 rfl rfl dX4_tellUnlike_34 ?_
          refine lv_iload_n hx hb dX4_tellUnlike_37 rfl (lv_at hl 1 rfl) ?_
          refine lv_dup2_11 hx hb dX4_tellUnlike_38 rfl rfl ?_
          refine xiald hx hb hK hP 1 0 rfl rfl dX4_tellUnlike_39 hf (fun v39 hf => ?_)
          refine lv_iconst (v := (1 : Int32)) hx hb dX4_tellUnlike_40 (by decide) ?_
          refine lv_iload_n hx hb dX4_tellUnlike_41 rfl (lv_at hl 2 rfl) ?_
          refine lv_ishl hx hb dX4_tellUnlike_42 ?_
          refine lv_ior hx hb dX4_tellUnlike_43 ?_
          refine xiast hx hb hK hP hD hS 1 0 rfl rfl dX4_tellUnlike_44 hf (fun n_ul_44 hf H locs hP hD hS => ?_)
          have hP : va_P D vwCl (W_N_0_2 qn0 qn2 qn1 qn3 qn4 qn5 qn6 cI cJ cZ cB cT n_calls n_bord n_rep n_unl n_pay n_ul_44) H := hP
          have hD : va_D A (W_N_0_2 qn0 qn2 qn1 qn3 qn4 qn5 qn6 cI cJ cZ cB cT n_calls n_bord n_rep n_unl n_pay n_ul_44) := hD
          refine lv_aload_n hx hb dX4_tellUnlike_45 rfl (lv_at hl 0 rfl) ?_
          refine gfX4_31 hx hb hts hown hK hP 0 rfl rfl dX4_tellUnlike_46 ?_
          refine lv_iload_n hx hb dX4_tellUnlike_49 rfl (lv_at hl 2 rfl) ?_
          refine lv_dup2_11 hx hb dX4_tellUnlike_50 rfl rfl ?_
          refine xiald hx hb hK hP 1 0 rfl rfl dX4_tellUnlike_51 hf (fun v51 hf => ?_)
          refine lv_iconst (v := (1 : Int32)) hx hb dX4_tellUnlike_52 (by decide) ?_
          refine lv_iload_n hx hb dX4_tellUnlike_53 rfl (lv_at hl 1 rfl) ?_
          refine lv_ishl hx hb dX4_tellUnlike_54 ?_
          refine lv_ior hx hb dX4_tellUnlike_55 ?_
          refine xiast hx hb hK hP hD hS 1 0 rfl rfl dX4_tellUnlike_56 hf (fun n_ul_56 hf H locs hP hD hS => ?_)
          have hP : va_P D vwCl (W_N_0_2 qn0 qn2 qn1 qn3 qn4 qn5 qn6 cI cJ cZ cB cT n_calls n_bord n_rep n_unl n_pay n_ul_56) H := hP
          have hD : va_D A (W_N_0_2 qn0 qn2 qn1 qn3 qn4 qn5 qn6 cI cJ cZ cB cT n_calls n_bord n_rep n_unl n_pay n_ul_56) := hD
          refine lv_aload_n hx hb dX4_tellUnlike_57 rfl (lv_at hl 0 rfl) ?_
          refine lv_dup hx hb dX4_tellUnlike_58 rfl ?_
          refine gfX4_21 hx hb hts hown hK hP 0 rfl rfl dX4_tellUnlike_59 ?_
          refine lv_iconst (v := (1 : Int32)) hx hb dX4_tellUnlike_62 (by decide) ?_
          refine lv_iadd hx hb dX4_tellUnlike_63 ?_
          refine pfX4_21 hx hb hts hown hK hP hD hS 0 rfl (Nat.le_of_ble_eq_true rfl) dX4_tellUnlike_64 (fun H locs hP hD hS => ?_)
          have hP : va_P D vwCl (W_N_0_2 qn0 qn2 qn1 qn3 qn4 qn5 qn6 cI cJ cZ cB cT n_calls n_bord n_rep (n_unl + (1 : Int32)) n_pay n_ul_56) H := hP
          have hD : va_D A (W_N_0_2 qn0 qn2 qn1 qn3 qn4 qn5 qn6 cI cJ cZ cB cT n_calls n_bord n_rep (n_unl + (1 : Int32)) n_pay n_ul_56) := hD
          refine lv_aload_n hx hb dX4_tellUnlike_67 rfl (lv_at hl 0 rfl) ?_
          refine gfX4_21 hx hb hts hown hK hP 0 rfl rfl dX4_tellUnlike_68 ?_
          cases hf
          exact mret_i hx hb hr hlocks hP hD hS dX4_tellUnlike_71 rfl trivial
        · refine lv_bipush (v := (-2 : Int32)) hx hb dX4_tellUnlike_30 (by decide) ?_
          cases hf
          exact mret_i hx hb hr hlocks hP hD hS dX4_tellUnlike_32 rfl trivial
theorem dX4_fits_0 : decode cX4_fits 0 = .ok (.iconst 0, 1) := by decide +kernel
theorem dX4_fits_1 : decode cX4_fits 1 = .ok (.istore_n 3, 1) := by decide +kernel
theorem dX4_fits_2 : decode cX4_fits 2 = .ok (.iload_n 3, 1) := by decide +kernel
theorem dX4_fits_3 : decode cX4_fits 3 = .ok (.iload_n 1, 1) := by decide +kernel
theorem dX4_fits_4 : decode cX4_fits 4 = .ok (.if_icmp .ge 35, 3) := by decide +kernel
theorem dX4_fits_7 : decode cX4_fits 7 = .ok (.aload_n 0, 1) := by decide +kernel
theorem dX4_fits_8 : decode cX4_fits 8 = .ok (.getfield 34, 3) := by decide +kernel
theorem dX4_fits_11 : decode cX4_fits 11 = .ok (.iload_n 3, 1) := by decide +kernel
theorem dX4_fits_12 : decode cX4_fits 12 = .ok (.iaload, 1) := by decide +kernel
theorem dX4_fits_13 : decode cX4_fits 13 = .ok (.iload_n 2, 1) := by decide +kernel
theorem dX4_fits_14 : decode cX4_fits 14 = .ok (.if_icmp .ne 19, 3) := by decide +kernel
theorem dX4_fits_17 : decode cX4_fits 17 = .ok (.aload_n 0, 1) := by decide +kernel
theorem dX4_fits_18 : decode cX4_fits 18 = .ok (.getfield 31, 3) := by decide +kernel
theorem dX4_fits_21 : decode cX4_fits 21 = .ok (.iload_n 3, 1) := by decide +kernel
theorem dX4_fits_22 : decode cX4_fits 22 = .ok (.iaload, 1) := by decide +kernel
theorem dX4_fits_23 : decode cX4_fits 23 = .ok (.iload_n 1, 1) := by decide +kernel
theorem dX4_fits_24 : decode cX4_fits 24 = .ok (.ishr, 1) := by decide +kernel
theorem dX4_fits_25 : decode cX4_fits 25 = .ok (.iconst 1, 1) := by decide +kernel
theorem dX4_fits_26 : decode cX4_fits 26 = .ok (.iand, 1) := by decide +kernel
theorem dX4_fits_27 : decode cX4_fits 27 = .ok (.iconst 1, 1) := by decide +kernel
theorem dX4_fits_28 : decode cX4_fits 28 = .ok (.if_icmp .ne 5, 3) := by decide +kernel
theorem dX4_fits_31 : decode cX4_fits 31 = .ok (.iconst 0, 1) := by decide +kernel
theorem dX4_fits_32 : decode cX4_fits 32 = .ok (.ireturn, 1) := by decide +kernel
theorem dX4_fits_33 : decode cX4_fits 33 = .ok (.iinc 3 1, 3) := by decide +kernel
theorem dX4_fits_36 : decode cX4_fits 36 = .ok (.goto (-34), 3) := by decide +kernel
theorem dX4_fits_39 : decode cX4_fits 39 = .ok (.iconst 1, 1) := by decide +kernel
theorem dX4_fits_40 : decode cX4_fits 40 = .ok (.ireturn, 1) := by decide +kernel
def f_X4_fits_33 (N : Nat) (k_2 : (Nat → Int32) → (Nat → Int32) → Int32 → Int32 → Int32 → Option (Int32)) (n_ul : Nat → Int32) (n_ow : Nat → Int32) (x1 : Int32) (x2 : Int32) (x3 : Int32) : Option (Int32) := k_2 n_ul n_ow x1 x2 (x3 + (1 : Int32))
def f_X4_fits_2 (N : Nat) : Nat → (Nat → Int32) → (Nat → Int32) → Int32 → Int32 → Int32 → Option (Int32)
  | 0, _, _, _, _, _ => none
  | n + 1, n_ul, n_ow, x1, x2, x3 => if x1 ≤ x3 then (some (1 : Int32)) else (gA n_ow 8 x3 fun v12 => if v12 = x2 then (gA n_ul 8 x3 fun v22 => if ((v22 >>> (x1 &&& 31)) &&& (1 : Int32)) = (1 : Int32) then (some (0 : Int32)) else (f_X4_fits_33 N (f_X4_fits_2 N n) n_ul n_ow x1 x2 x3)) else (f_X4_fits_33 N (f_X4_fits_2 N n) n_ul n_ow x1 x2 x3))
def f_X4_fits (N : Nat) (n_ul : Nat → Int32) (n_ow : Nat → Int32) (p1 : Int32) (p2 : Int32) : Option (Int32) := f_X4_fits_2 N N n_ul n_ow p1 p2 (0 : Int32)
set_option maxHeartbeats 4000000 in
set_option maxRecDepth 100000 in
theorem k_X4_fits (l : Launch) (N : Nat) (D : va_G) (cI cJ cZ cB cT : ClassId) (qn0 : Nat) (qn2 : Nat) (qn3 : Nat) (qn1 : Nat) (qn4 : Nat) (qn5 : Nat) (qn6 : Nat) (n_calls : Int32) (n_bord : Int32) (n_rep : Int32) (n_unl : Int32) (n_pay : Int32) (n_ul : Nat → Int32) (n_ow : Nat → Int32) (p1 : Int32) (p2 : Int32) (o_r : Int32) (hf : f_X4_fits N n_ul n_ow p1 p2 = some o_r) : ∀ sz, Met l yX4_fits (mw yX4_fits cX4_fits 4 (some .boolean)) ({ frames := 0, cells := 0, slots := 0, locals := 0 } : Room) (mPre D (mT cI cJ cZ cB cT) (W_N_0_2t3 qn0 qn2 qn3 qn1 qn4 qn5 qn6 cI cJ cZ cB cT n_calls n_bord n_rep n_unl n_pay n_ul n_ow) sz [.ref qn0, .int p1, .int p2]) ((mQi D (W_N_0_2t3 qn0 qn2 qn3 qn1 qn4 qn5 qn6 cI cJ cZ cB cT n_calls n_bord n_rep n_unl n_pay n_ul n_ow) o_r (mB o_r)) (va_A (W_N_0_2t3 qn0 qn2 qn3 qn1 qn4 qn5 qn6 cI cJ cZ cB cT n_calls n_bord n_rep n_unl n_pay n_ul n_ow) sz)) 0 0 (va_A (W_N_0_2t3 qn0 qn2 qn3 qn1 qn4 qn5 qn6 cI cJ cZ cB cT n_calls n_bord n_rep n_unl n_pay n_ul n_ow) sz) := by
  refine mMet (Qc := (mQi D (W_N_0_2t3 qn0 qn2 qn3 qn1 qn4 qn5 qn6 cI cJ cZ cB cT n_calls n_bord n_rep n_unl n_pay n_ul n_ow) o_r (mB o_r))) (by decide) (Nat.le_of_ble_eq_true rfl) (fun p e s m below meth c A ls hx hb hr hml hts hown hlocks hK hA hP hD hl => ?_)
  have hown : s.vm.findClass RX4 = some m.cls := hown
  have hl : lv_has ls 4 [(0, .ref qn0), (1, .int p1), (2, .int p2)] := hl
  have hS : va_S A s.heap s.heap [] := va_S.rf
  have b2 : ∀ n2 : Nat, ∀ (x1 : Int32) (x2 : Int32) (x3 : Int32) (H : Heap) (locs : List Loc) (ls : Array Slot), f_X4_fits_2 N n2 n_ul n_ow x1 x2 x3 = some o_r → va_P D vwCl (W_N_0_2t3 qn0 qn2 qn3 qn1 qn4 qn5 qn6 cI cJ cZ cB cT n_calls n_bord n_rep n_unl n_pay n_ul n_ow) H → va_D A (W_N_0_2t3 qn0 qn2 qn3 qn1 qn4 qn5 qn6 cI cJ cZ cB cT n_calls n_bord n_rep n_unl n_pay n_ul n_ow) → va_S A s.heap H locs → lv_has ls 4 [(0, .ref qn0), (1, .int x1), (2, .int x2), (3, .int x3)] → W p l e ({ frames := 0, cells := 0, slots := 0, locals := 0 } : Room) s m ([.ref qn0, .int p1, .int p2] : List Value).toArray below meth c H locs 0 0 (MQ below ((mQi D (W_N_0_2t3 qn0 qn2 qn3 qn1 qn4 qn5 qn6 cI cJ cZ cB cT n_calls n_bord n_rep n_unl n_pay n_ul n_ow) o_r (mB o_r)) A) ([.ref qn0, .int p1, .int p2] : List Value).toArray s 0 0 A) (F0 m 2 ls []) := by
    intro n2
    induction n2 with
    | zero =>
      intro x1 x2 x3 H locs ls hf hP hD hS hl
      simp [f_X4_fits_2] at hf
    | succ n2 ih2 =>
      have b33 : ∀ (x1 : Int32) (x2 : Int32) (x3 : Int32) (H : Heap) (locs : List Loc) (ls : Array Slot), f_X4_fits_33 N (f_X4_fits_2 N n2) n_ul n_ow x1 x2 x3 = some o_r → va_P D vwCl (W_N_0_2t3 qn0 qn2 qn3 qn1 qn4 qn5 qn6 cI cJ cZ cB cT n_calls n_bord n_rep n_unl n_pay n_ul n_ow) H → va_D A (W_N_0_2t3 qn0 qn2 qn3 qn1 qn4 qn5 qn6 cI cJ cZ cB cT n_calls n_bord n_rep n_unl n_pay n_ul n_ow) → va_S A s.heap H locs → lv_has ls 4 [(0, .ref qn0), (1, .int x1), (2, .int x2), (3, .int x3)] → W p l e ({ frames := 0, cells := 0, slots := 0, locals := 0 } : Room) s m ([.ref qn0, .int p1, .int p2] : List Value).toArray below meth c H locs 0 0 (MQ below ((mQi D (W_N_0_2t3 qn0 qn2 qn3 qn1 qn4 qn5 qn6 cI cJ cZ cB cT n_calls n_bord n_rep n_unl n_pay n_ul n_ow) o_r (mB o_r)) A) ([.ref qn0, .int p1, .int p2] : List Value).toArray s 0 0 A) (F0 m 33 ls []) := by
        intro x1 x2 x3 H locs ls hf hP hD hS hl
        unfold f_X4_fits_33 at hf
        refine lv_iinc (v := (x3 + (1 : Int32))) (lv' := [(3, .int (x3 + (1 : Int32))), (0, .ref qn0), (1, .int x1), (2, .int x2)]) hx hb dX4_fits_33 hl (k := 3) rfl rfl (by decide) rfl (fun ls hl => ?_)
        refine lv_goto (tgt := 2) hx hb dX4_fits_36 (by decide) ?_
        exact ih2 x1 x2 (x3 + (1 : Int32)) _ _ _ hf hP hD hS (lv_sub hl [1, 2, 3, 0] rfl)
      intro x1 x2 x3 H locs ls hf hP hD hS hl
      rw [f_X4_fits_2.eq_2] at hf
      refine lv_iload_n hx hb dX4_fits_2 rfl (lv_at hl 3 rfl) ?_
      refine lv_iload_n hx hb dX4_fits_3 rfl (lv_at hl 1 rfl) ?_
      refine xicmp_ge hx hb 39 dX4_fits_4 (by decide) hf (fun hf => ?_) (fun hf => ?_)
      · refine lv_iconst (v := (1 : Int32)) hx hb dX4_fits_39 (by decide) ?_
        cases hf
        exact mret_z hx hb hr hlocks hP hD hS dX4_fits_40 rfl rfl
      · refine lv_aload_n hx hb dX4_fits_7 rfl (lv_at hl 0 rfl) ?_
        refine gfX4_34 hx hb hts hown hK hP 0 rfl rfl dX4_fits_8 ?_
        refine lv_iload_n hx hb dX4_fits_11 rfl (lv_at hl 3 rfl) ?_
        refine xiald hx hb hK hP 2 0 rfl rfl dX4_fits_12 hf (fun v12 hf => ?_)
        refine lv_iload_n hx hb dX4_fits_13 rfl (lv_at hl 2 rfl) ?_
        refine xicmp_ne hx hb 33 dX4_fits_14 (by decide) hf (fun hf => ?_) (fun hf => ?_)
        · refine lv_aload_n hx hb dX4_fits_17 rfl (lv_at hl 0 rfl) ?_
          refine gfX4_31 hx hb hts hown hK hP 0 rfl rfl dX4_fits_18 ?_
          refine lv_iload_n hx hb dX4_fits_21 rfl (lv_at hl 3 rfl) ?_
          refine xiald hx hb hK hP 1 0 rfl rfl dX4_fits_22 hf (fun v22 hf => ?_)
          refine lv_iload_n hx hb dX4_fits_23 rfl (lv_at hl 1 rfl) ?_
          refine lv_ishr hx hb dX4_fits_24 ?_
          refine lv_iconst (v := (1 : Int32)) hx hb dX4_fits_25 (by decide) ?_
          refine lv_iand hx hb dX4_fits_26 ?_
          refine lv_iconst (v := (1 : Int32)) hx hb dX4_fits_27 (by decide) ?_
          refine xicmp_ne hx hb 33 dX4_fits_28 (by decide) hf (fun hf => ?_) (fun hf => ?_)
          · refine lv_iconst (v := (0 : Int32)) hx hb dX4_fits_31 (by decide) ?_
            cases hf
            exact mret_z hx hb hr hlocks hP hD hS dX4_fits_32 rfl rfl
          · exact b33 x1 x2 x3 _ _ _ hf hP hD hS (lv_sub hl [0, 1, 2, 3] rfl)
        · exact b33 x1 x2 x3 _ _ _ hf hP hD hS (lv_sub hl [0, 1, 2, 3] rfl)
  unfold f_X4_fits at hf
  refine lv_iconst (v := (0 : Int32)) hx hb dX4_fits_0 (by decide) ?_
  refine lv_istore_n (lv' := [(3, .int (0 : Int32)), (0, .ref qn0), (1, .int p1), (2, .int p2)]) hx hb dX4_fits_1 rfl hl (by decide) rfl (fun ls hl => ?_)
  exact b2 N p1 p2 (0 : Int32) _ _ _ hf hP hD hS (lv_sub hl [1, 2, 3, 0] rfl)
theorem dX4_headOf_0 : decode cX4_headOf 0 = .ok (.aload_n 0, 1) := by decide +kernel
theorem dX4_headOf_1 : decode cX4_headOf 1 = .ok (.iload_n 1, 1) := by decide +kernel
theorem dX4_headOf_2 : decode cX4_headOf 2 = .ok (.invokevirtual 52, 3) := by decide +kernel
theorem dX4_headOf_5 : decode cX4_headOf 5 = .ok (.ifCond .eq 12, 3) := by decide +kernel
theorem dX4_headOf_8 : decode cX4_headOf 8 = .ok (.aload_n 0, 1) := by decide +kernel
theorem dX4_headOf_9 : decode cX4_headOf 9 = .ok (.getfield 34, 3) := by decide +kernel
theorem dX4_headOf_12 : decode cX4_headOf 12 = .ok (.iload_n 1, 1) := by decide +kernel
theorem dX4_headOf_13 : decode cX4_headOf 13 = .ok (.iaload, 1) := by decide +kernel
theorem dX4_headOf_14 : decode cX4_headOf 14 = .ok (.goto 5, 3) := by decide +kernel
theorem dX4_headOf_17 : decode cX4_headOf 17 = .ok (.bipush (-2), 2) := by decide +kernel
theorem dX4_headOf_19 : decode cX4_headOf 19 = .ok (.ireturn, 1) := by decide +kernel
def f_X4_headOf (N : Nat) (n_rep : Int32) (n_ow : Nat → Int32) (p1 : Int32) : Option (Int32) := ob1 (f_X4_reported N n_rep p1) fun r2 => if r2 = 0 then (some (-2 : Int32)) else (gA n_ow 8 p1 fun v13 => some v13)
set_option maxHeartbeats 4000000 in
set_option maxRecDepth 100000 in
theorem k_X4_headOf (l : Launch) (N : Nat) (D : va_G) (cI cJ cZ cB cT : ClassId) (qn0 : Nat) (qn3 : Nat) (qn1 : Nat) (qn2 : Nat) (qn4 : Nat) (qn5 : Nat) (qn6 : Nat) (n_calls : Int32) (n_bord : Int32) (n_rep : Int32) (n_unl : Int32) (n_pay : Int32) (n_ow : Nat → Int32) (p1 : Int32) (o_r : Int32) (hf : f_X4_headOf N n_rep n_ow p1 = some o_r) : ∀ sz, Met l yX4_headOf (mw yX4_headOf cX4_headOf 2 (some .int)) ({ frames := 1, cells := 0, slots := 0, locals := 21 } : Room) (mPre D (mT cI cJ cZ cB cT) (W_N_0_3 qn0 qn3 qn1 qn2 qn4 qn5 qn6 cI cJ cZ cB cT n_calls n_bord n_rep n_unl n_pay n_ow) sz [.ref qn0, .int p1]) ((mQi D (W_N_0_3 qn0 qn3 qn1 qn2 qn4 qn5 qn6 cI cJ cZ cB cT n_calls n_bord n_rep n_unl n_pay n_ow) o_r True) (va_A (W_N_0_3 qn0 qn3 qn1 qn2 qn4 qn5 qn6 cI cJ cZ cB cT n_calls n_bord n_rep n_unl n_pay n_ow) sz)) 0 0 (va_A (W_N_0_3 qn0 qn3 qn1 qn2 qn4 qn5 qn6 cI cJ cZ cB cT n_calls n_bord n_rep n_unl n_pay n_ow) sz) := by
  refine mMet (Qc := (mQi D (W_N_0_3 qn0 qn3 qn1 qn2 qn4 qn5 qn6 cI cJ cZ cB cT n_calls n_bord n_rep n_unl n_pay n_ow) o_r True)) (by decide) (Nat.le_of_ble_eq_true rfl) (fun p e s m below meth c A ls hx hb hr hml hts hown hlocks hK hA hP hD hl => ?_)
  have hown : s.vm.findClass RX4 = some m.cls := hown
  have hl : lv_has ls 2 [(0, .ref qn0), (1, .int p1)] := hl
  have hS : va_S A s.heap s.heap [] := va_S.rf
  unfold f_X4_headOf at hf
  refine lv_aload_n hx hb dX4_headOf_0 rfl (lv_at hl 0 rfl) ?_
  refine lv_iload_n hx hb dX4_headOf_1 rfl (lv_at hl 1 rfl) ?_
  obtain ⟨r2, hg2, hf⟩ := ob1_some hf
  refine mcV_i (wr := [(qn3, .inl (cI, 8, .inl n_ow))]) (As := [.int p1]) (rest := []) hx hb hml hown hts hK hP hD hS hA (k_X4_reported l N D cI cJ cZ cB cT qn0 qn1 qn2 qn3 qn4 qn5 qn6 n_calls n_bord n_rep n_unl n_pay p1 r2 hg2) (kwX4_52 hts rfl rfl ⟨Nat.le_of_ble_eq_true rfl, Nat.le_of_ble_eq_true rfl⟩) [0] [1] rfl rfl rfl (by decide) rfl 0 rfl rfl rfl rfl hl.1 rfl (Nat.le_of_ble_eq_true rfl) dX4_headOf_2 ⟨Nat.zero_le _, Nat.zero_le _⟩ (fun hB2 H locs hP hD hS => ?_)
  have hP := mP_sub (wc := (W_N_0_3 qn0 qn3 qn1 qn2 qn4 qn5 qn6 cI cJ cZ cB cT n_calls n_bord n_rep n_unl n_pay n_ow)) hP [1, 0] rfl
  have hD := hD.sub (ws' := (W_N_0_3 qn0 qn3 qn1 qn2 qn4 qn5 qn6 cI cJ cZ cB cT n_calls n_bord n_rep n_unl n_pay n_ow)) [1, 0] rfl rfl
  refine xif_eq hx hb 17 dX4_headOf_5 (by decide) hf (fun hf => ?_) (fun hf => ?_)
  · refine lv_bipush (v := (-2 : Int32)) hx hb dX4_headOf_17 (by decide) ?_
    cases hf
    exact mret_i hx hb hr hlocks hP hD hS dX4_headOf_19 rfl trivial
  · refine lv_aload_n hx hb dX4_headOf_8 rfl (lv_at hl 0 rfl) ?_
    refine gfX4_34 hx hb hts hown hK hP 0 rfl rfl dX4_headOf_9 ?_
    refine lv_iload_n hx hb dX4_headOf_12 rfl (lv_at hl 1 rfl) ?_
    refine xiald hx hb hK hP 1 0 rfl rfl dX4_headOf_13 hf (fun v13 hf => ?_)
    refine lv_goto (tgt := 19) hx hb dX4_headOf_14 (by decide) ?_
    cases hf
    exact mret_i hx hb hr hlocks hP hD hS dX4_headOf_19 rfl trivial
theorem dX4_tellGain_0 : decode cX4_tellGain 0 = .ok (.iload 4, 2) := by decide +kernel
theorem dX4_tellGain_2 : decode cX4_tellGain 2 = .ok (.ifCond .lt 10, 3) := by decide +kernel
theorem dX4_tellGain_5 : decode cX4_tellGain 5 = .ok (.iload 4, 2) := by decide +kernel
theorem dX4_tellGain_7 : decode cX4_tellGain 7 = .ok (.bipush 99, 2) := by decide +kernel
theorem dX4_tellGain_9 : decode cX4_tellGain 9 = .ok (.if_icmp .le 5, 3) := by decide +kernel
theorem dX4_tellGain_12 : decode cX4_tellGain 12 = .ok (.iconst 0, 1) := by decide +kernel
theorem dX4_tellGain_13 : decode cX4_tellGain 13 = .ok (.ireturn, 1) := by decide +kernel
theorem dX4_tellGain_14 : decode cX4_tellGain 14 = .ok (.aload_n 0, 1) := by decide +kernel
theorem dX4_tellGain_15 : decode cX4_tellGain 15 = .ok (.getfield 37, 3) := by decide +kernel
theorem dX4_tellGain_18 : decode cX4_tellGain 18 = .ok (.iload_n 1, 1) := by decide +kernel
theorem dX4_tellGain_19 : decode cX4_tellGain 19 = .ok (.ifCond .eq 7, 3) := by decide +kernel
theorem dX4_tellGain_22 : decode cX4_tellGain 22 = .ok (.iconst 4, 1) := by decide +kernel
theorem dX4_tellGain_23 : decode cX4_tellGain 23 = .ok (.goto 4, 3) := by decide +kernel
theorem dX4_tellGain_26 : decode cX4_tellGain 26 = .ok (.iconst 0, 1) := by decide +kernel
theorem dX4_tellGain_27 : decode cX4_tellGain 27 = .ok (.iload_n 2, 1) := by decide +kernel
theorem dX4_tellGain_28 : decode cX4_tellGain 28 = .ok (.iconst 1, 1) := by decide +kernel
theorem dX4_tellGain_29 : decode cX4_tellGain 29 = .ok (.iand, 1) := by decide +kernel
theorem dX4_tellGain_30 : decode cX4_tellGain 30 = .ok (.iconst 2, 1) := by decide +kernel
theorem dX4_tellGain_31 : decode cX4_tellGain 31 = .ok (.imul, 1) := by decide +kernel
theorem dX4_tellGain_32 : decode cX4_tellGain 32 = .ok (.iadd, 1) := by decide +kernel
theorem dX4_tellGain_33 : decode cX4_tellGain 33 = .ok (.iload_n 3, 1) := by decide +kernel
theorem dX4_tellGain_34 : decode cX4_tellGain 34 = .ok (.iconst 1, 1) := by decide +kernel
theorem dX4_tellGain_35 : decode cX4_tellGain 35 = .ok (.iand, 1) := by decide +kernel
theorem dX4_tellGain_36 : decode cX4_tellGain 36 = .ok (.iadd, 1) := by decide +kernel
theorem dX4_tellGain_37 : decode cX4_tellGain 37 = .ok (.iload 4, 2) := by decide +kernel
theorem dX4_tellGain_39 : decode cX4_tellGain 39 = .ok (.iastore, 1) := by decide +kernel
theorem dX4_tellGain_40 : decode cX4_tellGain 40 = .ok (.iconst 1, 1) := by decide +kernel
theorem dX4_tellGain_41 : decode cX4_tellGain 41 = .ok (.ireturn, 1) := by decide +kernel
def f_X4_tellGain_27 (N : Nat) (n_ga : Nat → Int32) (x2 : Int32) (x3 : Int32) (x4 : Int32) (s1 : Int32) : Option (Int32 × (Nat → Int32)) := sA n_ga 8 ((s1 + ((x2 &&& (1 : Int32)) * (2 : Int32))) + (x3 &&& (1 : Int32))) x4 fun n_ga_39 => some ((1 : Int32), n_ga_39)
def f_X4_tellGain (N : Nat) (n_ga : Nat → Int32) (p1 : Int32) (p2 : Int32) (p3 : Int32) (p4 : Int32) : Option (Int32 × (Nat → Int32)) := if p4 < 0 then (some ((0 : Int32), n_ga)) else (if p4 ≤ (99 : Int32) then (if p1 = 0 then (f_X4_tellGain_27 N n_ga p2 p3 p4 (0 : Int32)) else (f_X4_tellGain_27 N n_ga p2 p3 p4 (4 : Int32))) else (some ((0 : Int32), n_ga)))
set_option maxHeartbeats 4000000 in
set_option maxRecDepth 100000 in
theorem k_X4_tellGain (l : Launch) (N : Nat) (D : va_G) (cI cJ cZ cB cT : ClassId) (qn0 : Nat) (qn4 : Nat) (qn1 : Nat) (qn2 : Nat) (qn3 : Nat) (qn5 : Nat) (qn6 : Nat) (n_calls : Int32) (n_bord : Int32) (n_rep : Int32) (n_unl : Int32) (n_pay : Int32) (n_ga : Nat → Int32) (p1 : Int32) (p2 : Int32) (p3 : Int32) (p4 : Int32) (o_r : Int32) (o_n_ga : Nat → Int32) (hf : f_X4_tellGain N n_ga p1 p2 p3 p4 = some (o_r, o_n_ga)) : ∀ sz, Met l yX4_tellGain (mw yX4_tellGain cX4_tellGain 5 (some .boolean)) ({ frames := 0, cells := 0, slots := 0, locals := 0 } : Room) (mPre D (mT cI cJ cZ cB cT) (W_N_0_4 qn0 qn4 qn1 qn2 qn3 qn5 qn6 cI cJ cZ cB cT n_calls n_bord n_rep n_unl n_pay n_ga) sz [.ref qn0, .int p1, .int p2, .int p3, .int p4]) ((mQi D (W_N_0_4 qn0 qn4 qn1 qn2 qn3 qn5 qn6 cI cJ cZ cB cT n_calls n_bord n_rep n_unl n_pay o_n_ga) o_r (mB o_r)) (va_A (W_N_0_4 qn0 qn4 qn1 qn2 qn3 qn5 qn6 cI cJ cZ cB cT n_calls n_bord n_rep n_unl n_pay n_ga) sz)) 0 0 (va_A (W_N_0_4 qn0 qn4 qn1 qn2 qn3 qn5 qn6 cI cJ cZ cB cT n_calls n_bord n_rep n_unl n_pay n_ga) sz) := by
  refine mMet (Qc := (mQi D (W_N_0_4 qn0 qn4 qn1 qn2 qn3 qn5 qn6 cI cJ cZ cB cT n_calls n_bord n_rep n_unl n_pay o_n_ga) o_r (mB o_r))) (by decide) (Nat.le_of_ble_eq_true rfl) (fun p e s m below meth c A ls hx hb hr hml hts hown hlocks hK hA hP hD hl => ?_)
  have hown : s.vm.findClass RX4 = some m.cls := hown
  have hl : lv_has ls 5 [(0, .ref qn0), (1, .int p1), (2, .int p2), (3, .int p3), (4, .int p4)] := hl
  have hS : va_S A s.heap s.heap [] := va_S.rf
  have b27 : ∀ (n_ga : Nat → Int32) (x2 : Int32) (x3 : Int32) (x4 : Int32) (s1 : Int32) (H : Heap) (locs : List Loc) (ls : Array Slot), f_X4_tellGain_27 N n_ga x2 x3 x4 s1 = some (o_r, o_n_ga) → va_P D vwCl (W_N_0_4 qn0 qn4 qn1 qn2 qn3 qn5 qn6 cI cJ cZ cB cT n_calls n_bord n_rep n_unl n_pay n_ga) H → va_D A (W_N_0_4 qn0 qn4 qn1 qn2 qn3 qn5 qn6 cI cJ cZ cB cT n_calls n_bord n_rep n_unl n_pay n_ga) → va_S A s.heap H locs → lv_has ls 5 [(2, .int x2), (3, .int x3), (4, .int x4)] → W p l e ({ frames := 0, cells := 0, slots := 0, locals := 0 } : Room) s m ([.ref qn0, .int p1, .int p2, .int p3, .int p4] : List Value).toArray below meth c H locs 0 0 (MQ below ((mQi D (W_N_0_4 qn0 qn4 qn1 qn2 qn3 qn5 qn6 cI cJ cZ cB cT n_calls n_bord n_rep n_unl n_pay o_n_ga) o_r (mB o_r)) A) ([.ref qn0, .int p1, .int p2, .int p3, .int p4] : List Value).toArray s 0 0 A) (F0 m 27 ls [.int s1, .ref qn4]) := by
    intro n_ga x2 x3 x4 s1 H locs ls hf hP hD hS hl
    unfold f_X4_tellGain_27 at hf
    refine lv_iload_n hx hb dX4_tellGain_27 rfl (lv_at hl 0 rfl) ?_
    refine lv_iconst (v := (1 : Int32)) hx hb dX4_tellGain_28 (by decide) ?_
    refine lv_iand hx hb dX4_tellGain_29 ?_
    refine lv_iconst (v := (2 : Int32)) hx hb dX4_tellGain_30 (by decide) ?_
    refine lv_imul hx hb dX4_tellGain_31 ?_
    refine lv_iadd hx hb dX4_tellGain_32 ?_
    refine lv_iload_n hx hb dX4_tellGain_33 rfl (lv_at hl 1 rfl) ?_
    refine lv_iconst (v := (1 : Int32)) hx hb dX4_tellGain_34 (by decide) ?_
    refine lv_iand hx hb dX4_tellGain_35 ?_
    refine lv_iadd hx hb dX4_tellGain_36 ?_
    refine lv_iload hx hb dX4_tellGain_37 (lv_at hl 2 rfl) ?_
    refine xiast hx hb hK hP hD hS 1 0 rfl rfl dX4_tellGain_39 hf (fun n_ga_39 hf H locs hP hD hS => ?_)
    have hP : va_P D vwCl (W_N_0_4 qn0 qn4 qn1 qn2 qn3 qn5 qn6 cI cJ cZ cB cT n_calls n_bord n_rep n_unl n_pay n_ga_39) H := hP
    have hD : va_D A (W_N_0_4 qn0 qn4 qn1 qn2 qn3 qn5 qn6 cI cJ cZ cB cT n_calls n_bord n_rep n_unl n_pay n_ga_39) := hD
    refine lv_iconst (v := (1 : Int32)) hx hb dX4_tellGain_40 (by decide) ?_
    cases hf
    exact mret_z hx hb hr hlocks hP hD hS dX4_tellGain_41 rfl rfl
  unfold f_X4_tellGain at hf
  refine lv_iload hx hb dX4_tellGain_0 (lv_at hl 4 rfl) ?_
  refine xif_lt hx hb 12 dX4_tellGain_2 (by decide) hf (fun hf => ?_) (fun hf => ?_)
  · refine lv_iconst (v := (0 : Int32)) hx hb dX4_tellGain_12 (by decide) ?_
    cases hf
    exact mret_z hx hb hr hlocks hP hD hS dX4_tellGain_13 rfl rfl
  · refine lv_iload hx hb dX4_tellGain_5 (lv_at hl 4 rfl) ?_
    refine lv_bipush (v := (99 : Int32)) hx hb dX4_tellGain_7 (by decide) ?_
    refine xicmp_le hx hb 14 dX4_tellGain_9 (by decide) hf (fun hf => ?_) (fun hf => ?_)
    · refine lv_aload_n hx hb dX4_tellGain_14 rfl (lv_at hl 0 rfl) ?_
      refine gfX4_37 hx hb hts hown hK hP 0 rfl rfl dX4_tellGain_15 ?_
      refine lv_iload_n hx hb dX4_tellGain_18 rfl (lv_at hl 1 rfl) ?_
      refine xif_eq hx hb 26 dX4_tellGain_19 (by decide) hf (fun hf => ?_) (fun hf => ?_)
      · refine lv_iconst (v := (0 : Int32)) hx hb dX4_tellGain_26 (by decide) ?_
        exact b27 n_ga p2 p3 p4 (0 : Int32) _ _ _ hf hP hD hS (lv_sub hl [2, 3, 4] rfl)
      · refine lv_iconst (v := (4 : Int32)) hx hb dX4_tellGain_22 (by decide) ?_
        refine lv_goto (tgt := 27) hx hb dX4_tellGain_23 (by decide) ?_
        exact b27 n_ga p2 p3 p4 (4 : Int32) _ _ _ hf hP hD hS (lv_sub hl [2, 3, 4] rfl)
    · refine lv_iconst (v := (0 : Int32)) hx hb dX4_tellGain_12 (by decide) ?_
      cases hf
      exact mret_z hx hb hr hlocks hP hD hS dX4_tellGain_13 rfl rfl
theorem dX4_gain_0 : decode cX4_gain 0 = .ok (.aload_n 0, 1) := by decide +kernel
theorem dX4_gain_1 : decode cX4_gain 1 = .ok (.getfield 37, 3) := by decide +kernel
theorem dX4_gain_4 : decode cX4_gain 4 = .ok (.iload_n 1, 1) := by decide +kernel
theorem dX4_gain_5 : decode cX4_gain 5 = .ok (.ifCond .eq 7, 3) := by decide +kernel
theorem dX4_gain_8 : decode cX4_gain 8 = .ok (.iconst 4, 1) := by decide +kernel
theorem dX4_gain_9 : decode cX4_gain 9 = .ok (.goto 4, 3) := by decide +kernel
theorem dX4_gain_12 : decode cX4_gain 12 = .ok (.iconst 0, 1) := by decide +kernel
theorem dX4_gain_13 : decode cX4_gain 13 = .ok (.iload_n 2, 1) := by decide +kernel
theorem dX4_gain_14 : decode cX4_gain 14 = .ok (.iconst 1, 1) := by decide +kernel
theorem dX4_gain_15 : decode cX4_gain 15 = .ok (.iand, 1) := by decide +kernel
theorem dX4_gain_16 : decode cX4_gain 16 = .ok (.iconst 2, 1) := by decide +kernel
theorem dX4_gain_17 : decode cX4_gain 17 = .ok (.imul, 1) := by decide +kernel
theorem dX4_gain_18 : decode cX4_gain 18 = .ok (.iadd, 1) := by decide +kernel
theorem dX4_gain_19 : decode cX4_gain 19 = .ok (.iload_n 3, 1) := by decide +kernel
theorem dX4_gain_20 : decode cX4_gain 20 = .ok (.iconst 1, 1) := by decide +kernel
theorem dX4_gain_21 : decode cX4_gain 21 = .ok (.iand, 1) := by decide +kernel
theorem dX4_gain_22 : decode cX4_gain 22 = .ok (.iadd, 1) := by decide +kernel
theorem dX4_gain_23 : decode cX4_gain 23 = .ok (.iaload, 1) := by decide +kernel
theorem dX4_gain_24 : decode cX4_gain 24 = .ok (.ireturn, 1) := by decide +kernel
def f_X4_gain_13 (N : Nat) (n_ga : Nat → Int32) (x2 : Int32) (x3 : Int32) (s1 : Int32) : Option (Int32) := gA n_ga 8 ((s1 + ((x2 &&& (1 : Int32)) * (2 : Int32))) + (x3 &&& (1 : Int32))) fun v23 => some v23
def f_X4_gain (N : Nat) (n_ga : Nat → Int32) (p1 : Int32) (p2 : Int32) (p3 : Int32) : Option (Int32) := if p1 = 0 then (f_X4_gain_13 N n_ga p2 p3 (0 : Int32)) else (f_X4_gain_13 N n_ga p2 p3 (4 : Int32))
set_option maxHeartbeats 4000000 in
set_option maxRecDepth 100000 in
theorem k_X4_gain (l : Launch) (N : Nat) (D : va_G) (cI cJ cZ cB cT : ClassId) (qn0 : Nat) (qn4 : Nat) (qn1 : Nat) (qn2 : Nat) (qn3 : Nat) (qn5 : Nat) (qn6 : Nat) (n_calls : Int32) (n_bord : Int32) (n_rep : Int32) (n_unl : Int32) (n_pay : Int32) (n_ga : Nat → Int32) (p1 : Int32) (p2 : Int32) (p3 : Int32) (o_r : Int32) (hf : f_X4_gain N n_ga p1 p2 p3 = some o_r) : ∀ sz, Met l yX4_gain (mw yX4_gain cX4_gain 4 (some .int)) ({ frames := 0, cells := 0, slots := 0, locals := 0 } : Room) (mPre D (mT cI cJ cZ cB cT) (W_N_0_4 qn0 qn4 qn1 qn2 qn3 qn5 qn6 cI cJ cZ cB cT n_calls n_bord n_rep n_unl n_pay n_ga) sz [.ref qn0, .int p1, .int p2, .int p3]) ((mQi D (W_N_0_4 qn0 qn4 qn1 qn2 qn3 qn5 qn6 cI cJ cZ cB cT n_calls n_bord n_rep n_unl n_pay n_ga) o_r True) (va_A (W_N_0_4 qn0 qn4 qn1 qn2 qn3 qn5 qn6 cI cJ cZ cB cT n_calls n_bord n_rep n_unl n_pay n_ga) sz)) 0 0 (va_A (W_N_0_4 qn0 qn4 qn1 qn2 qn3 qn5 qn6 cI cJ cZ cB cT n_calls n_bord n_rep n_unl n_pay n_ga) sz) := by
  refine mMet (Qc := (mQi D (W_N_0_4 qn0 qn4 qn1 qn2 qn3 qn5 qn6 cI cJ cZ cB cT n_calls n_bord n_rep n_unl n_pay n_ga) o_r True)) (by decide) (Nat.le_of_ble_eq_true rfl) (fun p e s m below meth c A ls hx hb hr hml hts hown hlocks hK hA hP hD hl => ?_)
  have hown : s.vm.findClass RX4 = some m.cls := hown
  have hl : lv_has ls 4 [(0, .ref qn0), (1, .int p1), (2, .int p2), (3, .int p3)] := hl
  have hS : va_S A s.heap s.heap [] := va_S.rf
  have b13 : ∀ (x2 : Int32) (x3 : Int32) (s1 : Int32) (H : Heap) (locs : List Loc) (ls : Array Slot), f_X4_gain_13 N n_ga x2 x3 s1 = some o_r → va_P D vwCl (W_N_0_4 qn0 qn4 qn1 qn2 qn3 qn5 qn6 cI cJ cZ cB cT n_calls n_bord n_rep n_unl n_pay n_ga) H → va_D A (W_N_0_4 qn0 qn4 qn1 qn2 qn3 qn5 qn6 cI cJ cZ cB cT n_calls n_bord n_rep n_unl n_pay n_ga) → va_S A s.heap H locs → lv_has ls 4 [(2, .int x2), (3, .int x3)] → W p l e ({ frames := 0, cells := 0, slots := 0, locals := 0 } : Room) s m ([.ref qn0, .int p1, .int p2, .int p3] : List Value).toArray below meth c H locs 0 0 (MQ below ((mQi D (W_N_0_4 qn0 qn4 qn1 qn2 qn3 qn5 qn6 cI cJ cZ cB cT n_calls n_bord n_rep n_unl n_pay n_ga) o_r True) A) ([.ref qn0, .int p1, .int p2, .int p3] : List Value).toArray s 0 0 A) (F0 m 13 ls [.int s1, .ref qn4]) := by
    intro x2 x3 s1 H locs ls hf hP hD hS hl
    unfold f_X4_gain_13 at hf
    refine lv_iload_n hx hb dX4_gain_13 rfl (lv_at hl 0 rfl) ?_
    refine lv_iconst (v := (1 : Int32)) hx hb dX4_gain_14 (by decide) ?_
    refine lv_iand hx hb dX4_gain_15 ?_
    refine lv_iconst (v := (2 : Int32)) hx hb dX4_gain_16 (by decide) ?_
    refine lv_imul hx hb dX4_gain_17 ?_
    refine lv_iadd hx hb dX4_gain_18 ?_
    refine lv_iload_n hx hb dX4_gain_19 rfl (lv_at hl 1 rfl) ?_
    refine lv_iconst (v := (1 : Int32)) hx hb dX4_gain_20 (by decide) ?_
    refine lv_iand hx hb dX4_gain_21 ?_
    refine lv_iadd hx hb dX4_gain_22 ?_
    refine xiald hx hb hK hP 1 0 rfl rfl dX4_gain_23 hf (fun v23 hf => ?_)
    cases hf
    exact mret_i hx hb hr hlocks hP hD hS dX4_gain_24 rfl trivial
  unfold f_X4_gain at hf
  refine lv_aload_n hx hb dX4_gain_0 rfl (lv_at hl 0 rfl) ?_
  refine gfX4_37 hx hb hts hown hK hP 0 rfl rfl dX4_gain_1 ?_
  refine lv_iload_n hx hb dX4_gain_4 rfl (lv_at hl 1 rfl) ?_
  refine xif_eq hx hb 12 dX4_gain_5 (by decide) hf (fun hf => ?_) (fun hf => ?_)
  · refine lv_iconst (v := (0 : Int32)) hx hb dX4_gain_12 (by decide) ?_
    exact b13 p2 p3 (0 : Int32) _ _ _ hf hP hD hS (lv_sub hl [2, 3] rfl)
  · refine lv_iconst (v := (4 : Int32)) hx hb dX4_gain_8 (by decide) ?_
    refine lv_goto (tgt := 13) hx hb dX4_gain_9 (by decide) ?_
    exact b13 p2 p3 (4 : Int32) _ _ _ hf hP hD hS (lv_sub hl [2, 3] rfl)
theorem dX4_calmPairs_0 : decode cX4_calmPairs 0 = .ok (.iconst 0, 1) := by decide +kernel
theorem dX4_calmPairs_1 : decode cX4_calmPairs 1 = .ok (.istore_n 1, 1) := by decide +kernel
theorem dX4_calmPairs_2 : decode cX4_calmPairs 2 = .ok (.iconst 0, 1) := by decide +kernel
theorem dX4_calmPairs_3 : decode cX4_calmPairs 3 = .ok (.istore_n 2, 1) := by decide +kernel
theorem dX4_calmPairs_4 : decode cX4_calmPairs 4 = .ok (.iload_n 2, 1) := by decide +kernel
theorem dX4_calmPairs_5 : decode cX4_calmPairs 5 = .ok (.iconst 4, 1) := by decide +kernel
theorem dX4_calmPairs_6 : decode cX4_calmPairs 6 = .ok (.if_icmp .ge 90, 3) := by decide +kernel
theorem dX4_calmPairs_9 : decode cX4_calmPairs 9 = .ok (.iload_n 2, 1) := by decide +kernel
theorem dX4_calmPairs_10 : decode cX4_calmPairs 10 = .ok (.iconst 1, 1) := by decide +kernel
theorem dX4_calmPairs_11 : decode cX4_calmPairs 11 = .ok (.iand, 1) := by decide +kernel
theorem dX4_calmPairs_12 : decode cX4_calmPairs 12 = .ok (.istore_n 3, 1) := by decide +kernel
theorem dX4_calmPairs_13 : decode cX4_calmPairs 13 = .ok (.iload_n 2, 1) := by decide +kernel
theorem dX4_calmPairs_14 : decode cX4_calmPairs 14 = .ok (.iconst 1, 1) := by decide +kernel
theorem dX4_calmPairs_15 : decode cX4_calmPairs 15 = .ok (.ishr, 1) := by decide +kernel
theorem dX4_calmPairs_16 : decode cX4_calmPairs 16 = .ok (.istore 4, 2) := by decide +kernel
theorem dX4_calmPairs_18 : decode cX4_calmPairs 18 = .ok (.aload_n 0, 1) := by decide +kernel
theorem dX4_calmPairs_19 : decode cX4_calmPairs 19 = .ok (.iconst 0, 1) := by decide +kernel
theorem dX4_calmPairs_20 : decode cX4_calmPairs 20 = .ok (.iload_n 3, 1) := by decide +kernel
theorem dX4_calmPairs_21 : decode cX4_calmPairs 21 = .ok (.iload 4, 2) := by decide +kernel
theorem dX4_calmPairs_23 : decode cX4_calmPairs 23 = .ok (.invokevirtual 70, 3) := by decide +kernel
theorem dX4_calmPairs_26 : decode cX4_calmPairs 26 = .ok (.aload_n 0, 1) := by decide +kernel
theorem dX4_calmPairs_27 : decode cX4_calmPairs 27 = .ok (.iconst 0, 1) := by decide +kernel
theorem dX4_calmPairs_28 : decode cX4_calmPairs 28 = .ok (.iconst 1, 1) := by decide +kernel
theorem dX4_calmPairs_29 : decode cX4_calmPairs 29 = .ok (.iload_n 3, 1) := by decide +kernel
theorem dX4_calmPairs_30 : decode cX4_calmPairs 30 = .ok (.isub, 1) := by decide +kernel
theorem dX4_calmPairs_31 : decode cX4_calmPairs 31 = .ok (.iload 4, 2) := by decide +kernel
theorem dX4_calmPairs_33 : decode cX4_calmPairs 33 = .ok (.invokevirtual 70, 3) := by decide +kernel
theorem dX4_calmPairs_36 : decode cX4_calmPairs 36 = .ok (.if_icmp .lt 7, 3) := by decide +kernel
theorem dX4_calmPairs_39 : decode cX4_calmPairs 39 = .ok (.iconst 1, 1) := by decide +kernel
theorem dX4_calmPairs_40 : decode cX4_calmPairs 40 = .ok (.goto 4, 3) := by decide +kernel
theorem dX4_calmPairs_43 : decode cX4_calmPairs 43 = .ok (.iconst 0, 1) := by decide +kernel
theorem dX4_calmPairs_44 : decode cX4_calmPairs 44 = .ok (.istore 5, 2) := by decide +kernel
theorem dX4_calmPairs_46 : decode cX4_calmPairs 46 = .ok (.aload_n 0, 1) := by decide +kernel
theorem dX4_calmPairs_47 : decode cX4_calmPairs 47 = .ok (.iconst 1, 1) := by decide +kernel
theorem dX4_calmPairs_48 : decode cX4_calmPairs 48 = .ok (.iload_n 3, 1) := by decide +kernel
theorem dX4_calmPairs_49 : decode cX4_calmPairs 49 = .ok (.iload 4, 2) := by decide +kernel
theorem dX4_calmPairs_51 : decode cX4_calmPairs 51 = .ok (.invokevirtual 70, 3) := by decide +kernel
theorem dX4_calmPairs_54 : decode cX4_calmPairs 54 = .ok (.aload_n 0, 1) := by decide +kernel
theorem dX4_calmPairs_55 : decode cX4_calmPairs 55 = .ok (.iconst 1, 1) := by decide +kernel
theorem dX4_calmPairs_56 : decode cX4_calmPairs 56 = .ok (.iload_n 3, 1) := by decide +kernel
theorem dX4_calmPairs_57 : decode cX4_calmPairs 57 = .ok (.iconst 1, 1) := by decide +kernel
theorem dX4_calmPairs_58 : decode cX4_calmPairs 58 = .ok (.iload 4, 2) := by decide +kernel
theorem dX4_calmPairs_60 : decode cX4_calmPairs 60 = .ok (.isub, 1) := by decide +kernel
theorem dX4_calmPairs_61 : decode cX4_calmPairs 61 = .ok (.invokevirtual 70, 3) := by decide +kernel
theorem dX4_calmPairs_64 : decode cX4_calmPairs 64 = .ok (.if_icmp .lt 7, 3) := by decide +kernel
theorem dX4_calmPairs_67 : decode cX4_calmPairs 67 = .ok (.iconst 1, 1) := by decide +kernel
theorem dX4_calmPairs_68 : decode cX4_calmPairs 68 = .ok (.goto 4, 3) := by decide +kernel
theorem dX4_calmPairs_71 : decode cX4_calmPairs 71 = .ok (.iconst 0, 1) := by decide +kernel
theorem dX4_calmPairs_72 : decode cX4_calmPairs 72 = .ok (.istore 6, 2) := by decide +kernel
theorem dX4_calmPairs_74 : decode cX4_calmPairs 74 = .ok (.iload 5, 2) := by decide +kernel
theorem dX4_calmPairs_76 : decode cX4_calmPairs 76 = .ok (.ifCond .eq 14, 3) := by decide +kernel
theorem dX4_calmPairs_79 : decode cX4_calmPairs 79 = .ok (.iload 6, 2) := by decide +kernel
theorem dX4_calmPairs_81 : decode cX4_calmPairs 81 = .ok (.ifCond .eq 9, 3) := by decide +kernel
theorem dX4_calmPairs_84 : decode cX4_calmPairs 84 = .ok (.iload_n 1, 1) := by decide +kernel
theorem dX4_calmPairs_85 : decode cX4_calmPairs 85 = .ok (.iconst 1, 1) := by decide +kernel
theorem dX4_calmPairs_86 : decode cX4_calmPairs 86 = .ok (.iload_n 2, 1) := by decide +kernel
theorem dX4_calmPairs_87 : decode cX4_calmPairs 87 = .ok (.ishl, 1) := by decide +kernel
theorem dX4_calmPairs_88 : decode cX4_calmPairs 88 = .ok (.ior, 1) := by decide +kernel
theorem dX4_calmPairs_89 : decode cX4_calmPairs 89 = .ok (.istore_n 1, 1) := by decide +kernel
theorem dX4_calmPairs_90 : decode cX4_calmPairs 90 = .ok (.iinc 2 1, 3) := by decide +kernel
theorem dX4_calmPairs_93 : decode cX4_calmPairs 93 = .ok (.goto (-89), 3) := by decide +kernel
theorem dX4_calmPairs_96 : decode cX4_calmPairs 96 = .ok (.iload_n 1, 1) := by decide +kernel
theorem dX4_calmPairs_97 : decode cX4_calmPairs 97 = .ok (.ireturn, 1) := by decide +kernel
def f_X4_calmPairs_90 (N : Nat) (k_4 : (Nat → Int32) → Int32 → Int32 → Option (Int32)) (n_ga : Nat → Int32) (x1 : Int32) (x2 : Int32) : Option (Int32) := k_4 n_ga x1 (x2 + (1 : Int32))
def f_X4_calmPairs_72 (N : Nat) (k_4 : (Nat → Int32) → Int32 → Int32 → Option (Int32)) (n_ga : Nat → Int32) (x1 : Int32) (x2 : Int32) (x5 : Int32) (s0 : Int32) : Option (Int32) := if x5 = 0 then (f_X4_calmPairs_90 N k_4 n_ga x1 x2) else (if s0 = 0 then (f_X4_calmPairs_90 N k_4 n_ga x1 x2) else (f_X4_calmPairs_90 N k_4 n_ga (x1 ||| ((1 : Int32) <<< (x2 &&& 31))) x2))
def f_X4_calmPairs_44 (N : Nat) (k_4 : (Nat → Int32) → Int32 → Int32 → Option (Int32)) (n_ga : Nat → Int32) (x1 : Int32) (x2 : Int32) (x3 : Int32) (x4 : Int32) (s0 : Int32) : Option (Int32) := ob1 (f_X4_gain N n_ga (1 : Int32) x3 x4) fun r51 => ob1 (f_X4_gain N n_ga (1 : Int32) x3 ((1 : Int32) - x4)) fun r61 => if r51 < r61 then (f_X4_calmPairs_72 N k_4 n_ga x1 x2 s0 (0 : Int32)) else (f_X4_calmPairs_72 N k_4 n_ga x1 x2 s0 (1 : Int32))
def f_X4_calmPairs_4 (N : Nat) : Nat → (Nat → Int32) → Int32 → Int32 → Option (Int32)
  | 0, _, _, _ => none
  | n + 1, n_ga, x1, x2 => if (4 : Int32) ≤ x2 then (some x1) else (ob1 (f_X4_gain N n_ga (0 : Int32) (x2 &&& (1 : Int32)) (x2 >>> ((1 : Int32) &&& 31))) fun r23 => ob1 (f_X4_gain N n_ga (0 : Int32) ((1 : Int32) - (x2 &&& (1 : Int32))) (x2 >>> ((1 : Int32) &&& 31))) fun r33 => if r23 < r33 then (f_X4_calmPairs_44 N (f_X4_calmPairs_4 N n) n_ga x1 x2 (x2 &&& (1 : Int32)) (x2 >>> ((1 : Int32) &&& 31)) (0 : Int32)) else (f_X4_calmPairs_44 N (f_X4_calmPairs_4 N n) n_ga x1 x2 (x2 &&& (1 : Int32)) (x2 >>> ((1 : Int32) &&& 31)) (1 : Int32)))
def f_X4_calmPairs (N : Nat) (n_ga : Nat → Int32) : Option (Int32) := f_X4_calmPairs_4 N N n_ga (0 : Int32) (0 : Int32)
set_option maxHeartbeats 4000000 in
set_option maxRecDepth 100000 in
theorem k_X4_calmPairs (l : Launch) (N : Nat) (D : va_G) (cI cJ cZ cB cT : ClassId) (qn0 : Nat) (qn4 : Nat) (qn1 : Nat) (qn2 : Nat) (qn3 : Nat) (qn5 : Nat) (qn6 : Nat) (n_calls : Int32) (n_bord : Int32) (n_rep : Int32) (n_unl : Int32) (n_pay : Int32) (n_ga : Nat → Int32) (o_r : Int32) (hf : f_X4_calmPairs N n_ga = some o_r) : ∀ sz, Met l yX4_calmPairs (mw yX4_calmPairs cX4_calmPairs 7 (some .int)) ({ frames := 1, cells := 0, slots := 0, locals := 23 } : Room) (mPre D (mT cI cJ cZ cB cT) (W_N_0_4 qn0 qn4 qn1 qn2 qn3 qn5 qn6 cI cJ cZ cB cT n_calls n_bord n_rep n_unl n_pay n_ga) sz [.ref qn0]) ((mQi D (W_N_0_4 qn0 qn4 qn1 qn2 qn3 qn5 qn6 cI cJ cZ cB cT n_calls n_bord n_rep n_unl n_pay n_ga) o_r True) (va_A (W_N_0_4 qn0 qn4 qn1 qn2 qn3 qn5 qn6 cI cJ cZ cB cT n_calls n_bord n_rep n_unl n_pay n_ga) sz)) 0 0 (va_A (W_N_0_4 qn0 qn4 qn1 qn2 qn3 qn5 qn6 cI cJ cZ cB cT n_calls n_bord n_rep n_unl n_pay n_ga) sz) := by
  refine mMet (Qc := (mQi D (W_N_0_4 qn0 qn4 qn1 qn2 qn3 qn5 qn6 cI cJ cZ cB cT n_calls n_bord n_rep n_unl n_pay n_ga) o_r True)) (by decide) (Nat.le_of_ble_eq_true rfl) (fun p e s m below meth c A ls hx hb hr hml hts hown hlocks hK hA hP hD hl => ?_)
  have hown : s.vm.findClass RX4 = some m.cls := hown
  have hl : lv_has ls 7 [(0, .ref qn0)] := hl
  have hS : va_S A s.heap s.heap [] := va_S.rf
  have b4 : ∀ n4 : Nat, ∀ (x1 : Int32) (x2 : Int32) (H : Heap) (locs : List Loc) (ls : Array Slot), f_X4_calmPairs_4 N n4 n_ga x1 x2 = some o_r → va_P D vwCl (W_N_0_4 qn0 qn4 qn1 qn2 qn3 qn5 qn6 cI cJ cZ cB cT n_calls n_bord n_rep n_unl n_pay n_ga) H → va_D A (W_N_0_4 qn0 qn4 qn1 qn2 qn3 qn5 qn6 cI cJ cZ cB cT n_calls n_bord n_rep n_unl n_pay n_ga) → va_S A s.heap H locs → lv_has ls 7 [(0, .ref qn0), (1, .int x1), (2, .int x2)] → W p l e ({ frames := 1, cells := 0, slots := 0, locals := 23 } : Room) s m ([.ref qn0] : List Value).toArray below meth c H locs 0 0 (MQ below ((mQi D (W_N_0_4 qn0 qn4 qn1 qn2 qn3 qn5 qn6 cI cJ cZ cB cT n_calls n_bord n_rep n_unl n_pay n_ga) o_r True) A) ([.ref qn0] : List Value).toArray s 0 0 A) (F0 m 4 ls []) := by
    intro n4
    induction n4 with
    | zero =>
      intro x1 x2 H locs ls hf hP hD hS hl
      simp [f_X4_calmPairs_4] at hf
    | succ n4 ih4 =>
      have b90 : ∀ (x1 : Int32) (x2 : Int32) (H : Heap) (locs : List Loc) (ls : Array Slot), f_X4_calmPairs_90 N (f_X4_calmPairs_4 N n4) n_ga x1 x2 = some o_r → va_P D vwCl (W_N_0_4 qn0 qn4 qn1 qn2 qn3 qn5 qn6 cI cJ cZ cB cT n_calls n_bord n_rep n_unl n_pay n_ga) H → va_D A (W_N_0_4 qn0 qn4 qn1 qn2 qn3 qn5 qn6 cI cJ cZ cB cT n_calls n_bord n_rep n_unl n_pay n_ga) → va_S A s.heap H locs → lv_has ls 7 [(0, .ref qn0), (1, .int x1), (2, .int x2)] → W p l e ({ frames := 1, cells := 0, slots := 0, locals := 23 } : Room) s m ([.ref qn0] : List Value).toArray below meth c H locs 0 0 (MQ below ((mQi D (W_N_0_4 qn0 qn4 qn1 qn2 qn3 qn5 qn6 cI cJ cZ cB cT n_calls n_bord n_rep n_unl n_pay n_ga) o_r True) A) ([.ref qn0] : List Value).toArray s 0 0 A) (F0 m 90 ls []) := by
        intro x1 x2 H locs ls hf hP hD hS hl
        unfold f_X4_calmPairs_90 at hf
        refine lv_iinc (v := (x2 + (1 : Int32))) (lv' := [(2, .int (x2 + (1 : Int32))), (0, .ref qn0), (1, .int x1)]) hx hb dX4_calmPairs_90 hl (k := 2) rfl rfl (by decide) rfl (fun ls hl => ?_)
        refine lv_goto (tgt := 4) hx hb dX4_calmPairs_93 (by decide) ?_
        exact ih4 x1 (x2 + (1 : Int32)) _ _ _ hf hP hD hS (lv_sub hl [1, 2, 0] rfl)
      have b72 : ∀ (x1 : Int32) (x2 : Int32) (x5 : Int32) (s0 : Int32) (H : Heap) (locs : List Loc) (ls : Array Slot), f_X4_calmPairs_72 N (f_X4_calmPairs_4 N n4) n_ga x1 x2 x5 s0 = some o_r → va_P D vwCl (W_N_0_4 qn0 qn4 qn1 qn2 qn3 qn5 qn6 cI cJ cZ cB cT n_calls n_bord n_rep n_unl n_pay n_ga) H → va_D A (W_N_0_4 qn0 qn4 qn1 qn2 qn3 qn5 qn6 cI cJ cZ cB cT n_calls n_bord n_rep n_unl n_pay n_ga) → va_S A s.heap H locs → lv_has ls 7 [(0, .ref qn0), (1, .int x1), (2, .int x2), (5, .int x5)] → W p l e ({ frames := 1, cells := 0, slots := 0, locals := 23 } : Room) s m ([.ref qn0] : List Value).toArray below meth c H locs 0 0 (MQ below ((mQi D (W_N_0_4 qn0 qn4 qn1 qn2 qn3 qn5 qn6 cI cJ cZ cB cT n_calls n_bord n_rep n_unl n_pay n_ga) o_r True) A) ([.ref qn0] : List Value).toArray s 0 0 A) (F0 m 72 ls [.int s0]) := by
        intro x1 x2 x5 s0 H locs ls hf hP hD hS hl
        unfold f_X4_calmPairs_72 at hf
        refine lv_istore (lv' := [(6, .int s0), (0, .ref qn0), (1, .int x1), (2, .int x2), (5, .int x5)]) hx hb dX4_calmPairs_72 hl (by decide) rfl (fun ls hl => ?_)
        refine lv_iload hx hb dX4_calmPairs_74 (lv_at hl 4 rfl) ?_
        refine xif_eq hx hb 90 dX4_calmPairs_76 (by decide) hf (fun hf => ?_) (fun hf => ?_)
        · exact b90 x1 x2 _ _ _ hf hP hD hS (lv_sub hl [1, 2, 3] rfl)
        · refine lv_iload hx hb dX4_calmPairs_79 (lv_at hl 0 rfl) ?_
          refine xif_eq hx hb 90 dX4_calmPairs_81 (by decide) hf (fun hf => ?_) (fun hf => ?_)
          · exact b90 x1 x2 _ _ _ hf hP hD hS (lv_sub hl [1, 2, 3] rfl)
          · refine lv_iload_n hx hb dX4_calmPairs_84 rfl (lv_at hl 2 rfl) ?_
            refine lv_iconst (v := (1 : Int32)) hx hb dX4_calmPairs_85 (by decide) ?_
            refine lv_iload_n hx hb dX4_calmPairs_86 rfl (lv_at hl 3 rfl) ?_
            refine lv_ishl hx hb dX4_calmPairs_87 ?_
            refine lv_ior hx hb dX4_calmPairs_88 ?_
            refine lv_istore_n (lv' := [(1, .int (x1 ||| ((1 : Int32) <<< (x2 &&& 31)))), (6, .int s0), (0, .ref qn0), (2, .int x2), (5, .int x5)]) hx hb dX4_calmPairs_89 rfl hl (by decide) rfl (fun ls hl => ?_)
            exact b90 (x1 ||| ((1 : Int32) <<< (x2 &&& 31))) x2 _ _ _ hf hP hD hS (lv_sub hl [2, 0, 3] rfl)
      have b44 : ∀ (x1 : Int32) (x2 : Int32) (x3 : Int32) (x4 : Int32) (s0 : Int32) (H : Heap) (locs : List Loc) (ls : Array Slot), f_X4_calmPairs_44 N (f_X4_calmPairs_4 N n4) n_ga x1 x2 x3 x4 s0 = some o_r → va_P D vwCl (W_N_0_4 qn0 qn4 qn1 qn2 qn3 qn5 qn6 cI cJ cZ cB cT n_calls n_bord n_rep n_unl n_pay n_ga) H → va_D A (W_N_0_4 qn0 qn4 qn1 qn2 qn3 qn5 qn6 cI cJ cZ cB cT n_calls n_bord n_rep n_unl n_pay n_ga) → va_S A s.heap H locs → lv_has ls 7 [(0, .ref qn0), (1, .int x1), (2, .int x2), (3, .int x3), (4, .int x4)] → W p l e ({ frames := 1, cells := 0, slots := 0, locals := 23 } : Room) s m ([.ref qn0] : List Value).toArray below meth c H locs 0 0 (MQ below ((mQi D (W_N_0_4 qn0 qn4 qn1 qn2 qn3 qn5 qn6 cI cJ cZ cB cT n_calls n_bord n_rep n_unl n_pay n_ga) o_r True) A) ([.ref qn0] : List Value).toArray s 0 0 A) (F0 m 44 ls [.int s0]) := by
        intro x1 x2 x3 x4 s0 H locs ls hf hP hD hS hl
        unfold f_X4_calmPairs_44 at hf
        refine lv_istore (lv' := [(5, .int s0), (0, .ref qn0), (1, .int x1), (2, .int x2), (3, .int x3), (4, .int x4)]) hx hb dX4_calmPairs_44 hl (by decide) rfl (fun ls hl => ?_)
        refine lv_aload_n hx hb dX4_calmPairs_46 rfl (lv_at hl 1 rfl) ?_
        refine lv_iconst (v := (1 : Int32)) hx hb dX4_calmPairs_47 (by decide) ?_
        refine lv_iload_n hx hb dX4_calmPairs_48 rfl (lv_at hl 4 rfl) ?_
        refine lv_iload hx hb dX4_calmPairs_49 (lv_at hl 5 rfl) ?_
        obtain ⟨r51, hg51, hf⟩ := ob1_some hf
        refine mcV1_i (As := [.int (1 : Int32), .int x3, .int x4]) (rest := []) hx hb hml hown hts hK hP hD hS hA (k_X4_gain l N D cI cJ cZ cB cT qn0 qn4 qn1 qn2 qn3 qn5 qn6 n_calls n_bord n_rep n_unl n_pay n_ga (1 : Int32) x3 x4 r51 hg51) (kwX4_70 hts rfl rfl ⟨Nat.le_of_ble_eq_true rfl, Nat.le_of_ble_eq_true rfl⟩) 0 rfl rfl rfl rfl hl.1 rfl (Nat.le_of_ble_eq_true rfl) dX4_calmPairs_51 ⟨Nat.zero_le _, Nat.zero_le _⟩ (fun hB51 H locs hP hD hS => ?_)
        have hP : va_P D vwCl (W_N_0_4 qn0 qn4 qn1 qn2 qn3 qn5 qn6 cI cJ cZ cB cT n_calls n_bord n_rep n_unl n_pay n_ga) H := hP
        have hD : va_D A (W_N_0_4 qn0 qn4 qn1 qn2 qn3 qn5 qn6 cI cJ cZ cB cT n_calls n_bord n_rep n_unl n_pay n_ga) := hD
        refine lv_aload_n hx hb dX4_calmPairs_54 rfl (lv_at hl 1 rfl) ?_
        refine lv_iconst (v := (1 : Int32)) hx hb dX4_calmPairs_55 (by decide) ?_
        refine lv_iload_n hx hb dX4_calmPairs_56 rfl (lv_at hl 4 rfl) ?_
        refine lv_iconst (v := (1 : Int32)) hx hb dX4_calmPairs_57 (by decide) ?_
        refine lv_iload hx hb dX4_calmPairs_58 (lv_at hl 5 rfl) ?_
        refine lv_isub hx hb dX4_calmPairs_60 ?_
        obtain ⟨r61, hg61, hf⟩ := ob1_some hf
        refine mcV1_i (As := [.int (1 : Int32), .int x3, .int ((1 : Int32) - x4)]) (rest := [.int r51]) hx hb hml hown hts hK hP hD hS hA (k_X4_gain l N D cI cJ cZ cB cT qn0 qn4 qn1 qn2 qn3 qn5 qn6 n_calls n_bord n_rep n_unl n_pay n_ga (1 : Int32) x3 ((1 : Int32) - x4) r61 hg61) (kwX4_70 hts rfl rfl ⟨Nat.le_of_ble_eq_true rfl, Nat.le_of_ble_eq_true rfl⟩) 0 rfl rfl rfl rfl hl.1 rfl (Nat.le_of_ble_eq_true rfl) dX4_calmPairs_61 ⟨Nat.zero_le _, Nat.zero_le _⟩ (fun hB61 H locs hP hD hS => ?_)
        have hP : va_P D vwCl (W_N_0_4 qn0 qn4 qn1 qn2 qn3 qn5 qn6 cI cJ cZ cB cT n_calls n_bord n_rep n_unl n_pay n_ga) H := hP
        have hD : va_D A (W_N_0_4 qn0 qn4 qn1 qn2 qn3 qn5 qn6 cI cJ cZ cB cT n_calls n_bord n_rep n_unl n_pay n_ga) := hD
        refine xicmp_lt hx hb 71 dX4_calmPairs_64 (by decide) hf (fun hf => ?_) (fun hf => ?_)
        · refine lv_iconst (v := (0 : Int32)) hx hb dX4_calmPairs_71 (by decide) ?_
          exact b72 x1 x2 s0 (0 : Int32) _ _ _ hf hP hD hS (lv_sub hl [1, 2, 3, 0] rfl)
        · refine lv_iconst (v := (1 : Int32)) hx hb dX4_calmPairs_67 (by decide) ?_
          refine lv_goto (tgt := 72) hx hb dX4_calmPairs_68 (by decide) ?_
          exact b72 x1 x2 s0 (1 : Int32) _ _ _ hf hP hD hS (lv_sub hl [1, 2, 3, 0] rfl)
      intro x1 x2 H locs ls hf hP hD hS hl
      rw [f_X4_calmPairs_4.eq_2] at hf
      refine lv_iload_n hx hb dX4_calmPairs_4 rfl (lv_at hl 2 rfl) ?_
      refine lv_iconst (v := (4 : Int32)) hx hb dX4_calmPairs_5 (by decide) ?_
      refine xicmp_ge hx hb 96 dX4_calmPairs_6 (by decide) hf (fun hf => ?_) (fun hf => ?_)
      · refine lv_iload_n hx hb dX4_calmPairs_96 rfl (lv_at hl 1 rfl) ?_
        cases hf
        exact mret_i hx hb hr hlocks hP hD hS dX4_calmPairs_97 rfl trivial
      · refine lv_iload_n hx hb dX4_calmPairs_9 rfl (lv_at hl 2 rfl) ?_
        refine lv_iconst (v := (1 : Int32)) hx hb dX4_calmPairs_10 (by decide) ?_
        refine lv_iand hx hb dX4_calmPairs_11 ?_
        refine lv_istore_n (lv' := [(3, .int (x2 &&& (1 : Int32))), (0, .ref qn0), (1, .int x1), (2, .int x2)]) hx hb dX4_calmPairs_12 rfl hl (by decide) rfl (fun ls hl => ?_)
        refine lv_iload_n hx hb dX4_calmPairs_13 rfl (lv_at hl 3 rfl) ?_
        refine lv_iconst (v := (1 : Int32)) hx hb dX4_calmPairs_14 (by decide) ?_
        refine lv_ishr hx hb dX4_calmPairs_15 ?_
        refine lv_istore (lv' := [(4, .int (x2 >>> ((1 : Int32) &&& 31))), (3, .int (x2 &&& (1 : Int32))), (0, .ref qn0), (1, .int x1), (2, .int x2)]) hx hb dX4_calmPairs_16 hl (by decide) rfl (fun ls hl => ?_)
        refine lv_aload_n hx hb dX4_calmPairs_18 rfl (lv_at hl 2 rfl) ?_
        refine lv_iconst (v := (0 : Int32)) hx hb dX4_calmPairs_19 (by decide) ?_
        refine lv_iload_n hx hb dX4_calmPairs_20 rfl (lv_at hl 1 rfl) ?_
        refine lv_iload hx hb dX4_calmPairs_21 (lv_at hl 0 rfl) ?_
        obtain ⟨r23, hg23, hf⟩ := ob1_some hf
        refine mcV1_i (As := [.int (0 : Int32), .int (x2 &&& (1 : Int32)), .int (x2 >>> ((1 : Int32) &&& 31))]) (rest := []) hx hb hml hown hts hK hP hD hS hA (k_X4_gain l N D cI cJ cZ cB cT qn0 qn4 qn1 qn2 qn3 qn5 qn6 n_calls n_bord n_rep n_unl n_pay n_ga (0 : Int32) (x2 &&& (1 : Int32)) (x2 >>> ((1 : Int32) &&& 31)) r23 hg23) (kwX4_70 hts rfl rfl ⟨Nat.le_of_ble_eq_true rfl, Nat.le_of_ble_eq_true rfl⟩) 0 rfl rfl rfl rfl hl.1 rfl (Nat.le_of_ble_eq_true rfl) dX4_calmPairs_23 ⟨Nat.zero_le _, Nat.zero_le _⟩ (fun hB23 H locs hP hD hS => ?_)
        have hP : va_P D vwCl (W_N_0_4 qn0 qn4 qn1 qn2 qn3 qn5 qn6 cI cJ cZ cB cT n_calls n_bord n_rep n_unl n_pay n_ga) H := hP
        have hD : va_D A (W_N_0_4 qn0 qn4 qn1 qn2 qn3 qn5 qn6 cI cJ cZ cB cT n_calls n_bord n_rep n_unl n_pay n_ga) := hD
        refine lv_aload_n hx hb dX4_calmPairs_26 rfl (lv_at hl 2 rfl) ?_
        refine lv_iconst (v := (0 : Int32)) hx hb dX4_calmPairs_27 (by decide) ?_
        refine lv_iconst (v := (1 : Int32)) hx hb dX4_calmPairs_28 (by decide) ?_
        refine lv_iload_n hx hb dX4_calmPairs_29 rfl (lv_at hl 1 rfl) ?_
        refine lv_isub hx hb dX4_calmPairs_30 ?_
        refine lv_iload hx hb dX4_calmPairs_31 (lv_at hl 0 rfl) ?_
        obtain ⟨r33, hg33, hf⟩ := ob1_some hf
        refine mcV1_i (As := [.int (0 : Int32), .int ((1 : Int32) - (x2 &&& (1 : Int32))), .int (x2 >>> ((1 : Int32) &&& 31))]) (rest := [.int r23]) hx hb hml hown hts hK hP hD hS hA (k_X4_gain l N D cI cJ cZ cB cT qn0 qn4 qn1 qn2 qn3 qn5 qn6 n_calls n_bord n_rep n_unl n_pay n_ga (0 : Int32) ((1 : Int32) - (x2 &&& (1 : Int32))) (x2 >>> ((1 : Int32) &&& 31)) r33 hg33) (kwX4_70 hts rfl rfl ⟨Nat.le_of_ble_eq_true rfl, Nat.le_of_ble_eq_true rfl⟩) 0 rfl rfl rfl rfl hl.1 rfl (Nat.le_of_ble_eq_true rfl) dX4_calmPairs_33 ⟨Nat.zero_le _, Nat.zero_le _⟩ (fun hB33 H locs hP hD hS => ?_)
        have hP : va_P D vwCl (W_N_0_4 qn0 qn4 qn1 qn2 qn3 qn5 qn6 cI cJ cZ cB cT n_calls n_bord n_rep n_unl n_pay n_ga) H := hP
        have hD : va_D A (W_N_0_4 qn0 qn4 qn1 qn2 qn3 qn5 qn6 cI cJ cZ cB cT n_calls n_bord n_rep n_unl n_pay n_ga) := hD
        refine xicmp_lt hx hb 43 dX4_calmPairs_36 (by decide) hf (fun hf => ?_) (fun hf => ?_)
        · refine lv_iconst (v := (0 : Int32)) hx hb dX4_calmPairs_43 (by decide) ?_
          exact b44 x1 x2 (x2 &&& (1 : Int32)) (x2 >>> ((1 : Int32) &&& 31)) (0 : Int32) _ _ _ hf hP hD hS (lv_sub hl [2, 3, 4, 1, 0] rfl)
        · refine lv_iconst (v := (1 : Int32)) hx hb dX4_calmPairs_39 (by decide) ?_
          refine lv_goto (tgt := 44) hx hb dX4_calmPairs_40 (by decide) ?_
          exact b44 x1 x2 (x2 &&& (1 : Int32)) (x2 >>> ((1 : Int32) &&& 31)) (1 : Int32) _ _ _ hf hP hD hS (lv_sub hl [2, 3, 4, 1, 0] rfl)
  unfold f_X4_calmPairs at hf
  refine lv_iconst (v := (0 : Int32)) hx hb dX4_calmPairs_0 (by decide) ?_
  refine lv_istore_n (lv' := [(1, .int (0 : Int32)), (0, .ref qn0)]) hx hb dX4_calmPairs_1 rfl hl (by decide) rfl (fun ls hl => ?_)
  refine lv_iconst (v := (0 : Int32)) hx hb dX4_calmPairs_2 (by decide) ?_
  refine lv_istore_n (lv' := [(2, .int (0 : Int32)), (1, .int (0 : Int32)), (0, .ref qn0)]) hx hb dX4_calmPairs_3 rfl hl (by decide) rfl (fun ls hl => ?_)
  exact b4 N (0 : Int32) (0 : Int32) _ _ _ hf hP hD hS (lv_sub hl [2, 1, 0] rfl)
theorem dX11_commonDivisor_0 : decode cX11_commonDivisor 0 = .ok (.iload_n 0, 1) := by decide +kernel
theorem dX11_commonDivisor_1 : decode cX11_commonDivisor 1 = .ok (.invokestatic 393, 3) := by decide +kernel
theorem dX11_commonDivisor_4 : decode cX11_commonDivisor 4 = .ok (.istore_n 2, 1) := by decide +kernel
theorem dX11_commonDivisor_5 : decode cX11_commonDivisor 5 = .ok (.iload_n 1, 1) := by decide +kernel
theorem dX11_commonDivisor_6 : decode cX11_commonDivisor 6 = .ok (.invokestatic 393, 3) := by decide +kernel
theorem dX11_commonDivisor_9 : decode cX11_commonDivisor 9 = .ok (.istore_n 3, 1) := by decide +kernel
theorem dX11_commonDivisor_10 : decode cX11_commonDivisor 10 = .ok (.iconst 0, 1) := by decide +kernel
theorem dX11_commonDivisor_11 : decode cX11_commonDivisor 11 = .ok (.istore 4, 2) := by decide +kernel
theorem dX11_commonDivisor_13 : decode cX11_commonDivisor 13 = .ok (.iload 4, 2) := by decide +kernel
theorem dX11_commonDivisor_15 : decode cX11_commonDivisor 15 = .ok (.bipush 64, 2) := by decide +kernel
theorem dX11_commonDivisor_17 : decode cX11_commonDivisor 17 = .ok (.if_icmp .ge 23, 3) := by decide +kernel
theorem dX11_commonDivisor_20 : decode cX11_commonDivisor 20 = .ok (.iload_n 3, 1) := by decide +kernel
theorem dX11_commonDivisor_21 : decode cX11_commonDivisor 21 = .ok (.ifCond .eq 19, 3) := by decide +kernel
theorem dX11_commonDivisor_24 : decode cX11_commonDivisor 24 = .ok (.iload_n 2, 1) := by decide +kernel
theorem dX11_commonDivisor_25 : decode cX11_commonDivisor 25 = .ok (.iload_n 3, 1) := by decide +kernel
theorem dX11_commonDivisor_26 : decode cX11_commonDivisor 26 = .ok (.irem, 1) := by decide +kernel
theorem dX11_commonDivisor_27 : decode cX11_commonDivisor 27 = .ok (.istore 5, 2) := by decide +kernel
theorem dX11_commonDivisor_29 : decode cX11_commonDivisor 29 = .ok (.iload_n 3, 1) := by decide +kernel
theorem dX11_commonDivisor_30 : decode cX11_commonDivisor 30 = .ok (.istore_n 2, 1) := by decide +kernel
theorem dX11_commonDivisor_31 : decode cX11_commonDivisor 31 = .ok (.iload 5, 2) := by decide +kernel
theorem dX11_commonDivisor_33 : decode cX11_commonDivisor 33 = .ok (.istore_n 3, 1) := by decide +kernel
theorem dX11_commonDivisor_34 : decode cX11_commonDivisor 34 = .ok (.iinc 4 1, 3) := by decide +kernel
theorem dX11_commonDivisor_37 : decode cX11_commonDivisor 37 = .ok (.goto (-24), 3) := by decide +kernel
theorem dX11_commonDivisor_40 : decode cX11_commonDivisor 40 = .ok (.iload_n 2, 1) := by decide +kernel
theorem dX11_commonDivisor_41 : decode cX11_commonDivisor 41 = .ok (.ireturn, 1) := by decide +kernel
def f_X11_commonDivisor_13 (N : Nat) : Nat → Int32 → Int32 → Int32 → Option (Int32)
  | 0, _, _, _ => none
  | n + 1, x2, x3, x4 => if (64 : Int32) ≤ x4 then (some x2) else (if x3 = 0 then (some x2) else (rmI x2 x3 fun v26 => (f_X11_commonDivisor_13 N n) x3 v26 (x4 + (1 : Int32))))
def f_X11_commonDivisor (N : Nat) (p0 : Int32) (p1 : Int32) : Option (Int32) := f_X11_commonDivisor_13 N N (abI p0) (abI p1) (0 : Int32)
set_option maxHeartbeats 4000000 in
set_option maxRecDepth 100000 in
theorem k_X11_commonDivisor (l : Launch) (N : Nat) (D : va_G) (cI cJ cZ cB cT : ClassId) (p0 : Int32) (p1 : Int32) (o_r : Int32) (hf : f_X11_commonDivisor N p0 p1 = some o_r) : ∀ sz, Met l yX11_commonDivisor (mw yX11_commonDivisor cX11_commonDivisor 6 (some .int)) ({ frames := 1, cells := 0, slots := 0, locals := 40 } : Room) (mPre D (mT cI cJ cZ cB cT) [] sz [.int p0, .int p1]) ((mQi D [] o_r True) (va_A [] sz)) 0 0 (va_A [] sz) := by
  refine mMet (Qc := (mQi D [] o_r True)) (by decide) (Nat.le_of_ble_eq_true rfl) (fun p e s m below meth c A ls hx hb hr hml hts hown hlocks hK hA hP hD hl => ?_)
  have hown : s.vm.findClass RX11 = some m.cls := hown
  have hl : lv_has ls 6 [(0, .int p0), (1, .int p1)] := hl
  have hS : va_S A s.heap s.heap [] := va_S.rf
  have b13 : ∀ n13 : Nat, ∀ (x2 : Int32) (x3 : Int32) (x4 : Int32) (H : Heap) (locs : List Loc) (ls : Array Slot), f_X11_commonDivisor_13 N n13 x2 x3 x4 = some o_r → va_P D vwCl [] H → va_D A [] → va_S A s.heap H locs → lv_has ls 6 [(2, .int x2), (3, .int x3), (4, .int x4)] → W p l e ({ frames := 1, cells := 0, slots := 0, locals := 40 } : Room) s m ([.int p0, .int p1] : List Value).toArray below meth c H locs 0 0 (MQ below ((mQi D [] o_r True) A) ([.int p0, .int p1] : List Value).toArray s 0 0 A) (F0 m 13 ls []) := by
    intro n13
    induction n13 with
    | zero =>
      intro x2 x3 x4 H locs ls hf hP hD hS hl
      simp [f_X11_commonDivisor_13] at hf
    | succ n13 ih13 =>
      intro x2 x3 x4 H locs ls hf hP hD hS hl
      rw [f_X11_commonDivisor_13.eq_2] at hf
      refine lv_iload hx hb dX11_commonDivisor_13 (lv_at hl 2 rfl) ?_
      refine lv_bipush (v := (64 : Int32)) hx hb dX11_commonDivisor_15 (by decide) ?_
      refine xicmp_ge hx hb 40 dX11_commonDivisor_17 (by decide) hf (fun hf => ?_) (fun hf => ?_)
      · refine lv_iload_n hx hb dX11_commonDivisor_40 rfl (lv_at hl 0 rfl) ?_
        cases hf
        exact mret_i hx hb hr hlocks hP hD hS dX11_commonDivisor_41 rfl trivial
      · refine lv_iload_n hx hb dX11_commonDivisor_20 rfl (lv_at hl 1 rfl) ?_
        refine xif_eq hx hb 40 dX11_commonDivisor_21 (by decide) hf (fun hf => ?_) (fun hf => ?_)
        · refine lv_iload_n hx hb dX11_commonDivisor_40 rfl (lv_at hl 0 rfl) ?_
          cases hf
          exact mret_i hx hb hr hlocks hP hD hS dX11_commonDivisor_41 rfl trivial
        · refine lv_iload_n hx hb dX11_commonDivisor_24 rfl (lv_at hl 0 rfl) ?_
          refine lv_iload_n hx hb dX11_commonDivisor_25 rfl (lv_at hl 1 rfl) ?_
          refine xirem hx hb dX11_commonDivisor_26 hf (fun v26 hf => ?_)
          refine lv_istore (lv' := [(5, .int v26), (2, .int x2), (3, .int x3), (4, .int x4)]) hx hb dX11_commonDivisor_27 hl (by decide) rfl (fun ls hl => ?_)
          refine lv_iload_n hx hb dX11_commonDivisor_29 rfl (lv_at hl 2 rfl) ?_
          refine lv_istore_n (lv' := [(2, .int x3), (5, .int v26), (3, .int x3), (4, .int x4)]) hx hb dX11_commonDivisor_30 rfl hl (by decide) rfl (fun ls hl => ?_)
          refine lv_iload hx hb dX11_commonDivisor_31 (lv_at hl 1 rfl) ?_
          refine lv_istore_n (lv' := [(3, .int v26), (2, .int x3), (5, .int v26), (4, .int x4)]) hx hb dX11_commonDivisor_33 rfl hl (by decide) rfl (fun ls hl => ?_)
          refine lv_iinc (v := (x4 + (1 : Int32))) (lv' := [(4, .int (x4 + (1 : Int32))), (3, .int v26), (2, .int x3), (5, .int v26)]) hx hb dX11_commonDivisor_34 hl (k := 3) rfl rfl (by decide) rfl (fun ls hl => ?_)
          refine lv_goto (tgt := 13) hx hb dX11_commonDivisor_37 (by decide) ?_
          exact ih13 x3 v26 (x4 + (1 : Int32)) _ _ _ hf hP hD hS (lv_sub hl [2, 1, 0] rfl)
  unfold f_X11_commonDivisor at hf
  refine lv_iload_n hx hb dX11_commonDivisor_0 rfl (lv_at hl 0 rfl) ?_
  refine xabs hx hb hml hl.1 hown hts mtX11_393 (Nat.le_of_ble_eq_true rfl) (Nat.le_of_ble_eq_true rfl) ⟨Nat.zero_le _, Nat.zero_le _⟩ dX11_commonDivisor_1 ?_
  refine lv_istore_n (lv' := [(2, .int (abI p0)), (0, .int p0), (1, .int p1)]) hx hb dX11_commonDivisor_4 rfl hl (by decide) rfl (fun ls hl => ?_)
  refine lv_iload_n hx hb dX11_commonDivisor_5 rfl (lv_at hl 2 rfl) ?_
  refine xabs hx hb hml hl.1 hown hts mtX11_393 (Nat.le_of_ble_eq_true rfl) (Nat.le_of_ble_eq_true rfl) ⟨Nat.zero_le _, Nat.zero_le _⟩ dX11_commonDivisor_6 ?_
  refine lv_istore_n (lv' := [(3, .int (abI p1)), (2, .int (abI p0)), (0, .int p0), (1, .int p1)]) hx hb dX11_commonDivisor_9 rfl hl (by decide) rfl (fun ls hl => ?_)
  refine lv_iconst (v := (0 : Int32)) hx hb dX11_commonDivisor_10 (by decide) ?_
  refine lv_istore (lv' := [(4, .int (0 : Int32)), (3, .int (abI p1)), (2, .int (abI p0)), (0, .int p0), (1, .int p1)]) hx hb dX11_commonDivisor_11 hl (by decide) rfl (fun ls hl => ?_)
  exact b13 N (abI p0) (abI p1) (0 : Int32) _ _ _ hf hP hD hS (lv_sub hl [2, 1, 0] rfl)
theorem dX4_evenOdds_0 : decode cX4_evenOdds 0 = .ok (.aload_n 0, 1) := by decide +kernel
theorem dX4_evenOdds_1 : decode cX4_evenOdds 1 = .ok (.iconst 1, 1) := by decide +kernel
theorem dX4_evenOdds_2 : decode cX4_evenOdds 2 = .ok (.iconst 1, 1) := by decide +kernel
theorem dX4_evenOdds_3 : decode cX4_evenOdds 3 = .ok (.iconst 1, 1) := by decide +kernel
theorem dX4_evenOdds_4 : decode cX4_evenOdds 4 = .ok (.invokevirtual 70, 3) := by decide +kernel
theorem dX4_evenOdds_7 : decode cX4_evenOdds 7 = .ok (.aload_n 0, 1) := by decide +kernel
theorem dX4_evenOdds_8 : decode cX4_evenOdds 8 = .ok (.iconst 1, 1) := by decide +kernel
theorem dX4_evenOdds_9 : decode cX4_evenOdds 9 = .ok (.iconst 1, 1) := by decide +kernel
theorem dX4_evenOdds_10 : decode cX4_evenOdds 10 = .ok (.iconst 0, 1) := by decide +kernel
theorem dX4_evenOdds_11 : decode cX4_evenOdds 11 = .ok (.invokevirtual 70, 3) := by decide +kernel
theorem dX4_evenOdds_14 : decode cX4_evenOdds 14 = .ok (.isub, 1) := by decide +kernel
theorem dX4_evenOdds_15 : decode cX4_evenOdds 15 = .ok (.istore_n 2, 1) := by decide +kernel
theorem dX4_evenOdds_16 : decode cX4_evenOdds 16 = .ok (.aload_n 0, 1) := by decide +kernel
theorem dX4_evenOdds_17 : decode cX4_evenOdds 17 = .ok (.iconst 1, 1) := by decide +kernel
theorem dX4_evenOdds_18 : decode cX4_evenOdds 18 = .ok (.iconst 0, 1) := by decide +kernel
theorem dX4_evenOdds_19 : decode cX4_evenOdds 19 = .ok (.iconst 0, 1) := by decide +kernel
theorem dX4_evenOdds_20 : decode cX4_evenOdds 20 = .ok (.invokevirtual 70, 3) := by decide +kernel
theorem dX4_evenOdds_23 : decode cX4_evenOdds 23 = .ok (.aload_n 0, 1) := by decide +kernel
theorem dX4_evenOdds_24 : decode cX4_evenOdds 24 = .ok (.iconst 1, 1) := by decide +kernel
theorem dX4_evenOdds_25 : decode cX4_evenOdds 25 = .ok (.iconst 0, 1) := by decide +kernel
theorem dX4_evenOdds_26 : decode cX4_evenOdds 26 = .ok (.iconst 1, 1) := by decide +kernel
theorem dX4_evenOdds_27 : decode cX4_evenOdds 27 = .ok (.invokevirtual 70, 3) := by decide +kernel
theorem dX4_evenOdds_30 : decode cX4_evenOdds 30 = .ok (.isub, 1) := by decide +kernel
theorem dX4_evenOdds_31 : decode cX4_evenOdds 31 = .ok (.istore_n 3, 1) := by decide +kernel
theorem dX4_evenOdds_32 : decode cX4_evenOdds 32 = .ok (.iload_n 2, 1) := by decide +kernel
theorem dX4_evenOdds_33 : decode cX4_evenOdds 33 = .ok (.istore 4, 2) := by decide +kernel
theorem dX4_evenOdds_35 : decode cX4_evenOdds 35 = .ok (.iload_n 2, 1) := by decide +kernel
theorem dX4_evenOdds_36 : decode cX4_evenOdds 36 = .ok (.iload_n 3, 1) := by decide +kernel
theorem dX4_evenOdds_37 : decode cX4_evenOdds 37 = .ok (.iadd, 1) := by decide +kernel
theorem dX4_evenOdds_38 : decode cX4_evenOdds 38 = .ok (.istore 5, 2) := by decide +kernel
theorem dX4_evenOdds_40 : decode cX4_evenOdds 40 = .ok (.iload 5, 2) := by decide +kernel
theorem dX4_evenOdds_42 : decode cX4_evenOdds 42 = .ok (.ifCond .ge 13, 3) := by decide +kernel
theorem dX4_evenOdds_45 : decode cX4_evenOdds 45 = .ok (.iload 4, 2) := by decide +kernel
theorem dX4_evenOdds_47 : decode cX4_evenOdds 47 = .ok (.ineg, 1) := by decide +kernel
theorem dX4_evenOdds_48 : decode cX4_evenOdds 48 = .ok (.istore 4, 2) := by decide +kernel
theorem dX4_evenOdds_50 : decode cX4_evenOdds 50 = .ok (.iload 5, 2) := by decide +kernel
theorem dX4_evenOdds_52 : decode cX4_evenOdds 52 = .ok (.ineg, 1) := by decide +kernel
theorem dX4_evenOdds_53 : decode cX4_evenOdds 53 = .ok (.istore 5, 2) := by decide +kernel
theorem dX4_evenOdds_55 : decode cX4_evenOdds 55 = .ok (.iload 4, 2) := by decide +kernel
theorem dX4_evenOdds_57 : decode cX4_evenOdds 57 = .ok (.iload 5, 2) := by decide +kernel
theorem dX4_evenOdds_59 : decode cX4_evenOdds 59 = .ok (.invokestatic 74, 3) := by decide +kernel
theorem dX4_evenOdds_62 : decode cX4_evenOdds 62 = .ok (.istore 6, 2) := by decide +kernel
theorem dX4_evenOdds_64 : decode cX4_evenOdds 64 = .ok (.iload 4, 2) := by decide +kernel
theorem dX4_evenOdds_66 : decode cX4_evenOdds 66 = .ok (.ifCond .le 15, 3) := by decide +kernel
theorem dX4_evenOdds_69 : decode cX4_evenOdds 69 = .ok (.iload 4, 2) := by decide +kernel
theorem dX4_evenOdds_71 : decode cX4_evenOdds 71 = .ok (.iload 5, 2) := by decide +kernel
theorem dX4_evenOdds_73 : decode cX4_evenOdds 73 = .ok (.if_icmp .ge 8, 3) := by decide +kernel
theorem dX4_evenOdds_76 : decode cX4_evenOdds 76 = .ok (.iload 6, 2) := by decide +kernel
theorem dX4_evenOdds_78 : decode cX4_evenOdds 78 = .ok (.ifCond .ne 5, 3) := by decide +kernel
theorem dX4_evenOdds_81 : decode cX4_evenOdds 81 = .ok (.iconst (-1), 1) := by decide +kernel
theorem dX4_evenOdds_82 : decode cX4_evenOdds 82 = .ok (.ireturn, 1) := by decide +kernel
theorem dX4_evenOdds_83 : decode cX4_evenOdds 83 = .ok (.iload_n 1, 1) := by decide +kernel
theorem dX4_evenOdds_84 : decode cX4_evenOdds 84 = .ok (.ifCond .eq 11, 3) := by decide +kernel
theorem dX4_evenOdds_87 : decode cX4_evenOdds 87 = .ok (.iload 5, 2) := by decide +kernel
theorem dX4_evenOdds_89 : decode cX4_evenOdds 89 = .ok (.iload 6, 2) := by decide +kernel
theorem dX4_evenOdds_91 : decode cX4_evenOdds 91 = .ok (.idiv, 1) := by decide +kernel
theorem dX4_evenOdds_92 : decode cX4_evenOdds 92 = .ok (.goto 8, 3) := by decide +kernel
theorem dX4_evenOdds_95 : decode cX4_evenOdds 95 = .ok (.iload 4, 2) := by decide +kernel
theorem dX4_evenOdds_97 : decode cX4_evenOdds 97 = .ok (.iload 6, 2) := by decide +kernel
theorem dX4_evenOdds_99 : decode cX4_evenOdds 99 = .ok (.idiv, 1) := by decide +kernel
theorem dX4_evenOdds_100 : decode cX4_evenOdds 100 = .ok (.ireturn, 1) := by decide +kernel
def f_X4_evenOdds_55 (N : Nat) (n_ga : Nat → Int32) (x1 : Int32) (x4 : Int32) (x5 : Int32) : Option (Int32) := ob1 (f_X11_commonDivisor N x4 x5) fun r59 => if x4 ≤ 0 then (some (-1 : Int32)) else (if x5 ≤ x4 then (some (-1 : Int32)) else (if r59 = 0 then (some (-1 : Int32)) else (if x1 = 0 then (dvI x4 r59 fun v99 => some v99) else (dvI x5 r59 fun v91 => some v91))))
def f_X4_evenOdds (N : Nat) (n_ga : Nat → Int32) (p1 : Int32) : Option (Int32) := ob1 (f_X4_gain N n_ga (1 : Int32) (1 : Int32) (1 : Int32)) fun r4 => ob1 (f_X4_gain N n_ga (1 : Int32) (1 : Int32) (0 : Int32)) fun r11 => ob1 (f_X4_gain N n_ga (1 : Int32) (0 : Int32) (0 : Int32)) fun r20 => ob1 (f_X4_gain N n_ga (1 : Int32) (0 : Int32) (1 : Int32)) fun r27 => if 0 ≤ ((r4 - r11) + (r20 - r27)) then (f_X4_evenOdds_55 N n_ga p1 (r4 - r11) ((r4 - r11) + (r20 - r27))) else (f_X4_evenOdds_55 N n_ga p1 (-(r4 - r11)) (-((r4 - r11) + (r20 - r27))))
set_option maxHeartbeats 4000000 in
set_option maxRecDepth 100000 in
theorem k_X4_evenOdds (l : Launch) (N : Nat) (D : va_G) (cI cJ cZ cB cT : ClassId) (qn0 : Nat) (qn4 : Nat) (qn1 : Nat) (qn2 : Nat) (qn3 : Nat) (qn5 : Nat) (qn6 : Nat) (n_calls : Int32) (n_bord : Int32) (n_rep : Int32) (n_unl : Int32) (n_pay : Int32) (n_ga : Nat → Int32) (p1 : Int32) (o_r : Int32) (hf : f_X4_evenOdds N n_ga p1 = some o_r) : ∀ sz, Met l yX4_evenOdds (mw yX4_evenOdds cX4_evenOdds 7 (some .int)) ({ frames := 2, cells := 0, slots := 0, locals := 65 } : Room) (mPreE D (mT cI cJ cZ cB cT) (W_N_0_4 qn0 qn4 qn1 qn2 qn3 qn5 qn6 cI cJ cZ cB cT n_calls n_bord n_rep n_unl n_pay n_ga) sz [.ref qn0, .int p1]) ((mQi D (W_N_0_4 qn0 qn4 qn1 qn2 qn3 qn5 qn6 cI cJ cZ cB cT n_calls n_bord n_rep n_unl n_pay n_ga) o_r True) (va_A (W_N_0_4 qn0 qn4 qn1 qn2 qn3 qn5 qn6 cI cJ cZ cB cT n_calls n_bord n_rep n_unl n_pay n_ga) sz)) 0 0 (va_A (W_N_0_4 qn0 qn4 qn1 qn2 qn3 qn5 qn6 cI cJ cZ cB cT n_calls n_bord n_rep n_unl n_pay n_ga) sz) := by
  refine mMetE (Qc := (mQi D (W_N_0_4 qn0 qn4 qn1 qn2 qn3 qn5 qn6 cI cJ cZ cB cT n_calls n_bord n_rep n_unl n_pay n_ga) o_r True)) (by decide) (Nat.le_of_ble_eq_true rfl) (fun p e s m below meth c A ls hx hb hr hml hts hown hlocks hK hA hP hD hl hE => ?_)
  have hown : s.vm.findClass RX4 = some m.cls := hown
  have hl : lv_has ls 7 [(0, .ref qn0), (1, .int p1)] := hl
  have hS : va_S A s.heap s.heap [] := va_S.rf
  obtain ⟨⟨tM, hZM, hTM⟩, ⟨tL, hZL, hTL⟩, ⟨hNX4, hNX10⟩, tS, tV, hRS, hZC, hZF, hKS⟩ := id hE
  have b55 : ∀ (x1 : Int32) (x4 : Int32) (x5 : Int32) (H : Heap) (locs : List Loc) (ls : Array Slot), f_X4_evenOdds_55 N n_ga x1 x4 x5 = some o_r → va_P D vwCl (W_N_0_4 qn0 qn4 qn1 qn2 qn3 qn5 qn6 cI cJ cZ cB cT n_calls n_bord n_rep n_unl n_pay n_ga) H → va_D A (W_N_0_4 qn0 qn4 qn1 qn2 qn3 qn5 qn6 cI cJ cZ cB cT n_calls n_bord n_rep n_unl n_pay n_ga) → va_S A s.heap H locs → lv_has ls 7 [(1, .int x1), (4, .int x4), (5, .int x5)] → W p l e ({ frames := 2, cells := 0, slots := 0, locals := 65 } : Room) s m ([.ref qn0, .int p1] : List Value).toArray below meth c H locs 0 0 (MQ below ((mQi D (W_N_0_4 qn0 qn4 qn1 qn2 qn3 qn5 qn6 cI cJ cZ cB cT n_calls n_bord n_rep n_unl n_pay n_ga) o_r True) A) ([.ref qn0, .int p1] : List Value).toArray s 0 0 A) (F0 m 55 ls []) := by
    intro x1 x4 x5 H locs ls hf hP hD hS hl
    unfold f_X4_evenOdds_55 at hf
    refine lv_iload hx hb dX4_evenOdds_55 (lv_at hl 1 rfl) ?_
    refine lv_iload hx hb dX4_evenOdds_57 (lv_at hl 2 rfl) ?_
    obtain ⟨r59, hg59, hf⟩ := ob1_some hf
    refine mcS0N_i (As := [.int x4, .int x5]) (rest := []) hx hb hml hown hts hK hP hD hS hA (k_X11_commonDivisor l N D cI cJ cZ cB cT x4 x5 r59 hg59) (kwX4_74 hts hNX4 rfl rfl ⟨Nat.le_of_ble_eq_true rfl, Nat.le_of_ble_eq_true rfl⟩) rfl hl.1 rfl (Nat.le_of_ble_eq_true rfl) dX4_evenOdds_59 ⟨Nat.zero_le _, Nat.zero_le _⟩ (fun hB59 H locs hP hD hS => ?_)
    refine lv_istore (lv' := [(6, .int r59), (1, .int x1), (4, .int x4), (5, .int x5)]) hx hb dX4_evenOdds_62 hl (by decide) rfl (fun ls hl => ?_)
    refine lv_iload hx hb dX4_evenOdds_64 (lv_at hl 2 rfl) ?_
    refine xif_le hx hb 81 dX4_evenOdds_66 (by decide) hf (fun hf => ?_) (fun hf => ?_)
    · refine lv_iconst (v := (-1 : Int32)) hx hb dX4_evenOdds_81 (by decide) ?_
      cases hf
      exact mret_i hx hb hr hlocks hP hD hS dX4_evenOdds_82 rfl trivial
    · refine lv_iload hx hb dX4_evenOdds_69 (lv_at hl 2 rfl) ?_
      refine lv_iload hx hb dX4_evenOdds_71 (lv_at hl 3 rfl) ?_
      refine xicmp_ge hx hb 81 dX4_evenOdds_73 (by decide) hf (fun hf => ?_) (fun hf => ?_)
      · refine lv_iconst (v := (-1 : Int32)) hx hb dX4_evenOdds_81 (by decide) ?_
        cases hf
        exact mret_i hx hb hr hlocks hP hD hS dX4_evenOdds_82 rfl trivial
      · refine lv_iload hx hb dX4_evenOdds_76 (lv_at hl 0 rfl) ?_
        refine xif_ne hx hb 83 dX4_evenOdds_78 (by decide) hf (fun hf => ?_) (fun hf => ?_)
        · refine lv_iconst (v := (-1 : Int32)) hx hb dX4_evenOdds_81 (by decide) ?_
          cases hf
          exact mret_i hx hb hr hlocks hP hD hS dX4_evenOdds_82 rfl trivial
        · refine lv_iload_n hx hb dX4_evenOdds_83 rfl (lv_at hl 1 rfl) ?_
          refine xif_eq hx hb 95 dX4_evenOdds_84 (by decide) hf (fun hf => ?_) (fun hf => ?_)
          · refine lv_iload hx hb dX4_evenOdds_95 (lv_at hl 2 rfl) ?_
            refine lv_iload hx hb dX4_evenOdds_97 (lv_at hl 0 rfl) ?_
            refine xidiv hx hb dX4_evenOdds_99 hf (fun v99 hf => ?_)
            cases hf
            exact mret_i hx hb hr hlocks hP hD hS dX4_evenOdds_100 rfl trivial
          · refine lv_iload hx hb dX4_evenOdds_87 (lv_at hl 3 rfl) ?_
            refine lv_iload hx hb dX4_evenOdds_89 (lv_at hl 0 rfl) ?_
            refine xidiv hx hb dX4_evenOdds_91 hf (fun v91 hf => ?_)
            refine lv_goto (tgt := 100) hx hb dX4_evenOdds_92 (by decide) ?_
            cases hf
            exact mret_i hx hb hr hlocks hP hD hS dX4_evenOdds_100 rfl trivial
  unfold f_X4_evenOdds at hf
  refine lv_aload_n hx hb dX4_evenOdds_0 rfl (lv_at hl 0 rfl) ?_
  refine lv_iconst (v := (1 : Int32)) hx hb dX4_evenOdds_1 (by decide) ?_
  refine lv_iconst (v := (1 : Int32)) hx hb dX4_evenOdds_2 (by decide) ?_
  refine lv_iconst (v := (1 : Int32)) hx hb dX4_evenOdds_3 (by decide) ?_
  obtain ⟨r4, hg4, hf⟩ := ob1_some hf
  refine mcV1_i (As := [.int (1 : Int32), .int (1 : Int32), .int (1 : Int32)]) (rest := []) hx hb hml hown hts hK hP hD hS hA (k_X4_gain l N D cI cJ cZ cB cT qn0 qn4 qn1 qn2 qn3 qn5 qn6 n_calls n_bord n_rep n_unl n_pay n_ga (1 : Int32) (1 : Int32) (1 : Int32) r4 hg4) (kwX4_70 hts rfl rfl ⟨Nat.le_of_ble_eq_true rfl, Nat.le_of_ble_eq_true rfl⟩) 0 rfl rfl rfl rfl hl.1 rfl (Nat.le_of_ble_eq_true rfl) dX4_evenOdds_4 ⟨Nat.zero_le _, Nat.zero_le _⟩ (fun hB4 H locs hP hD hS => ?_)
  have hP : va_P D vwCl (W_N_0_4 qn0 qn4 qn1 qn2 qn3 qn5 qn6 cI cJ cZ cB cT n_calls n_bord n_rep n_unl n_pay n_ga) H := hP
  have hD : va_D A (W_N_0_4 qn0 qn4 qn1 qn2 qn3 qn5 qn6 cI cJ cZ cB cT n_calls n_bord n_rep n_unl n_pay n_ga) := hD
  refine lv_aload_n hx hb dX4_evenOdds_7 rfl (lv_at hl 0 rfl) ?_
  refine lv_iconst (v := (1 : Int32)) hx hb dX4_evenOdds_8 (by decide) ?_
  refine lv_iconst (v := (1 : Int32)) hx hb dX4_evenOdds_9 (by decide) ?_
  refine lv_iconst (v := (0 : Int32)) hx hb dX4_evenOdds_10 (by decide) ?_
  obtain ⟨r11, hg11, hf⟩ := ob1_some hf
  refine mcV1_i (As := [.int (1 : Int32), .int (1 : Int32), .int (0 : Int32)]) (rest := [.int r4]) hx hb hml hown hts hK hP hD hS hA (k_X4_gain l N D cI cJ cZ cB cT qn0 qn4 qn1 qn2 qn3 qn5 qn6 n_calls n_bord n_rep n_unl n_pay n_ga (1 : Int32) (1 : Int32) (0 : Int32) r11 hg11) (kwX4_70 hts rfl rfl ⟨Nat.le_of_ble_eq_true rfl, Nat.le_of_ble_eq_true rfl⟩) 0 rfl rfl rfl rfl hl.1 rfl (Nat.le_of_ble_eq_true rfl) dX4_evenOdds_11 ⟨Nat.zero_le _, Nat.zero_le _⟩ (fun hB11 H locs hP hD hS => ?_)
  have hP : va_P D vwCl (W_N_0_4 qn0 qn4 qn1 qn2 qn3 qn5 qn6 cI cJ cZ cB cT n_calls n_bord n_rep n_unl n_pay n_ga) H := hP
  have hD : va_D A (W_N_0_4 qn0 qn4 qn1 qn2 qn3 qn5 qn6 cI cJ cZ cB cT n_calls n_bord n_rep n_unl n_pay n_ga) := hD
  refine lv_isub hx hb dX4_evenOdds_14 ?_
  refine lv_istore_n (lv' := [(2, .int (r4 - r11)), (0, .ref qn0), (1, .int p1)]) hx hb dX4_evenOdds_15 rfl hl (by decide) rfl (fun ls hl => ?_)
  refine lv_aload_n hx hb dX4_evenOdds_16 rfl (lv_at hl 1 rfl) ?_
  refine lv_iconst (v := (1 : Int32)) hx hb dX4_evenOdds_17 (by decide) ?_
  refine lv_iconst (v := (0 : Int32)) hx hb dX4_evenOdds_18 (by decide) ?_
  refine lv_iconst (v := (0 : Int32)) hx hb dX4_evenOdds_19 (by decide) ?_
  obtain ⟨r20, hg20, hf⟩ := ob1_some hf
  refine mcV1_i (As := [.int (1 : Int32), .int (0 : Int32), .int (0 : Int32)]) (rest := []) hx hb hml hown hts hK hP hD hS hA (k_X4_gain l N D cI cJ cZ cB cT qn0 qn4 qn1 qn2 qn3 qn5 qn6 n_calls n_bord n_rep n_unl n_pay n_ga (1 : Int32) (0 : Int32) (0 : Int32) r20 hg20) (kwX4_70 hts rfl rfl ⟨Nat.le_of_ble_eq_true rfl, Nat.le_of_ble_eq_true rfl⟩) 0 rfl rfl rfl rfl hl.1 rfl (Nat.le_of_ble_eq_true rfl) dX4_evenOdds_20 ⟨Nat.zero_le _, Nat.zero_le _⟩ (fun hB20 H locs hP hD hS => ?_)
  have hP : va_P D vwCl (W_N_0_4 qn0 qn4 qn1 qn2 qn3 qn5 qn6 cI cJ cZ cB cT n_calls n_bord n_rep n_unl n_pay n_ga) H := hP
  have hD : va_D A (W_N_0_4 qn0 qn4 qn1 qn2 qn3 qn5 qn6 cI cJ cZ cB cT n_calls n_bord n_rep n_unl n_pay n_ga) := hD
  refine lv_aload_n hx hb dX4_evenOdds_23 rfl (lv_at hl 1 rfl) ?_
  refine lv_iconst (v := (1 : Int32)) hx hb dX4_evenOdds_24 (by decide) ?_
  refine lv_iconst (v := (0 : Int32)) hx hb dX4_evenOdds_25 (by decide) ?_
  refine lv_iconst (v := (1 : Int32)) hx hb dX4_evenOdds_26 (by decide) ?_
  obtain ⟨r27, hg27, hf⟩ := ob1_some hf
  refine mcV1_i (As := [.int (1 : Int32), .int (0 : Int32), .int (1 : Int32)]) (rest := [.int r20]) hx hb hml hown hts hK hP hD hS hA (k_X4_gain l N D cI cJ cZ cB cT qn0 qn4 qn1 qn2 qn3 qn5 qn6 n_calls n_bord n_rep n_unl n_pay n_ga (1 : Int32) (0 : Int32) (1 : Int32) r27 hg27) (kwX4_70 hts rfl rfl ⟨Nat.le_of_ble_eq_true rfl, Nat.le_of_ble_eq_true rfl⟩) 0 rfl rfl rfl rfl hl.1 rfl (Nat.le_of_ble_eq_true rfl) dX4_evenOdds_27 ⟨Nat.zero_le _, Nat.zero_le _⟩ (fun hB27 H locs hP hD hS => ?_)
  have hP : va_P D vwCl (W_N_0_4 qn0 qn4 qn1 qn2 qn3 qn5 qn6 cI cJ cZ cB cT n_calls n_bord n_rep n_unl n_pay n_ga) H := hP
  have hD : va_D A (W_N_0_4 qn0 qn4 qn1 qn2 qn3 qn5 qn6 cI cJ cZ cB cT n_calls n_bord n_rep n_unl n_pay n_ga) := hD
  refine lv_isub hx hb dX4_evenOdds_30 ?_
  refine lv_istore_n (lv' := [(3, .int (r20 - r27)), (2, .int (r4 - r11)), (0, .ref qn0), (1, .int p1)]) hx hb dX4_evenOdds_31 rfl hl (by decide) rfl (fun ls hl => ?_)
  refine lv_iload_n hx hb dX4_evenOdds_32 rfl (lv_at hl 1 rfl) ?_
  refine lv_istore (lv' := [(4, .int (r4 - r11)), (3, .int (r20 - r27)), (2, .int (r4 - r11)), (0, .ref qn0), (1, .int p1)]) hx hb dX4_evenOdds_33 hl (by decide) rfl (fun ls hl => ?_)
  refine lv_iload_n hx hb dX4_evenOdds_35 rfl (lv_at hl 2 rfl) ?_
  refine lv_iload_n hx hb dX4_evenOdds_36 rfl (lv_at hl 1 rfl) ?_
  refine lv_iadd hx hb dX4_evenOdds_37 ?_
  refine lv_istore (lv' := [(5, .int ((r4 - r11) + (r20 - r27))), (4, .int (r4 - r11)), (3, .int (r20 - r27)), (2, .int (r4 - r11)), (0, .ref qn0), (1, .int p1)]) hx hb dX4_evenOdds_38 hl (by decide) rfl (fun ls hl => ?_)
  refine lv_iload hx hb dX4_evenOdds_40 (lv_at hl 0 rfl) ?_
  refine xif_ge hx hb 55 dX4_evenOdds_42 (by decide) hf (fun hf => ?_) (fun hf => ?_)
  · exact b55 p1 (r4 - r11) ((r4 - r11) + (r20 - r27)) _ _ _ hf hP hD hS (lv_sub hl [5, 1, 0] rfl)
  · refine lv_iload hx hb dX4_evenOdds_45 (lv_at hl 1 rfl) ?_
    refine lv_ineg hx hb dX4_evenOdds_47 ?_
    refine lv_istore (lv' := [(4, .int (-(r4 - r11))), (5, .int ((r4 - r11) + (r20 - r27))), (3, .int (r20 - r27)), (2, .int (r4 - r11)), (0, .ref qn0), (1, .int p1)]) hx hb dX4_evenOdds_48 hl (by decide) rfl (fun ls hl => ?_)
    refine lv_iload hx hb dX4_evenOdds_50 (lv_at hl 1 rfl) ?_
    refine lv_ineg hx hb dX4_evenOdds_52 ?_
    refine lv_istore (lv' := [(5, .int (-((r4 - r11) + (r20 - r27)))), (4, .int (-(r4 - r11))), (3, .int (r20 - r27)), (2, .int (r4 - r11)), (0, .ref qn0), (1, .int p1)]) hx hb dX4_evenOdds_53 hl (by decide) rfl (fun ls hl => ?_)
    exact b55 p1 (-(r4 - r11)) (-((r4 - r11) + (r20 - r27))) _ _ _ hf hP hD hS (lv_sub hl [5, 1, 0] rfl)
theorem dX4_forgetPaid_0 : decode cX4_forgetPaid 0 = .ok (.aload_n 0, 1) := by decide +kernel
theorem dX4_forgetPaid_1 : decode cX4_forgetPaid 1 = .ok (.iconst 0, 1) := by decide +kernel
theorem dX4_forgetPaid_2 : decode cX4_forgetPaid 2 = .ok (.putfield 24, 3) := by decide +kernel
theorem dX4_forgetPaid_5 : decode cX4_forgetPaid 5 = .ok (.return_, 1) := by decide +kernel
def f_X4_forgetPaid (N : Nat) (n_pay : Int32) : Option (Int32) := some (0 : Int32)
set_option maxHeartbeats 4000000 in
set_option maxRecDepth 100000 in
theorem k_X4_forgetPaid (l : Launch) (N : Nat) (D : va_G) (cI cJ cZ cB cT : ClassId) (qn0 : Nat) (qn1 : Nat) (qn2 : Nat) (qn3 : Nat) (qn4 : Nat) (qn5 : Nat) (qn6 : Nat) (n_calls : Int32) (n_bord : Int32) (n_rep : Int32) (n_unl : Int32) (n_pay : Int32) (o_n_pay : Int32) (hf : f_X4_forgetPaid N n_pay = some o_n_pay) : ∀ sz, Met l yX4_forgetPaid (mw yX4_forgetPaid cX4_forgetPaid 1 none) ({ frames := 0, cells := 0, slots := 0, locals := 0 } : Room) (mPre D (mT cI cJ cZ cB cT) (W_N_0 qn0 qn1 qn2 qn3 qn4 qn5 qn6 cI cJ cZ cB cT n_calls n_bord n_rep n_unl n_pay) sz [.ref qn0]) ((mQv D (W_N_0 qn0 qn1 qn2 qn3 qn4 qn5 qn6 cI cJ cZ cB cT n_calls n_bord n_rep n_unl o_n_pay)) (va_A (W_N_0 qn0 qn1 qn2 qn3 qn4 qn5 qn6 cI cJ cZ cB cT n_calls n_bord n_rep n_unl n_pay) sz)) 0 0 (va_A (W_N_0 qn0 qn1 qn2 qn3 qn4 qn5 qn6 cI cJ cZ cB cT n_calls n_bord n_rep n_unl n_pay) sz) := by
  refine mMet (Qc := (mQv D (W_N_0 qn0 qn1 qn2 qn3 qn4 qn5 qn6 cI cJ cZ cB cT n_calls n_bord n_rep n_unl o_n_pay))) (by decide) (Nat.le_of_ble_eq_true rfl) (fun p e s m below meth c A ls hx hb hr hml hts hown hlocks hK hA hP hD hl => ?_)
  have hown : s.vm.findClass RX4 = some m.cls := hown
  have hl : lv_has ls 1 [(0, .ref qn0)] := hl
  have hS : va_S A s.heap s.heap [] := va_S.rf
  unfold f_X4_forgetPaid at hf
  refine lv_aload_n hx hb dX4_forgetPaid_0 rfl (lv_at hl 0 rfl) ?_
  refine lv_iconst (v := (0 : Int32)) hx hb dX4_forgetPaid_1 (by decide) ?_
  refine pfX4_24 hx hb hts hown hK hP hD hS 0 rfl (Nat.le_of_ble_eq_true rfl) dX4_forgetPaid_2 (fun H locs hP hD hS => ?_)
  have hP : va_P D vwCl (W_N_0 qn0 qn1 qn2 qn3 qn4 qn5 qn6 cI cJ cZ cB cT n_calls n_bord n_rep n_unl (0 : Int32)) H := hP
  have hD : va_D A (W_N_0 qn0 qn1 qn2 qn3 qn4 qn5 qn6 cI cJ cZ cB cT n_calls n_bord n_rep n_unl (0 : Int32)) := hD
  cases hf
  exact mret_v hx hb hr hlocks hP hD hS dX4_forgetPaid_5
theorem dX4_notePaid_0 : decode cX4_notePaid 0 = .ok (.aload_n 0, 1) := by decide +kernel
theorem dX4_notePaid_1 : decode cX4_notePaid 1 = .ok (.getfield 24, 3) := by decide +kernel
theorem dX4_notePaid_4 : decode cX4_notePaid 4 = .ok (.ifCond .lt 12, 3) := by decide +kernel
theorem dX4_notePaid_7 : decode cX4_notePaid 7 = .ok (.aload_n 0, 1) := by decide +kernel
theorem dX4_notePaid_8 : decode cX4_notePaid 8 = .ok (.getfield 24, 3) := by decide +kernel
theorem dX4_notePaid_11 : decode cX4_notePaid 11 = .ok (.bipush 8, 2) := by decide +kernel
theorem dX4_notePaid_13 : decode cX4_notePaid 13 = .ok (.if_icmp .lt 6, 3) := by decide +kernel
theorem dX4_notePaid_16 : decode cX4_notePaid 16 = .ok (.bipush (-2), 2) := by decide +kernel
theorem dX4_notePaid_18 : decode cX4_notePaid 18 = .ok (.ireturn, 1) := by decide +kernel
theorem dX4_notePaid_19 : decode cX4_notePaid 19 = .ok (.aload_n 0, 1) := by decide +kernel
theorem dX4_notePaid_20 : decode cX4_notePaid 20 = .ok (.getfield 40, 3) := by decide +kernel
theorem dX4_notePaid_23 : decode cX4_notePaid 23 = .ok (.aload_n 0, 1) := by decide +kernel
theorem dX4_notePaid_24 : decode cX4_notePaid 24 = .ok (.getfield 24, 3) := by decide +kernel
theorem dX4_notePaid_27 : decode cX4_notePaid 27 = .ok (.iload_n 1, 1) := by decide +kernel
theorem dX4_notePaid_28 : decode cX4_notePaid 28 = .ok (.iastore, 1) := by decide +kernel
theorem dX4_notePaid_29 : decode cX4_notePaid 29 = .ok (.aload_n 0, 1) := by decide +kernel
theorem dX4_notePaid_30 : decode cX4_notePaid 30 = .ok (.getfield 43, 3) := by decide +kernel
theorem dX4_notePaid_33 : decode cX4_notePaid 33 = .ok (.aload_n 0, 1) := by decide +kernel
theorem dX4_notePaid_34 : decode cX4_notePaid 34 = .ok (.getfield 24, 3) := by decide +kernel
theorem dX4_notePaid_37 : decode cX4_notePaid 37 = .ok (.iload_n 2, 1) := by decide +kernel
theorem dX4_notePaid_38 : decode cX4_notePaid 38 = .ok (.iastore, 1) := by decide +kernel
theorem dX4_notePaid_39 : decode cX4_notePaid 39 = .ok (.aload_n 0, 1) := by decide +kernel
theorem dX4_notePaid_40 : decode cX4_notePaid 40 = .ok (.dup, 1) := by decide +kernel
theorem dX4_notePaid_41 : decode cX4_notePaid 41 = .ok (.getfield 24, 3) := by decide +kernel
theorem dX4_notePaid_44 : decode cX4_notePaid 44 = .ok (.iconst 1, 1) := by decide +kernel
theorem dX4_notePaid_45 : decode cX4_notePaid 45 = .ok (.iadd, 1) := by decide +kernel
theorem dX4_notePaid_46 : decode cX4_notePaid 46 = .ok (.putfield 24, 3) := by decide +kernel
theorem dX4_notePaid_49 : decode cX4_notePaid 49 = .ok (.aload_n 0, 1) := by decide +kernel
theorem dX4_notePaid_50 : decode cX4_notePaid 50 = .ok (.getfield 24, 3) := by decide +kernel
theorem dX4_notePaid_53 : decode cX4_notePaid 53 = .ok (.ireturn, 1) := by decide +kernel
def f_X4_notePaid (N : Nat) (n_pay : Int32) (n_py : Nat → Int32) (n_pr : Nat → Int32) (p1 : Int32) (p2 : Int32) : Option (Int32 × Int32 × (Nat → Int32) × (Nat → Int32)) := if n_pay < 0 then (some ((-2 : Int32), n_pay, n_py, n_pr)) else (if n_pay < (8 : Int32) then (sA n_py 8 n_pay p1 fun n_py_28 => sA n_pr 8 n_pay p2 fun n_pr_38 => some ((n_pay + (1 : Int32)), (n_pay + (1 : Int32)), n_py_28, n_pr_38)) else (some ((-2 : Int32), n_pay, n_py, n_pr)))
set_option maxHeartbeats 4000000 in
set_option maxRecDepth 100000 in
theorem k_X4_notePaid (l : Launch) (N : Nat) (D : va_G) (cI cJ cZ cB cT : ClassId) (qn0 : Nat) (qn5 : Nat) (qn6 : Nat) (qn1 : Nat) (qn2 : Nat) (qn3 : Nat) (qn4 : Nat) (n_calls : Int32) (n_bord : Int32) (n_rep : Int32) (n_unl : Int32) (n_pay : Int32) (n_py : Nat → Int32) (n_pr : Nat → Int32) (p1 : Int32) (p2 : Int32) (o_r : Int32) (o_n_pay : Int32) (o_n_py : Nat → Int32) (o_n_pr : Nat → Int32) (hf : f_X4_notePaid N n_pay n_py n_pr p1 p2 = some (o_r, o_n_pay, o_n_py, o_n_pr)) : ∀ sz, Met l yX4_notePaid (mw yX4_notePaid cX4_notePaid 3 (some .int)) ({ frames := 0, cells := 0, slots := 0, locals := 0 } : Room) (mPre D (mT cI cJ cZ cB cT) (W_N_0_5t6 qn0 qn5 qn6 qn1 qn2 qn3 qn4 cI cJ cZ cB cT n_calls n_bord n_rep n_unl n_pay n_py n_pr) sz [.ref qn0, .int p1, .int p2]) ((mQi D (W_N_0_5t6 qn0 qn5 qn6 qn1 qn2 qn3 qn4 cI cJ cZ cB cT n_calls n_bord n_rep n_unl o_n_pay o_n_py o_n_pr) o_r True) (va_A (W_N_0_5t6 qn0 qn5 qn6 qn1 qn2 qn3 qn4 cI cJ cZ cB cT n_calls n_bord n_rep n_unl n_pay n_py n_pr) sz)) 0 0 (va_A (W_N_0_5t6 qn0 qn5 qn6 qn1 qn2 qn3 qn4 cI cJ cZ cB cT n_calls n_bord n_rep n_unl n_pay n_py n_pr) sz) := by
  refine mMet (Qc := (mQi D (W_N_0_5t6 qn0 qn5 qn6 qn1 qn2 qn3 qn4 cI cJ cZ cB cT n_calls n_bord n_rep n_unl o_n_pay o_n_py o_n_pr) o_r True)) (by decide) (Nat.le_of_ble_eq_true rfl) (fun p e s m below meth c A ls hx hb hr hml hts hown hlocks hK hA hP hD hl => ?_)
  have hown : s.vm.findClass RX4 = some m.cls := hown
  have hl : lv_has ls 3 [(0, .ref qn0), (1, .int p1), (2, .int p2)] := hl
  have hS : va_S A s.heap s.heap [] := va_S.rf
  unfold f_X4_notePaid at hf
  refine lv_aload_n hx hb dX4_notePaid_0 rfl (lv_at hl 0 rfl) ?_
  refine gfX4_24 hx hb hts hown hK hP 0 rfl rfl dX4_notePaid_1 ?_
  refine xif_lt hx hb 16 dX4_notePaid_4 (by decide) hf (fun hf => ?_) (fun hf => ?_)
  · refine lv_bipush (v := (-2 : Int32)) hx hb dX4_notePaid_16 (by decide) ?_
    cases hf
    exact mret_i hx hb hr hlocks hP hD hS dX4_notePaid_18 rfl trivial
  · refine lv_aload_n hx hb dX4_notePaid_7 rfl (lv_at hl 0 rfl) ?_
    refine gfX4_24 hx hb hts hown hK hP 0 rfl rfl dX4_notePaid_8 ?_
    refine lv_bipush (v := (8 : Int32)) hx hb dX4_notePaid_11 (by decide) ?_
    refine xicmp_lt hx hb 19 dX4_notePaid_13 (by decide) hf (fun hf => ?_) (fun hf => ?_)
    · refine lv_aload_n hx hb dX4_notePaid_19 rfl (lv_at hl 0 rfl) ?_
      refine gfX4_40 hx hb hts hown hK hP 0 rfl rfl dX4_notePaid_20 ?_
      refine lv_aload_n hx hb dX4_notePaid_23 rfl (lv_at hl 0 rfl) ?_
      refine gfX4_24 hx hb hts hown hK hP 0 rfl rfl dX4_notePaid_24 ?_
      refine lv_iload_n hx hb dX4_notePaid_27 rfl (lv_at hl 1 rfl) ?_
      refine xiast hx hb hK hP hD hS 1 0 rfl rfl dX4_notePaid_28 hf (fun n_py_28 hf H locs hP hD hS => ?_)
      have hP : va_P D vwCl (W_N_0_5t6 qn0 qn5 qn6 qn1 qn2 qn3 qn4 cI cJ cZ cB cT n_calls n_bord n_rep n_unl n_pay n_py_28 n_pr) H := hP
      have hD : va_D A (W_N_0_5t6 qn0 qn5 qn6 qn1 qn2 qn3 qn4 cI cJ cZ cB cT n_calls n_bord n_rep n_unl n_pay n_py_28 n_pr) := hD
      refine lv_aload_n hx hb dX4_notePaid_29 rfl (lv_at hl 0 rfl) ?_
      refine gfX4_43 hx hb hts hown hK hP 0 rfl rfl dX4_notePaid_30 ?_
      refine lv_aload_n hx hb dX4_notePaid_33 rfl (lv_at hl 0 rfl) ?_
      refine gfX4_24 hx hb hts hown hK hP 0 rfl rfl dX4_notePaid_34 ?_
      refine lv_iload_n hx hb dX4_notePaid_37 rfl (lv_at hl 2 rfl) ?_
      refine xiast hx hb hK hP hD hS 2 0 rfl rfl dX4_notePaid_38 hf (fun n_pr_38 hf H locs hP hD hS => ?_)
      have hP : va_P D vwCl (W_N_0_5t6 qn0 qn5 qn6 qn1 qn2 qn3 qn4 cI cJ cZ cB cT n_calls n_bord n_rep n_unl n_pay n_py_28 n_pr_38) H := hP
      have hD : va_D A (W_N_0_5t6 qn0 qn5 qn6 qn1 qn2 qn3 qn4 cI cJ cZ cB cT n_calls n_bord n_rep n_unl n_pay n_py_28 n_pr_38) := hD
      refine lv_aload_n hx hb dX4_notePaid_39 rfl (lv_at hl 0 rfl) ?_
      refine lv_dup hx hb dX4_notePaid_40 rfl ?_
      refine gfX4_24 hx hb hts hown hK hP 0 rfl rfl dX4_notePaid_41 ?_
      refine lv_iconst (v := (1 : Int32)) hx hb dX4_notePaid_44 (by decide) ?_
      refine lv_iadd hx hb dX4_notePaid_45 ?_
      refine pfX4_24 hx hb hts hown hK hP hD hS 0 rfl (Nat.le_of_ble_eq_true rfl) dX4_notePaid_46 (fun H locs hP hD hS => ?_)
      have hP : va_P D vwCl (W_N_0_5t6 qn0 qn5 qn6 qn1 qn2 qn3 qn4 cI cJ cZ cB cT n_calls n_bord n_rep n_unl (n_pay + (1 : Int32)) n_py_28 n_pr_38) H := hP
      have hD : va_D A (W_N_0_5t6 qn0 qn5 qn6 qn1 qn2 qn3 qn4 cI cJ cZ cB cT n_calls n_bord n_rep n_unl (n_pay + (1 : Int32)) n_py_28 n_pr_38) := hD
      refine lv_aload_n hx hb dX4_notePaid_49 rfl (lv_at hl 0 rfl) ?_
      refine gfX4_24 hx hb hts hown hK hP 0 rfl rfl dX4_notePaid_50 ?_
      cases hf
      exact mret_i hx hb hr hlocks hP hD hS dX4_notePaid_53 rfl trivial
    · refine lv_bipush (v := (-2 : Int32)) hx hb dX4_notePaid_16 (by decide) ?_
      cases hf
      exact mret_i hx hb hr hlocks hP hD hS dX4_notePaid_18 rfl trivial
theorem dX4_payer_0 : decode cX4_payer 0 = .ok (.iload_n 1, 1) := by decide +kernel
theorem dX4_payer_1 : decode cX4_payer 1 = .ok (.ifCond .lt 26, 3) := by decide +kernel
theorem dX4_payer_4 : decode cX4_payer 4 = .ok (.iload_n 1, 1) := by decide +kernel
theorem dX4_payer_5 : decode cX4_payer 5 = .ok (.aload_n 0, 1) := by decide +kernel
theorem dX4_payer_6 : decode cX4_payer 6 = .ok (.getfield 24, 3) := by decide +kernel
theorem dX4_payer_9 : decode cX4_payer 9 = .ok (.if_icmp .ge 18, 3) := by decide +kernel
theorem dX4_payer_12 : decode cX4_payer 12 = .ok (.iload_n 1, 1) := by decide +kernel
theorem dX4_payer_13 : decode cX4_payer 13 = .ok (.bipush 8, 2) := by decide +kernel
theorem dX4_payer_15 : decode cX4_payer 15 = .ok (.if_icmp .ge 12, 3) := by decide +kernel
theorem dX4_payer_18 : decode cX4_payer 18 = .ok (.aload_n 0, 1) := by decide +kernel
theorem dX4_payer_19 : decode cX4_payer 19 = .ok (.getfield 40, 3) := by decide +kernel
theorem dX4_payer_22 : decode cX4_payer 22 = .ok (.iload_n 1, 1) := by decide +kernel
theorem dX4_payer_23 : decode cX4_payer 23 = .ok (.iaload, 1) := by decide +kernel
theorem dX4_payer_24 : decode cX4_payer 24 = .ok (.goto 4, 3) := by decide +kernel
theorem dX4_payer_27 : decode cX4_payer 27 = .ok (.iconst (-1), 1) := by decide +kernel
theorem dX4_payer_28 : decode cX4_payer 28 = .ok (.ireturn, 1) := by decide +kernel
def f_X4_payer (N : Nat) (n_pay : Int32) (n_py : Nat → Int32) (p1 : Int32) : Option (Int32) := if p1 < 0 then (some (-1 : Int32)) else (if n_pay ≤ p1 then (some (-1 : Int32)) else (if (8 : Int32) ≤ p1 then (some (-1 : Int32)) else (gA n_py 8 p1 fun v23 => some v23)))
set_option maxHeartbeats 4000000 in
set_option maxRecDepth 100000 in
theorem k_X4_payer (l : Launch) (N : Nat) (D : va_G) (cI cJ cZ cB cT : ClassId) (qn0 : Nat) (qn5 : Nat) (qn1 : Nat) (qn2 : Nat) (qn3 : Nat) (qn4 : Nat) (qn6 : Nat) (n_calls : Int32) (n_bord : Int32) (n_rep : Int32) (n_unl : Int32) (n_pay : Int32) (n_py : Nat → Int32) (p1 : Int32) (o_r : Int32) (hf : f_X4_payer N n_pay n_py p1 = some o_r) : ∀ sz, Met l yX4_payer (mw yX4_payer cX4_payer 2 (some .int)) ({ frames := 0, cells := 0, slots := 0, locals := 0 } : Room) (mPre D (mT cI cJ cZ cB cT) (W_N_0_5 qn0 qn5 qn1 qn2 qn3 qn4 qn6 cI cJ cZ cB cT n_calls n_bord n_rep n_unl n_pay n_py) sz [.ref qn0, .int p1]) ((mQi D (W_N_0_5 qn0 qn5 qn1 qn2 qn3 qn4 qn6 cI cJ cZ cB cT n_calls n_bord n_rep n_unl n_pay n_py) o_r True) (va_A (W_N_0_5 qn0 qn5 qn1 qn2 qn3 qn4 qn6 cI cJ cZ cB cT n_calls n_bord n_rep n_unl n_pay n_py) sz)) 0 0 (va_A (W_N_0_5 qn0 qn5 qn1 qn2 qn3 qn4 qn6 cI cJ cZ cB cT n_calls n_bord n_rep n_unl n_pay n_py) sz) := by
  refine mMet (Qc := (mQi D (W_N_0_5 qn0 qn5 qn1 qn2 qn3 qn4 qn6 cI cJ cZ cB cT n_calls n_bord n_rep n_unl n_pay n_py) o_r True)) (by decide) (Nat.le_of_ble_eq_true rfl) (fun p e s m below meth c A ls hx hb hr hml hts hown hlocks hK hA hP hD hl => ?_)
  have hown : s.vm.findClass RX4 = some m.cls := hown
  have hl : lv_has ls 2 [(0, .ref qn0), (1, .int p1)] := hl
  have hS : va_S A s.heap s.heap [] := va_S.rf
  unfold f_X4_payer at hf
  refine lv_iload_n hx hb dX4_payer_0 rfl (lv_at hl 1 rfl) ?_
  refine xif_lt hx hb 27 dX4_payer_1 (by decide) hf (fun hf => ?_) (fun hf => ?_)
  · refine lv_iconst (v := (-1 : Int32)) hx hb dX4_payer_27 (by decide) ?_
    cases hf
    exact mret_i hx hb hr hlocks hP hD hS dX4_payer_28 rfl trivial
  · refine lv_iload_n hx hb dX4_payer_4 rfl (lv_at hl 1 rfl) ?_
    refine lv_aload_n hx hb dX4_payer_5 rfl (lv_at hl 0 rfl) ?_
    refine gfX4_24 hx hb hts hown hK hP 0 rfl rfl dX4_payer_6 ?_
    refine xicmp_ge hx hb 27 dX4_payer_9 (by decide) hf (fun hf => ?_) (fun hf => ?_)
    · refine lv_iconst (v := (-1 : Int32)) hx hb dX4_payer_27 (by decide) ?_
      cases hf
      exact mret_i hx hb hr hlocks hP hD hS dX4_payer_28 rfl trivial
    · refine lv_iload_n hx hb dX4_payer_12 rfl (lv_at hl 1 rfl) ?_
      refine lv_bipush (v := (8 : Int32)) hx hb dX4_payer_13 (by decide) ?_
      refine xicmp_ge hx hb 27 dX4_payer_15 (by decide) hf (fun hf => ?_) (fun hf => ?_)
      · refine lv_iconst (v := (-1 : Int32)) hx hb dX4_payer_27 (by decide) ?_
        cases hf
        exact mret_i hx hb hr hlocks hP hD hS dX4_payer_28 rfl trivial
      · refine lv_aload_n hx hb dX4_payer_18 rfl (lv_at hl 0 rfl) ?_
        refine gfX4_40 hx hb hts hown hK hP 0 rfl rfl dX4_payer_19 ?_
        refine lv_iload_n hx hb dX4_payer_22 rfl (lv_at hl 1 rfl) ?_
        refine xiald hx hb hK hP 1 0 rfl rfl dX4_payer_23 hf (fun v23 hf => ?_)
        refine lv_goto (tgt := 28) hx hb dX4_payer_24 (by decide) ?_
        cases hf
        exact mret_i hx hb hr hlocks hP hD hS dX4_payer_28 rfl trivial
theorem dX4_payment_0 : decode cX4_payment 0 = .ok (.iload_n 1, 1) := by decide +kernel
theorem dX4_payment_1 : decode cX4_payment 1 = .ok (.ifCond .lt 26, 3) := by decide +kernel
theorem dX4_payment_4 : decode cX4_payment 4 = .ok (.iload_n 1, 1) := by decide +kernel
theorem dX4_payment_5 : decode cX4_payment 5 = .ok (.aload_n 0, 1) := by decide +kernel
theorem dX4_payment_6 : decode cX4_payment 6 = .ok (.getfield 24, 3) := by decide +kernel
theorem dX4_payment_9 : decode cX4_payment 9 = .ok (.if_icmp .ge 18, 3) := by decide +kernel
theorem dX4_payment_12 : decode cX4_payment 12 = .ok (.iload_n 1, 1) := by decide +kernel
theorem dX4_payment_13 : decode cX4_payment 13 = .ok (.bipush 8, 2) := by decide +kernel
theorem dX4_payment_15 : decode cX4_payment 15 = .ok (.if_icmp .ge 12, 3) := by decide +kernel
theorem dX4_payment_18 : decode cX4_payment 18 = .ok (.aload_n 0, 1) := by decide +kernel
theorem dX4_payment_19 : decode cX4_payment 19 = .ok (.getfield 43, 3) := by decide +kernel
theorem dX4_payment_22 : decode cX4_payment 22 = .ok (.iload_n 1, 1) := by decide +kernel
theorem dX4_payment_23 : decode cX4_payment 23 = .ok (.iaload, 1) := by decide +kernel
theorem dX4_payment_24 : decode cX4_payment 24 = .ok (.goto 4, 3) := by decide +kernel
theorem dX4_payment_27 : decode cX4_payment 27 = .ok (.iconst (-1), 1) := by decide +kernel
theorem dX4_payment_28 : decode cX4_payment 28 = .ok (.ireturn, 1) := by decide +kernel
def f_X4_payment (N : Nat) (n_pay : Int32) (n_pr : Nat → Int32) (p1 : Int32) : Option (Int32) := if p1 < 0 then (some (-1 : Int32)) else (if n_pay ≤ p1 then (some (-1 : Int32)) else (if (8 : Int32) ≤ p1 then (some (-1 : Int32)) else (gA n_pr 8 p1 fun v23 => some v23)))
set_option maxHeartbeats 4000000 in
set_option maxRecDepth 100000 in
theorem k_X4_payment (l : Launch) (N : Nat) (D : va_G) (cI cJ cZ cB cT : ClassId) (qn0 : Nat) (qn6 : Nat) (qn1 : Nat) (qn2 : Nat) (qn3 : Nat) (qn4 : Nat) (qn5 : Nat) (n_calls : Int32) (n_bord : Int32) (n_rep : Int32) (n_unl : Int32) (n_pay : Int32) (n_pr : Nat → Int32) (p1 : Int32) (o_r : Int32) (hf : f_X4_payment N n_pay n_pr p1 = some o_r) : ∀ sz, Met l yX4_payment (mw yX4_payment cX4_payment 2 (some .int)) ({ frames := 0, cells := 0, slots := 0, locals := 0 } : Room) (mPre D (mT cI cJ cZ cB cT) (W_N_0_6 qn0 qn6 qn1 qn2 qn3 qn4 qn5 cI cJ cZ cB cT n_calls n_bord n_rep n_unl n_pay n_pr) sz [.ref qn0, .int p1]) ((mQi D (W_N_0_6 qn0 qn6 qn1 qn2 qn3 qn4 qn5 cI cJ cZ cB cT n_calls n_bord n_rep n_unl n_pay n_pr) o_r True) (va_A (W_N_0_6 qn0 qn6 qn1 qn2 qn3 qn4 qn5 cI cJ cZ cB cT n_calls n_bord n_rep n_unl n_pay n_pr) sz)) 0 0 (va_A (W_N_0_6 qn0 qn6 qn1 qn2 qn3 qn4 qn5 cI cJ cZ cB cT n_calls n_bord n_rep n_unl n_pay n_pr) sz) := by
  refine mMet (Qc := (mQi D (W_N_0_6 qn0 qn6 qn1 qn2 qn3 qn4 qn5 cI cJ cZ cB cT n_calls n_bord n_rep n_unl n_pay n_pr) o_r True)) (by decide) (Nat.le_of_ble_eq_true rfl) (fun p e s m below meth c A ls hx hb hr hml hts hown hlocks hK hA hP hD hl => ?_)
  have hown : s.vm.findClass RX4 = some m.cls := hown
  have hl : lv_has ls 2 [(0, .ref qn0), (1, .int p1)] := hl
  have hS : va_S A s.heap s.heap [] := va_S.rf
  unfold f_X4_payment at hf
  refine lv_iload_n hx hb dX4_payment_0 rfl (lv_at hl 1 rfl) ?_
  refine xif_lt hx hb 27 dX4_payment_1 (by decide) hf (fun hf => ?_) (fun hf => ?_)
  · refine lv_iconst (v := (-1 : Int32)) hx hb dX4_payment_27 (by decide) ?_
    cases hf
    exact mret_i hx hb hr hlocks hP hD hS dX4_payment_28 rfl trivial
  · refine lv_iload_n hx hb dX4_payment_4 rfl (lv_at hl 1 rfl) ?_
    refine lv_aload_n hx hb dX4_payment_5 rfl (lv_at hl 0 rfl) ?_
    refine gfX4_24 hx hb hts hown hK hP 0 rfl rfl dX4_payment_6 ?_
    refine xicmp_ge hx hb 27 dX4_payment_9 (by decide) hf (fun hf => ?_) (fun hf => ?_)
    · refine lv_iconst (v := (-1 : Int32)) hx hb dX4_payment_27 (by decide) ?_
      cases hf
      exact mret_i hx hb hr hlocks hP hD hS dX4_payment_28 rfl trivial
    · refine lv_iload_n hx hb dX4_payment_12 rfl (lv_at hl 1 rfl) ?_
      refine lv_bipush (v := (8 : Int32)) hx hb dX4_payment_13 (by decide) ?_
      refine xicmp_ge hx hb 27 dX4_payment_15 (by decide) hf (fun hf => ?_) (fun hf => ?_)
      · refine lv_iconst (v := (-1 : Int32)) hx hb dX4_payment_27 (by decide) ?_
        cases hf
        exact mret_i hx hb hr hlocks hP hD hS dX4_payment_28 rfl trivial
      · refine lv_aload_n hx hb dX4_payment_18 rfl (lv_at hl 0 rfl) ?_
        refine gfX4_43 hx hb hts hown hK hP 0 rfl rfl dX4_payment_19 ?_
        refine lv_iload_n hx hb dX4_payment_22 rfl (lv_at hl 1 rfl) ?_
        refine xiald hx hb hK hP 1 0 rfl rfl dX4_payment_23 hf (fun v23 hf => ?_)
        refine lv_goto (tgt := 28) hx hb dX4_payment_24 (by decide) ?_
        cases hf
        exact mret_i hx hb hr hlocks hP hD hS dX4_payment_28 rfl trivial
theorem dX7_become_0 : decode cX7_become 0 = .ok (.aload_n 0, 1) := by decide +kernel
theorem dX7_become_1 : decode cX7_become 1 = .ok (.aload_n 1, 1) := by decide +kernel
theorem dX7_become_2 : decode cX7_become 2 = .ok (.getfield 11, 3) := by decide +kernel
theorem dX7_become_5 : decode cX7_become 5 = .ok (.putfield 11, 3) := by decide +kernel
theorem dX7_become_8 : decode cX7_become 8 = .ok (.aload_n 0, 1) := by decide +kernel
theorem dX7_become_9 : decode cX7_become 9 = .ok (.aload_n 1, 1) := by decide +kernel
theorem dX7_become_10 : decode cX7_become 10 = .ok (.getfield 15, 3) := by decide +kernel
theorem dX7_become_13 : decode cX7_become 13 = .ok (.putfield 15, 3) := by decide +kernel
theorem dX7_become_16 : decode cX7_become 16 = .ok (.aload_n 1, 1) := by decide +kernel
theorem dX7_become_17 : decode cX7_become 17 = .ok (.getfield 20, 3) := by decide +kernel
theorem dX7_become_20 : decode cX7_become 20 = .ok (.iconst 0, 1) := by decide +kernel
theorem dX7_become_21 : decode cX7_become 21 = .ok (.aload_n 0, 1) := by decide +kernel
theorem dX7_become_22 : decode cX7_become 22 = .ok (.getfield 20, 3) := by decide +kernel
theorem dX7_become_25 : decode cX7_become 25 = .ok (.iconst 0, 1) := by decide +kernel
theorem dX7_become_26 : decode cX7_become 26 = .ok (.sipush 2356, 3) := by decide +kernel
theorem dX7_become_29 : decode cX7_become 29 = .ok (.invokestatic 24, 3) := by decide +kernel
theorem dX7_become_32 : decode cX7_become 32 = .ok (.return_, 1) := by decide +kernel
def f_X7_become (N : Nat) (z_cnt : Int32) (z_next : Int32) (z_store : Nat → Int32) (y_cnt : Int32) (y_next : Int32) (y_store : Nat → Int32) : Option (Int32 × Int32 × (Nat → Int32)) := cpI y_store 2356 z_store 2356 (0 : Int32) (0 : Int32) (2356 : Int32) fun z_store_29 => some (y_cnt, y_next, z_store_29)
set_option maxHeartbeats 4000000 in
set_option maxRecDepth 100000 in
theorem k_X7_become (l : Launch) (N : Nat) (D : va_G) (cI cJ cZ cB cT : ClassId) (qz0 : Nat) (qz1 : Nat) (qy0 : Nat) (qy1 : Nat) (z_cnt : Int32) (z_next : Int32) (z_store : Nat → Int32) (y_cnt : Int32) (y_next : Int32) (y_store : Nat → Int32) (o_z_cnt : Int32) (o_z_next : Int32) (o_z_store : Nat → Int32) (hf : f_X7_become N z_cnt z_next z_store y_cnt y_next y_store = some (o_z_cnt, o_z_next, o_z_store)) : ∀ sz, Met l yX7_become (mw yX7_become cX7_become 2 none) ({ frames := 1, cells := 0, slots := 0, locals := 60 } : Room) (mPre D (mT cI cJ cZ cB cT) (W_SS_0t3 qz0 qz1 qy0 qy1 cI cJ cZ cB cT z_cnt z_next z_store y_cnt y_next y_store) sz [.ref qz0, .ref qy0]) ((mQv D (W_SS_0t3 qz0 qz1 qy0 qy1 cI cJ cZ cB cT o_z_cnt o_z_next o_z_store y_cnt y_next y_store)) (va_A (W_SS_0t3 qz0 qz1 qy0 qy1 cI cJ cZ cB cT z_cnt z_next z_store y_cnt y_next y_store) sz)) 0 0 (va_A (W_SS_0t3 qz0 qz1 qy0 qy1 cI cJ cZ cB cT z_cnt z_next z_store y_cnt y_next y_store) sz) := by
  refine mMet (Qc := (mQv D (W_SS_0t3 qz0 qz1 qy0 qy1 cI cJ cZ cB cT o_z_cnt o_z_next o_z_store y_cnt y_next y_store))) (by decide) (Nat.le_of_ble_eq_true rfl) (fun p e s m below meth c A ls hx hb hr hml hts hown hlocks hK hA hP hD hl => ?_)
  have hown : s.vm.findClass RX7 = some m.cls := hown
  have hl : lv_has ls 2 [(0, .ref qz0), (1, .ref qy0)] := hl
  have hS : va_S A s.heap s.heap [] := va_S.rf
  unfold f_X7_become at hf
  refine lv_aload_n hx hb dX7_become_0 rfl (lv_at hl 0 rfl) ?_
  refine lv_aload_n hx hb dX7_become_1 rfl (lv_at hl 1 rfl) ?_
  refine gfX7_11 hx hb hts hown hK hP 2 rfl rfl dX7_become_2 ?_
  refine pfX7_11 hx hb hts hown hK hP hD hS 0 rfl (Nat.le_of_ble_eq_true rfl) dX7_become_5 (fun H locs hP hD hS => ?_)
  have hP : va_P D vwCl (W_SS_0t3 qz0 qz1 qy0 qy1 cI cJ cZ cB cT y_cnt z_next z_store y_cnt y_next y_store) H := hP
  have hD : va_D A (W_SS_0t3 qz0 qz1 qy0 qy1 cI cJ cZ cB cT y_cnt z_next z_store y_cnt y_next y_store) := hD
  refine lv_aload_n hx hb dX7_become_8 rfl (lv_at hl 0 rfl) ?_
  refine lv_aload_n hx hb dX7_become_9 rfl (lv_at hl 1 rfl) ?_
  refine gfX7_15 hx hb hts hown hK hP 2 rfl rfl dX7_become_10 ?_
  refine pfX7_15 hx hb hts hown hK hP hD hS 0 rfl (Nat.le_of_ble_eq_true rfl) dX7_become_13 (fun H locs hP hD hS => ?_)
  have hP : va_P D vwCl (W_SS_0t3 qz0 qz1 qy0 qy1 cI cJ cZ cB cT y_cnt y_next z_store y_cnt y_next y_store) H := hP
  have hD : va_D A (W_SS_0t3 qz0 qz1 qy0 qy1 cI cJ cZ cB cT y_cnt y_next z_store y_cnt y_next y_store) := hD
  refine lv_aload_n hx hb dX7_become_16 rfl (lv_at hl 1 rfl) ?_
  refine gfX7_20 hx hb hts hown hK hP 2 rfl rfl dX7_become_17 ?_
  refine lv_iconst (v := (0 : Int32)) hx hb dX7_become_20 (by decide) ?_
  refine lv_aload_n hx hb dX7_become_21 rfl (lv_at hl 0 rfl) ?_
  refine gfX7_20 hx hb hts hown hK hP 0 rfl rfl dX7_become_22 ?_
  refine lv_iconst (v := (0 : Int32)) hx hb dX7_become_25 (by decide) ?_
  refine lv_sipush (v := (2356 : Int32)) hx hb dX7_become_26 (by decide) ?_
  refine xcopy hx hb hml hl.1 hown hts cpwX7_24 hK hP hD hS 3 1 0 0 rfl rfl rfl rfl (Nat.le_of_ble_eq_true rfl) (by decide) dX7_become_29 hf (fun z_store_29 hf H locs hP hD hS => ?_)
  have hP : va_P D vwCl (W_SS_0t3 qz0 qz1 qy0 qy1 cI cJ cZ cB cT y_cnt y_next z_store_29 y_cnt y_next y_store) H := hP
  have hD : va_D A (W_SS_0t3 qz0 qz1 qy0 qy1 cI cJ cZ cB cT y_cnt y_next z_store_29 y_cnt y_next y_store) := hD
  cases hf
  exact mret_v hx hb hr hlocks hP hD hS dX7_become_32
theorem dX6_become_0 : decode cX6_become 0 = .ok (.aload_n 0, 1) := by decide +kernel
theorem dX6_become_1 : decode cX6_become 1 = .ok (.getfield 12, 3) := by decide +kernel
theorem dX6_become_4 : decode cX6_become 4 = .ok (.aload_n 1, 1) := by decide +kernel
theorem dX6_become_5 : decode cX6_become 5 = .ok (.getfield 12, 3) := by decide +kernel
theorem dX6_become_8 : decode cX6_become 8 = .ok (.invokevirtual 46, 3) := by decide +kernel
theorem dX6_become_11 : decode cX6_become 11 = .ok (.aload_n 0, 1) := by decide +kernel
theorem dX6_become_12 : decode cX6_become 12 = .ok (.getfield 21, 3) := by decide +kernel
theorem dX6_become_15 : decode cX6_become 15 = .ok (.aload_n 1, 1) := by decide +kernel
theorem dX6_become_16 : decode cX6_become 16 = .ok (.getfield 21, 3) := by decide +kernel
theorem dX6_become_19 : decode cX6_become 19 = .ok (.invokevirtual 50, 3) := by decide +kernel
theorem dX6_become_22 : decode cX6_become 22 = .ok (.aload_n 0, 1) := by decide +kernel
theorem dX6_become_23 : decode cX6_become 23 = .ok (.getfield 28, 3) := by decide +kernel
theorem dX6_become_26 : decode cX6_become 26 = .ok (.aload_n 1, 1) := by decide +kernel
theorem dX6_become_27 : decode cX6_become 27 = .ok (.getfield 28, 3) := by decide +kernel
theorem dX6_become_30 : decode cX6_become 30 = .ok (.invokevirtual 53, 3) := by decide +kernel
theorem dX6_become_33 : decode cX6_become 33 = .ok (.aload_n 0, 1) := by decide +kernel
theorem dX6_become_34 : decode cX6_become 34 = .ok (.getfield 35, 3) := by decide +kernel
theorem dX6_become_37 : decode cX6_become 37 = .ok (.aload_n 1, 1) := by decide +kernel
theorem dX6_become_38 : decode cX6_become 38 = .ok (.getfield 35, 3) := by decide +kernel
theorem dX6_become_41 : decode cX6_become 41 = .ok (.invokevirtual 56, 3) := by decide +kernel
theorem dX6_become_44 : decode cX6_become 44 = .ok (.aload_n 0, 1) := by decide +kernel
theorem dX6_become_45 : decode cX6_become 45 = .ok (.aload_n 1, 1) := by decide +kernel
theorem dX6_become_46 : decode cX6_become 46 = .ok (.getfield 39, 3) := by decide +kernel
theorem dX6_become_49 : decode cX6_become 49 = .ok (.putfield 39, 3) := by decide +kernel
theorem dX6_become_52 : decode cX6_become 52 = .ok (.aload_n 0, 1) := by decide +kernel
theorem dX6_become_53 : decode cX6_become 53 = .ok (.aload_n 1, 1) := by decide +kernel
theorem dX6_become_54 : decode cX6_become 54 = .ok (.getfield 43, 3) := by decide +kernel
theorem dX6_become_57 : decode cX6_become 57 = .ok (.putfield 43, 3) := by decide +kernel
theorem dX6_become_60 : decode cX6_become 60 = .ok (.return_, 1) := by decide +kernel
def f_X6_become (N : Nat) (d_n : Int32) (d_for : Nat → Int32) (d_road : Nat → Int32) (f_row : Nat → Int32) (f_fears : Nat → Int32) (f_told : Nat → Int32) (z_cnt : Int32) (z_next : Int32) (z_store : Nat → Int32) (n_calls : Int32) (n_bord : Int32) (n_rep : Int32) (n_unl : Int32) (n_pay : Int32) (n_cl : Nat → Int32) (n_ul : Nat → Int32) (n_ga : Nat → Int32) (n_py : Nat → Int32) (n_pr : Nat → Int32) (r_tx : Int32) (r_rul : Int32) (c_n : Int32) (c_for : Nat → Int32) (c_road : Nat → Int32) (g_row : Nat → Int32) (g_fears : Nat → Int32) (g_told : Nat → Int32) (y_cnt : Int32) (y_next : Int32) (y_store : Nat → Int32) (o_calls : Int32) (o_bord : Int32) (o_rep : Int32) (o_unl : Int32) (o_pay : Int32) (o_cl : Nat → Int32) (o_ul : Nat → Int32) (o_ga : Nat → Int32) (o_py : Nat → Int32) (o_pr : Nat → Int32) (k_tx : Int32) (k_rul : Int32) : Option (Int32 × (Nat → Int32) × (Nat → Int32) × (Nat → Int32) × (Nat → Int32) × (Nat → Int32) × Int32 × Int32 × (Nat → Int32) × Int32 × Int32 × Int32 × Int32 × Int32 × (Nat → Int32) × (Nat → Int32) × (Nat → Int32) × (Nat → Int32) × (Nat → Int32) × Int32 × Int32) := ob3 (f_X2_become N d_n d_for d_road c_n c_for c_road) fun d_n_8 d_for_8 d_road_8 => ob3 (f_X1_become N f_row f_fears f_told g_row g_fears g_told) fun f_row_19 f_fears_19 f_told_19 => ob3 (f_X7_become N z_cnt z_next z_store y_cnt y_next y_store) fun z_cnt_30 z_next_30 z_store_30 => ob10 (f_X4_become N n_calls n_bord n_rep n_unl n_pay n_cl n_ul n_ga n_py n_pr o_calls o_bord o_rep o_unl o_pay o_cl o_ul o_ga o_py o_pr) fun n_calls_41 n_bord_41 n_rep_41 n_unl_41 n_pay_41 n_cl_41 n_ul_41 n_ga_41 n_py_41 n_pr_41 => some (d_n_8, d_for_8, d_road_8, f_row_19, f_fears_19, f_told_19, z_cnt_30, z_next_30, z_store_30, n_calls_41, n_bord_41, n_rep_41, n_unl_41, n_pay_41, n_cl_41, n_ul_41, n_ga_41, n_py_41, n_pr_41, k_tx, k_rul)
set_option maxHeartbeats 4000000 in
set_option maxRecDepth 100000 in
theorem k_X6_become (l : Launch) (N : Nat) (D : va_G) (cI cJ cZ cB cT : ClassId) (qd0 : Nat) (qd1 : Nat) (qd2 : Nat) (qf0 : Nat) (qf1 : Nat) (qf2 : Nat) (qf3 : Nat) (qz0 : Nat) (qz1 : Nat) (qn0 : Nat) (qn1 : Nat) (qn2 : Nat) (qn4 : Nat) (qn5 : Nat) (qn6 : Nat) (qr0 : Nat) (qc0 : Nat) (qc1 : Nat) (qc2 : Nat) (qg0 : Nat) (qg1 : Nat) (qg2 : Nat) (qg3 : Nat) (qy0 : Nat) (qy1 : Nat) (qo0 : Nat) (qo1 : Nat) (qo2 : Nat) (qo4 : Nat) (qo5 : Nat) (qo6 : Nat) (qk0 : Nat) (qn3 : Nat) (qo3 : Nat) (d_n : Int32) (d_for : Nat → Int32) (d_road : Nat → Int32) (f_row : Nat → Int32) (f_fears : Nat → Int32) (f_told : Nat → Int32) (z_cnt : Int32) (z_next : Int32) (z_store : Nat → Int32) (n_calls : Int32) (n_bord : Int32) (n_rep : Int32) (n_unl : Int32) (n_pay : Int32) (n_cl : Nat → Int32) (n_ul : Nat → Int32) (n_ga : Nat → Int32) (n_py : Nat → Int32) (n_pr : Nat → Int32) (r_tx : Int32) (r_rul : Int32) (c_n : Int32) (c_for : Nat → Int32) (c_road : Nat → Int32) (g_row : Nat → Int32) (g_fears : Nat → Int32) (g_told : Nat → Int32) (y_cnt : Int32) (y_next : Int32) (y_store : Nat → Int32) (o_calls : Int32) (o_bord : Int32) (o_rep : Int32) (o_unl : Int32) (o_pay : Int32) (o_cl : Nat → Int32) (o_ul : Nat → Int32) (o_ga : Nat → Int32) (o_py : Nat → Int32) (o_pr : Nat → Int32) (k_tx : Int32) (k_rul : Int32) (o_d_n : Int32) (o_d_for : Nat → Int32) (o_d_road : Nat → Int32) (o_f_row : Nat → Int32) (o_f_fears : Nat → Int32) (o_f_told : Nat → Int32) (o_z_cnt : Int32) (o_z_next : Int32) (o_z_store : Nat → Int32) (o_n_calls : Int32) (o_n_bord : Int32) (o_n_rep : Int32) (o_n_unl : Int32) (o_n_pay : Int32) (o_n_cl : Nat → Int32) (o_n_ul : Nat → Int32) (o_n_ga : Nat → Int32) (o_n_py : Nat → Int32) (o_n_pr : Nat → Int32) (o_r_tx : Int32) (o_r_rul : Int32) (hf : f_X6_become N d_n d_for d_road f_row f_fears f_told z_cnt z_next z_store n_calls n_bord n_rep n_unl n_pay n_cl n_ul n_ga n_py n_pr r_tx r_rul c_n c_for c_road g_row g_fears g_told y_cnt y_next y_store o_calls o_bord o_rep o_unl o_pay o_cl o_ul o_ga o_py o_pr k_tx k_rul = some (o_d_n, o_d_for, o_d_road, o_f_row, o_f_fears, o_f_told, o_z_cnt, o_z_next, o_z_store, o_n_calls, o_n_bord, o_n_rep, o_n_unl, o_n_pay, o_n_cl, o_n_ul, o_n_ga, o_n_py, o_n_pr, o_r_tx, o_r_rul)) : ∀ sz, Met l yX6_become (mw yX6_become cX6_become 2 none) ({ frames := 2, cells := 0, slots := 0, locals := 81 } : Room) (mPre D (mT cI cJ cZ cB cT) (W_R2_0t11_13t28_30t33 qd0 qd1 qd2 qf0 qf1 qf2 qf3 qz0 qz1 qn0 qn1 qn2 qn4 qn5 qn6 qr0 qc0 qc1 qc2 qg0 qg1 qg2 qg3 qy0 qy1 qo0 qo1 qo2 qo4 qo5 qo6 qk0 qn3 qo3 cI cJ cZ cB cT d_n d_for d_road f_row f_fears f_told z_cnt z_next z_store n_calls n_bord n_rep n_unl n_pay n_cl n_ul n_ga n_py n_pr r_tx r_rul c_n c_for c_road g_row g_fears g_told y_cnt y_next y_store o_calls o_bord o_rep o_unl o_pay o_cl o_ul o_ga o_py o_pr k_tx k_rul) sz [.ref qr0, .ref qk0]) ((mQv D (W_R2_0t11_13t28_30t33 qd0 qd1 qd2 qf0 qf1 qf2 qf3 qz0 qz1 qn0 qn1 qn2 qn4 qn5 qn6 qr0 qc0 qc1 qc2 qg0 qg1 qg2 qg3 qy0 qy1 qo0 qo1 qo2 qo4 qo5 qo6 qk0 qn3 qo3 cI cJ cZ cB cT o_d_n o_d_for o_d_road o_f_row o_f_fears o_f_told o_z_cnt o_z_next o_z_store o_n_calls o_n_bord o_n_rep o_n_unl o_n_pay o_n_cl o_n_ul o_n_ga o_n_py o_n_pr o_r_tx o_r_rul c_n c_for c_road g_row g_fears g_told y_cnt y_next y_store o_calls o_bord o_rep o_unl o_pay o_cl o_ul o_ga o_py o_pr k_tx k_rul)) (va_A (W_R2_0t11_13t28_30t33 qd0 qd1 qd2 qf0 qf1 qf2 qf3 qz0 qz1 qn0 qn1 qn2 qn4 qn5 qn6 qr0 qc0 qc1 qc2 qg0 qg1 qg2 qg3 qy0 qy1 qo0 qo1 qo2 qo4 qo5 qo6 qk0 qn3 qo3 cI cJ cZ cB cT d_n d_for d_road f_row f_fears f_told z_cnt z_next z_store n_calls n_bord n_rep n_unl n_pay n_cl n_ul n_ga n_py n_pr r_tx r_rul c_n c_for c_road g_row g_fears g_told y_cnt y_next y_store o_calls o_bord o_rep o_unl o_pay o_cl o_ul o_ga o_py o_pr k_tx k_rul) sz)) 0 0 (va_A (W_R2_0t11_13t28_30t33 qd0 qd1 qd2 qf0 qf1 qf2 qf3 qz0 qz1 qn0 qn1 qn2 qn4 qn5 qn6 qr0 qc0 qc1 qc2 qg0 qg1 qg2 qg3 qy0 qy1 qo0 qo1 qo2 qo4 qo5 qo6 qk0 qn3 qo3 cI cJ cZ cB cT d_n d_for d_road f_row f_fears f_told z_cnt z_next z_store n_calls n_bord n_rep n_unl n_pay n_cl n_ul n_ga n_py n_pr r_tx r_rul c_n c_for c_road g_row g_fears g_told y_cnt y_next y_store o_calls o_bord o_rep o_unl o_pay o_cl o_ul o_ga o_py o_pr k_tx k_rul) sz) := by
  refine mMet (Qc := (mQv D (W_R2_0t11_13t28_30t33 qd0 qd1 qd2 qf0 qf1 qf2 qf3 qz0 qz1 qn0 qn1 qn2 qn4 qn5 qn6 qr0 qc0 qc1 qc2 qg0 qg1 qg2 qg3 qy0 qy1 qo0 qo1 qo2 qo4 qo5 qo6 qk0 qn3 qo3 cI cJ cZ cB cT o_d_n o_d_for o_d_road o_f_row o_f_fears o_f_told o_z_cnt o_z_next o_z_store o_n_calls o_n_bord o_n_rep o_n_unl o_n_pay o_n_cl o_n_ul o_n_ga o_n_py o_n_pr o_r_tx o_r_rul c_n c_for c_road g_row g_fears g_told y_cnt y_next y_store o_calls o_bord o_rep o_unl o_pay o_cl o_ul o_ga o_py o_pr k_tx k_rul))) (by decide) (Nat.le_of_ble_eq_true rfl) (fun p e s m below meth c A ls hx hb hr hml hts hown hlocks hK hA hP hD hl => ?_)
  have hown : s.vm.findClass RX6 = some m.cls := hown
  have hl : lv_has ls 2 [(0, .ref qr0), (1, .ref qk0)] := hl
  have hS : va_S A s.heap s.heap [] := va_S.rf
  unfold f_X6_become at hf
  refine lv_aload_n hx hb dX6_become_0 rfl (lv_at hl 0 rfl) ?_
  refine gfX6_12 hx hb hts hown hK hP 15 rfl rfl dX6_become_1 ?_
  refine lv_aload_n hx hb dX6_become_4 rfl (lv_at hl 1 rfl) ?_
  refine gfX6_12 hx hb hts hown hK hP 31 rfl rfl dX6_become_5 ?_
  obtain ⟨d_n_8, d_for_8, d_road_8, hg8, hf⟩ := ob3_some hf
  refine mcV_v (wr := [(qf0, .inr (1, [.ref qf1, .ref qf2, .ref qf3])), (qf1, .inl (cI, 76, .inl f_row)), (qf2, .inl (cI, 6, .inl f_fears)), (qf3, .inl (cI, 18, .inl f_told)), (qz0, .inr (7, [.int z_cnt, .int z_next, .ref qz1])), (qz1, .inl (cI, 2356, .inl z_store)), (qn0, .inr (4, [.int n_calls, .int n_bord, .int n_rep, .int n_unl, .int n_pay, .ref qn1, .ref qn2, .ref qn3, .ref qn4, .ref qn5, .ref qn6])), (qn1, .inl (cI, 5, .inl n_cl)), (qn2, .inl (cI, 8, .inl n_ul)), (qn4, .inl (cI, 8, .inl n_ga)), (qn5, .inl (cI, 8, .inl n_py)), (qn6, .inl (cI, 8, .inl n_pr)), (qr0, .inr (6, [.ref qd0, .ref qf0, .ref qz0, .ref qn0, .int r_tx, .int r_rul])), (qg0, .inr (1, [.ref qg1, .ref qg2, .ref qg3])), (qg1, .inl (cI, 76, .inl g_row)), (qg2, .inl (cI, 6, .inl g_fears)), (qg3, .inl (cI, 18, .inl g_told)), (qy0, .inr (7, [.int y_cnt, .int y_next, .ref qy1])), (qy1, .inl (cI, 2356, .inl y_store)), (qo0, .inr (4, [.int o_calls, .int o_bord, .int o_rep, .int o_unl, .int o_pay, .ref qo1, .ref qo2, .ref qo3, .ref qo4, .ref qo5, .ref qo6])), (qo1, .inl (cI, 5, .inl o_cl)), (qo2, .inl (cI, 8, .inl o_ul)), (qo4, .inl (cI, 8, .inl o_ga)), (qo5, .inl (cI, 8, .inl o_py)), (qo6, .inl (cI, 8, .inl o_pr)), (qk0, .inr (6, [.ref qc0, .ref qg0, .ref qy0, .ref qo0, .int k_tx, .int k_rul]))]) (As := [.ref qc0]) (rest := []) hx hb hml hown hts hK hP hD hS hA (k_X2_become l N D cI cJ cZ cB cT qd0 qd1 qd2 qc0 qc1 qc2 d_n d_for d_road c_n c_for c_road d_n_8 d_for_8 d_road_8 hg8) (kwX6_46 hts rfl rfl ⟨Nat.le_of_ble_eq_true rfl, Nat.le_of_ble_eq_true rfl⟩) [0, 1, 2, 16, 17, 18] [3, 4, 5, 6, 7, 8, 9, 10, 11, 12, 13, 14, 15, 19, 20, 21, 22, 23, 24, 25, 26, 27, 28, 29, 30, 31] rfl rfl rfl (by decide) rfl 0 rfl rfl rfl rfl hl.1 rfl (Nat.le_of_ble_eq_true rfl) dX6_become_8 ⟨Nat.zero_le _, Nat.zero_le _⟩ (fun H locs hP hD hS => ?_)
  have hP := mP_sub (wc := (W_R2_0t11_13t28_30t33 qd0 qd1 qd2 qf0 qf1 qf2 qf3 qz0 qz1 qn0 qn1 qn2 qn4 qn5 qn6 qr0 qc0 qc1 qc2 qg0 qg1 qg2 qg3 qy0 qy1 qo0 qo1 qo2 qo4 qo5 qo6 qk0 qn3 qo3 cI cJ cZ cB cT d_n_8 d_for_8 d_road_8 f_row f_fears f_told z_cnt z_next z_store n_calls n_bord n_rep n_unl n_pay n_cl n_ul n_ga n_py n_pr r_tx r_rul c_n c_for c_road g_row g_fears g_told y_cnt y_next y_store o_calls o_bord o_rep o_unl o_pay o_cl o_ul o_ga o_py o_pr k_tx k_rul)) hP [26, 27, 28, 0, 1, 2, 3, 4, 5, 6, 7, 8, 9, 10, 11, 12, 29, 30, 31, 13, 14, 15, 16, 17, 18, 19, 20, 21, 22, 23, 24, 25] rfl
  have hD := hD.sub (ws' := (W_R2_0t11_13t28_30t33 qd0 qd1 qd2 qf0 qf1 qf2 qf3 qz0 qz1 qn0 qn1 qn2 qn4 qn5 qn6 qr0 qc0 qc1 qc2 qg0 qg1 qg2 qg3 qy0 qy1 qo0 qo1 qo2 qo4 qo5 qo6 qk0 qn3 qo3 cI cJ cZ cB cT d_n_8 d_for_8 d_road_8 f_row f_fears f_told z_cnt z_next z_store n_calls n_bord n_rep n_unl n_pay n_cl n_ul n_ga n_py n_pr r_tx r_rul c_n c_for c_road g_row g_fears g_told y_cnt y_next y_store o_calls o_bord o_rep o_unl o_pay o_cl o_ul o_ga o_py o_pr k_tx k_rul)) [26, 27, 28, 0, 1, 2, 3, 4, 5, 6, 7, 8, 9, 10, 11, 12, 29, 30, 31, 13, 14, 15, 16, 17, 18, 19, 20, 21, 22, 23, 24, 25] rfl rfl
  refine lv_aload_n hx hb dX6_become_11 rfl (lv_at hl 0 rfl) ?_
  refine gfX6_21 hx hb hts hown hK hP 15 rfl rfl dX6_become_12 ?_
  refine lv_aload_n hx hb dX6_become_15 rfl (lv_at hl 1 rfl) ?_
  refine gfX6_21 hx hb hts hown hK hP 31 rfl rfl dX6_become_16 ?_
  obtain ⟨f_row_19, f_fears_19, f_told_19, hg19, hf⟩ := ob3_some hf
  refine mcV_v (wr := [(qd0, .inr (2, [.int d_n_8, .ref qd1, .ref qd2])), (qd1, .inl (cI, 8, .inl d_for_8)), (qd2, .inl (cI, 8, .inl d_road_8)), (qz0, .inr (7, [.int z_cnt, .int z_next, .ref qz1])), (qz1, .inl (cI, 2356, .inl z_store)), (qn0, .inr (4, [.int n_calls, .int n_bord, .int n_rep, .int n_unl, .int n_pay, .ref qn1, .ref qn2, .ref qn3, .ref qn4, .ref qn5, .ref qn6])), (qn1, .inl (cI, 5, .inl n_cl)), (qn2, .inl (cI, 8, .inl n_ul)), (qn4, .inl (cI, 8, .inl n_ga)), (qn5, .inl (cI, 8, .inl n_py)), (qn6, .inl (cI, 8, .inl n_pr)), (qr0, .inr (6, [.ref qd0, .ref qf0, .ref qz0, .ref qn0, .int r_tx, .int r_rul])), (qc0, .inr (2, [.int c_n, .ref qc1, .ref qc2])), (qc1, .inl (cI, 8, .inl c_for)), (qc2, .inl (cI, 8, .inl c_road)), (qy0, .inr (7, [.int y_cnt, .int y_next, .ref qy1])), (qy1, .inl (cI, 2356, .inl y_store)), (qo0, .inr (4, [.int o_calls, .int o_bord, .int o_rep, .int o_unl, .int o_pay, .ref qo1, .ref qo2, .ref qo3, .ref qo4, .ref qo5, .ref qo6])), (qo1, .inl (cI, 5, .inl o_cl)), (qo2, .inl (cI, 8, .inl o_ul)), (qo4, .inl (cI, 8, .inl o_ga)), (qo5, .inl (cI, 8, .inl o_py)), (qo6, .inl (cI, 8, .inl o_pr)), (qk0, .inr (6, [.ref qc0, .ref qg0, .ref qy0, .ref qo0, .int k_tx, .int k_rul]))]) (As := [.ref qg0]) (rest := []) hx hb hml hown hts hK hP hD hS hA (k_X1_become l N D cI cJ cZ cB cT qf0 qf1 qf2 qf3 qg0 qg1 qg2 qg3 f_row f_fears f_told g_row g_fears g_told f_row_19 f_fears_19 f_told_19 hg19) (kwX6_50 hts rfl rfl ⟨Nat.le_of_ble_eq_true rfl, Nat.le_of_ble_eq_true rfl⟩) [3, 4, 5, 6, 19, 20, 21, 22] [0, 1, 2, 7, 8, 9, 10, 11, 12, 13, 14, 15, 16, 17, 18, 23, 24, 25, 26, 27, 28, 29, 30, 31] rfl rfl rfl (by decide) rfl 0 rfl rfl rfl rfl hl.1 rfl (Nat.le_of_ble_eq_true rfl) dX6_become_19 ⟨Nat.zero_le _, Nat.zero_le _⟩ (fun H locs hP hD hS => ?_)
  have hP := mP_sub (wc := (W_R2_0t11_13t28_30t33 qd0 qd1 qd2 qf0 qf1 qf2 qf3 qz0 qz1 qn0 qn1 qn2 qn4 qn5 qn6 qr0 qc0 qc1 qc2 qg0 qg1 qg2 qg3 qy0 qy1 qo0 qo1 qo2 qo4 qo5 qo6 qk0 qn3 qo3 cI cJ cZ cB cT d_n_8 d_for_8 d_road_8 f_row_19 f_fears_19 f_told_19 z_cnt z_next z_store n_calls n_bord n_rep n_unl n_pay n_cl n_ul n_ga n_py n_pr r_tx r_rul c_n c_for c_road g_row g_fears g_told y_cnt y_next y_store o_calls o_bord o_rep o_unl o_pay o_cl o_ul o_ga o_py o_pr k_tx k_rul)) hP [0, 1, 2, 24, 25, 26, 27, 3, 4, 5, 6, 7, 8, 9, 10, 11, 12, 13, 14, 28, 29, 30, 31, 15, 16, 17, 18, 19, 20, 21, 22, 23] rfl
  have hD := hD.sub (ws' := (W_R2_0t11_13t28_30t33 qd0 qd1 qd2 qf0 qf1 qf2 qf3 qz0 qz1 qn0 qn1 qn2 qn4 qn5 qn6 qr0 qc0 qc1 qc2 qg0 qg1 qg2 qg3 qy0 qy1 qo0 qo1 qo2 qo4 qo5 qo6 qk0 qn3 qo3 cI cJ cZ cB cT d_n_8 d_for_8 d_road_8 f_row_19 f_fears_19 f_told_19 z_cnt z_next z_store n_calls n_bord n_rep n_unl n_pay n_cl n_ul n_ga n_py n_pr r_tx r_rul c_n c_for c_road g_row g_fears g_told y_cnt y_next y_store o_calls o_bord o_rep o_unl o_pay o_cl o_ul o_ga o_py o_pr k_tx k_rul)) [0, 1, 2, 24, 25, 26, 27, 3, 4, 5, 6, 7, 8, 9, 10, 11, 12, 13, 14, 28, 29, 30, 31, 15, 16, 17, 18, 19, 20, 21, 22, 23] rfl rfl
  refine lv_aload_n hx hb dX6_become_22 rfl (lv_at hl 0 rfl) ?_
  refine gfX6_28 hx hb hts hown hK hP 15 rfl rfl dX6_become_23 ?_
  refine lv_aload_n hx hb dX6_become_26 rfl (lv_at hl 1 rfl) ?_
  refine gfX6_28 hx hb hts hown hK hP 31 rfl rfl dX6_become_27 ?_
  obtain ⟨z_cnt_30, z_next_30, z_store_30, hg30, hf⟩ := ob3_some hf
  refine mcV_v (wr := [(qd0, .inr (2, [.int d_n_8, .ref qd1, .ref qd2])), (qd1, .inl (cI, 8, .inl d_for_8)), (qd2, .inl (cI, 8, .inl d_road_8)), (qf0, .inr (1, [.ref qf1, .ref qf2, .ref qf3])), (qf1, .inl (cI, 76, .inl f_row_19)), (qf2, .inl (cI, 6, .inl f_fears_19)), (qf3, .inl (cI, 18, .inl f_told_19)), (qn0, .inr (4, [.int n_calls, .int n_bord, .int n_rep, .int n_unl, .int n_pay, .ref qn1, .ref qn2, .ref qn3, .ref qn4, .ref qn5, .ref qn6])), (qn1, .inl (cI, 5, .inl n_cl)), (qn2, .inl (cI, 8, .inl n_ul)), (qn4, .inl (cI, 8, .inl n_ga)), (qn5, .inl (cI, 8, .inl n_py)), (qn6, .inl (cI, 8, .inl n_pr)), (qr0, .inr (6, [.ref qd0, .ref qf0, .ref qz0, .ref qn0, .int r_tx, .int r_rul])), (qc0, .inr (2, [.int c_n, .ref qc1, .ref qc2])), (qc1, .inl (cI, 8, .inl c_for)), (qc2, .inl (cI, 8, .inl c_road)), (qg0, .inr (1, [.ref qg1, .ref qg2, .ref qg3])), (qg1, .inl (cI, 76, .inl g_row)), (qg2, .inl (cI, 6, .inl g_fears)), (qg3, .inl (cI, 18, .inl g_told)), (qo0, .inr (4, [.int o_calls, .int o_bord, .int o_rep, .int o_unl, .int o_pay, .ref qo1, .ref qo2, .ref qo3, .ref qo4, .ref qo5, .ref qo6])), (qo1, .inl (cI, 5, .inl o_cl)), (qo2, .inl (cI, 8, .inl o_ul)), (qo4, .inl (cI, 8, .inl o_ga)), (qo5, .inl (cI, 8, .inl o_py)), (qo6, .inl (cI, 8, .inl o_pr)), (qk0, .inr (6, [.ref qc0, .ref qg0, .ref qy0, .ref qo0, .int k_tx, .int k_rul]))]) (As := [.ref qy0]) (rest := []) hx hb hml hown hts hK hP hD hS hA (k_X7_become l N D cI cJ cZ cB cT qz0 qz1 qy0 qy1 z_cnt z_next z_store y_cnt y_next y_store z_cnt_30 z_next_30 z_store_30 hg30) (kwX6_53 hts rfl rfl ⟨Nat.le_of_ble_eq_true rfl, Nat.le_of_ble_eq_true rfl⟩) [7, 8, 23, 24] [0, 1, 2, 3, 4, 5, 6, 9, 10, 11, 12, 13, 14, 15, 16, 17, 18, 19, 20, 21, 22, 25, 26, 27, 28, 29, 30, 31] rfl rfl rfl (by decide) rfl 0 rfl rfl rfl rfl hl.1 rfl (Nat.le_of_ble_eq_true rfl) dX6_become_30 ⟨Nat.zero_le _, Nat.zero_le _⟩ (fun H locs hP hD hS => ?_)
  have hP := mP_sub (wc := (W_R2_0t11_13t28_30t33 qd0 qd1 qd2 qf0 qf1 qf2 qf3 qz0 qz1 qn0 qn1 qn2 qn4 qn5 qn6 qr0 qc0 qc1 qc2 qg0 qg1 qg2 qg3 qy0 qy1 qo0 qo1 qo2 qo4 qo5 qo6 qk0 qn3 qo3 cI cJ cZ cB cT d_n_8 d_for_8 d_road_8 f_row_19 f_fears_19 f_told_19 z_cnt_30 z_next_30 z_store_30 n_calls n_bord n_rep n_unl n_pay n_cl n_ul n_ga n_py n_pr r_tx r_rul c_n c_for c_road g_row g_fears g_told y_cnt y_next y_store o_calls o_bord o_rep o_unl o_pay o_cl o_ul o_ga o_py o_pr k_tx k_rul)) hP [0, 1, 2, 3, 4, 5, 6, 28, 29, 7, 8, 9, 10, 11, 12, 13, 14, 15, 16, 17, 18, 19, 20, 30, 31, 21, 22, 23, 24, 25, 26, 27] rfl
  have hD := hD.sub (ws' := (W_R2_0t11_13t28_30t33 qd0 qd1 qd2 qf0 qf1 qf2 qf3 qz0 qz1 qn0 qn1 qn2 qn4 qn5 qn6 qr0 qc0 qc1 qc2 qg0 qg1 qg2 qg3 qy0 qy1 qo0 qo1 qo2 qo4 qo5 qo6 qk0 qn3 qo3 cI cJ cZ cB cT d_n_8 d_for_8 d_road_8 f_row_19 f_fears_19 f_told_19 z_cnt_30 z_next_30 z_store_30 n_calls n_bord n_rep n_unl n_pay n_cl n_ul n_ga n_py n_pr r_tx r_rul c_n c_for c_road g_row g_fears g_told y_cnt y_next y_store o_calls o_bord o_rep o_unl o_pay o_cl o_ul o_ga o_py o_pr k_tx k_rul)) [0, 1, 2, 3, 4, 5, 6, 28, 29, 7, 8, 9, 10, 11, 12, 13, 14, 15, 16, 17, 18, 19, 20, 30, 31, 21, 22, 23, 24, 25, 26, 27] rfl rfl
  refine lv_aload_n hx hb dX6_become_33 rfl (lv_at hl 0 rfl) ?_
  refine gfX6_35 hx hb hts hown hK hP 15 rfl rfl dX6_become_34 ?_
  refine lv_aload_n hx hb dX6_become_37 rfl (lv_at hl 1 rfl) ?_
  refine gfX6_35 hx hb hts hown hK hP 31 rfl rfl dX6_become_38 ?_
  obtain ⟨n_calls_41, n_bord_41, n_rep_41, n_unl_41, n_pay_41, n_cl_41, n_ul_41, n_ga_41, n_py_41, n_pr_41, hg41, hf⟩ := ob10_some hf
  refine mcV_v (wr := [(qd0, .inr (2, [.int d_n_8, .ref qd1, .ref qd2])), (qd1, .inl (cI, 8, .inl d_for_8)), (qd2, .inl (cI, 8, .inl d_road_8)), (qf0, .inr (1, [.ref qf1, .ref qf2, .ref qf3])), (qf1, .inl (cI, 76, .inl f_row_19)), (qf2, .inl (cI, 6, .inl f_fears_19)), (qf3, .inl (cI, 18, .inl f_told_19)), (qz0, .inr (7, [.int z_cnt_30, .int z_next_30, .ref qz1])), (qz1, .inl (cI, 2356, .inl z_store_30)), (qr0, .inr (6, [.ref qd0, .ref qf0, .ref qz0, .ref qn0, .int r_tx, .int r_rul])), (qc0, .inr (2, [.int c_n, .ref qc1, .ref qc2])), (qc1, .inl (cI, 8, .inl c_for)), (qc2, .inl (cI, 8, .inl c_road)), (qg0, .inr (1, [.ref qg1, .ref qg2, .ref qg3])), (qg1, .inl (cI, 76, .inl g_row)), (qg2, .inl (cI, 6, .inl g_fears)), (qg3, .inl (cI, 18, .inl g_told)), (qy0, .inr (7, [.int y_cnt, .int y_next, .ref qy1])), (qy1, .inl (cI, 2356, .inl y_store)), (qk0, .inr (6, [.ref qc0, .ref qg0, .ref qy0, .ref qo0, .int k_tx, .int k_rul]))]) (As := [.ref qo0]) (rest := []) hx hb hml hown hts hK hP hD hS hA (k_X4_become l N D cI cJ cZ cB cT qn0 qn1 qn2 qn4 qn5 qn6 qo0 qo1 qo2 qo4 qo5 qo6 qn3 qo3 n_calls n_bord n_rep n_unl n_pay n_cl n_ul n_ga n_py n_pr o_calls o_bord o_rep o_unl o_pay o_cl o_ul o_ga o_py o_pr n_calls_41 n_bord_41 n_rep_41 n_unl_41 n_pay_41 n_cl_41 n_ul_41 n_ga_41 n_py_41 n_pr_41 hg41) (kwX6_56 hts rfl rfl ⟨Nat.le_of_ble_eq_true rfl, Nat.le_of_ble_eq_true rfl⟩) [9, 10, 11, 12, 13, 14, 25, 26, 27, 28, 29, 30] [0, 1, 2, 3, 4, 5, 6, 7, 8, 15, 16, 17, 18, 19, 20, 21, 22, 23, 24, 31] rfl rfl rfl (by decide) rfl 0 rfl rfl rfl rfl hl.1 rfl (Nat.le_of_ble_eq_true rfl) dX6_become_41 ⟨Nat.zero_le _, Nat.zero_le _⟩ (fun H locs hP hD hS => ?_)
  have hP := mP_sub (wc := (W_R2_0t11_13t28_30t33 qd0 qd1 qd2 qf0 qf1 qf2 qf3 qz0 qz1 qn0 qn1 qn2 qn4 qn5 qn6 qr0 qc0 qc1 qc2 qg0 qg1 qg2 qg3 qy0 qy1 qo0 qo1 qo2 qo4 qo5 qo6 qk0 qn3 qo3 cI cJ cZ cB cT d_n_8 d_for_8 d_road_8 f_row_19 f_fears_19 f_told_19 z_cnt_30 z_next_30 z_store_30 n_calls_41 n_bord_41 n_rep_41 n_unl_41 n_pay_41 n_cl_41 n_ul_41 n_ga_41 n_py_41 n_pr_41 r_tx r_rul c_n c_for c_road g_row g_fears g_told y_cnt y_next y_store o_calls o_bord o_rep o_unl o_pay o_cl o_ul o_ga o_py o_pr k_tx k_rul)) hP [0, 1, 2, 3, 4, 5, 6, 7, 8, 20, 21, 22, 23, 24, 25, 9, 10, 11, 12, 13, 14, 15, 16, 17, 18, 26, 27, 28, 29, 30, 31, 19] rfl
  have hD := hD.sub (ws' := (W_R2_0t11_13t28_30t33 qd0 qd1 qd2 qf0 qf1 qf2 qf3 qz0 qz1 qn0 qn1 qn2 qn4 qn5 qn6 qr0 qc0 qc1 qc2 qg0 qg1 qg2 qg3 qy0 qy1 qo0 qo1 qo2 qo4 qo5 qo6 qk0 qn3 qo3 cI cJ cZ cB cT d_n_8 d_for_8 d_road_8 f_row_19 f_fears_19 f_told_19 z_cnt_30 z_next_30 z_store_30 n_calls_41 n_bord_41 n_rep_41 n_unl_41 n_pay_41 n_cl_41 n_ul_41 n_ga_41 n_py_41 n_pr_41 r_tx r_rul c_n c_for c_road g_row g_fears g_told y_cnt y_next y_store o_calls o_bord o_rep o_unl o_pay o_cl o_ul o_ga o_py o_pr k_tx k_rul)) [0, 1, 2, 3, 4, 5, 6, 7, 8, 20, 21, 22, 23, 24, 25, 9, 10, 11, 12, 13, 14, 15, 16, 17, 18, 26, 27, 28, 29, 30, 31, 19] rfl rfl
  refine lv_aload_n hx hb dX6_become_44 rfl (lv_at hl 0 rfl) ?_
  refine lv_aload_n hx hb dX6_become_45 rfl (lv_at hl 1 rfl) ?_
  refine gfX6_39 hx hb hts hown hK hP 31 rfl rfl dX6_become_46 ?_
  refine pfX6_39 hx hb hts hown hK hP hD hS 15 rfl (Nat.le_of_ble_eq_true rfl) dX6_become_49 (fun H locs hP hD hS => ?_)
  have hP : va_P D vwCl (W_R2_0t11_13t28_30t33 qd0 qd1 qd2 qf0 qf1 qf2 qf3 qz0 qz1 qn0 qn1 qn2 qn4 qn5 qn6 qr0 qc0 qc1 qc2 qg0 qg1 qg2 qg3 qy0 qy1 qo0 qo1 qo2 qo4 qo5 qo6 qk0 qn3 qo3 cI cJ cZ cB cT d_n_8 d_for_8 d_road_8 f_row_19 f_fears_19 f_told_19 z_cnt_30 z_next_30 z_store_30 n_calls_41 n_bord_41 n_rep_41 n_unl_41 n_pay_41 n_cl_41 n_ul_41 n_ga_41 n_py_41 n_pr_41 k_tx r_rul c_n c_for c_road g_row g_fears g_told y_cnt y_next y_store o_calls o_bord o_rep o_unl o_pay o_cl o_ul o_ga o_py o_pr k_tx k_rul) H := hP
  have hD : va_D A (W_R2_0t11_13t28_30t33 qd0 qd1 qd2 qf0 qf1 qf2 qf3 qz0 qz1 qn0 qn1 qn2 qn4 qn5 qn6 qr0 qc0 qc1 qc2 qg0 qg1 qg2 qg3 qy0 qy1 qo0 qo1 qo2 qo4 qo5 qo6 qk0 qn3 qo3 cI cJ cZ cB cT d_n_8 d_for_8 d_road_8 f_row_19 f_fears_19 f_told_19 z_cnt_30 z_next_30 z_store_30 n_calls_41 n_bord_41 n_rep_41 n_unl_41 n_pay_41 n_cl_41 n_ul_41 n_ga_41 n_py_41 n_pr_41 k_tx r_rul c_n c_for c_road g_row g_fears g_told y_cnt y_next y_store o_calls o_bord o_rep o_unl o_pay o_cl o_ul o_ga o_py o_pr k_tx k_rul) := hD
  refine lv_aload_n hx hb dX6_become_52 rfl (lv_at hl 0 rfl) ?_
  refine lv_aload_n hx hb dX6_become_53 rfl (lv_at hl 1 rfl) ?_
  refine gfX6_43 hx hb hts hown hK hP 31 rfl rfl dX6_become_54 ?_
  refine pfX6_43 hx hb hts hown hK hP hD hS 15 rfl (Nat.le_of_ble_eq_true rfl) dX6_become_57 (fun H locs hP hD hS => ?_)
  have hP : va_P D vwCl (W_R2_0t11_13t28_30t33 qd0 qd1 qd2 qf0 qf1 qf2 qf3 qz0 qz1 qn0 qn1 qn2 qn4 qn5 qn6 qr0 qc0 qc1 qc2 qg0 qg1 qg2 qg3 qy0 qy1 qo0 qo1 qo2 qo4 qo5 qo6 qk0 qn3 qo3 cI cJ cZ cB cT d_n_8 d_for_8 d_road_8 f_row_19 f_fears_19 f_told_19 z_cnt_30 z_next_30 z_store_30 n_calls_41 n_bord_41 n_rep_41 n_unl_41 n_pay_41 n_cl_41 n_ul_41 n_ga_41 n_py_41 n_pr_41 k_tx k_rul c_n c_for c_road g_row g_fears g_told y_cnt y_next y_store o_calls o_bord o_rep o_unl o_pay o_cl o_ul o_ga o_py o_pr k_tx k_rul) H := hP
  have hD : va_D A (W_R2_0t11_13t28_30t33 qd0 qd1 qd2 qf0 qf1 qf2 qf3 qz0 qz1 qn0 qn1 qn2 qn4 qn5 qn6 qr0 qc0 qc1 qc2 qg0 qg1 qg2 qg3 qy0 qy1 qo0 qo1 qo2 qo4 qo5 qo6 qk0 qn3 qo3 cI cJ cZ cB cT d_n_8 d_for_8 d_road_8 f_row_19 f_fears_19 f_told_19 z_cnt_30 z_next_30 z_store_30 n_calls_41 n_bord_41 n_rep_41 n_unl_41 n_pay_41 n_cl_41 n_ul_41 n_ga_41 n_py_41 n_pr_41 k_tx k_rul c_n c_for c_road g_row g_fears g_told y_cnt y_next y_store o_calls o_bord o_rep o_unl o_pay o_cl o_ul o_ga o_py o_pr k_tx k_rul) := hD
  cases hf
  exact mret_v hx hb hr hlocks hP hD hS dX6_become_60
theorem dX7_ahead_0 : decode cX7_ahead 0 = .ok (.aload_n 1, 1) := by decide +kernel
theorem dX7_ahead_1 : decode cX7_ahead 1 = .ok (.aload_n 0, 1) := by decide +kernel
theorem dX7_ahead_2 : decode cX7_ahead 2 = .ok (.getfield 20, 3) := by decide +kernel
theorem dX7_ahead_5 : decode cX7_ahead 5 = .ok (.aload_n 0, 1) := by decide +kernel
theorem dX7_ahead_6 : decode cX7_ahead 6 = .ok (.getfield 15, 3) := by decide +kernel
theorem dX7_ahead_9 : decode cX7_ahead 9 = .ok (.bipush 76, 2) := by decide +kernel
theorem dX7_ahead_11 : decode cX7_ahead 11 = .ok (.imul, 1) := by decide +kernel
theorem dX7_ahead_12 : decode cX7_ahead 12 = .ok (.invokevirtual 30, 3) := by decide +kernel
theorem dX7_ahead_15 : decode cX7_ahead 15 = .ok (.return_, 1) := by decide +kernel
def f_X7_ahead (N : Nat) (z_next : Int32) (z_store : Nat → Int32) (f_row : Nat → Int32) : Option ((Nat → Int32)) := ob1 (f_X1_copyTo N f_row z_store (z_next * (76 : Int32))) fun z_store_12 => some z_store_12
set_option maxHeartbeats 4000000 in
set_option maxRecDepth 100000 in
theorem k_X7_ahead (l : Launch) (N : Nat) (D : va_G) (cI cJ cZ cB cT : ClassId) (qz0 : Nat) (qz1 : Nat) (qf0 : Nat) (qf1 : Nat) (qf2 : Nat) (qf3 : Nat) (z_cnt : Int32) (z_next : Int32) (z_store : Nat → Int32) (f_row : Nat → Int32) (o_z_store : Nat → Int32) (hf : f_X7_ahead N z_next z_store f_row = some o_z_store) : ∀ sz, Met l yX7_ahead (mw yX7_ahead cX7_ahead 2 none) ({ frames := 2, cells := 0, slots := 0, locals := 82 } : Room) (mPre D (mT cI cJ cZ cB cT) (W_SF_0t3 qz0 qz1 qf0 qf1 qf2 qf3 cI cJ cZ cB cT z_cnt z_next z_store f_row) sz [.ref qz0, .ref qf0]) ((mQv D (W_SF_0t3 qz0 qz1 qf0 qf1 qf2 qf3 cI cJ cZ cB cT z_cnt z_next o_z_store f_row)) (va_A (W_SF_0t3 qz0 qz1 qf0 qf1 qf2 qf3 cI cJ cZ cB cT z_cnt z_next z_store f_row) sz)) 0 0 (va_A (W_SF_0t3 qz0 qz1 qf0 qf1 qf2 qf3 cI cJ cZ cB cT z_cnt z_next z_store f_row) sz) := by
  refine mMet (Qc := (mQv D (W_SF_0t3 qz0 qz1 qf0 qf1 qf2 qf3 cI cJ cZ cB cT z_cnt z_next o_z_store f_row))) (by decide) (Nat.le_of_ble_eq_true rfl) (fun p e s m below meth c A ls hx hb hr hml hts hown hlocks hK hA hP hD hl => ?_)
  have hown : s.vm.findClass RX7 = some m.cls := hown
  have hl : lv_has ls 2 [(0, .ref qz0), (1, .ref qf0)] := hl
  have hS : va_S A s.heap s.heap [] := va_S.rf
  unfold f_X7_ahead at hf
  refine lv_aload_n hx hb dX7_ahead_0 rfl (lv_at hl 1 rfl) ?_
  refine lv_aload_n hx hb dX7_ahead_1 rfl (lv_at hl 0 rfl) ?_
  refine gfX7_20 hx hb hts hown hK hP 0 rfl rfl dX7_ahead_2 ?_
  refine lv_aload_n hx hb dX7_ahead_5 rfl (lv_at hl 0 rfl) ?_
  refine gfX7_15 hx hb hts hown hK hP 0 rfl rfl dX7_ahead_6 ?_
  refine lv_bipush (v := (76 : Int32)) hx hb dX7_ahead_9 (by decide) ?_
  refine lv_imul hx hb dX7_ahead_11 ?_
  obtain ⟨z_store_12, hg12, hf⟩ := ob1_some hf
  refine mcV_v (wr := [(qz0, .inr (7, [.int z_cnt, .int z_next, .ref qz1]))]) (As := [.ref qz1, .int (z_next * (76 : Int32))]) (rest := []) hx hb hml hown hts hK hP hD hS hA (k_X1_copyTo l N D cI cJ cZ cB cT qf0 qf1 qz1 qf2 qf3 f_row z_store (z_next * (76 : Int32)) z_store_12 hg12) (kwX7_30 hts rfl rfl ⟨Nat.le_of_ble_eq_true rfl, Nat.le_of_ble_eq_true rfl⟩) [2, 3, 1] [0] rfl rfl rfl (by decide) rfl 0 rfl rfl rfl rfl hl.1 rfl (Nat.le_of_ble_eq_true rfl) dX7_ahead_12 ⟨Nat.zero_le _, Nat.zero_le _⟩ (fun H locs hP hD hS => ?_)
  have hP := mP_sub (wc := (W_SF_0t3 qz0 qz1 qf0 qf1 qf2 qf3 cI cJ cZ cB cT z_cnt z_next z_store_12 f_row)) hP [0, 3, 1, 2] rfl
  have hD := hD.sub (ws' := (W_SF_0t3 qz0 qz1 qf0 qf1 qf2 qf3 cI cJ cZ cB cT z_cnt z_next z_store_12 f_row)) [0, 3, 1, 2] rfl rfl
  cases hf
  exact mret_v hx hb hr hlocks hP hD hS dX7_ahead_15
theorem dX7_keep_0 : decode cX7_keep 0 = .ok (.aload_n 0, 1) := by decide +kernel
theorem dX7_keep_1 : decode cX7_keep 1 = .ok (.aload_n 0, 1) := by decide +kernel
theorem dX7_keep_2 : decode cX7_keep 2 = .ok (.getfield 15, 3) := by decide +kernel
theorem dX7_keep_5 : decode cX7_keep 5 = .ok (.iconst 1, 1) := by decide +kernel
theorem dX7_keep_6 : decode cX7_keep 6 = .ok (.iadd, 1) := by decide +kernel
theorem dX7_keep_7 : decode cX7_keep 7 = .ok (.bipush 31, 2) := by decide +kernel
theorem dX7_keep_9 : decode cX7_keep 9 = .ok (.irem, 1) := by decide +kernel
theorem dX7_keep_10 : decode cX7_keep 10 = .ok (.putfield 15, 3) := by decide +kernel
theorem dX7_keep_13 : decode cX7_keep 13 = .ok (.aload_n 0, 1) := by decide +kernel
theorem dX7_keep_14 : decode cX7_keep 14 = .ok (.aload_n 0, 1) := by decide +kernel
theorem dX7_keep_15 : decode cX7_keep 15 = .ok (.getfield 11, 3) := by decide +kernel
theorem dX7_keep_18 : decode cX7_keep 18 = .ok (.iconst 1, 1) := by decide +kernel
theorem dX7_keep_19 : decode cX7_keep 19 = .ok (.iadd, 1) := by decide +kernel
theorem dX7_keep_20 : decode cX7_keep 20 = .ok (.bipush 30, 2) := by decide +kernel
theorem dX7_keep_22 : decode cX7_keep 22 = .ok (.invokestatic 34, 3) := by decide +kernel
theorem dX7_keep_25 : decode cX7_keep 25 = .ok (.putfield 11, 3) := by decide +kernel
theorem dX7_keep_28 : decode cX7_keep 28 = .ok (.return_, 1) := by decide +kernel
def f_X7_keep (N : Nat) (z_cnt : Int32) (z_next : Int32) : Option (Int32 × Int32) := rmI (z_next + (1 : Int32)) (31 : Int32) fun v9 => some ((mnI (z_cnt + (1 : Int32)) (30 : Int32)), v9)
set_option maxHeartbeats 4000000 in
set_option maxRecDepth 100000 in
theorem k_X7_keep (l : Launch) (N : Nat) (D : va_G) (cI cJ cZ cB cT : ClassId) (qz0 : Nat) (qz1 : Nat) (z_cnt : Int32) (z_next : Int32) (o_z_cnt : Int32) (o_z_next : Int32) (hf : f_X7_keep N z_cnt z_next = some (o_z_cnt, o_z_next)) : ∀ sz, Met l yX7_keep (mw yX7_keep cX7_keep 1 none) ({ frames := 1, cells := 0, slots := 0, locals := 40 } : Room) (mPre D (mT cI cJ cZ cB cT) (W_S_0 qz0 qz1 cI cJ cZ cB cT z_cnt z_next) sz [.ref qz0]) ((mQv D (W_S_0 qz0 qz1 cI cJ cZ cB cT o_z_cnt o_z_next)) (va_A (W_S_0 qz0 qz1 cI cJ cZ cB cT z_cnt z_next) sz)) 0 0 (va_A (W_S_0 qz0 qz1 cI cJ cZ cB cT z_cnt z_next) sz) := by
  refine mMet (Qc := (mQv D (W_S_0 qz0 qz1 cI cJ cZ cB cT o_z_cnt o_z_next))) (by decide) (Nat.le_of_ble_eq_true rfl) (fun p e s m below meth c A ls hx hb hr hml hts hown hlocks hK hA hP hD hl => ?_)
  have hown : s.vm.findClass RX7 = some m.cls := hown
  have hl : lv_has ls 1 [(0, .ref qz0)] := hl
  have hS : va_S A s.heap s.heap [] := va_S.rf
  unfold f_X7_keep at hf
  refine lv_aload_n hx hb dX7_keep_0 rfl (lv_at hl 0 rfl) ?_
  refine lv_aload_n hx hb dX7_keep_1 rfl (lv_at hl 0 rfl) ?_
  refine gfX7_15 hx hb hts hown hK hP 0 rfl rfl dX7_keep_2 ?_
  refine lv_iconst (v := (1 : Int32)) hx hb dX7_keep_5 (by decide) ?_
  refine lv_iadd hx hb dX7_keep_6 ?_
  refine lv_bipush (v := (31 : Int32)) hx hb dX7_keep_7 (by decide) ?_
  refine xirem hx hb dX7_keep_9 hf (fun v9 hf => ?_)
  refine pfX7_15 hx hb hts hown hK hP hD hS 0 rfl (Nat.le_of_ble_eq_true rfl) dX7_keep_10 (fun H locs hP hD hS => ?_)
  have hP : va_P D vwCl (W_S_0 qz0 qz1 cI cJ cZ cB cT z_cnt v9) H := hP
  have hD : va_D A (W_S_0 qz0 qz1 cI cJ cZ cB cT z_cnt v9) := hD
  refine lv_aload_n hx hb dX7_keep_13 rfl (lv_at hl 0 rfl) ?_
  refine lv_aload_n hx hb dX7_keep_14 rfl (lv_at hl 0 rfl) ?_
  refine gfX7_11 hx hb hts hown hK hP 0 rfl rfl dX7_keep_15 ?_
  refine lv_iconst (v := (1 : Int32)) hx hb dX7_keep_18 (by decide) ?_
  refine lv_iadd hx hb dX7_keep_19 ?_
  refine lv_bipush (v := (30 : Int32)) hx hb dX7_keep_20 (by decide) ?_
  refine xmin hx hb hml hl.1 hown hts mtX7_34 (Nat.le_of_ble_eq_true rfl) (Nat.le_of_ble_eq_true rfl) ⟨Nat.zero_le _, Nat.zero_le _⟩ dX7_keep_22 ?_
  refine pfX7_11 hx hb hts hown hK hP hD hS 0 rfl (Nat.le_of_ble_eq_true rfl) dX7_keep_25 (fun H locs hP hD hS => ?_)
  have hP : va_P D vwCl (W_S_0 qz0 qz1 cI cJ cZ cB cT (mnI (z_cnt + (1 : Int32)) (30 : Int32)) v9) H := hP
  have hD : va_D A (W_S_0 qz0 qz1 cI cJ cZ cB cT (mnI (z_cnt + (1 : Int32)) (30 : Int32)) v9) := hD
  cases hf
  exact mret_v hx hb hr hlocks hP hD hS dX7_keep_28
theorem dX7_takeBack_0 : decode cX7_takeBack 0 = .ok (.aload_n 0, 1) := by decide +kernel
theorem dX7_takeBack_1 : decode cX7_takeBack 1 = .ok (.getfield 11, 3) := by decide +kernel
theorem dX7_takeBack_4 : decode cX7_takeBack 4 = .ok (.ifCond .gt 5, 3) := by decide +kernel
theorem dX7_takeBack_7 : decode cX7_takeBack 7 = .ok (.iconst (-1), 1) := by decide +kernel
theorem dX7_takeBack_8 : decode cX7_takeBack 8 = .ok (.ireturn, 1) := by decide +kernel
theorem dX7_takeBack_9 : decode cX7_takeBack 9 = .ok (.aload_n 0, 1) := by decide +kernel
theorem dX7_takeBack_10 : decode cX7_takeBack 10 = .ok (.aload_n 0, 1) := by decide +kernel
theorem dX7_takeBack_11 : decode cX7_takeBack 11 = .ok (.getfield 15, 3) := by decide +kernel
theorem dX7_takeBack_14 : decode cX7_takeBack 14 = .ok (.bipush 31, 2) := by decide +kernel
theorem dX7_takeBack_16 : decode cX7_takeBack 16 = .ok (.iadd, 1) := by decide +kernel
theorem dX7_takeBack_17 : decode cX7_takeBack 17 = .ok (.iconst 1, 1) := by decide +kernel
theorem dX7_takeBack_18 : decode cX7_takeBack 18 = .ok (.isub, 1) := by decide +kernel
theorem dX7_takeBack_19 : decode cX7_takeBack 19 = .ok (.bipush 31, 2) := by decide +kernel
theorem dX7_takeBack_21 : decode cX7_takeBack 21 = .ok (.irem, 1) := by decide +kernel
theorem dX7_takeBack_22 : decode cX7_takeBack 22 = .ok (.putfield 15, 3) := by decide +kernel
theorem dX7_takeBack_25 : decode cX7_takeBack 25 = .ok (.aload_n 0, 1) := by decide +kernel
theorem dX7_takeBack_26 : decode cX7_takeBack 26 = .ok (.dup, 1) := by decide +kernel
theorem dX7_takeBack_27 : decode cX7_takeBack 27 = .ok (.getfield 11, 3) := by decide +kernel
theorem dX7_takeBack_30 : decode cX7_takeBack 30 = .ok (.iconst 1, 1) := by decide +kernel
theorem dX7_takeBack_31 : decode cX7_takeBack 31 = .ok (.isub, 1) := by decide +kernel
theorem dX7_takeBack_32 : decode cX7_takeBack 32 = .ok (.putfield 11, 3) := by decide +kernel
theorem dX7_takeBack_35 : decode cX7_takeBack 35 = .ok (.aload_n 1, 1) := by decide +kernel
theorem dX7_takeBack_36 : decode cX7_takeBack 36 = .ok (.aload_n 0, 1) := by decide +kernel
theorem dX7_takeBack_37 : decode cX7_takeBack 37 = .ok (.getfield 20, 3) := by decide +kernel
theorem dX7_takeBack_40 : decode cX7_takeBack 40 = .ok (.aload_n 0, 1) := by decide +kernel
theorem dX7_takeBack_41 : decode cX7_takeBack 41 = .ok (.getfield 15, 3) := by decide +kernel
theorem dX7_takeBack_44 : decode cX7_takeBack 44 = .ok (.bipush 76, 2) := by decide +kernel
theorem dX7_takeBack_46 : decode cX7_takeBack 46 = .ok (.imul, 1) := by decide +kernel
theorem dX7_takeBack_47 : decode cX7_takeBack 47 = .ok (.invokevirtual 40, 3) := by decide +kernel
theorem dX7_takeBack_50 : decode cX7_takeBack 50 = .ok (.aload_n 0, 1) := by decide +kernel
theorem dX7_takeBack_51 : decode cX7_takeBack 51 = .ok (.getfield 11, 3) := by decide +kernel
theorem dX7_takeBack_54 : decode cX7_takeBack 54 = .ok (.ireturn, 1) := by decide +kernel
def f_X7_takeBack (N : Nat) (z_cnt : Int32) (z_next : Int32) (z_store : Nat → Int32) (f_row : Nat → Int32) (f_told : Nat → Int32) : Option (Int32 × Int32 × Int32 × (Nat → Int32)) := if 0 < z_cnt then (rmI ((z_next + (31 : Int32)) - (1 : Int32)) (31 : Int32) fun v21 => ob1 (f_X1_takeFrom N f_row f_told z_store (v21 * (76 : Int32))) fun f_row_47 => some ((z_cnt - (1 : Int32)), (z_cnt - (1 : Int32)), v21, f_row_47)) else (some ((-1 : Int32), z_cnt, z_next, f_row))
set_option maxHeartbeats 4000000 in
set_option maxRecDepth 100000 in
theorem k_X7_takeBack (l : Launch) (N : Nat) (D : va_G) (cI cJ cZ cB cT : ClassId) (qz0 : Nat) (qz1 : Nat) (qf0 : Nat) (qf1 : Nat) (qf3 : Nat) (qf2 : Nat) (z_cnt : Int32) (z_next : Int32) (z_store : Nat → Int32) (f_row : Nat → Int32) (f_told : Nat → Int32) (o_r : Int32) (o_z_cnt : Int32) (o_z_next : Int32) (o_f_row : Nat → Int32) (hf : f_X7_takeBack N z_cnt z_next z_store f_row f_told = some (o_r, o_z_cnt, o_z_next, o_f_row)) : ∀ sz, Met l yX7_takeBack (mw yX7_takeBack cX7_takeBack 2 (some .int)) ({ frames := 4, cells := 0, slots := 0, locals := 90 } : Room) (mPre D (mT cI cJ cZ cB cT) (W_SF_0t3_5 qz0 qz1 qf0 qf1 qf3 qf2 cI cJ cZ cB cT z_cnt z_next z_store f_row f_told) sz [.ref qz0, .ref qf0]) ((mQi D (W_SF_0t3_5 qz0 qz1 qf0 qf1 qf3 qf2 cI cJ cZ cB cT o_z_cnt o_z_next z_store o_f_row f_told) o_r True) (va_A (W_SF_0t3_5 qz0 qz1 qf0 qf1 qf3 qf2 cI cJ cZ cB cT z_cnt z_next z_store f_row f_told) sz)) 0 0 (va_A (W_SF_0t3_5 qz0 qz1 qf0 qf1 qf3 qf2 cI cJ cZ cB cT z_cnt z_next z_store f_row f_told) sz) := by
  refine mMet (Qc := (mQi D (W_SF_0t3_5 qz0 qz1 qf0 qf1 qf3 qf2 cI cJ cZ cB cT o_z_cnt o_z_next z_store o_f_row f_told) o_r True)) (by decide) (Nat.le_of_ble_eq_true rfl) (fun p e s m below meth c A ls hx hb hr hml hts hown hlocks hK hA hP hD hl => ?_)
  have hown : s.vm.findClass RX7 = some m.cls := hown
  have hl : lv_has ls 2 [(0, .ref qz0), (1, .ref qf0)] := hl
  have hS : va_S A s.heap s.heap [] := va_S.rf
  unfold f_X7_takeBack at hf
  refine lv_aload_n hx hb dX7_takeBack_0 rfl (lv_at hl 0 rfl) ?_
  refine gfX7_11 hx hb hts hown hK hP 0 rfl rfl dX7_takeBack_1 ?_
  refine xif_gt hx hb 9 dX7_takeBack_4 (by decide) hf (fun hf => ?_) (fun hf => ?_)
  · refine lv_aload_n hx hb dX7_takeBack_9 rfl (lv_at hl 0 rfl) ?_
    refine lv_aload_n hx hb dX7_takeBack_10 rfl (lv_at hl 0 rfl) ?_
    refine gfX7_15 hx hb hts hown hK hP 0 rfl rfl dX7_takeBack_11 ?_
    refine lv_bipush (v := (31 : Int32)) hx hb dX7_takeBack_14 (by decide) ?_
    refine lv_iadd hx hb dX7_takeBack_16 ?_
    refine lv_iconst (v := (1 : Int32)) hx hb dX7_takeBack_17 (by decide) ?_
    refine lv_isub hx hb dX7_takeBack_18 ?_
    refine lv_bipush (v := (31 : Int32)) hx hb dX7_takeBack_19 (by decide) ?_
    refine xirem hx hb dX7_takeBack_21 hf (fun v21 hf => ?_)
    refine pfX7_15 hx hb hts hown hK hP hD hS 0 rfl (Nat.le_of_ble_eq_true rfl) dX7_takeBack_22 (fun H locs hP hD hS => ?_)
    have hP : va_P D vwCl (W_SF_0t3_5 qz0 qz1 qf0 qf1 qf3 qf2 cI cJ cZ cB cT z_cnt v21 z_store f_row f_told) H := hP
    have hD : va_D A (W_SF_0t3_5 qz0 qz1 qf0 qf1 qf3 qf2 cI cJ cZ cB cT z_cnt v21 z_store f_row f_told) := hD
    refine lv_aload_n hx hb dX7_takeBack_25 rfl (lv_at hl 0 rfl) ?_
    refine lv_dup hx hb dX7_takeBack_26 rfl ?_
    refine gfX7_11 hx hb hts hown hK hP 0 rfl rfl dX7_takeBack_27 ?_
    refine lv_iconst (v := (1 : Int32)) hx hb dX7_takeBack_30 (by decide) ?_
    refine lv_isub hx hb dX7_takeBack_31 ?_
    refine pfX7_11 hx hb hts hown hK hP hD hS 0 rfl (Nat.le_of_ble_eq_true rfl) dX7_takeBack_32 (fun H locs hP hD hS => ?_)
    have hP : va_P D vwCl (W_SF_0t3_5 qz0 qz1 qf0 qf1 qf3 qf2 cI cJ cZ cB cT (z_cnt - (1 : Int32)) v21 z_store f_row f_told) H := hP
    have hD : va_D A (W_SF_0t3_5 qz0 qz1 qf0 qf1 qf3 qf2 cI cJ cZ cB cT (z_cnt - (1 : Int32)) v21 z_store f_row f_told) := hD
    refine lv_aload_n hx hb dX7_takeBack_35 rfl (lv_at hl 1 rfl) ?_
    refine lv_aload_n hx hb dX7_takeBack_36 rfl (lv_at hl 0 rfl) ?_
    refine gfX7_20 hx hb hts hown hK hP 0 rfl rfl dX7_takeBack_37 ?_
    refine lv_aload_n hx hb dX7_takeBack_40 rfl (lv_at hl 0 rfl) ?_
    refine gfX7_15 hx hb hts hown hK hP 0 rfl rfl dX7_takeBack_41 ?_
    refine lv_bipush (v := (76 : Int32)) hx hb dX7_takeBack_44 (by decide) ?_
    refine lv_imul hx hb dX7_takeBack_46 ?_
    obtain ⟨f_row_47, hg47, hf⟩ := ob1_some hf
    refine mcV_v (wr := [(qz0, .inr (7, [.int (z_cnt - (1 : Int32)), .int v21, .ref qz1]))]) (As := [.ref qz1, .int (v21 * (76 : Int32))]) (rest := []) hx hb hml hown hts hK hP hD hS hA (k_X1_takeFrom l N D cI cJ cZ cB cT qf0 qf1 qf3 qz1 qf2 f_row f_told z_store (v21 * (76 : Int32)) f_row_47 hg47) (kwX7_40 hts rfl rfl ⟨Nat.le_of_ble_eq_true rfl, Nat.le_of_ble_eq_true rfl⟩) [2, 3, 4, 1] [0] rfl rfl rfl (by decide) rfl 0 rfl rfl rfl rfl hl.1 rfl (Nat.le_of_ble_eq_true rfl) dX7_takeBack_47 ⟨Nat.zero_le _, Nat.zero_le _⟩ (fun H locs hP hD hS => ?_)
    have hP := mP_sub (wc := (W_SF_0t3_5 qz0 qz1 qf0 qf1 qf3 qf2 cI cJ cZ cB cT (z_cnt - (1 : Int32)) v21 z_store f_row_47 f_told)) hP [0, 4, 1, 2, 3] rfl
    have hD := hD.sub (ws' := (W_SF_0t3_5 qz0 qz1 qf0 qf1 qf3 qf2 cI cJ cZ cB cT (z_cnt - (1 : Int32)) v21 z_store f_row_47 f_told)) [0, 4, 1, 2, 3] rfl rfl
    refine lv_aload_n hx hb dX7_takeBack_50 rfl (lv_at hl 0 rfl) ?_
    refine gfX7_11 hx hb hts hown hK hP 0 rfl rfl dX7_takeBack_51 ?_
    cases hf
    exact mret_i hx hb hr hlocks hP hD hS dX7_takeBack_54 rfl trivial
  · refine lv_iconst (v := (-1 : Int32)) hx hb dX7_takeBack_7 (by decide) ?_
    cases hf
    exact mret_i hx hb hr hlocks hP hD hS dX7_takeBack_8 rfl trivial
theorem dX8_hasRoom_0 : decode cX8_hasRoom 0 = .ok (.aload_n 0, 1) := by decide +kernel
theorem dX8_hasRoom_1 : decode cX8_hasRoom 1 = .ok (.getfield 9, 3) := by decide +kernel
theorem dX8_hasRoom_4 : decode cX8_hasRoom 4 = .ok (.bipush 20, 2) := by decide +kernel
theorem dX8_hasRoom_6 : decode cX8_hasRoom 6 = .ok (.iadd, 1) := by decide +kernel
theorem dX8_hasRoom_7 : decode cX8_hasRoom 7 = .ok (.sipush 300, 3) := by decide +kernel
theorem dX8_hasRoom_10 : decode cX8_hasRoom 10 = .ok (.if_icmp .gt 7, 3) := by decide +kernel
theorem dX8_hasRoom_13 : decode cX8_hasRoom 13 = .ok (.iconst 1, 1) := by decide +kernel
theorem dX8_hasRoom_14 : decode cX8_hasRoom 14 = .ok (.goto 4, 3) := by decide +kernel
theorem dX8_hasRoom_17 : decode cX8_hasRoom 17 = .ok (.iconst 0, 1) := by decide +kernel
theorem dX8_hasRoom_18 : decode cX8_hasRoom 18 = .ok (.ireturn, 1) := by decide +kernel
def f_X8_hasRoom (N : Nat) (t_len : Int32) : Option (Int32) := if (300 : Int32) < (t_len + (20 : Int32)) then (some (0 : Int32)) else (some (1 : Int32))
set_option maxHeartbeats 4000000 in
set_option maxRecDepth 100000 in
theorem k_X8_hasRoom (l : Launch) (N : Nat) (D : va_G) (cI cJ cZ cB cT : ClassId) (qt0 : Nat) (qt1 : Nat) (qt2 : Nat) (qt3 : Nat) (qt4 : Nat) (t_len : Int32) (t_tok : Int32) (o_r : Int32) (hf : f_X8_hasRoom N t_len = some o_r) : ∀ sz, Met l yX8_hasRoom (mw yX8_hasRoom cX8_hasRoom 1 (some .boolean)) ({ frames := 0, cells := 0, slots := 0, locals := 0 } : Room) (mPre D (mT cI cJ cZ cB cT) (W_TP_0 qt0 qt1 qt2 qt3 qt4 cI cJ cZ cB cT t_len t_tok) sz [.ref qt0]) ((mQi D (W_TP_0 qt0 qt1 qt2 qt3 qt4 cI cJ cZ cB cT t_len t_tok) o_r (mB o_r)) (va_A (W_TP_0 qt0 qt1 qt2 qt3 qt4 cI cJ cZ cB cT t_len t_tok) sz)) 0 0 (va_A (W_TP_0 qt0 qt1 qt2 qt3 qt4 cI cJ cZ cB cT t_len t_tok) sz) := by
  refine mMet (Qc := (mQi D (W_TP_0 qt0 qt1 qt2 qt3 qt4 cI cJ cZ cB cT t_len t_tok) o_r (mB o_r))) (by decide) (Nat.le_of_ble_eq_true rfl) (fun p e s m below meth c A ls hx hb hr hml hts hown hlocks hK hA hP hD hl => ?_)
  have hown : s.vm.findClass RX8 = some m.cls := hown
  have hl : lv_has ls 1 [(0, .ref qt0)] := hl
  have hS : va_S A s.heap s.heap [] := va_S.rf
  unfold f_X8_hasRoom at hf
  refine lv_aload_n hx hb dX8_hasRoom_0 rfl (lv_at hl 0 rfl) ?_
  refine gfX8_9 hx hb hts hown hK hP 0 rfl rfl dX8_hasRoom_1 ?_
  refine lv_bipush (v := (20 : Int32)) hx hb dX8_hasRoom_4 (by decide) ?_
  refine lv_iadd hx hb dX8_hasRoom_6 ?_
  refine lv_sipush (v := (300 : Int32)) hx hb dX8_hasRoom_7 (by decide) ?_
  refine xicmp_gt hx hb 17 dX8_hasRoom_10 (by decide) hf (fun hf => ?_) (fun hf => ?_)
  · refine lv_iconst (v := (0 : Int32)) hx hb dX8_hasRoom_17 (by decide) ?_
    cases hf
    exact mret_z hx hb hr hlocks hP hD hS dX8_hasRoom_18 rfl rfl
  · refine lv_iconst (v := (1 : Int32)) hx hb dX8_hasRoom_13 (by decide) ?_
    refine lv_goto (tgt := 18) hx hb dX8_hasRoom_14 (by decide) ?_
    cases hf
    exact mret_z hx hb hr hlocks hP hD hS dX8_hasRoom_18 rfl rfl
theorem dX8_take_0 : decode cX8_take 0 = .ok (.bipush 24, 2) := by decide +kernel
theorem dX8_take_2 : decode cX8_take 2 = .ok (.istore_n 2, 1) := by decide +kernel
theorem dX8_take_3 : decode cX8_take 3 = .ok (.iload_n 2, 1) := by decide +kernel
theorem dX8_take_4 : decode cX8_take 4 = .ok (.ifCond .lt 49, 3) := by decide +kernel
theorem dX8_take_7 : decode cX8_take 7 = .ok (.aload_n 0, 1) := by decide +kernel
theorem dX8_take_8 : decode cX8_take 8 = .ok (.getfield 9, 3) := by decide +kernel
theorem dX8_take_11 : decode cX8_take 11 = .ok (.ifCond .lt 36, 3) := by decide +kernel
theorem dX8_take_14 : decode cX8_take 14 = .ok (.aload_n 0, 1) := by decide +kernel
theorem dX8_take_15 : decode cX8_take 15 = .ok (.getfield 9, 3) := by decide +kernel
theorem dX8_take_18 : decode cX8_take 18 = .ok (.sipush 300, 3) := by decide +kernel
theorem dX8_take_21 : decode cX8_take 21 = .ok (.if_icmp .ge 26, 3) := by decide +kernel
theorem dX8_take_24 : decode cX8_take 24 = .ok (.aload_n 0, 1) := by decide +kernel
theorem dX8_take_25 : decode cX8_take 25 = .ok (.getfield 18, 3) := by decide +kernel
theorem dX8_take_28 : decode cX8_take 28 = .ok (.aload_n 0, 1) := by decide +kernel
theorem dX8_take_29 : decode cX8_take 29 = .ok (.getfield 9, 3) := by decide +kernel
theorem dX8_take_32 : decode cX8_take 32 = .ok (.iload_n 1, 1) := by decide +kernel
theorem dX8_take_33 : decode cX8_take 33 = .ok (.iload_n 2, 1) := by decide +kernel
theorem dX8_take_34 : decode cX8_take 34 = .ok (.iushr, 1) := by decide +kernel
theorem dX8_take_35 : decode cX8_take 35 = .ok (.i2b, 1) := by decide +kernel
theorem dX8_take_36 : decode cX8_take 36 = .ok (.bastore, 1) := by decide +kernel
theorem dX8_take_37 : decode cX8_take 37 = .ok (.aload_n 0, 1) := by decide +kernel
theorem dX8_take_38 : decode cX8_take 38 = .ok (.dup, 1) := by decide +kernel
theorem dX8_take_39 : decode cX8_take 39 = .ok (.getfield 9, 3) := by decide +kernel
theorem dX8_take_42 : decode cX8_take 42 = .ok (.iconst 1, 1) := by decide +kernel
theorem dX8_take_43 : decode cX8_take 43 = .ok (.iadd, 1) := by decide +kernel
theorem dX8_take_44 : decode cX8_take 44 = .ok (.putfield 9, 3) := by decide +kernel
theorem dX8_take_47 : decode cX8_take 47 = .ok (.iinc 2 (-8), 3) := by decide +kernel
theorem dX8_take_50 : decode cX8_take 50 = .ok (.goto (-47), 3) := by decide +kernel
theorem dX8_take_53 : decode cX8_take 53 = .ok (.return_, 1) := by decide +kernel
def f_X8_take_47 (N : Nat) (k_3 : Int32 → (Nat → Int32) → Int32 → Int32 → Option (Int32 × (Nat → Int32))) (t_len : Int32) (t_by : Nat → Int32) (x1 : Int32) (x2 : Int32) : Option (Int32 × (Nat → Int32)) := k_3 t_len t_by x1 (x2 + (-8 : Int32))
def f_X8_take_3 (N : Nat) : Nat → Int32 → (Nat → Int32) → Int32 → Int32 → Option (Int32 × (Nat → Int32))
  | 0, _, _, _, _ => none
  | n + 1, t_len, t_by, x1, x2 => if x2 < 0 then (some (t_len, t_by)) else (if t_len < 0 then (f_X8_take_47 N (f_X8_take_3 N n) t_len t_by x1 x2) else (if (300 : Int32) ≤ t_len then (f_X8_take_47 N (f_X8_take_3 N n) t_len t_by x1 x2) else (sA t_by 300 t_len (vp_nar .byte (((x1.toUInt32 >>> (x2.toUInt32 &&& Int32.toUInt32 31)).toInt32).toInt8.toInt32)) fun t_by_36 => f_X8_take_47 N (f_X8_take_3 N n) (t_len + (1 : Int32)) t_by_36 x1 x2)))
def f_X8_take (N : Nat) (t_len : Int32) (t_by : Nat → Int32) (p1 : Int32) : Option (Int32 × (Nat → Int32)) := f_X8_take_3 N N t_len t_by p1 (24 : Int32)
set_option maxHeartbeats 4000000 in
set_option maxRecDepth 100000 in
theorem k_X8_take (l : Launch) (N : Nat) (D : va_G) (cI cJ cZ cB cT : ClassId) (qt0 : Nat) (qt1 : Nat) (qt2 : Nat) (qt3 : Nat) (qt4 : Nat) (t_len : Int32) (t_tok : Int32) (t_by : Nat → Int32) (p1 : Int32) (o_t_len : Int32) (o_t_by : Nat → Int32) (hf : f_X8_take N t_len t_by p1 = some (o_t_len, o_t_by)) : ∀ sz, Met l yX8_take (mw yX8_take cX8_take 3 none) ({ frames := 0, cells := 0, slots := 0, locals := 0 } : Room) (mPre D (mT cI cJ cZ cB cT) (W_TP_0t1 qt0 qt1 qt2 qt3 qt4 cI cJ cZ cB cT t_len t_tok t_by) sz [.ref qt0, .int p1]) ((mQv D (W_TP_0t1 qt0 qt1 qt2 qt3 qt4 cI cJ cZ cB cT o_t_len t_tok o_t_by)) (va_A (W_TP_0t1 qt0 qt1 qt2 qt3 qt4 cI cJ cZ cB cT t_len t_tok t_by) sz)) 0 0 (va_A (W_TP_0t1 qt0 qt1 qt2 qt3 qt4 cI cJ cZ cB cT t_len t_tok t_by) sz) := by
  refine mMet (Qc := (mQv D (W_TP_0t1 qt0 qt1 qt2 qt3 qt4 cI cJ cZ cB cT o_t_len t_tok o_t_by))) (by decide) (Nat.le_of_ble_eq_true rfl) (fun p e s m below meth c A ls hx hb hr hml hts hown hlocks hK hA hP hD hl => ?_)
  have hown : s.vm.findClass RX8 = some m.cls := hown
  have hl : lv_has ls 3 [(0, .ref qt0), (1, .int p1)] := hl
  have hS : va_S A s.heap s.heap [] := va_S.rf
  have b3 : ∀ n3 : Nat, ∀ (t_len : Int32) (t_by : Nat → Int32) (x1 : Int32) (x2 : Int32) (H : Heap) (locs : List Loc) (ls : Array Slot), f_X8_take_3 N n3 t_len t_by x1 x2 = some (o_t_len, o_t_by) → va_P D vwCl (W_TP_0t1 qt0 qt1 qt2 qt3 qt4 cI cJ cZ cB cT t_len t_tok t_by) H → va_D A (W_TP_0t1 qt0 qt1 qt2 qt3 qt4 cI cJ cZ cB cT t_len t_tok t_by) → va_S A s.heap H locs → lv_has ls 3 [(0, .ref qt0), (1, .int x1), (2, .int x2)] → W p l e ({ frames := 0, cells := 0, slots := 0, locals := 0 } : Room) s m ([.ref qt0, .int p1] : List Value).toArray below meth c H locs 0 0 (MQ below ((mQv D (W_TP_0t1 qt0 qt1 qt2 qt3 qt4 cI cJ cZ cB cT o_t_len t_tok o_t_by)) A) ([.ref qt0, .int p1] : List Value).toArray s 0 0 A) (F0 m 3 ls []) := by
    intro n3
    induction n3 with
    | zero =>
      intro t_len t_by x1 x2 H locs ls hf hP hD hS hl
      simp [f_X8_take_3] at hf
    | succ n3 ih3 =>
      have b47 : ∀ (t_len : Int32) (t_by : Nat → Int32) (x1 : Int32) (x2 : Int32) (H : Heap) (locs : List Loc) (ls : Array Slot), f_X8_take_47 N (f_X8_take_3 N n3) t_len t_by x1 x2 = some (o_t_len, o_t_by) → va_P D vwCl (W_TP_0t1 qt0 qt1 qt2 qt3 qt4 cI cJ cZ cB cT t_len t_tok t_by) H → va_D A (W_TP_0t1 qt0 qt1 qt2 qt3 qt4 cI cJ cZ cB cT t_len t_tok t_by) → va_S A s.heap H locs → lv_has ls 3 [(0, .ref qt0), (1, .int x1), (2, .int x2)] → W p l e ({ frames := 0, cells := 0, slots := 0, locals := 0 } : Room) s m ([.ref qt0, .int p1] : List Value).toArray below meth c H locs 0 0 (MQ below ((mQv D (W_TP_0t1 qt0 qt1 qt2 qt3 qt4 cI cJ cZ cB cT o_t_len t_tok o_t_by)) A) ([.ref qt0, .int p1] : List Value).toArray s 0 0 A) (F0 m 47 ls []) := by
        intro t_len t_by x1 x2 H locs ls hf hP hD hS hl
        unfold f_X8_take_47 at hf
        refine lv_iinc (v := (x2 + (-8 : Int32))) (lv' := [(2, .int (x2 + (-8 : Int32))), (0, .ref qt0), (1, .int x1)]) hx hb dX8_take_47 hl (k := 2) rfl rfl (by decide) rfl (fun ls hl => ?_)
        refine lv_goto (tgt := 3) hx hb dX8_take_50 (by decide) ?_
        exact ih3 t_len t_by x1 (x2 + (-8 : Int32)) _ _ _ hf hP hD hS (lv_sub hl [1, 2, 0] rfl)
      intro t_len t_by x1 x2 H locs ls hf hP hD hS hl
      rw [f_X8_take_3.eq_2] at hf
      refine lv_iload_n hx hb dX8_take_3 rfl (lv_at hl 2 rfl) ?_
      refine xif_lt hx hb 53 dX8_take_4 (by decide) hf (fun hf => ?_) (fun hf => ?_)
      · cases hf
        exact mret_v hx hb hr hlocks hP hD hS dX8_take_53
      · refine lv_aload_n hx hb dX8_take_7 rfl (lv_at hl 0 rfl) ?_
        refine gfX8_9 hx hb hts hown hK hP 0 rfl rfl dX8_take_8 ?_
        refine xif_lt hx hb 47 dX8_take_11 (by decide) hf (fun hf => ?_) (fun hf => ?_)
        · exact b47 t_len t_by x1 x2 _ _ _ hf hP hD hS (lv_sub hl [0, 1, 2] rfl)
        · refine lv_aload_n hx hb dX8_take_14 rfl (lv_at hl 0 rfl) ?_
          refine gfX8_9 hx hb hts hown hK hP 0 rfl rfl dX8_take_15 ?_
          refine lv_sipush (v := (300 : Int32)) hx hb dX8_take_18 (by decide) ?_
          refine xicmp_ge hx hb 47 dX8_take_21 (by decide) hf (fun hf => ?_) (fun hf => ?_)
          · exact b47 t_len t_by x1 x2 _ _ _ hf hP hD hS (lv_sub hl [0, 1, 2] rfl)
          · refine lv_aload_n hx hb dX8_take_24 rfl (lv_at hl 0 rfl) ?_
            refine gfX8_18 hx hb hts hown hK hP 0 rfl rfl dX8_take_25 ?_
            refine lv_aload_n hx hb dX8_take_28 rfl (lv_at hl 0 rfl) ?_
            refine gfX8_9 hx hb hts hown hK hP 0 rfl rfl dX8_take_29 ?_
            refine lv_iload_n hx hb dX8_take_32 rfl (lv_at hl 1 rfl) ?_
            refine lv_iload_n hx hb dX8_take_33 rfl (lv_at hl 2 rfl) ?_
            refine lv_iushr hx hb dX8_take_34 rfl ?_
            refine lv_i2b hx hb dX8_take_35 rfl ?_
            refine xbast hx hb hK hP hD hS 1 3 rfl rfl dX8_take_36 hf (fun t_by_36 hf H locs hP hD hS => ?_)
            have hP : va_P D vwCl (W_TP_0t1 qt0 qt1 qt2 qt3 qt4 cI cJ cZ cB cT t_len t_tok t_by_36) H := hP
            have hD : va_D A (W_TP_0t1 qt0 qt1 qt2 qt3 qt4 cI cJ cZ cB cT t_len t_tok t_by_36) := hD
            refine lv_aload_n hx hb dX8_take_37 rfl (lv_at hl 0 rfl) ?_
            refine lv_dup hx hb dX8_take_38 rfl ?_
            refine gfX8_9 hx hb hts hown hK hP 0 rfl rfl dX8_take_39 ?_
            refine lv_iconst (v := (1 : Int32)) hx hb dX8_take_42 (by decide) ?_
            refine lv_iadd hx hb dX8_take_43 ?_
            refine pfX8_9 hx hb hts hown hK hP hD hS 0 rfl (Nat.le_of_ble_eq_true rfl) dX8_take_44 (fun H locs hP hD hS => ?_)
            have hP : va_P D vwCl (W_TP_0t1 qt0 qt1 qt2 qt3 qt4 cI cJ cZ cB cT (t_len + (1 : Int32)) t_tok t_by_36) H := hP
            have hD : va_D A (W_TP_0t1 qt0 qt1 qt2 qt3 qt4 cI cJ cZ cB cT (t_len + (1 : Int32)) t_tok t_by_36) := hD
            exact b47 (t_len + (1 : Int32)) t_by_36 x1 x2 _ _ _ hf hP hD hS (lv_sub hl [0, 1, 2] rfl)
  unfold f_X8_take at hf
  refine lv_bipush (v := (24 : Int32)) hx hb dX8_take_0 (by decide) ?_
  refine lv_istore_n (lv' := [(2, .int (24 : Int32)), (0, .ref qt0), (1, .int p1)]) hx hb dX8_take_2 rfl hl (by decide) rfl (fun ls hl => ?_)
  exact b3 N t_len t_by p1 (24 : Int32) _ _ _ hf hP hD hS (lv_sub hl [1, 2, 0] rfl)
