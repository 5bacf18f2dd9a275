theorem dX11_land_0 : decode cX11_land 0 = .ok (.aload_n 0, 1) := by decide +kernel
theorem dX11_land_1 : decode cX11_land 1 = .ok (.getfield 59, 3) := by decide +kernel
theorem dX11_land_4 : decode cX11_land 4 = .ok (.iload_n 1, 1) := by decide +kernel
theorem dX11_land_5 : decode cX11_land 5 = .ok (.invokevirtual 96, 3) := by decide +kernel
theorem dX11_land_8 : decode cX11_land 8 = .ok (.ireturn, 1) := by decide +kernel
def f_X11_land (N : Nat) (d_n : Int32) (d_for : Nat → Int32) (p1 : Int32) : Option (Int32 × Int32 × (Nat → Int32)) := ob3 (f_X2_tell N d_n d_for p1) fun r5 d_n_5 d_for_5 => some (r5, d_n_5, d_for_5)
set_option maxHeartbeats 4000000 in
set_option maxRecDepth 100000 in
theorem k_X11_land (l : Launch) (N : Nat) (D : va_G) (cI cJ cZ cB cT : ClassId) (qd0 : Nat) (qd1 : Nat) (qX0 : Nat) (qd2 : Nat) (qr0 : Nat) (qk0 : Nat) (qT : Nat) (qb0 : Nat) (qe0 : Nat) (qL0 : Nat) (qf0 : Nat) (qn0 : Nat) (qz0 : Nat) (qD0 : Nat) (qh0 : Nat) (qD1 : Nat) (qv0 : Nat) (d_n : Int32) (d_for : Nat → Int32) (p1 : Int32) (o_r : Int32) (o_d_n : Int32) (o_d_for : Nat → Int32) (hf : f_X11_land N d_n d_for p1 = some (o_r, o_d_n, o_d_for)) : ∀ sz, Met l yX11_land (mw yX11_land cX11_land 2 (some .int)) ({ frames := 1, cells := 0, slots := 0, locals := 21 } : Room) (mPre D (mT cI cJ cZ cB cT) (W_X_0t1_76 qd0 qd1 qX0 qd2 qr0 qk0 qT qb0 qe0 qL0 qf0 qn0 qz0 qD0 qh0 qD1 qv0 cI cJ cZ cB cT d_n d_for) sz [.ref qX0, .int p1]) ((mQi D (W_X_0t1_76 qd0 qd1 qX0 qd2 qr0 qk0 qT qb0 qe0 qL0 qf0 qn0 qz0 qD0 qh0 qD1 qv0 cI cJ cZ cB cT o_d_n o_d_for) o_r True) (va_A (W_X_0t1_76 qd0 qd1 qX0 qd2 qr0 qk0 qT qb0 qe0 qL0 qf0 qn0 qz0 qD0 qh0 qD1 qv0 cI cJ cZ cB cT d_n d_for) sz)) 0 0 (va_A (W_X_0t1_76 qd0 qd1 qX0 qd2 qr0 qk0 qT qb0 qe0 qL0 qf0 qn0 qz0 qD0 qh0 qD1 qv0 cI cJ cZ cB cT d_n d_for) sz) := by
  refine mMet (Qc := (mQi D (W_X_0t1_76 qd0 qd1 qX0 qd2 qr0 qk0 qT qb0 qe0 qL0 qf0 qn0 qz0 qD0 qh0 qD1 qv0 cI cJ cZ cB cT o_d_n o_d_for) o_r True)) (by decide) (Nat.le_of_ble_eq_true rfl) (fun p e s m below meth c A ls hx hb hr hml hts hown hlocks hK hA hP hD hl => ?_)
  have hown : s.vm.findClass RX11 = some m.cls := hown
  have hl : lv_has ls 2 [(0, .ref qX0), (1, .int p1)] := hl
  have hS : va_S A s.heap s.heap [] := va_S.rf
  unfold f_X11_land at hf
  refine lv_aload_n hx hb dX11_land_0 rfl (lv_at hl 0 rfl) ?_
  refine gfX11_59 hx hb hts hown hK hP 2 rfl rfl dX11_land_1 ?_
  refine lv_iload_n hx hb dX11_land_4 rfl (lv_at hl 1 rfl) ?_
  obtain ⟨r5, d_n_5, d_for_5, hg5, hf⟩ := ob3_some hf
  refine mcV_i (wr := [(qX0, .inr (11, [.ref qr0, .ref qk0, .ref qT, .ref qb0, .ref qe0, .ref qL0, .ref qf0, .ref qd0, .ref qn0, .ref qz0, .ref qD0, .ref qh0, .ref qD1, .ref qv0]))]) (As := [.int p1]) (rest := []) hx hb hml hown hts hK hP hD hS hA (k_X2_tell l N D cI cJ cZ cB cT qd0 qd1 qd2 d_n d_for p1 r5 d_n_5 d_for_5 hg5) (kwX11_96 hts rfl rfl ⟨Nat.le_of_ble_eq_true rfl, Nat.le_of_ble_eq_true rfl⟩) [0, 1] [2] rfl rfl rfl (by decide) rfl 0 rfl rfl rfl rfl hl.1 rfl (Nat.le_of_ble_eq_true rfl) dX11_land_5 ⟨Nat.zero_le _, Nat.zero_le _⟩ (fun hB5 H locs hP hD hS => ?_)
  have hP := mP_sub (wc := (W_X_0t1_76 qd0 qd1 qX0 qd2 qr0 qk0 qT qb0 qe0 qL0 qf0 qn0 qz0 qD0 qh0 qD1 qv0 cI cJ cZ cB cT d_n_5 d_for_5)) hP [1, 2, 0] rfl
  have hD := hD.sub (ws' := (W_X_0t1_76 qd0 qd1 qX0 qd2 qr0 qk0 qT qb0 qe0 qL0 qf0 qn0 qz0 qD0 qh0 qD1 qv0 cI cJ cZ cB cT d_n_5 d_for_5)) [1, 2, 0] rfl rfl
  cases hf
  exact mret_i hx hb hr hlocks hP hD hS dX11_land_8 rfl trivial
theorem dX11_road_0 : decode cX11_road 0 = .ok (.aload_n 0, 1) := by decide +kernel
theorem dX11_road_1 : decode cX11_road 1 = .ok (.getfield 59, 3) := by decide +kernel
theorem dX11_road_4 : decode cX11_road 4 = .ok (.iload_n 1, 1) := by decide +kernel
theorem dX11_road_5 : decode cX11_road 5 = .ok (.iload_n 2, 1) := by decide +kernel
theorem dX11_road_6 : decode cX11_road 6 = .ok (.invokevirtual 102, 3) := by decide +kernel
theorem dX11_road_9 : decode cX11_road 9 = .ok (.ireturn, 1) := by decide +kernel
def f_X11_road (N : Nat) (d_n : Int32) (d_road : Nat → Int32) (p1 : Int32) (p2 : Int32) : Option (Int32 × (Nat → Int32)) := ob2 (f_X2_join N d_n d_road p1 p2) fun r6 d_road_6 => some (r6, d_road_6)
set_option maxHeartbeats 4000000 in
set_option maxRecDepth 100000 in
theorem k_X11_road (l : Launch) (N : Nat) (D : va_G) (cI cJ cZ cB cT : ClassId) (qd0 : Nat) (qd2 : Nat) (qX0 : Nat) (qd1 : Nat) (qr0 : Nat) (qk0 : Nat) (qT : Nat) (qb0 : Nat) (qe0 : Nat) (qL0 : Nat) (qf0 : Nat) (qn0 : Nat) (qz0 : Nat) (qD0 : Nat) (qh0 : Nat) (qD1 : Nat) (qv0 : Nat) (d_n : Int32) (d_road : Nat → Int32) (p1 : Int32) (p2 : Int32) (o_r : Int32) (o_d_road : Nat → Int32) (hf : f_X11_road N d_n d_road p1 p2 = some (o_r, o_d_road)) : ∀ sz, Met l yX11_road (mw yX11_road cX11_road 3 (some .boolean)) ({ frames := 3, cells := 0, slots := 0, locals := 65 } : Room) (mPre D (mT cI cJ cZ cB cT) (W_X_0_2_76 qd0 qd2 qX0 qd1 qr0 qk0 qT qb0 qe0 qL0 qf0 qn0 qz0 qD0 qh0 qD1 qv0 cI cJ cZ cB cT d_n d_road) sz [.ref qX0, .int p1, .int p2]) ((mQi D (W_X_0_2_76 qd0 qd2 qX0 qd1 qr0 qk0 qT qb0 qe0 qL0 qf0 qn0 qz0 qD0 qh0 qD1 qv0 cI cJ cZ cB cT d_n o_d_road) o_r (mB o_r)) (va_A (W_X_0_2_76 qd0 qd2 qX0 qd1 qr0 qk0 qT qb0 qe0 qL0 qf0 qn0 qz0 qD0 qh0 qD1 qv0 cI cJ cZ cB cT d_n d_road) sz)) 0 0 (va_A (W_X_0_2_76 qd0 qd2 qX0 qd1 qr0 qk0 qT qb0 qe0 qL0 qf0 qn0 qz0 qD0 qh0 qD1 qv0 cI cJ cZ cB cT d_n d_road) sz) := by
  refine mMet (Qc := (mQi D (W_X_0_2_76 qd0 qd2 qX0 qd1 qr0 qk0 qT qb0 qe0 qL0 qf0 qn0 qz0 qD0 qh0 qD1 qv0 cI cJ cZ cB cT d_n o_d_road) o_r (mB o_r))) (by decide) (Nat.le_of_ble_eq_true rfl) (fun p e s m below meth c A ls hx hb hr hml hts hown hlocks hK hA hP hD hl => ?_)
  have hown : s.vm.findClass RX11 = some m.cls := hown
  have hl : lv_has ls 3 [(0, .ref qX0), (1, .int p1), (2, .int p2)] := hl
  have hS : va_S A s.heap s.heap [] := va_S.rf
  unfold f_X11_road at hf
  refine lv_aload_n hx hb dX11_road_0 rfl (lv_at hl 0 rfl) ?_
  refine gfX11_59 hx hb hts hown hK hP 2 rfl rfl dX11_road_1 ?_
  refine lv_iload_n hx hb dX11_road_4 rfl (lv_at hl 1 rfl) ?_
  refine lv_iload_n hx hb dX11_road_5 rfl (lv_at hl 2 rfl) ?_
  obtain ⟨r6, d_road_6, hg6, hf⟩ := ob2_some hf
  refine mcV_i (wr := [(qX0, .inr (11, [.ref qr0, .ref qk0, .ref qT, .ref qb0, .ref qe0, .ref qL0, .ref qf0, .ref qd0, .ref qn0, .ref qz0, .ref qD0, .ref qh0, .ref qD1, .ref qv0]))]) (As := [.int p1, .int p2]) (rest := []) hx hb hml hown hts hK hP hD hS hA (k_X2_join l N D cI cJ cZ cB cT qd0 qd2 qd1 d_n d_road p1 p2 r6 d_road_6 hg6) (kwX11_102 hts rfl rfl ⟨Nat.le_of_ble_eq_true rfl, Nat.le_of_ble_eq_true rfl⟩) [0, 1] [2] rfl rfl rfl (by decide) rfl 0 rfl rfl rfl rfl hl.1 rfl (Nat.le_of_ble_eq_true rfl) dX11_road_6 ⟨Nat.zero_le _, Nat.zero_le _⟩ (fun hB6 H locs hP hD hS => ?_)
  have hP := mP_sub (wc := (W_X_0_2_76 qd0 qd2 qX0 qd1 qr0 qk0 qT qb0 qe0 qL0 qf0 qn0 qz0 qD0 qh0 qD1 qv0 cI cJ cZ cB cT d_n d_road_6)) hP [1, 2, 0] rfl
  have hD := hD.sub (ws' := (W_X_0_2_76 qd0 qd2 qX0 qd1 qr0 qk0 qT qb0 qe0 qL0 qf0 qn0 qz0 qD0 qh0 qD1 qv0 cI cJ cZ cB cT d_n d_road_6)) [1, 2, 0] rfl rfl
  cases hf
  exact mret_z hx hb hr hlocks hP hD hS dX11_road_9 rfl hB6
theorem dX11_person_0 : decode cX11_person 0 = .ok (.aload_n 0, 1) := by decide +kernel
theorem dX11_person_1 : decode cX11_person 1 = .ok (.getfield 59, 3) := by decide +kernel
theorem dX11_person_4 : decode cX11_person 4 = .ok (.iload_n 1, 1) := by decide +kernel
theorem dX11_person_5 : decode cX11_person 5 = .ok (.invokevirtual 106, 3) := by decide +kernel
theorem dX11_person_8 : decode cX11_person 8 = .ok (.ifCond .ne 5, 3) := by decide +kernel
theorem dX11_person_11 : decode cX11_person 11 = .ok (.iconst (-1), 1) := by decide +kernel
theorem dX11_person_12 : decode cX11_person 12 = .ok (.ireturn, 1) := by decide +kernel
theorem dX11_person_13 : decode cX11_person 13 = .ok (.aload_n 0, 1) := by decide +kernel
theorem dX11_person_14 : decode cX11_person 14 = .ok (.getfield 54, 3) := by decide +kernel
theorem dX11_person_17 : decode cX11_person 17 = .ok (.iload_n 1, 1) := by decide +kernel
theorem dX11_person_18 : decode cX11_person 18 = .ok (.iload_n 2, 1) := by decide +kernel
theorem dX11_person_19 : decode cX11_person 19 = .ok (.iload_n 3, 1) := by decide +kernel
theorem dX11_person_20 : decode cX11_person 20 = .ok (.iload 4, 2) := by decide +kernel
theorem dX11_person_22 : decode cX11_person 22 = .ok (.invokevirtual 110, 3) := by decide +kernel
theorem dX11_person_25 : decode cX11_person 25 = .ok (.ireturn, 1) := by decide +kernel
def f_X11_person (N : Nat) (d_n : Int32) (f_row : Nat → Int32) (f_fears : Nat → Int32) (f_told : Nat → Int32) (p1 : Int32) (p2 : Int32) (p3 : Int32) (p4 : Int32) : Option (Int32 × (Nat → Int32) × (Nat → Int32) × (Nat → Int32)) := ob1 (f_X2_told N d_n p1) fun r5 => if r5 = 0 then (some ((-1 : Int32), f_row, f_fears, f_told)) else (ob4 (f_X1_tell N f_row f_fears f_told p1 p2 p3 p4) fun r22 f_row_22 f_fears_22 f_told_22 => some (r22, f_row_22, f_fears_22, f_told_22))
set_option maxHeartbeats 4000000 in
set_option maxRecDepth 100000 in
theorem k_X11_person (l : Launch) (N : Nat) (D : va_G) (cI cJ cZ cB cT : ClassId) (qd0 : Nat) (qf0 : Nat) (qf1 : Nat) (qf2 : Nat) (qf3 : Nat) (qX0 : Nat) (qd1 : Nat) (qd2 : Nat) (qr0 : Nat) (qk0 : Nat) (qT : Nat) (qb0 : Nat) (qe0 : Nat) (qL0 : Nat) (qn0 : Nat) (qz0 : Nat) (qD0 : Nat) (qh0 : Nat) (qD1 : Nat) (qv0 : Nat) (d_n : Int32) (f_row : Nat → Int32) (f_fears : Nat → Int32) (f_told : Nat → Int32) (p1 : Int32) (p2 : Int32) (p3 : Int32) (p4 : Int32) (o_r : Int32) (o_f_row : Nat → Int32) (o_f_fears : Nat → Int32) (o_f_told : Nat → Int32) (hf : f_X11_person N d_n f_row f_fears f_told p1 p2 p3 p4 = some (o_r, o_f_row, o_f_fears, o_f_told)) : ∀ sz, Met l yX11_person (mw yX11_person cX11_person 5 (some .int)) ({ frames := 4, cells := 0, slots := 0, locals := 90 } : Room) (mPre D (mT cI cJ cZ cB cT) (W_X_0_3t6_76 qd0 qf0 qf1 qf2 qf3 qX0 qd1 qd2 qr0 qk0 qT qb0 qe0 qL0 qn0 qz0 qD0 qh0 qD1 qv0 cI cJ cZ cB cT d_n f_row f_fears f_told) sz [.ref qX0, .int p1, .int p2, .int p3, .int p4]) ((mQi D (W_X_0_3t6_76 qd0 qf0 qf1 qf2 qf3 qX0 qd1 qd2 qr0 qk0 qT qb0 qe0 qL0 qn0 qz0 qD0 qh0 qD1 qv0 cI cJ cZ cB cT d_n o_f_row o_f_fears o_f_told) o_r True) (va_A (W_X_0_3t6_76 qd0 qf0 qf1 qf2 qf3 qX0 qd1 qd2 qr0 qk0 qT qb0 qe0 qL0 qn0 qz0 qD0 qh0 qD1 qv0 cI cJ cZ cB cT d_n f_row f_fears f_told) sz)) 0 0 (va_A (W_X_0_3t6_76 qd0 qf0 qf1 qf2 qf3 qX0 qd1 qd2 qr0 qk0 qT qb0 qe0 qL0 qn0 qz0 qD0 qh0 qD1 qv0 cI cJ cZ cB cT d_n f_row f_fears f_told) sz) := by
  refine mMet (Qc := (mQi D (W_X_0_3t6_76 qd0 qf0 qf1 qf2 qf3 qX0 qd1 qd2 qr0 qk0 qT qb0 qe0 qL0 qn0 qz0 qD0 qh0 qD1 qv0 cI cJ cZ cB cT d_n o_f_row o_f_fears o_f_told) o_r True)) (by decide) (Nat.le_of_ble_eq_true rfl) (fun p e s m below meth c A ls hx hb hr hml hts hown hlocks hK hA hP hD hl => ?_)
  have hown : s.vm.findClass RX11 = some m.cls := hown
  have hl : lv_has ls 5 [(0, .ref qX0), (1, .int p1), (2, .int p2), (3, .int p3), (4, .int p4)] := hl
  have hS : va_S A s.heap s.heap [] := va_S.rf
  unfold f_X11_person at hf
  refine lv_aload_n hx hb dX11_person_0 rfl (lv_at hl 0 rfl) ?_
  refine gfX11_59 hx hb hts hown hK hP 5 rfl rfl dX11_person_1 ?_
  refine lv_iload_n hx hb dX11_person_4 rfl (lv_at hl 1 rfl) ?_
  obtain ⟨r5, hg5, hf⟩ := ob1_some hf
  refine mcV_i (wr := [(qf0, .inr (1, [.ref qf1, .ref qf2, .ref qf3])), (qf1, .inl (cI, 76, .inl f_row)), (qf2, .inl (cI, 6, .inl f_fears)), (qf3, .inl (cI, 18, .inl f_told)), (qX0, .inr (11, [.ref qr0, .ref qk0, .ref qT, .ref qb0, .ref qe0, .ref qL0, .ref qf0, .ref qd0, .ref qn0, .ref qz0, .ref qD0, .ref qh0, .ref qD1, .ref qv0]))]) (As := [.int p1]) (rest := []) hx hb hml hown hts hK hP hD hS hA (k_X2_told l N D cI cJ cZ cB cT qd0 qd1 qd2 d_n p1 r5 hg5) (kwX11_106 hts rfl rfl ⟨Nat.le_of_ble_eq_true rfl, Nat.le_of_ble_eq_true rfl⟩) [0] [1, 2, 3, 4, 5] rfl rfl rfl (by decide) rfl 0 rfl rfl rfl rfl hl.1 rfl (Nat.le_of_ble_eq_true rfl) dX11_person_5 ⟨Nat.zero_le _, Nat.zero_le _⟩ (fun hB5 H locs hP hD hS => ?_)
  have hP := mP_sub (wc := (W_X_0_3t6_76 qd0 qf0 qf1 qf2 qf3 qX0 qd1 qd2 qr0 qk0 qT qb0 qe0 qL0 qn0 qz0 qD0 qh0 qD1 qv0 cI cJ cZ cB cT d_n f_row f_fears f_told)) hP [5, 0, 1, 2, 3, 4] rfl
  have hD := hD.sub (ws' := (W_X_0_3t6_76 qd0 qf0 qf1 qf2 qf3 qX0 qd1 qd2 qr0 qk0 qT qb0 qe0 qL0 qn0 qz0 qD0 qh0 qD1 qv0 cI cJ cZ cB cT d_n f_row f_fears f_told)) [5, 0, 1, 2, 3, 4] rfl rfl
  refine xif_ne hx hb 13 dX11_person_8 (by decide) hf (fun hf => ?_) (fun hf => ?_)
  · refine lv_iconst (v := (-1 : Int32)) hx hb dX11_person_11 (by decide) ?_
    cases hf
    exact mret_i hx hb hr hlocks hP hD hS dX11_person_12 rfl trivial
  · refine lv_aload_n hx hb dX11_person_13 rfl (lv_at hl 0 rfl) ?_
    refine gfX11_54 hx hb hts hown hK hP 5 rfl rfl dX11_person_14 ?_
    refine lv_iload_n hx hb dX11_person_17 rfl (lv_at hl 1 rfl) ?_
    refine lv_iload_n hx hb dX11_person_18 rfl (lv_at hl 2 rfl) ?_
    refine lv_iload_n hx hb dX11_person_19 rfl (lv_at hl 3 rfl) ?_
    refine lv_iload hx hb dX11_person_20 (lv_at hl 4 rfl) ?_
    obtain ⟨r22, f_row_22, f_fears_22, f_told_22, hg22, hf⟩ := ob4_some hf
    refine mcV_i (wr := [(qd0, .inr (2, [.int d_n, .ref qd1, .ref qd2])), (qX0, .inr (11, [.ref qr0, .ref qk0, .ref qT, .ref qb0, .ref qe0, .ref qL0, .ref qf0, .ref qd0, .ref qn0, .ref qz0, .ref qD0, .ref qh0, .ref qD1, .ref qv0]))]) (As := [.int p1, .int p2, .int p3, .int p4]) (rest := []) hx hb hml hown hts hK hP hD hS hA (k_X1_tell l N D cI cJ cZ cB cT qf0 qf1 qf2 qf3 f_row f_fears f_told p1 p2 p3 p4 r22 f_row_22 f_fears_22 f_told_22 hg22) (kwX11_110 hts rfl rfl ⟨Nat.le_of_ble_eq_true rfl, Nat.le_of_ble_eq_true rfl⟩) [1, 2, 3, 4] [0, 5] rfl rfl rfl (by decide) rfl 0 rfl rfl rfl rfl hl.1 rfl (Nat.le_of_ble_eq_true rfl) dX11_person_22 ⟨Nat.zero_le _, Nat.zero_le _⟩ (fun hB22 H locs hP hD hS => ?_)
    have hP := mP_sub (wc := (W_X_0_3t6_76 qd0 qf0 qf1 qf2 qf3 qX0 qd1 qd2 qr0 qk0 qT qb0 qe0 qL0 qn0 qz0 qD0 qh0 qD1 qv0 cI cJ cZ cB cT d_n f_row_22 f_fears_22 f_told_22)) hP [0, 2, 3, 4, 5, 1] rfl
    have hD := hD.sub (ws' := (W_X_0_3t6_76 qd0 qf0 qf1 qf2 qf3 qX0 qd1 qd2 qr0 qk0 qT qb0 qe0 qL0 qn0 qz0 qD0 qh0 qD1 qv0 cI cJ cZ cB cT d_n f_row_22 f_fears_22 f_told_22)) [0, 2, 3, 4, 5, 1] rfl rfl
    cases hf
    exact mret_i hx hb hr hlocks hP hD hS dX11_person_25 rfl trivial
theorem dX11_feed_0 : decode cX11_feed 0 = .ok (.aload_n 0, 1) := by decide +kernel
theorem dX11_feed_1 : decode cX11_feed 1 = .ok (.getfield 28, 3) := by decide +kernel
theorem dX11_feed_4 : decode cX11_feed 4 = .ok (.invokevirtual 113, 3) := by decide +kernel
theorem dX11_feed_7 : decode cX11_feed 7 = .ok (.ifCond .ne 5, 3) := by decide +kernel
theorem dX11_feed_10 : decode cX11_feed 10 = .ok (.iconst (-1), 1) := by decide +kernel
theorem dX11_feed_11 : decode cX11_feed 11 = .ok (.ireturn, 1) := by decide +kernel
theorem dX11_feed_12 : decode cX11_feed 12 = .ok (.aload_n 0, 1) := by decide +kernel
theorem dX11_feed_13 : decode cX11_feed 13 = .ok (.getfield 28, 3) := by decide +kernel
theorem dX11_feed_16 : decode cX11_feed 16 = .ok (.iload_n 1, 1) := by decide +kernel
theorem dX11_feed_17 : decode cX11_feed 17 = .ok (.invokevirtual 117, 3) := by decide +kernel
theorem dX11_feed_20 : decode cX11_feed 20 = .ok (.aload_n 0, 1) := by decide +kernel
theorem dX11_feed_21 : decode cX11_feed 21 = .ok (.getfield 28, 3) := by decide +kernel
theorem dX11_feed_24 : decode cX11_feed 24 = .ok (.iload_n 2, 1) := by decide +kernel
theorem dX11_feed_25 : decode cX11_feed 25 = .ok (.invokevirtual 117, 3) := by decide +kernel
theorem dX11_feed_28 : decode cX11_feed 28 = .ok (.aload_n 0, 1) := by decide +kernel
theorem dX11_feed_29 : decode cX11_feed 29 = .ok (.getfield 28, 3) := by decide +kernel
theorem dX11_feed_32 : decode cX11_feed 32 = .ok (.iload_n 3, 1) := by decide +kernel
theorem dX11_feed_33 : decode cX11_feed 33 = .ok (.invokevirtual 117, 3) := by decide +kernel
theorem dX11_feed_36 : decode cX11_feed 36 = .ok (.aload_n 0, 1) := by decide +kernel
theorem dX11_feed_37 : decode cX11_feed 37 = .ok (.getfield 28, 3) := by decide +kernel
theorem dX11_feed_40 : decode cX11_feed 40 = .ok (.iload 4, 2) := by decide +kernel
theorem dX11_feed_42 : decode cX11_feed 42 = .ok (.invokevirtual 117, 3) := by decide +kernel
theorem dX11_feed_45 : decode cX11_feed 45 = .ok (.aload_n 0, 1) := by decide +kernel
theorem dX11_feed_46 : decode cX11_feed 46 = .ok (.getfield 28, 3) := by decide +kernel
theorem dX11_feed_49 : decode cX11_feed 49 = .ok (.iload 5, 2) := by decide +kernel
theorem dX11_feed_51 : decode cX11_feed 51 = .ok (.invokevirtual 117, 3) := by decide +kernel
theorem dX11_feed_54 : decode cX11_feed 54 = .ok (.aload_n 0, 1) := by decide +kernel
theorem dX11_feed_55 : decode cX11_feed 55 = .ok (.getfield 28, 3) := by decide +kernel
theorem dX11_feed_58 : decode cX11_feed 58 = .ok (.getfield 121, 3) := by decide +kernel
theorem dX11_feed_61 : decode cX11_feed 61 = .ok (.ireturn, 1) := by decide +kernel
def f_X11_feed (N : Nat) (b_len : Int32) (b_by : Nat → Int32) (p1 : Int32) (p2 : Int32) (p3 : Int32) (p4 : Int32) (p5 : Int32) : Option (Int32 × Int32 × (Nat → Int32)) := ob1 (f_X8_hasRoom N b_len) fun r4 => if r4 = 0 then (some ((-1 : Int32), b_len, b_by)) else (ob2 (f_X8_take N b_len b_by p1) fun b_len_17 b_by_17 => ob2 (f_X8_take N b_len_17 b_by_17 p2) fun b_len_25 b_by_25 => ob2 (f_X8_take N b_len_25 b_by_25 p3) fun b_len_33 b_by_33 => ob2 (f_X8_take N b_len_33 b_by_33 p4) fun b_len_42 b_by_42 => ob2 (f_X8_take N b_len_42 b_by_42 p5) fun b_len_51 b_by_51 => some (b_len_51, b_len_51, b_by_51))
set_option maxHeartbeats 4000000 in
set_option maxRecDepth 100000 in
theorem k_X11_feed (l : Launch) (N : Nat) (D : va_G) (cI cJ cZ cB cT : ClassId) (qb0 : Nat) (qb1 : Nat) (qX0 : Nat) (qb2 : Nat) (qb3 : Nat) (qb4 : Nat) (qr0 : Nat) (qk0 : Nat) (qT : Nat) (qe0 : Nat) (qL0 : Nat) (qf0 : Nat) (qd0 : Nat) (qn0 : Nat) (qz0 : Nat) (qD0 : Nat) (qh0 : Nat) (qD1 : Nat) (qv0 : Nat) (b_len : Int32) (b_tok : Int32) (b_by : Nat → Int32) (p1 : Int32) (p2 : Int32) (p3 : Int32) (p4 : Int32) (p5 : Int32) (o_r : Int32) (o_b_len : Int32) (o_b_by : Nat → Int32) (hf : f_X11_feed N b_len b_by p1 p2 p3 p4 p5 = some (o_r, o_b_len, o_b_by)) : ∀ sz, Met l yX11_feed (mw yX11_feed cX11_feed 6 (some .int)) ({ frames := 1, cells := 0, slots := 0, locals := 22 } : Room) (mPre D (mT cI cJ cZ cB cT) (W_X_55t56_76 qb0 qb1 qX0 qb2 qb3 qb4 qr0 qk0 qT qe0 qL0 qf0 qd0 qn0 qz0 qD0 qh0 qD1 qv0 cI cJ cZ cB cT b_len b_tok b_by) sz [.ref qX0, .int p1, .int p2, .int p3, .int p4, .int p5]) ((mQi D (W_X_55t56_76 qb0 qb1 qX0 qb2 qb3 qb4 qr0 qk0 qT qe0 qL0 qf0 qd0 qn0 qz0 qD0 qh0 qD1 qv0 cI cJ cZ cB cT o_b_len b_tok o_b_by) o_r True) (va_A (W_X_55t56_76 qb0 qb1 qX0 qb2 qb3 qb4 qr0 qk0 qT qe0 qL0 qf0 qd0 qn0 qz0 qD0 qh0 qD1 qv0 cI cJ cZ cB cT b_len b_tok b_by) sz)) 0 0 (va_A (W_X_55t56_76 qb0 qb1 qX0 qb2 qb3 qb4 qr0 qk0 qT qe0 qL0 qf0 qd0 qn0 qz0 qD0 qh0 qD1 qv0 cI cJ cZ cB cT b_len b_tok b_by) sz) := by
  refine mMet (Qc := (mQi D (W_X_55t56_76 qb0 qb1 qX0 qb2 qb3 qb4 qr0 qk0 qT qe0 qL0 qf0 qd0 qn0 qz0 qD0 qh0 qD1 qv0 cI cJ cZ cB cT o_b_len b_tok o_b_by) o_r True)) (by decide) (Nat.le_of_ble_eq_true rfl) (fun p e s m below meth c A ls hx hb hr hml hts hown hlocks hK hA hP hD hl => ?_)
  have hown : s.vm.findClass RX11 = some m.cls := hown
  have hl : lv_has ls 6 [(0, .ref qX0), (1, .int p1), (2, .int p2), (3, .int p3), (4, .int p4), (5, .int p5)] := hl
  have hS : va_S A s.heap s.heap [] := va_S.rf
  unfold f_X11_feed at hf
  refine lv_aload_n hx hb dX11_feed_0 rfl (lv_at hl 0 rfl) ?_
  refine gfX11_28 hx hb hts hown hK hP 2 rfl rfl dX11_feed_1 ?_
  obtain ⟨r4, hg4, hf⟩ := ob1_some hf
  refine mcV_i (wr := [(qb1, .inl (cB, 300, .inl b_by)), (qX0, .inr (11, [.ref qr0, .ref qk0, .ref qT, .ref qb0, .ref qe0, .ref qL0, .ref qf0, .ref qd0, .ref qn0, .ref qz0, .ref qD0, .ref qh0, .ref qD1, .ref qv0]))]) (As := []) (rest := []) hx hb hml hown hts hK hP hD hS hA (k_X8_hasRoom l N D cI cJ cZ cB cT qb0 qb1 qb2 qb3 qb4 b_len b_tok r4 hg4) (kwX11_113 hts rfl rfl ⟨Nat.le_of_ble_eq_true rfl, Nat.le_of_ble_eq_true rfl⟩) [0] [1, 2] rfl rfl rfl (by decide) rfl 0 rfl rfl rfl rfl hl.1 rfl (Nat.le_of_ble_eq_true rfl) dX11_feed_4 ⟨Nat.zero_le _, Nat.zero_le _⟩ (fun hB4 H locs hP hD hS => ?_)
  have hP := mP_sub (wc := (W_X_55t56_76 qb0 qb1 qX0 qb2 qb3 qb4 qr0 qk0 qT qe0 qL0 qf0 qd0 qn0 qz0 qD0 qh0 qD1 qv0 cI cJ cZ cB cT b_len b_tok b_by)) hP [2, 0, 1] rfl
  have hD := hD.sub (ws' := (W_X_55t56_76 qb0 qb1 qX0 qb2 qb3 qb4 qr0 qk0 qT qe0 qL0 qf0 qd0 qn0 qz0 qD0 qh0 qD1 qv0 cI cJ cZ cB cT b_len b_tok b_by)) [2, 0, 1] rfl rfl
  refine xif_ne hx hb 12 dX11_feed_7 (by decide) hf (fun hf => ?_) (fun hf => ?_)
  · refine lv_iconst (v := (-1 : Int32)) hx hb dX11_feed_10 (by decide) ?_
    cases hf
    exact mret_i hx hb hr hlocks hP hD hS dX11_feed_11 rfl trivial
  · refine lv_aload_n hx hb dX11_feed_12 rfl (lv_at hl 0 rfl) ?_
    refine gfX11_28 hx hb hts hown hK hP 2 rfl rfl dX11_feed_13 ?_
    refine lv_iload_n hx hb dX11_feed_16 rfl (lv_at hl 1 rfl) ?_
    obtain ⟨b_len_17, b_by_17, hg17, hf⟩ := ob2_some hf
    refine mcV_v (wr := [(qX0, .inr (11, [.ref qr0, .ref qk0, .ref qT, .ref qb0, .ref qe0, .ref qL0, .ref qf0, .ref qd0, .ref qn0, .ref qz0, .ref qD0, .ref qh0, .ref qD1, .ref qv0]))]) (As := [.int p1]) (rest := []) hx hb hml hown hts hK hP hD hS hA (k_X8_take l N D cI cJ cZ cB cT qb0 qb1 qb2 qb3 qb4 b_len b_tok b_by p1 b_len_17 b_by_17 hg17) (kwX11_117 hts rfl rfl ⟨Nat.le_of_ble_eq_true rfl, Nat.le_of_ble_eq_true rfl⟩) [0, 1] [2] rfl rfl rfl (by decide) rfl 0 rfl rfl rfl rfl hl.1 rfl (Nat.le_of_ble_eq_true rfl) dX11_feed_17 ⟨Nat.zero_le _, Nat.zero_le _⟩ (fun H locs hP hD hS => ?_)
    have hP := mP_sub (wc := (W_X_55t56_76 qb0 qb1 qX0 qb2 qb3 qb4 qr0 qk0 qT qe0 qL0 qf0 qd0 qn0 qz0 qD0 qh0 qD1 qv0 cI cJ cZ cB cT b_len_17 b_tok b_by_17)) hP [1, 2, 0] rfl
    have hD := hD.sub (ws' := (W_X_55t56_76 qb0 qb1 qX0 qb2 qb3 qb4 qr0 qk0 qT qe0 qL0 qf0 qd0 qn0 qz0 qD0 qh0 qD1 qv0 cI cJ cZ cB cT b_len_17 b_tok b_by_17)) [1, 2, 0] rfl rfl
    refine lv_aload_n hx hb dX11_feed_20 rfl (lv_at hl 0 rfl) ?_
    refine gfX11_28 hx hb hts hown hK hP 2 rfl rfl dX11_feed_21 ?_
    refine lv_iload_n hx hb dX11_feed_24 rfl (lv_at hl 2 rfl) ?_
    obtain ⟨b_len_25, b_by_25, hg25, hf⟩ := ob2_some hf
    refine mcV_v (wr := [(qX0, .inr (11, [.ref qr0, .ref qk0, .ref qT, .ref qb0, .ref qe0, .ref qL0, .ref qf0, .ref qd0, .ref qn0, .ref qz0, .ref qD0, .ref qh0, .ref qD1, .ref qv0]))]) (As := [.int p2]) (rest := []) hx hb hml hown hts hK hP hD hS hA (k_X8_take l N D cI cJ cZ cB cT qb0 qb1 qb2 qb3 qb4 b_len_17 b_tok b_by_17 p2 b_len_25 b_by_25 hg25) (kwX11_117 hts rfl rfl ⟨Nat.le_of_ble_eq_true rfl, Nat.le_of_ble_eq_true rfl⟩) [0, 1] [2] rfl rfl rfl (by decide) rfl 0 rfl rfl rfl rfl hl.1 rfl (Nat.le_of_ble_eq_true rfl) dX11_feed_25 ⟨Nat.zero_le _, Nat.zero_le _⟩ (fun H locs hP hD hS => ?_)
    have hP := mP_sub (wc := (W_X_55t56_76 qb0 qb1 qX0 qb2 qb3 qb4 qr0 qk0 qT qe0 qL0 qf0 qd0 qn0 qz0 qD0 qh0 qD1 qv0 cI cJ cZ cB cT b_len_25 b_tok b_by_25)) hP [1, 2, 0] rfl
    have hD := hD.sub (ws' := (W_X_55t56_76 qb0 qb1 qX0 qb2 qb3 qb4 qr0 qk0 qT qe0 qL0 qf0 qd0 qn0 qz0 qD0 qh0 qD1 qv0 cI cJ cZ cB cT b_len_25 b_tok b_by_25)) [1, 2, 0] rfl rfl
    refine lv_aload_n hx hb dX11_feed_28 rfl (lv_at hl 0 rfl) ?_
    refine gfX11_28 hx hb hts hown hK hP 2 rfl rfl dX11_feed_29 ?_
    refine lv_iload_n hx hb dX11_feed_32 rfl (lv_at hl 3 rfl) ?_
    obtain ⟨b_len_33, b_by_33, hg33, hf⟩ := ob2_some hf
    refine mcV_v (wr := [(qX0, .inr (11, [.ref qr0, .ref qk0, .ref qT, .ref qb0, .ref qe0, .ref qL0, .ref qf0, .ref qd0, .ref qn0, .ref qz0, .ref qD0, .ref qh0, .ref qD1, .ref qv0]))]) (As := [.int p3]) (rest := []) hx hb hml hown hts hK hP hD hS hA (k_X8_take l N D cI cJ cZ cB cT qb0 qb1 qb2 qb3 qb4 b_len_25 b_tok b_by_25 p3 b_len_33 b_by_33 hg33) (kwX11_117 hts rfl rfl ⟨Nat.le_of_ble_eq_true rfl, Nat.le_of_ble_eq_true rfl⟩) [0, 1] [2] rfl rfl rfl (by decide) rfl 0 rfl rfl rfl rfl hl.1 rfl (Nat.le_of_ble_eq_true rfl) dX11_feed_33 ⟨Nat.zero_le _, Nat.zero_le _⟩ (fun H locs hP hD hS => ?_)
    have hP := mP_sub (wc := (W_X_55t56_76 qb0 qb1 qX0 qb2 qb3 qb4 qr0 qk0 qT qe0 qL0 qf0 qd0 qn0 qz0 qD0 qh0 qD1 qv0 cI cJ cZ cB cT b_len_33 b_tok b_by_33)) hP [1, 2, 0] rfl
    have hD := hD.sub (ws' := (W_X_55t56_76 qb0 qb1 qX0 qb2 qb3 qb4 qr0 qk0 qT qe0 qL0 qf0 qd0 qn0 qz0 qD0 qh0 qD1 qv0 cI cJ cZ cB cT b_len_33 b_tok b_by_33)) [1, 2, 0] rfl rfl
    refine lv_aload_n hx hb dX11_feed_36 rfl (lv_at hl 0 rfl) ?_
    refine gfX11_28 hx hb hts hown hK hP 2 rfl rfl dX11_feed_37 ?_
    refine lv_iload hx hb dX11_feed_40 (lv_at hl 4 rfl) ?_
    obtain ⟨b_len_42, b_by_42, hg42, hf⟩ := ob2_some hf
    refine mcV_v (wr := [(qX0, .inr (11, [.ref qr0, .ref qk0, .ref qT, .ref qb0, .ref qe0, .ref qL0, .ref qf0, .ref qd0, .ref qn0, .ref qz0, .ref qD0, .ref qh0, .ref qD1, .ref qv0]))]) (As := [.int p4]) (rest := []) hx hb hml hown hts hK hP hD hS hA (k_X8_take l N D cI cJ cZ cB cT qb0 qb1 qb2 qb3 qb4 b_len_33 b_tok b_by_33 p4 b_len_42 b_by_42 hg42) (kwX11_117 hts rfl rfl ⟨Nat.le_of_ble_eq_true rfl, Nat.le_of_ble_eq_true rfl⟩) [0, 1] [2] rfl rfl rfl (by decide) rfl 0 rfl rfl rfl rfl hl.1 rfl (Nat.le_of_ble_eq_true rfl) dX11_feed_42 ⟨Nat.zero_le _, Nat.zero_le _⟩ (fun H locs hP hD hS => ?_)
    have hP := mP_sub (wc := (W_X_55t56_76 qb0 qb1 qX0 qb2 qb3 qb4 qr0 qk0 qT qe0 qL0 qf0 qd0 qn0 qz0 qD0 qh0 qD1 qv0 cI cJ cZ cB cT b_len_42 b_tok b_by_42)) hP [1, 2, 0] rfl
    have hD := hD.sub (ws' := (W_X_55t56_76 qb0 qb1 qX0 qb2 qb3 qb4 qr0 qk0 qT qe0 qL0 qf0 qd0 qn0 qz0 qD0 qh0 qD1 qv0 cI cJ cZ cB cT b_len_42 b_tok b_by_42)) [1, 2, 0] rfl rfl
    refine lv_aload_n hx hb dX11_feed_45 rfl (lv_at hl 0 rfl) ?_
    refine gfX11_28 hx hb hts hown hK hP 2 rfl rfl dX11_feed_46 ?_
    refine lv_iload hx hb dX11_feed_49 (lv_at hl 5 rfl) ?_
    obtain ⟨b_len_51, b_by_51, hg51, hf⟩ := ob2_some hf
    refine mcV_v (wr := [(qX0, .inr (11, [.ref qr0, .ref qk0, .ref qT, .ref qb0, .ref qe0, .ref qL0, .ref qf0, .ref qd0, .ref qn0, .ref qz0, .ref qD0, .ref qh0, .ref qD1, .ref qv0]))]) (As := [.int p5]) (rest := []) hx hb hml hown hts hK hP hD hS hA (k_X8_take l N D cI cJ cZ cB cT qb0 qb1 qb2 qb3 qb4 b_len_42 b_tok b_by_42 p5 b_len_51 b_by_51 hg51) (kwX11_117 hts rfl rfl ⟨Nat.le_of_ble_eq_true rfl, Nat.le_of_ble_eq_true rfl⟩) [0, 1] [2] rfl rfl rfl (by decide) rfl 0 rfl rfl rfl rfl hl.1 rfl (Nat.le_of_ble_eq_true rfl) dX11_feed_51 ⟨Nat.zero_le _, Nat.zero_le _⟩ (fun H locs hP hD hS => ?_)
    have hP := mP_sub (wc := (W_X_55t56_76 qb0 qb1 qX0 qb2 qb3 qb4 qr0 qk0 qT qe0 qL0 qf0 qd0 qn0 qz0 qD0 qh0 qD1 qv0 cI cJ cZ cB cT b_len_51 b_tok b_by_51)) hP [1, 2, 0] rfl
    have hD := hD.sub (ws' := (W_X_55t56_76 qb0 qb1 qX0 qb2 qb3 qb4 qr0 qk0 qT qe0 qL0 qf0 qd0 qn0 qz0 qD0 qh0 qD1 qv0 cI cJ cZ cB cT b_len_51 b_tok b_by_51)) [1, 2, 0] rfl rfl
    refine lv_aload_n hx hb dX11_feed_54 rfl (lv_at hl 0 rfl) ?_
    refine gfX11_28 hx hb hts hown hK hP 2 rfl rfl dX11_feed_55 ?_
    refine gfX11_121 hx hb hts hown hK hP 0 rfl rfl dX11_feed_58 ?_
    cases hf
    exact mret_i hx hb hr hlocks hP hD hS dX11_feed_61 rfl trivial
theorem dX11_end_0 : decode cX11_end 0 = .ok (.iload_n 1, 1) := by decide +kernel
theorem dX11_end_1 : decode cX11_end 1 = .ok (.ifCond .lt 14, 3) := by decide +kernel
theorem dX11_end_4 : decode cX11_end 4 = .ok (.iload_n 1, 1) := by decide +kernel
theorem dX11_end_5 : decode cX11_end 5 = .ok (.aload_n 0, 1) := by decide +kernel
theorem dX11_end_6 : decode cX11_end 6 = .ok (.getfield 28, 3) := by decide +kernel
theorem dX11_end_9 : decode cX11_end 9 = .ok (.getfield 121, 3) := by decide +kernel
theorem dX11_end_12 : decode cX11_end 12 = .ok (.if_icmp .le 5, 3) := by decide +kernel
theorem dX11_end_15 : decode cX11_end 15 = .ok (.iconst (-1), 1) := by decide +kernel
theorem dX11_end_16 : decode cX11_end 16 = .ok (.ireturn, 1) := by decide +kernel
theorem dX11_end_17 : decode cX11_end 17 = .ok (.aload_n 0, 1) := by decide +kernel
theorem dX11_end_18 : decode cX11_end 18 = .ok (.getfield 28, 3) := by decide +kernel
theorem dX11_end_21 : decode cX11_end 21 = .ok (.iload_n 1, 1) := by decide +kernel
theorem dX11_end_22 : decode cX11_end 22 = .ok (.putfield 121, 3) := by decide +kernel
theorem dX11_end_25 : decode cX11_end 25 = .ok (.iload_n 1, 1) := by decide +kernel
theorem dX11_end_26 : decode cX11_end 26 = .ok (.ireturn, 1) := by decide +kernel
def f_X11_end (N : Nat) (b_len : Int32) (p1 : Int32) : Option (Int32 × Int32) := if p1 < 0 then (some ((-1 : Int32), b_len)) else (if p1 ≤ b_len then (some (p1, p1)) else (some ((-1 : Int32), b_len)))
set_option maxHeartbeats 4000000 in
set_option maxRecDepth 100000 in
theorem k_X11_end (l : Launch) (N : Nat) (D : va_G) (cI cJ cZ cB cT : ClassId) (qb0 : Nat) (qX0 : Nat) (qb1 : Nat) (qb2 : Nat) (qb3 : Nat) (qb4 : Nat) (qr0 : Nat) (qk0 : Nat) (qT : Nat) (qe0 : Nat) (qL0 : Nat) (qf0 : Nat) (qd0 : Nat) (qn0 : Nat) (qz0 : Nat) (qD0 : Nat) (qh0 : Nat) (qD1 : Nat) (qv0 : Nat) (b_len : Int32) (b_tok : Int32) (p1 : Int32) (o_r : Int32) (o_b_len : Int32) (hf : f_X11_end N b_len p1 = some (o_r, o_b_len)) : ∀ sz, Met l yX11_end (mw yX11_end cX11_end 2 (some .int)) ({ frames := 0, cells := 0, slots := 0, locals := 0 } : Room) (mPre D (mT cI cJ cZ cB cT) (W_X_55_76 qb0 qX0 qb1 qb2 qb3 qb4 qr0 qk0 qT qe0 qL0 qf0 qd0 qn0 qz0 qD0 qh0 qD1 qv0 cI cJ cZ cB cT b_len b_tok) sz [.ref qX0, .int p1]) ((mQi D (W_X_55_76 qb0 qX0 qb1 qb2 qb3 qb4 qr0 qk0 qT qe0 qL0 qf0 qd0 qn0 qz0 qD0 qh0 qD1 qv0 cI cJ cZ cB cT o_b_len b_tok) o_r True) (va_A (W_X_55_76 qb0 qX0 qb1 qb2 qb3 qb4 qr0 qk0 qT qe0 qL0 qf0 qd0 qn0 qz0 qD0 qh0 qD1 qv0 cI cJ cZ cB cT b_len b_tok) sz)) 0 0 (va_A (W_X_55_76 qb0 qX0 qb1 qb2 qb3 qb4 qr0 qk0 qT qe0 qL0 qf0 qd0 qn0 qz0 qD0 qh0 qD1 qv0 cI cJ cZ cB cT b_len b_tok) sz) := by
  refine mMet (Qc := (mQi D (W_X_55_76 qb0 qX0 qb1 qb2 qb3 qb4 qr0 qk0 qT qe0 qL0 qf0 qd0 qn0 qz0 qD0 qh0 qD1 qv0 cI cJ cZ cB cT o_b_len b_tok) o_r True)) (by decide) (Nat.le_of_ble_eq_true rfl) (fun p e s m below meth c A ls hx hb hr hml hts hown hlocks hK hA hP hD hl => ?_)
  have hown : s.vm.findClass RX11 = some m.cls := hown
  have hl : lv_has ls 2 [(0, .ref qX0), (1, .int p1)] := hl
  have hS : va_S A s.heap s.heap [] := va_S.rf
  unfold f_X11_end at hf
  refine lv_iload_n hx hb dX11_end_0 rfl (lv_at hl 1 rfl) ?_
  refine xif_lt hx hb 15 dX11_end_1 (by decide) hf (fun hf => ?_) (fun hf => ?_)
  · refine lv_iconst (v := (-1 : Int32)) hx hb dX11_end_15 (by decide) ?_
    cases hf
    exact mret_i hx hb hr hlocks hP hD hS dX11_end_16 rfl trivial
  · refine lv_iload_n hx hb dX11_end_4 rfl (lv_at hl 1 rfl) ?_
    refine lv_aload_n hx hb dX11_end_5 rfl (lv_at hl 0 rfl) ?_
    refine gfX11_28 hx hb hts hown hK hP 1 rfl rfl dX11_end_6 ?_
    refine gfX11_121 hx hb hts hown hK hP 0 rfl rfl dX11_end_9 ?_
    refine xicmp_le hx hb 17 dX11_end_12 (by decide) hf (fun hf => ?_) (fun hf => ?_)
    · refine lv_aload_n hx hb dX11_end_17 rfl (lv_at hl 0 rfl) ?_
      refine gfX11_28 hx hb hts hown hK hP 1 rfl rfl dX11_end_18 ?_
      refine lv_iload_n hx hb dX11_end_21 rfl (lv_at hl 1 rfl) ?_
      refine pfX11_121 hx hb hts hown hK hP hD hS 0 rfl (Nat.le_of_ble_eq_true rfl) dX11_end_22 (fun H locs hP hD hS => ?_)
      have hP : va_P D vwCl (W_X_55_76 qb0 qX0 qb1 qb2 qb3 qb4 qr0 qk0 qT qe0 qL0 qf0 qd0 qn0 qz0 qD0 qh0 qD1 qv0 cI cJ cZ cB cT p1 b_tok) H := hP
      have hD : va_D A (W_X_55_76 qb0 qX0 qb1 qb2 qb3 qb4 qr0 qk0 qT qe0 qL0 qf0 qd0 qn0 qz0 qD0 qh0 qD1 qv0 cI cJ cZ cB cT p1 b_tok) := hD
      refine lv_iload_n hx hb dX11_end_25 rfl (lv_at hl 1 rfl) ?_
      cases hf
      exact mret_i hx hb hr hlocks hP hD hS dX11_end_26 rfl trivial
    · refine lv_iconst (v := (-1 : Int32)) hx hb dX11_end_15 (by decide) ?_
      cases hf
      exact mret_i hx hb hr hlocks hP hD hS dX11_end_16 rfl trivial
theorem dX11_fault_0 : decode cX11_fault 0 = .ok (.iload_n 1, 1) := by decide +kernel
theorem dX11_fault_1 : decode cX11_fault 1 = .ok (.ifCond .ne 11, 3) := by decide +kernel
theorem dX11_fault_4 : decode cX11_fault 4 = .ok (.aload_n 0, 1) := by decide +kernel
theorem dX11_fault_5 : decode cX11_fault 5 = .ok (.getfield 37, 3) := by decide +kernel
theorem dX11_fault_8 : decode cX11_fault 8 = .ok (.getfield 131, 3) := by decide +kernel
theorem dX11_fault_11 : decode cX11_fault 11 = .ok (.ireturn, 1) := by decide +kernel
theorem dX11_fault_12 : decode cX11_fault 12 = .ok (.iload_n 1, 1) := by decide +kernel
theorem dX11_fault_13 : decode cX11_fault 13 = .ok (.iconst 1, 1) := by decide +kernel
theorem dX11_fault_14 : decode cX11_fault 14 = .ok (.if_icmp .ne 13, 3) := by decide +kernel
theorem dX11_fault_17 : decode cX11_fault 17 = .ok (.aload_n 0, 1) := by decide +kernel
theorem dX11_fault_18 : decode cX11_fault 18 = .ok (.getfield 37, 3) := by decide +kernel
theorem dX11_fault_21 : decode cX11_fault 21 = .ok (.getfield 134, 3) := by decide +kernel
theorem dX11_fault_24 : decode cX11_fault 24 = .ok (.goto 4, 3) := by decide +kernel
theorem dX11_fault_27 : decode cX11_fault 27 = .ok (.iconst (-1), 1) := by decide +kernel
theorem dX11_fault_28 : decode cX11_fault 28 = .ok (.ireturn, 1) := by decide +kernel
def f_X11_fault (N : Nat) (e_fault : Int32) (e_place : Int32) (p1 : Int32) : Option (Int32) := if p1 = 0 then (some e_fault) else (if p1 = (1 : Int32) then (some e_place) else (some (-1 : Int32)))
set_option maxHeartbeats 4000000 in
set_option maxRecDepth 100000 in
theorem k_X11_fault (l : Launch) (N : Nat) (D : va_G) (cI cJ cZ cB cT : ClassId) (qe0 : Nat) (qX0 : Nat) (qb0 : Nat) (qr0 : Nat) (qk0 : Nat) (qT : Nat) (qL0 : Nat) (qf0 : Nat) (qd0 : Nat) (qn0 : Nat) (qz0 : Nat) (qD0 : Nat) (qh0 : Nat) (qD1 : Nat) (qv0 : Nat) (e_fault : Int32) (e_place : Int32) (e_text : Value) (e_at : Int32) (e_law : Int32) (p1 : Int32) (o_r : Int32) (hf : f_X11_fault N e_fault e_place p1 = some o_r) : ∀ sz, Met l yX11_fault (mw yX11_fault cX11_fault 2 (some .int)) ({ frames := 0, cells := 0, slots := 0, locals := 0 } : Room) (mPre D (mT cI cJ cZ cB cT) (W_X_60_76 qe0 qX0 qb0 qr0 qk0 qT qL0 qf0 qd0 qn0 qz0 qD0 qh0 qD1 qv0 cI cJ cZ cB cT e_fault e_place e_text e_at e_law) sz [.ref qX0, .int p1]) ((mQi D (W_X_60_76 qe0 qX0 qb0 qr0 qk0 qT qL0 qf0 qd0 qn0 qz0 qD0 qh0 qD1 qv0 cI cJ cZ cB cT e_fault e_place e_text e_at e_law) o_r True) (va_A (W_X_60_76 qe0 qX0 qb0 qr0 qk0 qT qL0 qf0 qd0 qn0 qz0 qD0 qh0 qD1 qv0 cI cJ cZ cB cT e_fault e_place e_text e_at e_law) sz)) 0 0 (va_A (W_X_60_76 qe0 qX0 qb0 qr0 qk0 qT qL0 qf0 qd0 qn0 qz0 qD0 qh0 qD1 qv0 cI cJ cZ cB cT e_fault e_place e_text e_at e_law) sz) := by
  refine mMet (Qc := (mQi D (W_X_60_76 qe0 qX0 qb0 qr0 qk0 qT qL0 qf0 qd0 qn0 qz0 qD0 qh0 qD1 qv0 cI cJ cZ cB cT e_fault e_place e_text e_at e_law) o_r True)) (by decide) (Nat.le_of_ble_eq_true rfl) (fun p e s m below meth c A ls hx hb hr hml hts hown hlocks hK hA hP hD hl => ?_)
  have hown : s.vm.findClass RX11 = some m.cls := hown
  have hl : lv_has ls 2 [(0, .ref qX0), (1, .int p1)] := hl
  have hS : va_S A s.heap s.heap [] := va_S.rf
  unfold f_X11_fault at hf
  refine lv_iload_n hx hb dX11_fault_0 rfl (lv_at hl 1 rfl) ?_
  refine xif_ne hx hb 12 dX11_fault_1 (by decide) hf (fun hf => ?_) (fun hf => ?_)
  · refine lv_aload_n hx hb dX11_fault_4 rfl (lv_at hl 0 rfl) ?_
    refine gfX11_37 hx hb hts hown hK hP 1 rfl rfl dX11_fault_5 ?_
    refine gfX11_131 hx hb hts hown hK hP 0 rfl rfl dX11_fault_8 ?_
    cases hf
    exact mret_i hx hb hr hlocks hP hD hS dX11_fault_11 rfl trivial
  · refine lv_iload_n hx hb dX11_fault_12 rfl (lv_at hl 1 rfl) ?_
    refine lv_iconst (v := (1 : Int32)) hx hb dX11_fault_13 (by decide) ?_
    refine xicmp_ne hx hb 27 dX11_fault_14 (by decide) hf (fun hf => ?_) (fun hf => ?_)
    · refine lv_aload_n hx hb dX11_fault_17 rfl (lv_at hl 0 rfl) ?_
      refine gfX11_37 hx hb hts hown hK hP 1 rfl rfl dX11_fault_18 ?_
      refine gfX11_134 hx hb hts hown hK hP 0 rfl rfl dX11_fault_21 ?_
      refine lv_goto (tgt := 28) hx hb dX11_fault_24 (by decide) ?_
      cases hf
      exact mret_i hx hb hr hlocks hP hD hS dX11_fault_28 rfl trivial
    · refine lv_iconst (v := (-1 : Int32)) hx hb dX11_fault_27 (by decide) ?_
      cases hf
      exact mret_i hx hb hr hlocks hP hD hS dX11_fault_28 rfl trivial
theorem dX11_textTold_0 : decode cX11_textTold 0 = .ok (.iload_n 1, 1) := by decide +kernel
theorem dX11_textTold_1 : decode cX11_textTold 1 = .ok (.ifCond .lt 23, 3) := by decide +kernel
theorem dX11_textTold_4 : decode cX11_textTold 4 = .ok (.iload_n 1, 1) := by decide +kernel
theorem dX11_textTold_5 : decode cX11_textTold 5 = .ok (.aload_n 0, 1) := by decide +kernel
theorem dX11_textTold_6 : decode cX11_textTold 6 = .ok (.getfield 10, 3) := by decide +kernel
theorem dX11_textTold_9 : decode cX11_textTold 9 = .ok (.getfield 125, 3) := by decide +kernel
theorem dX11_textTold_12 : decode cX11_textTold 12 = .ok (.if_icmp .ge 12, 3) := by decide +kernel
theorem dX11_textTold_15 : decode cX11_textTold 15 = .ok (.iload_n 1, 1) := by decide +kernel
theorem dX11_textTold_16 : decode cX11_textTold 16 = .ok (.iconst 4, 1) := by decide +kernel
theorem dX11_textTold_17 : decode cX11_textTold 17 = .ok (.if_icmp .ge 7, 3) := by decide +kernel
theorem dX11_textTold_20 : decode cX11_textTold 20 = .ok (.iconst 1, 1) := by decide +kernel
theorem dX11_textTold_21 : decode cX11_textTold 21 = .ok (.goto 4, 3) := by decide +kernel
theorem dX11_textTold_24 : decode cX11_textTold 24 = .ok (.iconst 0, 1) := by decide +kernel
theorem dX11_textTold_25 : decode cX11_textTold 25 = .ok (.ireturn, 1) := by decide +kernel
def f_X11_textTold (N : Nat) (r_tx : Int32) (p1 : Int32) : Option (Int32) := if p1 < 0 then (some (0 : Int32)) else (if r_tx ≤ p1 then (some (0 : Int32)) else (if (4 : Int32) ≤ p1 then (some (0 : Int32)) else (some (1 : Int32))))
set_option maxHeartbeats 4000000 in
set_option maxRecDepth 100000 in
theorem k_X11_textTold (l : Launch) (N : Nat) (D : va_G) (cI cJ cZ cB cT : ClassId) (qr0 : Nat) (qX0 : Nat) (qd0 : Nat) (qf0 : Nat) (qz0 : Nat) (qn0 : Nat) (qk0 : Nat) (qT : Nat) (qb0 : Nat) (qe0 : Nat) (qL0 : Nat) (qD0 : Nat) (qh0 : Nat) (qD1 : Nat) (qv0 : Nat) (r_tx : Int32) (r_rul : Int32) (p1 : Int32) (o_r : Int32) (hf : f_X11_textTold N r_tx p1 = some o_r) : ∀ sz, Met l yX11_textTold (mw yX11_textTold cX11_textTold 2 (some .boolean)) ({ frames := 0, cells := 0, slots := 0, locals := 0 } : Room) (mPre D (mT cI cJ cZ cB cT) (W_X_16_76 qr0 qX0 qd0 qf0 qz0 qn0 qk0 qT qb0 qe0 qL0 qD0 qh0 qD1 qv0 cI cJ cZ cB cT r_tx r_rul) sz [.ref qX0, .int p1]) ((mQi D (W_X_16_76 qr0 qX0 qd0 qf0 qz0 qn0 qk0 qT qb0 qe0 qL0 qD0 qh0 qD1 qv0 cI cJ cZ cB cT r_tx r_rul) o_r (mB o_r)) (va_A (W_X_16_76 qr0 qX0 qd0 qf0 qz0 qn0 qk0 qT qb0 qe0 qL0 qD0 qh0 qD1 qv0 cI cJ cZ cB cT r_tx r_rul) sz)) 0 0 (va_A (W_X_16_76 qr0 qX0 qd0 qf0 qz0 qn0 qk0 qT qb0 qe0 qL0 qD0 qh0 qD1 qv0 cI cJ cZ cB cT r_tx r_rul) sz) := by
  refine mMet (Qc := (mQi D (W_X_16_76 qr0 qX0 qd0 qf0 qz0 qn0 qk0 qT qb0 qe0 qL0 qD0 qh0 qD1 qv0 cI cJ cZ cB cT r_tx r_rul) o_r (mB o_r))) (by decide) (Nat.le_of_ble_eq_true rfl) (fun p e s m below meth c A ls hx hb hr hml hts hown hlocks hK hA hP hD hl => ?_)
  have hown : s.vm.findClass RX11 = some m.cls := hown
  have hl : lv_has ls 2 [(0, .ref qX0), (1, .int p1)] := hl
  have hS : va_S A s.heap s.heap [] := va_S.rf
  unfold f_X11_textTold at hf
  refine lv_iload_n hx hb dX11_textTold_0 rfl (lv_at hl 1 rfl) ?_
  refine xif_lt hx hb 24 dX11_textTold_1 (by decide) hf (fun hf => ?_) (fun hf => ?_)
  · refine lv_iconst (v := (0 : Int32)) hx hb dX11_textTold_24 (by decide) ?_
    cases hf
    exact mret_z hx hb hr hlocks hP hD hS dX11_textTold_25 rfl rfl
  · refine lv_iload_n hx hb dX11_textTold_4 rfl (lv_at hl 1 rfl) ?_
    refine lv_aload_n hx hb dX11_textTold_5 rfl (lv_at hl 0 rfl) ?_
    refine gfX11_10 hx hb hts hown hK hP 1 rfl rfl dX11_textTold_6 ?_
    refine gfX11_125 hx hb hts hown hK hP 0 rfl rfl dX11_textTold_9 ?_
    refine xicmp_ge hx hb 24 dX11_textTold_12 (by decide) hf (fun hf => ?_) (fun hf => ?_)
    · refine lv_iconst (v := (0 : Int32)) hx hb dX11_textTold_24 (by decide) ?_
      cases hf
      exact mret_z hx hb hr hlocks hP hD hS dX11_textTold_25 rfl rfl
    · refine lv_iload_n hx hb dX11_textTold_15 rfl (lv_at hl 1 rfl) ?_
      refine lv_iconst (v := (4 : Int32)) hx hb dX11_textTold_16 (by decide) ?_
      refine xicmp_ge hx hb 24 dX11_textTold_17 (by decide) hf (fun hf => ?_) (fun hf => ?_)
      · refine lv_iconst (v := (0 : Int32)) hx hb dX11_textTold_24 (by decide) ?_
        cases hf
        exact mret_z hx hb hr hlocks hP hD hS dX11_textTold_25 rfl rfl
      · refine lv_iconst (v := (1 : Int32)) hx hb dX11_textTold_20 (by decide) ?_
        refine lv_goto (tgt := 25) hx hb dX11_textTold_21 (by decide) ?_
        cases hf
        exact mret_z hx hb hr hlocks hP hD hS dX11_textTold_25 rfl rfl
theorem dX11_by_0 : decode cX11_by 0 = .ok (.iload_n 1, 1) := by decide +kernel
theorem dX11_by_1 : decode cX11_by 1 = .ok (.iconst (-1), 1) := by decide +kernel
theorem dX11_by_2 : decode cX11_by 2 = .ok (.if_icmp .eq 13, 3) := by decide +kernel
theorem dX11_by_5 : decode cX11_by 5 = .ok (.aload_n 0, 1) := by decide +kernel
theorem dX11_by_6 : decode cX11_by 6 = .ok (.iload_n 1, 1) := by decide +kernel
theorem dX11_by_7 : decode cX11_by 7 = .ok (.invokevirtual 137, 3) := by decide +kernel
theorem dX11_by_10 : decode cX11_by 10 = .ok (.ifCond .ne 5, 3) := by decide +kernel
theorem dX11_by_13 : decode cX11_by 13 = .ok (.iconst 0, 1) := by decide +kernel
theorem dX11_by_14 : decode cX11_by 14 = .ok (.ireturn, 1) := by decide +kernel
theorem dX11_by_15 : decode cX11_by 15 = .ok (.aload_n 0, 1) := by decide +kernel
theorem dX11_by_16 : decode cX11_by 16 = .ok (.getfield 10, 3) := by decide +kernel
theorem dX11_by_19 : decode cX11_by 19 = .ok (.iload_n 1, 1) := by decide +kernel
theorem dX11_by_20 : decode cX11_by 20 = .ok (.putfield 140, 3) := by decide +kernel
theorem dX11_by_23 : decode cX11_by 23 = .ok (.iconst 1, 1) := by decide +kernel
theorem dX11_by_24 : decode cX11_by 24 = .ok (.ireturn, 1) := by decide +kernel
def f_X11_by_15 (N : Nat) (r_tx : Int32) (r_rul : Int32) (x1 : Int32) : Option (Int32 × Int32) := some ((1 : Int32), x1)
def f_X11_by (N : Nat) (r_tx : Int32) (r_rul : Int32) (p1 : Int32) : Option (Int32 × Int32) := if p1 = (-1 : Int32) then (f_X11_by_15 N r_tx r_rul p1) else (ob1 (f_X11_textTold N r_tx p1) fun r7 => if r7 = 0 then (some ((0 : Int32), r_rul)) else (f_X11_by_15 N r_tx r_rul p1))
set_option maxHeartbeats 4000000 in
set_option maxRecDepth 100000 in
theorem k_X11_by (l : Launch) (N : Nat) (D : va_G) (cI cJ cZ cB cT : ClassId) (qr0 : Nat) (qX0 : Nat) (qd0 : Nat) (qf0 : Nat) (qz0 : Nat) (qn0 : Nat) (qk0 : Nat) (qT : Nat) (qb0 : Nat) (qe0 : Nat) (qL0 : Nat) (qD0 : Nat) (qh0 : Nat) (qD1 : Nat) (qv0 : Nat) (r_tx : Int32) (r_rul : Int32) (p1 : Int32) (o_r : Int32) (o_r_rul : Int32) (hf : f_X11_by N r_tx r_rul p1 = some (o_r, o_r_rul)) : ∀ sz, Met l yX11_by (mw yX11_by cX11_by 2 (some .boolean)) ({ frames := 1, cells := 0, slots := 0, locals := 21 } : Room) (mPre D (mT cI cJ cZ cB cT) (W_X_16_76 qr0 qX0 qd0 qf0 qz0 qn0 qk0 qT qb0 qe0 qL0 qD0 qh0 qD1 qv0 cI cJ cZ cB cT r_tx r_rul) sz [.ref qX0, .int p1]) ((mQi D (W_X_16_76 qr0 qX0 qd0 qf0 qz0 qn0 qk0 qT qb0 qe0 qL0 qD0 qh0 qD1 qv0 cI cJ cZ cB cT r_tx o_r_rul) o_r (mB o_r)) (va_A (W_X_16_76 qr0 qX0 qd0 qf0 qz0 qn0 qk0 qT qb0 qe0 qL0 qD0 qh0 qD1 qv0 cI cJ cZ cB cT r_tx r_rul) sz)) 0 0 (va_A (W_X_16_76 qr0 qX0 qd0 qf0 qz0 qn0 qk0 qT qb0 qe0 qL0 qD0 qh0 qD1 qv0 cI cJ cZ cB cT r_tx r_rul) sz) := by
  refine mMet (Qc := (mQi D (W_X_16_76 qr0 qX0 qd0 qf0 qz0 qn0 qk0 qT qb0 qe0 qL0 qD0 qh0 qD1 qv0 cI cJ cZ cB cT r_tx o_r_rul) o_r (mB o_r))) (by decide) (Nat.le_of_ble_eq_true rfl) (fun p e s m below meth c A ls hx hb hr hml hts hown hlocks hK hA hP hD hl => ?_)
  have hown : s.vm.findClass RX11 = some m.cls := hown
  have hl : lv_has ls 2 [(0, .ref qX0), (1, .int p1)] := hl
  have hS : va_S A s.heap s.heap [] := va_S.rf
  have b15 : ∀ (r_rul : Int32) (x1 : Int32) (H : Heap) (locs : List Loc) (ls : Array Slot), f_X11_by_15 N r_tx r_rul x1 = some (o_r, o_r_rul) → va_P D vwCl (W_X_16_76 qr0 qX0 qd0 qf0 qz0 qn0 qk0 qT qb0 qe0 qL0 qD0 qh0 qD1 qv0 cI cJ cZ cB cT r_tx r_rul) H → va_D A (W_X_16_76 qr0 qX0 qd0 qf0 qz0 qn0 qk0 qT qb0 qe0 qL0 qD0 qh0 qD1 qv0 cI cJ cZ cB cT r_tx r_rul) → va_S A s.heap H locs → lv_has ls 2 [(0, .ref qX0), (1, .int x1)] → W p l e ({ frames := 1, cells := 0, slots := 0, locals := 21 } : Room) s m ([.ref qX0, .int p1] : List Value).toArray below meth c H locs 0 0 (MQ below ((mQi D (W_X_16_76 qr0 qX0 qd0 qf0 qz0 qn0 qk0 qT qb0 qe0 qL0 qD0 qh0 qD1 qv0 cI cJ cZ cB cT r_tx o_r_rul) o_r (mB o_r)) A) ([.ref qX0, .int p1] : List Value).toArray s 0 0 A) (F0 m 15 ls []) := by
    intro r_rul x1 H locs ls hf hP hD hS hl
    unfold f_X11_by_15 at hf
    refine lv_aload_n hx hb dX11_by_15 rfl (lv_at hl 0 rfl) ?_
    refine gfX11_10 hx hb hts hown hK hP 1 rfl rfl dX11_by_16 ?_
    refine lv_iload_n hx hb dX11_by_19 rfl (lv_at hl 1 rfl) ?_
    refine pfX11_140 hx hb hts hown hK hP hD hS 0 rfl (Nat.le_of_ble_eq_true rfl) dX11_by_20 (fun H locs hP hD hS => ?_)
    have hP : va_P D vwCl (W_X_16_76 qr0 qX0 qd0 qf0 qz0 qn0 qk0 qT qb0 qe0 qL0 qD0 qh0 qD1 qv0 cI cJ cZ cB cT r_tx x1) H := hP
    have hD : va_D A (W_X_16_76 qr0 qX0 qd0 qf0 qz0 qn0 qk0 qT qb0 qe0 qL0 qD0 qh0 qD1 qv0 cI cJ cZ cB cT r_tx x1) := hD
    refine lv_iconst (v := (1 : Int32)) hx hb dX11_by_23 (by decide) ?_
    cases hf
    exact mret_z hx hb hr hlocks hP hD hS dX11_by_24 rfl rfl
  unfold f_X11_by at hf
  refine lv_iload_n hx hb dX11_by_0 rfl (lv_at hl 1 rfl) ?_
  refine lv_iconst (v := (-1 : Int32)) hx hb dX11_by_1 (by decide) ?_
  refine xicmp_eq hx hb 15 dX11_by_2 (by decide) hf (fun hf => ?_) (fun hf => ?_)
  · exact b15 r_rul p1 _ _ _ hf hP hD hS (lv_sub hl [0, 1] rfl)
  · refine lv_aload_n hx hb dX11_by_5 rfl (lv_at hl 0 rfl) ?_
    refine lv_iload_n hx hb dX11_by_6 rfl (lv_at hl 1 rfl) ?_
    obtain ⟨r7, hg7, hf⟩ := ob1_some hf
    refine mcV1_i (As := [.int p1]) (rest := []) hx hb hml hown hts hK hP hD hS hA (k_X11_textTold l N D cI cJ cZ cB cT qr0 qX0 qd0 qf0 qz0 qn0 qk0 qT qb0 qe0 qL0 qD0 qh0 qD1 qv0 r_tx r_rul p1 r7 hg7) (kwX11_137 hts rfl rfl ⟨Nat.le_of_ble_eq_true rfl, Nat.le_of_ble_eq_true rfl⟩) 1 rfl rfl rfl rfl hl.1 rfl (Nat.le_of_ble_eq_true rfl) dX11_by_7 ⟨Nat.zero_le _, Nat.zero_le _⟩ (fun hB7 H locs hP hD hS => ?_)
    have hP : va_P D vwCl (W_X_16_76 qr0 qX0 qd0 qf0 qz0 qn0 qk0 qT qb0 qe0 qL0 qD0 qh0 qD1 qv0 cI cJ cZ cB cT r_tx r_rul) H := hP
    have hD : va_D A (W_X_16_76 qr0 qX0 qd0 qf0 qz0 qn0 qk0 qT qb0 qe0 qL0 qD0 qh0 qD1 qv0 cI cJ cZ cB cT r_tx r_rul) := hD
    refine xif_ne hx hb 15 dX11_by_10 (by decide) hf (fun hf => ?_) (fun hf => ?_)
    · refine lv_iconst (v := (0 : Int32)) hx hb dX11_by_13 (by decide) ?_
      cases hf
      exact mret_z hx hb hr hlocks hP hD hS dX11_by_14 rfl rfl
    · exact b15 r_rul p1 _ _ _ hf hP hD hS (lv_sub hl [0, 1] rfl)
theorem dX11_call_0 : decode cX11_call 0 = .ok (.aload_n 0, 1) := by decide +kernel
theorem dX11_call_1 : decode cX11_call 1 = .ok (.getfield 69, 3) := by decide +kernel
theorem dX11_call_4 : decode cX11_call 4 = .ok (.aload_n 0, 1) := by decide +kernel
theorem dX11_call_5 : decode cX11_call 5 = .ok (.getfield 54, 3) := by decide +kernel
theorem dX11_call_8 : decode cX11_call 8 = .ok (.invokevirtual 143, 3) := by decide +kernel
theorem dX11_call_11 : decode cX11_call 11 = .ok (.aload_n 0, 1) := by decide +kernel
theorem dX11_call_12 : decode cX11_call 12 = .ok (.getfield 75, 3) := by decide +kernel
theorem dX11_call_15 : decode cX11_call 15 = .ok (.iload_n 1, 1) := by decide +kernel
theorem dX11_call_16 : decode cX11_call 16 = .ok (.iload_n 2, 1) := by decide +kernel
theorem dX11_call_17 : decode cX11_call 17 = .ok (.invokevirtual 149, 3) := by decide +kernel
theorem dX11_call_20 : decode cX11_call 20 = .ok (.istore_n 3, 1) := by decide +kernel
theorem dX11_call_21 : decode cX11_call 21 = .ok (.iload_n 3, 1) := by decide +kernel
theorem dX11_call_22 : decode cX11_call 22 = .ok (.iconst (-1), 1) := by decide +kernel
theorem dX11_call_23 : decode cX11_call 23 = .ok (.if_icmp .eq 10, 3) := by decide +kernel
theorem dX11_call_26 : decode cX11_call 26 = .ok (.aload_n 0, 1) := by decide +kernel
theorem dX11_call_27 : decode cX11_call 27 = .ok (.getfield 69, 3) := by decide +kernel
theorem dX11_call_30 : decode cX11_call 30 = .ok (.invokevirtual 153, 3) := by decide +kernel
theorem dX11_call_33 : decode cX11_call 33 = .ok (.iload_n 3, 1) := by decide +kernel
theorem dX11_call_34 : decode cX11_call 34 = .ok (.ireturn, 1) := by decide +kernel
def f_X11_call (N : Nat) (d_n : Int32) (f_row : Nat → Int32) (z_cnt : Int32) (z_next : Int32) (z_store : Nat → Int32) (p1 : Int32) (p2 : Int32) : Option (Int32 × (Nat → Int32) × Int32 × Int32 × (Nat → Int32)) := ob1 (f_X7_ahead N z_next z_store f_row) fun z_store_8 => ob2 (f_X0_summon N d_n f_row p1 p2) fun r17 f_row_17 => if r17 = (-1 : Int32) then (some (r17, f_row_17, z_cnt, z_next, z_store_8)) else (ob2 (f_X7_keep N z_cnt z_next) fun z_cnt_30 z_next_30 => some (r17, f_row_17, z_cnt_30, z_next_30, z_store_8))
set_option maxHeartbeats 4000000 in
set_option maxRecDepth 100000 in
theorem k_X11_call (l : Launch) (N : Nat) (D : va_G) (cI cJ cZ cB cT : ClassId) (qd0 : Nat) (qf0 : Nat) (qf1 : Nat) (qz0 : Nat) (qz1 : Nat) (qr0 : Nat) (qD0 : Nat) (qX0 : Nat) (qd1 : Nat) (qd2 : Nat) (qf2 : Nat) (qf3 : Nat) (qn0 : Nat) (qL0 : Nat) (qk0 : Nat) (qT : Nat) (qb0 : Nat) (qe0 : Nat) (qh0 : Nat) (qD1 : Nat) (qv0 : Nat) (d_n : Int32) (f_row : Nat → Int32) (z_cnt : Int32) (z_next : Int32) (z_store : Nat → Int32) (r_tx : Int32) (r_rul : Int32) (p1 : Int32) (p2 : Int32) (o_r : Int32) (o_f_row : Nat → Int32) (o_z_cnt : Int32) (o_z_next : Int32) (o_z_store : Nat → Int32) (hf : f_X11_call N d_n f_row z_cnt z_next z_store p1 p2 = some (o_r, o_f_row, o_z_cnt, o_z_next, o_z_store)) : ∀ sz, Met l yX11_call (mw yX11_call cX11_call 4 (some .int)) ({ frames := 4, cells := 0, slots := 0, locals := 127 } : Room) (mPre D (mT cI cJ cZ cB cT) (W_X_0_3t4_7t8_16_64_76 qd0 qf0 qf1 qz0 qz1 qr0 qD0 qX0 qd1 qd2 qf2 qf3 qn0 qL0 qk0 qT qb0 qe0 qh0 qD1 qv0 cI cJ cZ cB cT d_n f_row z_cnt z_next z_store r_tx r_rul) sz [.ref qX0, .int p1, .int p2]) ((mQi D (W_X_0_3t4_7t8_16_64_76 qd0 qf0 qf1 qz0 qz1 qr0 qD0 qX0 qd1 qd2 qf2 qf3 qn0 qL0 qk0 qT qb0 qe0 qh0 qD1 qv0 cI cJ cZ cB cT d_n o_f_row o_z_cnt o_z_next o_z_store r_tx r_rul) o_r True) (va_A (W_X_0_3t4_7t8_16_64_76 qd0 qf0 qf1 qz0 qz1 qr0 qD0 qX0 qd1 qd2 qf2 qf3 qn0 qL0 qk0 qT qb0 qe0 qh0 qD1 qv0 cI cJ cZ cB cT d_n f_row z_cnt z_next z_store r_tx r_rul) sz)) 0 0 (va_A (W_X_0_3t4_7t8_16_64_76 qd0 qf0 qf1 qz0 qz1 qr0 qD0 qX0 qd1 qd2 qf2 qf3 qn0 qL0 qk0 qT qb0 qe0 qh0 qD1 qv0 cI cJ cZ cB cT d_n f_row z_cnt z_next z_store r_tx r_rul) sz) := by
  refine mMet (Qc := (mQi D (W_X_0_3t4_7t8_16_64_76 qd0 qf0 qf1 qz0 qz1 qr0 qD0 qX0 qd1 qd2 qf2 qf3 qn0 qL0 qk0 qT qb0 qe0 qh0 qD1 qv0 cI cJ cZ cB cT d_n o_f_row o_z_cnt o_z_next o_z_store r_tx r_rul) o_r True)) (by decide) (Nat.le_of_ble_eq_true rfl) (fun p e s m below meth c A ls hx hb hr hml hts hown hlocks hK hA hP hD hl => ?_)
  have hown : s.vm.findClass RX11 = some m.cls := hown
  have hl : lv_has ls 4 [(0, .ref qX0), (1, .int p1), (2, .int p2)] := hl
  have hS : va_S A s.heap s.heap [] := va_S.rf
  unfold f_X11_call at hf
  refine lv_aload_n hx hb dX11_call_0 rfl (lv_at hl 0 rfl) ?_
  refine gfX11_69 hx hb hts hown hK hP 7 rfl rfl dX11_call_1 ?_
  refine lv_aload_n hx hb dX11_call_4 rfl (lv_at hl 0 rfl) ?_
  refine gfX11_54 hx hb hts hown hK hP 7 rfl rfl dX11_call_5 ?_
  obtain ⟨z_store_8, hg8, hf⟩ := ob1_some hf
  refine mcV_v (wr := [(qd0, .inr (2, [.int d_n, .ref qd1, .ref qd2])), (qr0, .inr (6, [.ref qd0, .ref qf0, .ref qz0, .ref qn0, .int r_tx, .int r_rul])), (qD0, .inr (0, [.ref qr0, .ref qf0, .ref qL0])), (qX0, .inr (11, [.ref qr0, .ref qk0, .ref qT, .ref qb0, .ref qe0, .ref qL0, .ref qf0, .ref qd0, .ref qn0, .ref qz0, .ref qD0, .ref qh0, .ref qD1, .ref qv0]))]) (As := [.ref qf0]) (rest := []) hx hb hml hown hts hK hP hD hS hA (k_X7_ahead l N D cI cJ cZ cB cT qz0 qz1 qf0 qf1 qf2 qf3 z_cnt z_next z_store f_row z_store_8 hg8) (kwX11_143 hts rfl rfl ⟨Nat.le_of_ble_eq_true rfl, Nat.le_of_ble_eq_true rfl⟩) [3, 4, 1, 2] [0, 5, 6, 7] rfl rfl rfl (by decide) rfl 0 rfl rfl rfl rfl hl.1 rfl (Nat.le_of_ble_eq_true rfl) dX11_call_8 ⟨Nat.zero_le _, Nat.zero_le _⟩ (fun H locs hP hD hS => ?_)
  have hP := mP_sub (wc := (W_X_0_3t4_7t8_16_64_76 qd0 qf0 qf1 qz0 qz1 qr0 qD0 qX0 qd1 qd2 qf2 qf3 qn0 qL0 qk0 qT qb0 qe0 qh0 qD1 qv0 cI cJ cZ cB cT d_n f_row z_cnt z_next z_store_8 r_tx r_rul)) hP [0, 6, 7, 4, 5, 1, 2, 3] rfl
  have hD := hD.sub (ws' := (W_X_0_3t4_7t8_16_64_76 qd0 qf0 qf1 qz0 qz1 qr0 qD0 qX0 qd1 qd2 qf2 qf3 qn0 qL0 qk0 qT qb0 qe0 qh0 qD1 qv0 cI cJ cZ cB cT d_n f_row z_cnt z_next z_store_8 r_tx r_rul)) [0, 6, 7, 4, 5, 1, 2, 3] rfl rfl
  refine lv_aload_n hx hb dX11_call_11 rfl (lv_at hl 0 rfl) ?_
  refine gfX11_75 hx hb hts hown hK hP 7 rfl rfl dX11_call_12 ?_
  refine lv_iload_n hx hb dX11_call_15 rfl (lv_at hl 1 rfl) ?_
  refine lv_iload_n hx hb dX11_call_16 rfl (lv_at hl 2 rfl) ?_
  obtain ⟨r17, f_row_17, hg17, hf⟩ := ob2_some hf
  refine mcV_i (wr := [(qz0, .inr (7, [.int z_cnt, .int z_next, .ref qz1])), (qz1, .inl (cI, 2356, .inl z_store_8)), (qX0, .inr (11, [.ref qr0, .ref qk0, .ref qT, .ref qb0, .ref qe0, .ref qL0, .ref qf0, .ref qd0, .ref qn0, .ref qz0, .ref qD0, .ref qh0, .ref qD1, .ref qv0]))]) (As := [.int p1, .int p2]) (rest := []) hx hb hml hown hts hK hP hD hS hA (k_X0_summon l N D cI cJ cZ cB cT qd0 qf0 qf1 qr0 qD0 qd1 qd2 qf2 qf3 qf0 qz0 qn0 qL0 d_n f_row r_tx r_rul p1 p2 r17 f_row_17 hg17) (kwX11_149 hts rfl rfl ⟨Nat.le_of_ble_eq_true rfl, Nat.le_of_ble_eq_true rfl⟩) [0, 1, 2, 5, 6] [3, 4, 7] rfl rfl rfl (by decide) rfl 4 rfl rfl rfl rfl hl.1 rfl (Nat.le_of_ble_eq_true rfl) dX11_call_17 ⟨Nat.zero_le _, Nat.zero_le _⟩ (fun hB17 H locs hP hD hS => ?_)
  have hP := mP_sub (wc := (W_X_0_3t4_7t8_16_64_76 qd0 qf0 qf1 qz0 qz1 qr0 qD0 qX0 qd1 qd2 qf2 qf3 qn0 qL0 qk0 qT qb0 qe0 qh0 qD1 qv0 cI cJ cZ cB cT d_n f_row_17 z_cnt z_next z_store_8 r_tx r_rul)) hP [3, 4, 5, 0, 1, 6, 7, 2] rfl
  have hD := hD.sub (ws' := (W_X_0_3t4_7t8_16_64_76 qd0 qf0 qf1 qz0 qz1 qr0 qD0 qX0 qd1 qd2 qf2 qf3 qn0 qL0 qk0 qT qb0 qe0 qh0 qD1 qv0 cI cJ cZ cB cT d_n f_row_17 z_cnt z_next z_store_8 r_tx r_rul)) [3, 4, 5, 0, 1, 6, 7, 2] rfl rfl
  refine lv_istore_n (lv' := [(3, .int r17), (0, .ref qX0), (1, .int p1), (2, .int p2)]) hx hb dX11_call_20 rfl hl (by decide) rfl (fun ls hl => ?_)
  refine lv_iload_n hx hb dX11_call_21 rfl (lv_at hl 0 rfl) ?_
  refine lv_iconst (v := (-1 : Int32)) hx hb dX11_call_22 (by decide) ?_
  refine xicmp_eq hx hb 33 dX11_call_23 (by decide) hf (fun hf => ?_) (fun hf => ?_)
  · refine lv_iload_n hx hb dX11_call_33 rfl (lv_at hl 0 rfl) ?_
    cases hf
    exact mret_i hx hb hr hlocks hP hD hS dX11_call_34 rfl trivial
  · refine lv_aload_n hx hb dX11_call_26 rfl (lv_at hl 1 rfl) ?_
    refine gfX11_69 hx hb hts hown hK hP 7 rfl rfl dX11_call_27 ?_
    obtain ⟨z_cnt_30, z_next_30, hg30, hf⟩ := ob2_some hf
    refine mcV_v (wr := [(qd0, .inr (2, [.int d_n, .ref qd1, .ref qd2])), (qf0, .inr (1, [.ref qf1, .ref qf2, .ref qf3])), (qf1, .inl (cI, 76, .inl f_row_17)), (qz1, .inl (cI, 2356, .inl z_store_8)), (qr0, .inr (6, [.ref qd0, .ref qf0, .ref qz0, .ref qn0, .int r_tx, .int r_rul])), (qD0, .inr (0, [.ref qr0, .ref qf0, .ref qL0])), (qX0, .inr (11, [.ref qr0, .ref qk0, .ref qT, .ref qb0, .ref qe0, .ref qL0, .ref qf0, .ref qd0, .ref qn0, .ref qz0, .ref qD0, .ref qh0, .ref qD1, .ref qv0]))]) (As := []) (rest := []) hx hb hml hown hts hK hP hD hS hA (k_X7_keep l N D cI cJ cZ cB cT qz0 qz1 z_cnt z_next z_cnt_30 z_next_30 hg30) (kwX11_153 hts rfl rfl ⟨Nat.le_of_ble_eq_true rfl, Nat.le_of_ble_eq_true rfl⟩) [3] [0, 1, 2, 4, 5, 6, 7] rfl rfl rfl (by decide) rfl 0 rfl rfl rfl rfl hl.1 rfl (Nat.le_of_ble_eq_true rfl) dX11_call_30 ⟨Nat.zero_le _, Nat.zero_le _⟩ (fun H locs hP hD hS => ?_)
    have hP := mP_sub (wc := (W_X_0_3t4_7t8_16_64_76 qd0 qf0 qf1 qz0 qz1 qr0 qD0 qX0 qd1 qd2 qf2 qf3 qn0 qL0 qk0 qT qb0 qe0 qh0 qD1 qv0 cI cJ cZ cB cT d_n f_row_17 z_cnt_30 z_next_30 z_store_8 r_tx r_rul)) hP [0, 1, 2, 7, 3, 4, 5, 6] rfl
    have hD := hD.sub (ws' := (W_X_0_3t4_7t8_16_64_76 qd0 qf0 qf1 qz0 qz1 qr0 qD0 qX0 qd1 qd2 qf2 qf3 qn0 qL0 qk0 qT qb0 qe0 qh0 qD1 qv0 cI cJ cZ cB cT d_n f_row_17 z_cnt_30 z_next_30 z_store_8 r_tx r_rul)) [0, 1, 2, 7, 3, 4, 5, 6] rfl rfl
    refine lv_iload_n hx hb dX11_call_33 rfl (lv_at hl 0 rfl) ?_
    cases hf
    exact mret_i hx hb hr hlocks hP hD hS dX11_call_34 rfl trivial
theorem dX11_move_0 : decode cX11_move 0 = .ok (.aload_n 0, 1) := by decide +kernel
theorem dX11_move_1 : decode cX11_move 1 = .ok (.getfield 69, 3) := by decide +kernel
theorem dX11_move_4 : decode cX11_move 4 = .ok (.aload_n 0, 1) := by decide +kernel
theorem dX11_move_5 : decode cX11_move 5 = .ok (.getfield 54, 3) := by decide +kernel
theorem dX11_move_8 : decode cX11_move 8 = .ok (.invokevirtual 143, 3) := by decide +kernel
theorem dX11_move_11 : decode cX11_move 11 = .ok (.aload_n 0, 1) := by decide +kernel
theorem dX11_move_12 : decode cX11_move 12 = .ok (.getfield 75, 3) := by decide +kernel
theorem dX11_move_15 : decode cX11_move 15 = .ok (.iload_n 1, 1) := by decide +kernel
theorem dX11_move_16 : decode cX11_move 16 = .ok (.iload_n 2, 1) := by decide +kernel
theorem dX11_move_17 : decode cX11_move 17 = .ok (.invokevirtual 156, 3) := by decide +kernel
theorem dX11_move_20 : decode cX11_move 20 = .ok (.istore_n 3, 1) := by decide +kernel
theorem dX11_move_21 : decode cX11_move 21 = .ok (.iload_n 3, 1) := by decide +kernel
theorem dX11_move_22 : decode cX11_move 22 = .ok (.ifCond .eq 10, 3) := by decide +kernel
theorem dX11_move_25 : decode cX11_move 25 = .ok (.aload_n 0, 1) := by decide +kernel
theorem dX11_move_26 : decode cX11_move 26 = .ok (.getfield 69, 3) := by decide +kernel
theorem dX11_move_29 : decode cX11_move 29 = .ok (.invokevirtual 153, 3) := by decide +kernel
theorem dX11_move_32 : decode cX11_move 32 = .ok (.iload_n 3, 1) := by decide +kernel
theorem dX11_move_33 : decode cX11_move 33 = .ok (.ireturn, 1) := by decide +kernel
def f_X11_move (N : Nat) (d_n : Int32) (d_road : Nat → Int32) (f_row : Nat → Int32) (z_cnt : Int32) (z_next : Int32) (z_store : Nat → Int32) (p1 : Int32) (p2 : Int32) : Option (Int32 × (Nat → Int32) × Int32 × Int32 × (Nat → Int32)) := ob1 (f_X7_ahead N z_next z_store f_row) fun z_store_8 => ob2 (f_X0_travel N d_n d_road f_row p1 p2) fun r17 f_row_17 => if r17 = 0 then (some (r17, f_row_17, z_cnt, z_next, z_store_8)) else (ob2 (f_X7_keep N z_cnt z_next) fun z_cnt_29 z_next_29 => some (r17, f_row_17, z_cnt_29, z_next_29, z_store_8))
set_option maxHeartbeats 4000000 in
set_option maxRecDepth 100000 in
theorem k_X11_move (l : Launch) (N : Nat) (D : va_G) (cI cJ cZ cB cT : ClassId) (qd0 : Nat) (qd2 : Nat) (qf0 : Nat) (qf1 : Nat) (qz0 : Nat) (qz1 : Nat) (qr0 : Nat) (qD0 : Nat) (qX0 : Nat) (qd1 : Nat) (qf2 : Nat) (qf3 : Nat) (qn0 : Nat) (qL0 : Nat) (qk0 : Nat) (qT : Nat) (qb0 : Nat) (qe0 : Nat) (qh0 : Nat) (qD1 : Nat) (qv0 : Nat) (d_n : Int32) (d_road : Nat → Int32) (f_row : Nat → Int32) (z_cnt : Int32) (z_next : Int32) (z_store : Nat → Int32) (r_tx : Int32) (r_rul : Int32) (p1 : Int32) (p2 : Int32) (o_r : Int32) (o_f_row : Nat → Int32) (o_z_cnt : Int32) (o_z_next : Int32) (o_z_store : Nat → Int32) (hf : f_X11_move N d_n d_road f_row z_cnt z_next z_store p1 p2 = some (o_r, o_f_row, o_z_cnt, o_z_next, o_z_store)) : ∀ sz, Met l yX11_move (mw yX11_move cX11_move 4 (some .boolean)) ({ frames := 3, cells := 0, slots := 0, locals := 103 } : Room) (mPre D (mT cI cJ cZ cB cT) (W_X_0_2t4_7t8_16_64_76 qd0 qd2 qf0 qf1 qz0 qz1 qr0 qD0 qX0 qd1 qf2 qf3 qn0 qL0 qk0 qT qb0 qe0 qh0 qD1 qv0 cI cJ cZ cB cT d_n d_road f_row z_cnt z_next z_store r_tx r_rul) sz [.ref qX0, .int p1, .int p2]) ((mQi D (W_X_0_2t4_7t8_16_64_76 qd0 qd2 qf0 qf1 qz0 qz1 qr0 qD0 qX0 qd1 qf2 qf3 qn0 qL0 qk0 qT qb0 qe0 qh0 qD1 qv0 cI cJ cZ cB cT d_n d_road o_f_row o_z_cnt o_z_next o_z_store r_tx r_rul) o_r (mB o_r)) (va_A (W_X_0_2t4_7t8_16_64_76 qd0 qd2 qf0 qf1 qz0 qz1 qr0 qD0 qX0 qd1 qf2 qf3 qn0 qL0 qk0 qT qb0 qe0 qh0 qD1 qv0 cI cJ cZ cB cT d_n d_road f_row z_cnt z_next z_store r_tx r_rul) sz)) 0 0 (va_A (W_X_0_2t4_7t8_16_64_76 qd0 qd2 qf0 qf1 qz0 qz1 qr0 qD0 qX0 qd1 qf2 qf3 qn0 qL0 qk0 qT qb0 qe0 qh0 qD1 qv0 cI cJ cZ cB cT d_n d_road f_row z_cnt z_next z_store r_tx r_rul) sz) := by
  refine mMet (Qc := (mQi D (W_X_0_2t4_7t8_16_64_76 qd0 qd2 qf0 qf1 qz0 qz1 qr0 qD0 qX0 qd1 qf2 qf3 qn0 qL0 qk0 qT qb0 qe0 qh0 qD1 qv0 cI cJ cZ cB cT d_n d_road o_f_row o_z_cnt o_z_next o_z_store r_tx r_rul) o_r (mB o_r))) (by decide) (Nat.le_of_ble_eq_true rfl) (fun p e s m below meth c A ls hx hb hr hml hts hown hlocks hK hA hP hD hl => ?_)
  have hown : s.vm.findClass RX11 = some m.cls := hown
  have hl : lv_has ls 4 [(0, .ref qX0), (1, .int p1), (2, .int p2)] := hl
  have hS : va_S A s.heap s.heap [] := va_S.rf
  unfold f_X11_move at hf
  refine lv_aload_n hx hb dX11_move_0 rfl (lv_at hl 0 rfl) ?_
  refine gfX11_69 hx hb hts hown hK hP 8 rfl rfl dX11_move_1 ?_
  refine lv_aload_n hx hb dX11_move_4 rfl (lv_at hl 0 rfl) ?_
  refine gfX11_54 hx hb hts hown hK hP 8 rfl rfl dX11_move_5 ?_
  obtain ⟨z_store_8, hg8, hf⟩ := ob1_some hf
  refine mcV_v (wr := [(qd0, .inr (2, [.int d_n, .ref qd1, .ref qd2])), (qd2, .inl (cI, 8, .inl d_road)), (qr0, .inr (6, [.ref qd0, .ref qf0, .ref qz0, .ref qn0, .int r_tx, .int r_rul])), (qD0, .inr (0, [.ref qr0, .ref qf0, .ref qL0])), (qX0, .inr (11, [.ref qr0, .ref qk0, .ref qT, .ref qb0, .ref qe0, .ref qL0, .ref qf0, .ref qd0, .ref qn0, .ref qz0, .ref qD0, .ref qh0, .ref qD1, .ref qv0]))]) (As := [.ref qf0]) (rest := []) hx hb hml hown hts hK hP hD hS hA (k_X7_ahead l N D cI cJ cZ cB cT qz0 qz1 qf0 qf1 qf2 qf3 z_cnt z_next z_store f_row z_store_8 hg8) (kwX11_143 hts rfl rfl ⟨Nat.le_of_ble_eq_true rfl, Nat.le_of_ble_eq_true rfl⟩) [4, 5, 2, 3] [0, 1, 6, 7, 8] rfl rfl rfl (by decide) rfl 0 rfl rfl rfl rfl hl.1 rfl (Nat.le_of_ble_eq_true rfl) dX11_move_8 ⟨Nat.zero_le _, Nat.zero_le _⟩ (fun H locs hP hD hS => ?_)
  have hP := mP_sub (wc := (W_X_0_2t4_7t8_16_64_76 qd0 qd2 qf0 qf1 qz0 qz1 qr0 qD0 qX0 qd1 qf2 qf3 qn0 qL0 qk0 qT qb0 qe0 qh0 qD1 qv0 cI cJ cZ cB cT d_n d_road f_row z_cnt z_next z_store_8 r_tx r_rul)) hP [0, 1, 7, 8, 5, 6, 2, 3, 4] rfl
  have hD := hD.sub (ws' := (W_X_0_2t4_7t8_16_64_76 qd0 qd2 qf0 qf1 qz0 qz1 qr0 qD0 qX0 qd1 qf2 qf3 qn0 qL0 qk0 qT qb0 qe0 qh0 qD1 qv0 cI cJ cZ cB cT d_n d_road f_row z_cnt z_next z_store_8 r_tx r_rul)) [0, 1, 7, 8, 5, 6, 2, 3, 4] rfl rfl
  refine lv_aload_n hx hb dX11_move_11 rfl (lv_at hl 0 rfl) ?_
  refine gfX11_75 hx hb hts hown hK hP 8 rfl rfl dX11_move_12 ?_
  refine lv_iload_n hx hb dX11_move_15 rfl (lv_at hl 1 rfl) ?_
  refine lv_iload_n hx hb dX11_move_16 rfl (lv_at hl 2 rfl) ?_
  obtain ⟨r17, f_row_17, hg17, hf⟩ := ob2_some hf
  refine mcV_i (wr := [(qz0, .inr (7, [.int z_cnt, .int z_next, .ref qz1])), (qz1, .inl (cI, 2356, .inl z_store_8)), (qX0, .inr (11, [.ref qr0, .ref qk0, .ref qT, .ref qb0, .ref qe0, .ref qL0, .ref qf0, .ref qd0, .ref qn0, .ref qz0, .ref qD0, .ref qh0, .ref qD1, .ref qv0]))]) (As := [.int p1, .int p2]) (rest := []) hx hb hml hown hts hK hP hD hS hA (k_X0_travel l N D cI cJ cZ cB cT qd0 qd2 qf0 qf1 qr0 qD0 qd1 qf2 qf3 qf0 qz0 qn0 qL0 d_n d_road f_row r_tx r_rul p1 p2 r17 f_row_17 hg17) (kwX11_156 hts rfl rfl ⟨Nat.le_of_ble_eq_true rfl, Nat.le_of_ble_eq_true rfl⟩) [0, 1, 2, 3, 6, 7] [4, 5, 8] rfl rfl rfl (by decide) rfl 5 rfl rfl rfl rfl hl.1 rfl (Nat.le_of_ble_eq_true rfl) dX11_move_17 ⟨Nat.zero_le _, Nat.zero_le _⟩ (fun hB17 H locs hP hD hS => ?_)
  have hP := mP_sub (wc := (W_X_0_2t4_7t8_16_64_76 qd0 qd2 qf0 qf1 qz0 qz1 qr0 qD0 qX0 qd1 qf2 qf3 qn0 qL0 qk0 qT qb0 qe0 qh0 qD1 qv0 cI cJ cZ cB cT d_n d_road f_row_17 z_cnt z_next z_store_8 r_tx r_rul)) hP [3, 4, 5, 6, 0, 1, 7, 8, 2] rfl
  have hD := hD.sub (ws' := (W_X_0_2t4_7t8_16_64_76 qd0 qd2 qf0 qf1 qz0 qz1 qr0 qD0 qX0 qd1 qf2 qf3 qn0 qL0 qk0 qT qb0 qe0 qh0 qD1 qv0 cI cJ cZ cB cT d_n d_road f_row_17 z_cnt z_next z_store_8 r_tx r_rul)) [3, 4, 5, 6, 0, 1, 7, 8, 2] rfl rfl
  refine lv_istore_n (lv' := [(3, .int r17), (0, .ref qX0), (1, .int p1), (2, .int p2)]) hx hb dX11_move_20 rfl hl (by decide) rfl (fun ls hl => ?_)
  refine lv_iload_n hx hb dX11_move_21 rfl (lv_at hl 0 rfl) ?_
  refine xif_eq hx hb 32 dX11_move_22 (by decide) hf (fun hf => ?_) (fun hf => ?_)
  · refine lv_iload_n hx hb dX11_move_32 rfl (lv_at hl 0 rfl) ?_
    cases hf
    exact mret_z hx hb hr hlocks hP hD hS dX11_move_33 rfl hB17
  · refine lv_aload_n hx hb dX11_move_25 rfl (lv_at hl 1 rfl) ?_
    refine gfX11_69 hx hb hts hown hK hP 8 rfl rfl dX11_move_26 ?_
    obtain ⟨z_cnt_29, z_next_29, hg29, hf⟩ := ob2_some hf
    refine mcV_v (wr := [(qd0, .inr (2, [.int d_n, .ref qd1, .ref qd2])), (qd2, .inl (cI, 8, .inl d_road)), (qf0, .inr (1, [.ref qf1, .ref qf2, .ref qf3])), (qf1, .inl (cI, 76, .inl f_row_17)), (qz1, .inl (cI, 2356, .inl z_store_8)), (qr0, .inr (6, [.ref qd0, .ref qf0, .ref qz0, .ref qn0, .int r_tx, .int r_rul])), (qD0, .inr (0, [.ref qr0, .ref qf0, .ref qL0])), (qX0, .inr (11, [.ref qr0, .ref qk0, .ref qT, .ref qb0, .ref qe0, .ref qL0, .ref qf0, .ref qd0, .ref qn0, .ref qz0, .ref qD0, .ref qh0, .ref qD1, .ref qv0]))]) (As := []) (rest := []) hx hb hml hown hts hK hP hD hS hA (k_X7_keep l N D cI cJ cZ cB cT qz0 qz1 z_cnt z_next z_cnt_29 z_next_29 hg29) (kwX11_153 hts rfl rfl ⟨Nat.le_of_ble_eq_true rfl, Nat.le_of_ble_eq_true rfl⟩) [4] [0, 1, 2, 3, 5, 6, 7, 8] rfl rfl rfl (by decide) rfl 0 rfl rfl rfl rfl hl.1 rfl (Nat.le_of_ble_eq_true rfl) dX11_move_29 ⟨Nat.zero_le _, Nat.zero_le _⟩ (fun H locs hP hD hS => ?_)
    have hP := mP_sub (wc := (W_X_0_2t4_7t8_16_64_76 qd0 qd2 qf0 qf1 qz0 qz1 qr0 qD0 qX0 qd1 qf2 qf3 qn0 qL0 qk0 qT qb0 qe0 qh0 qD1 qv0 cI cJ cZ cB cT d_n d_road f_row_17 z_cnt_29 z_next_29 z_store_8 r_tx r_rul)) hP [0, 1, 2, 3, 8, 4, 5, 6, 7] rfl
    have hD := hD.sub (ws' := (W_X_0_2t4_7t8_16_64_76 qd0 qd2 qf0 qf1 qz0 qz1 qr0 qD0 qX0 qd1 qf2 qf3 qn0 qL0 qk0 qT qb0 qe0 qh0 qD1 qv0 cI cJ cZ cB cT d_n d_road f_row_17 z_cnt_29 z_next_29 z_store_8 r_tx r_rul)) [0, 1, 2, 3, 8, 4, 5, 6, 7] rfl rfl
    refine lv_iload_n hx hb dX11_move_32 rfl (lv_at hl 0 rfl) ?_
    cases hf
    exact mret_z hx hb hr hlocks hP hD hS dX11_move_33 rfl hB17
theorem dX11_feeds_0 : decode cX11_feeds 0 = .ok (.aload_n 0, 1) := by decide +kernel
theorem dX11_feeds_1 : decode cX11_feeds 1 = .ok (.getfield 69, 3) := by decide +kernel
theorem dX11_feeds_4 : decode cX11_feeds 4 = .ok (.aload_n 0, 1) := by decide +kernel
theorem dX11_feeds_5 : decode cX11_feeds 5 = .ok (.getfield 54, 3) := by decide +kernel
theorem dX11_feeds_8 : decode cX11_feeds 8 = .ok (.invokevirtual 143, 3) := by decide +kernel
theorem dX11_feeds_11 : decode cX11_feeds 11 = .ok (.aload_n 0, 1) := by decide +kernel
theorem dX11_feeds_12 : decode cX11_feeds 12 = .ok (.getfield 75, 3) := by decide +kernel
theorem dX11_feeds_15 : decode cX11_feeds 15 = .ok (.iload_n 1, 1) := by decide +kernel
theorem dX11_feeds_16 : decode cX11_feeds 16 = .ok (.iload_n 2, 1) := by decide +kernel
theorem dX11_feeds_17 : decode cX11_feeds 17 = .ok (.invokevirtual 159, 3) := by decide +kernel
theorem dX11_feeds_20 : decode cX11_feeds 20 = .ok (.istore_n 3, 1) := by decide +kernel
theorem dX11_feeds_21 : decode cX11_feeds 21 = .ok (.iload_n 3, 1) := by decide +kernel
theorem dX11_feeds_22 : decode cX11_feeds 22 = .ok (.iconst (-1), 1) := by decide +kernel
theorem dX11_feeds_23 : decode cX11_feeds 23 = .ok (.if_icmp .eq 10, 3) := by decide +kernel
theorem dX11_feeds_26 : decode cX11_feeds 26 = .ok (.aload_n 0, 1) := by decide +kernel
theorem dX11_feeds_27 : decode cX11_feeds 27 = .ok (.getfield 69, 3) := by decide +kernel
theorem dX11_feeds_30 : decode cX11_feeds 30 = .ok (.invokevirtual 153, 3) := by decide +kernel
theorem dX11_feeds_33 : decode cX11_feeds 33 = .ok (.iload_n 3, 1) := by decide +kernel
theorem dX11_feeds_34 : decode cX11_feeds 34 = .ok (.ireturn, 1) := by decide +kernel
def f_X11_feeds (N : Nat) (d_n : Int32) (d_for : Nat → Int32) (f_row : Nat → Int32) (f_fears : Nat → Int32) (z_cnt : Int32) (z_next : Int32) (z_store : Nat → Int32) (r_tx : Int32) (r_rul : Int32) (t_code : Nat → Int32) (t_st : Nat → Int32) (t_en : Nat → Int32) (u_code : Nat → Int32) (u_st : Nat → Int32) (u_en : Nat → Int32) (w_code : Nat → Int32) (w_st : Nat → Int32) (w_en : Nat → Int32) (x_code : Nat → Int32) (x_st : Nat → Int32) (x_en : Nat → Int32) (l_names : Nat → Int32) (l_stack : Nat → Int32) (p1 : Int32) (p2 : Int32) : Option (Int32 × (Nat → Int32) × Int32 × Int32 × (Nat → Int32) × (Nat → Int32) × (Nat → Int32)) := ob1 (f_X7_ahead N z_next z_store f_row) fun z_store_8 => ob4 (f_X0_nourish N d_n d_for t_code t_st t_en u_code u_st u_en w_code w_st w_en x_code x_st x_en f_row f_fears r_tx r_rul l_names l_stack p1 p2) fun r17 f_row_17 l_names_17 l_stack_17 => if r17 = (-1 : Int32) then (some (r17, f_row_17, z_cnt, z_next, z_store_8, l_names_17, l_stack_17)) else (ob2 (f_X7_keep N z_cnt z_next) fun z_cnt_30 z_next_30 => some (r17, f_row_17, z_cnt_30, z_next_30, z_store_8, l_names_17, l_stack_17))
set_option maxHeartbeats 4000000 in
set_option maxRecDepth 100000 in
theorem k_X11_feeds (l : Launch) (N : Nat) (D : va_G) (cI cJ cZ cB cT : ClassId) (qd0 : Nat) (qd1 : Nat) (qf0 : Nat) (qf1 : Nat) (qf2 : Nat) (qz0 : Nat) (qz1 : Nat) (qr0 : Nat) (qt0 : Nat) (qt1 : Nat) (qt2 : Nat) (qt3 : Nat) (qu0 : Nat) (qu1 : Nat) (qu2 : Nat) (qu3 : Nat) (qw0 : Nat) (qw1 : Nat) (qw2 : Nat) (qw3 : Nat) (qx0 : Nat) (qx1 : Nat) (qx2 : Nat) (qx3 : Nat) (qT : Nat) (qL1 : Nat) (qL2 : Nat) (qL0 : Nat) (qD0 : Nat) (qX0 : Nat) (qd2 : Nat) (qf3 : Nat) (qn0 : Nat) (qt4 : Nat) (qu4 : Nat) (qw4 : Nat) (qx4 : Nat) (qk0 : Nat) (qb0 : Nat) (qe0 : Nat) (qh0 : Nat) (qD1 : Nat) (qv0 : Nat) (d_n : Int32) (d_for : Nat → Int32) (f_row : Nat → Int32) (f_fears : Nat → Int32) (z_cnt : Int32) (z_next : Int32) (z_store : Nat → Int32) (r_tx : Int32) (r_rul : Int32) (t_cl : Int32) (t_ln : Int32) (t_pt : Int32) (t_code : Nat → Int32) (t_st : Nat → Int32) (t_en : Nat → Int32) (u_cl : Int32) (u_ln : Int32) (u_pt : Int32) (u_code : Nat → Int32) (u_st : Nat → Int32) (u_en : Nat → Int32) (w_cl : Int32) (w_ln : Int32) (w_pt : Int32) (w_code : Nat → Int32) (w_st : Nat → Int32) (w_en : Nat → Int32) (x_cl : Int32) (x_ln : Int32) (x_pt : Int32) (x_code : Nat → Int32) (x_st : Nat → Int32) (x_en : Nat → Int32) (l_names : Nat → Int32) (l_stack : Nat → Int32) (p1 : Int32) (p2 : Int32) (o_r : Int32) (o_f_row : Nat → Int32) (o_z_cnt : Int32) (o_z_next : Int32) (o_z_store : Nat → Int32) (o_l_names : Nat → Int32) (o_l_stack : Nat → Int32) (hf : f_X11_feeds N d_n d_for f_row f_fears z_cnt z_next z_store r_tx r_rul t_code t_st t_en u_code u_st u_en w_code w_st w_en x_code x_st x_en l_names l_stack p1 p2 = some (o_r, o_f_row, o_z_cnt, o_z_next, o_z_store, o_l_names, o_l_stack)) : ∀ sz, Met l yX11_feeds (mw yX11_feeds cX11_feeds 4 (some .int)) ({ frames := 4, cells := 0, slots := 0, locals := 125 } : Room) (mPreE D (mT cI cJ cZ cB cT) (W_X_0t1_3t5_7t8_16_34t37_39t42_44t47_49t52_54_61t64_76 qd0 qd1 qf0 qf1 qf2 qz0 qz1 qr0 qt0 qt1 qt2 qt3 qu0 qu1 qu2 qu3 qw0 qw1 qw2 qw3 qx0 qx1 qx2 qx3 qT qL1 qL2 qL0 qD0 qX0 qd2 qf3 qn0 qt4 qu4 qw4 qx4 qk0 qb0 qe0 qh0 qD1 qv0 cI cJ cZ cB cT d_n d_for f_row f_fears z_cnt z_next z_store r_tx r_rul t_cl t_ln t_pt t_code t_st t_en u_cl u_ln u_pt u_code u_st u_en w_cl w_ln w_pt w_code w_st w_en x_cl x_ln x_pt x_code x_st x_en l_names l_stack) sz [.ref qX0, .int p1, .int p2]) ((mQi D (W_X_0t1_3t5_7t8_16_34t37_39t42_44t47_49t52_54_61t64_76 qd0 qd1 qf0 qf1 qf2 qz0 qz1 qr0 qt0 qt1 qt2 qt3 qu0 qu1 qu2 qu3 qw0 qw1 qw2 qw3 qx0 qx1 qx2 qx3 qT qL1 qL2 qL0 qD0 qX0 qd2 qf3 qn0 qt4 qu4 qw4 qx4 qk0 qb0 qe0 qh0 qD1 qv0 cI cJ cZ cB cT d_n d_for o_f_row f_fears o_z_cnt o_z_next o_z_store r_tx r_rul t_cl t_ln t_pt t_code t_st t_en u_cl u_ln u_pt u_code u_st u_en w_cl w_ln w_pt w_code w_st w_en x_cl x_ln x_pt x_code x_st x_en o_l_names o_l_stack) o_r True) (va_A (W_X_0t1_3t5_7t8_16_34t37_39t42_44t47_49t52_54_61t64_76 qd0 qd1 qf0 qf1 qf2 qz0 qz1 qr0 qt0 qt1 qt2 qt3 qu0 qu1 qu2 qu3 qw0 qw1 qw2 qw3 qx0 qx1 qx2 qx3 qT qL1 qL2 qL0 qD0 qX0 qd2 qf3 qn0 qt4 qu4 qw4 qx4 qk0 qb0 qe0 qh0 qD1 qv0 cI cJ cZ cB cT d_n d_for f_row f_fears z_cnt z_next z_store r_tx r_rul t_cl t_ln t_pt t_code t_st t_en u_cl u_ln u_pt u_code u_st u_en w_cl w_ln w_pt w_code w_st w_en x_cl x_ln x_pt x_code x_st x_en l_names l_stack) sz)) 0 0 (va_A (W_X_0t1_3t5_7t8_16_34t37_39t42_44t47_49t52_54_61t64_76 qd0 qd1 qf0 qf1 qf2 qz0 qz1 qr0 qt0 qt1 qt2 qt3 qu0 qu1 qu2 qu3 qw0 qw1 qw2 qw3 qx0 qx1 qx2 qx3 qT qL1 qL2 qL0 qD0 qX0 qd2 qf3 qn0 qt4 qu4 qw4 qx4 qk0 qb0 qe0 qh0 qD1 qv0 cI cJ cZ cB cT d_n d_for f_row f_fears z_cnt z_next z_store r_tx r_rul t_cl t_ln t_pt t_code t_st t_en u_cl u_ln u_pt u_code u_st u_en w_cl w_ln w_pt w_code w_st w_en x_cl x_ln x_pt x_code x_st x_en l_names l_stack) sz) := by
  refine mMetE (Qc := (mQi D (W_X_0t1_3t5_7t8_16_34t37_39t42_44t47_49t52_54_61t64_76 qd0 qd1 qf0 qf1 qf2 qz0 qz1 qr0 qt0 qt1 qt2 qt3 qu0 qu1 qu2 qu3 qw0 qw1 qw2 qw3 qx0 qx1 qx2 qx3 qT qL1 qL2 qL0 qD0 qX0 qd2 qf3 qn0 qt4 qu4 qw4 qx4 qk0 qb0 qe0 qh0 qD1 qv0 cI cJ cZ cB cT d_n d_for o_f_row f_fears o_z_cnt o_z_next o_z_store r_tx r_rul t_cl t_ln t_pt t_code t_st t_en u_cl u_ln u_pt u_code u_st u_en w_cl w_ln w_pt w_code w_st w_en x_cl x_ln x_pt x_code x_st x_en o_l_names o_l_stack) o_r True)) (by decide) (Nat.le_of_ble_eq_true rfl) (fun p e s m below meth c A ls hx hb hr hml hts hown hlocks hK hA hP hD hl hE => ?_)
  have hown : s.vm.findClass RX11 = some m.cls := hown
  have hl : lv_has ls 4 [(0, .ref qX0), (1, .int p1), (2, .int p2)] := hl
  have hS : va_S A s.heap s.heap [] := va_S.rf
  obtain ⟨⟨tM, hZM, hTM⟩, ⟨tL, hZL, hTL⟩, ⟨hNX4, hNX10⟩, tS, tV, hRS, hZC, hZF, hKS⟩ := id hE
  unfold f_X11_feeds at hf
  refine lv_aload_n hx hb dX11_feeds_0 rfl (lv_at hl 0 rfl) ?_
  refine gfX11_69 hx hb hts hown hK hP 29 rfl rfl dX11_feeds_1 ?_
  refine lv_aload_n hx hb dX11_feeds_4 rfl (lv_at hl 0 rfl) ?_
  refine gfX11_54 hx hb hts hown hK hP 29 rfl rfl dX11_feeds_5 ?_
  obtain ⟨z_store_8, hg8, hf⟩ := ob1_some hf
  refine mcV_v (wr := [(qd0, .inr (2, [.int d_n, .ref qd1, .ref qd2])), (qd1, .inl (cI, 8, .inl d_for)), (qf2, .inl (cI, 6, .inl f_fears)), (qr0, .inr (6, [.ref qd0, .ref qf0, .ref qz0, .ref qn0, .int r_tx, .int r_rul])), (qt0, .inr (9, [.int t_cl, .int t_ln, .int t_pt, .ref qt1, .ref qt2, .ref qt3, .ref qt4])), (qt1, .inl (cI, 301, .inl t_code)), (qt2, .inl (cI, 4, .inl t_st)), (qt3, .inl (cI, 4, .inl t_en)), (qu0, .inr (9, [.int u_cl, .int u_ln, .int u_pt, .ref qu1, .ref qu2, .ref qu3, .ref qu4])), (qu1, .inl (cI, 301, .inl u_code)), (qu2, .inl (cI, 4, .inl u_st)), (qu3, .inl (cI, 4, .inl u_en)), (qw0, .inr (9, [.int w_cl, .int w_ln, .int w_pt, .ref qw1, .ref qw2, .ref qw3, .ref qw4])), (qw1, .inl (cI, 301, .inl w_code)), (qw2, .inl (cI, 4, .inl w_st)), (qw3, .inl (cI, 4, .inl w_en)), (qx0, .inr (9, [.int x_cl, .int x_ln, .int x_pt, .ref qx1, .ref qx2, .ref qx3, .ref qx4])), (qx1, .inl (cI, 301, .inl x_code)), (qx2, .inl (cI, 4, .inl x_st)), (qx3, .inl (cI, 4, .inl x_en)), (qT, .inl (cT, 4, .inr (.inr (.inr (.inr (fT qt0 qu0 qw0 qx0)))))), (qL1, .inl (cI, 10, .inl l_names)), (qL2, .inl (cI, 64, .inl l_stack)), (qL0, .inr (3, [.ref qr0, .ref qT, .ref qL1, .ref qL2])), (qD0, .inr (0, [.ref qr0, .ref qf0, .ref qL0])), (qX0, .inr (11, [.ref qr0, .ref qk0, .ref qT, .ref qb0, .ref qe0, .ref qL0, .ref qf0, .ref qd0, .ref qn0, .ref qz0, .ref qD0, .ref qh0, .ref qD1, .ref qv0]))]) (As := [.ref qf0]) (rest := []) hx hb hml hown hts hK hP hD hS hA (k_X7_ahead l N D cI cJ cZ cB cT qz0 qz1 qf0 qf1 qf2 qf3 z_cnt z_next z_store f_row z_store_8 hg8) (kwX11_143 hts rfl rfl ⟨Nat.le_of_ble_eq_true rfl, Nat.le_of_ble_eq_true rfl⟩) [5, 6, 2, 3] [0, 1, 4, 7, 8, 9, 10, 11, 12, 13, 14, 15, 16, 17, 18, 19, 20, 21, 22, 23, 24, 25, 26, 27, 28, 29] rfl rfl rfl (by decide) rfl 0 rfl rfl rfl rfl hl.1 rfl (Nat.le_of_ble_eq_true rfl) dX11_feeds_8 ⟨Nat.zero_le _, Nat.zero_le _⟩ (fun H locs hP hD hS => ?_)
  have hP := mP_sub (wc := (W_X_0t1_3t5_7t8_16_34t37_39t42_44t47_49t52_54_61t64_76 qd0 qd1 qf0 qf1 qf2 qz0 qz1 qr0 qt0 qt1 qt2 qt3 qu0 qu1 qu2 qu3 qw0 qw1 qw2 qw3 qx0 qx1 qx2 qx3 qT qL1 qL2 qL0 qD0 qX0 qd2 qf3 qn0 qt4 qu4 qw4 qx4 qk0 qb0 qe0 qh0 qD1 qv0 cI cJ cZ cB cT d_n d_for f_row f_fears z_cnt z_next z_store_8 r_tx r_rul t_cl t_ln t_pt t_code t_st t_en u_cl u_ln u_pt u_code u_st u_en w_cl w_ln w_pt w_code w_st w_en x_cl x_ln x_pt x_code x_st x_en l_names l_stack)) hP [0, 1, 28, 29, 2, 26, 27, 3, 4, 5, 6, 7, 8, 9, 10, 11, 12, 13, 14, 15, 16, 17, 18, 19, 20, 21, 22, 23, 24, 25] rfl
  have hD := hD.sub (ws' := (W_X_0t1_3t5_7t8_16_34t37_39t42_44t47_49t52_54_61t64_76 qd0 qd1 qf0 qf1 qf2 qz0 qz1 qr0 qt0 qt1 qt2 qt3 qu0 qu1 qu2 qu3 qw0 qw1 qw2 qw3 qx0 qx1 qx2 qx3 qT qL1 qL2 qL0 qD0 qX0 qd2 qf3 qn0 qt4 qu4 qw4 qx4 qk0 qb0 qe0 qh0 qD1 qv0 cI cJ cZ cB cT d_n d_for f_row f_fears z_cnt z_next z_store_8 r_tx r_rul t_cl t_ln t_pt t_code t_st t_en u_cl u_ln u_pt u_code u_st u_en w_cl w_ln w_pt w_code w_st w_en x_cl x_ln x_pt x_code x_st x_en l_names l_stack)) [0, 1, 28, 29, 2, 26, 27, 3, 4, 5, 6, 7, 8, 9, 10, 11, 12, 13, 14, 15, 16, 17, 18, 19, 20, 21, 22, 23, 24, 25] rfl rfl
  refine lv_aload_n hx hb dX11_feeds_11 rfl (lv_at hl 0 rfl) ?_
  refine gfX11_75 hx hb hts hown hK hP 29 rfl rfl dX11_feeds_12 ?_
  refine lv_iload_n hx hb dX11_feeds_15 rfl (lv_at hl 1 rfl) ?_
  refine lv_iload_n hx hb dX11_feeds_16 rfl (lv_at hl 2 rfl) ?_
  obtain ⟨r17, f_row_17, l_names_17, l_stack_17, hg17, hf⟩ := ob4_some hf
  refine mcVE_i (wr := [(qz0, .inr (7, [.int z_cnt, .int z_next, .ref qz1])), (qz1, .inl (cI, 2356, .inl z_store_8)), (qX0, .inr (11, [.ref qr0, .ref qk0, .ref qT, .ref qb0, .ref qe0, .ref qL0, .ref qf0, .ref qd0, .ref qn0, .ref qz0, .ref qD0, .ref qh0, .ref qD1, .ref qv0]))]) (As := [.int p1, .int p2]) (rest := []) hx hb hml hown hts hK hP hD hS hA hE (k_X0_nourish l N D cI cJ cZ cB cT qd0 qd1 qt0 qt1 qt2 qt3 qu0 qu1 qu2 qu3 qw0 qw1 qw2 qw3 qx0 qx1 qx2 qx3 qT qf0 qf1 qf2 qr0 qL1 qL2 qL0 qD0 qd2 qt4 qu4 qw4 qx4 qf3 qf0 qz0 qn0 d_n d_for t_cl t_ln t_pt t_code t_st t_en u_cl u_ln u_pt u_code u_st u_en w_cl w_ln w_pt w_code w_st w_en x_cl x_ln x_pt x_code x_st x_en f_row f_fears r_tx r_rul l_names l_stack p1 p2 r17 f_row_17 l_names_17 l_stack_17 hg17) (kwX11_159 hts rfl rfl ⟨Nat.le_of_ble_eq_true rfl, Nat.le_of_ble_eq_true rfl⟩) [0, 1, 8, 9, 10, 11, 12, 13, 14, 15, 16, 17, 18, 19, 20, 21, 22, 23, 24, 2, 3, 4, 7, 25, 26, 27, 28] [5, 6, 29] rfl rfl rfl (by decide) rfl 26 rfl rfl rfl rfl hl.1 rfl (Nat.le_of_ble_eq_true rfl) dX11_feeds_17 ⟨Nat.zero_le _, Nat.zero_le _⟩ (fun hB17 H locs hP hD hS => ?_)
  have hP := mP_sub (wc := (W_X_0t1_3t5_7t8_16_34t37_39t42_44t47_49t52_54_61t64_76 qd0 qd1 qf0 qf1 qf2 qz0 qz1 qr0 qt0 qt1 qt2 qt3 qu0 qu1 qu2 qu3 qw0 qw1 qw2 qw3 qx0 qx1 qx2 qx3 qT qL1 qL2 qL0 qD0 qX0 qd2 qf3 qn0 qt4 qu4 qw4 qx4 qk0 qb0 qe0 qh0 qD1 qv0 cI cJ cZ cB cT d_n d_for f_row_17 f_fears z_cnt z_next z_store_8 r_tx r_rul t_cl t_ln t_pt t_code t_st t_en u_cl u_ln u_pt u_code u_st u_en w_cl w_ln w_pt w_code w_st w_en x_cl x_ln x_pt x_code x_st x_en l_names_17 l_stack_17)) hP [3, 4, 22, 23, 24, 0, 1, 25, 5, 6, 7, 8, 9, 10, 11, 12, 13, 14, 15, 16, 17, 18, 19, 20, 21, 26, 27, 28, 29, 2] rfl
  have hD := hD.sub (ws' := (W_X_0t1_3t5_7t8_16_34t37_39t42_44t47_49t52_54_61t64_76 qd0 qd1 qf0 qf1 qf2 qz0 qz1 qr0 qt0 qt1 qt2 qt3 qu0 qu1 qu2 qu3 qw0 qw1 qw2 qw3 qx0 qx1 qx2 qx3 qT qL1 qL2 qL0 qD0 qX0 qd2 qf3 qn0 qt4 qu4 qw4 qx4 qk0 qb0 qe0 qh0 qD1 qv0 cI cJ cZ cB cT d_n d_for f_row_17 f_fears z_cnt z_next z_store_8 r_tx r_rul t_cl t_ln t_pt t_code t_st t_en u_cl u_ln u_pt u_code u_st u_en w_cl w_ln w_pt w_code w_st w_en x_cl x_ln x_pt x_code x_st x_en l_names_17 l_stack_17)) [3, 4, 22, 23, 24, 0, 1, 25, 5, 6, 7, 8, 9, 10, 11, 12, 13, 14, 15, 16, 17, 18, 19, 20, 21, 26, 27, 28, 29, 2] rfl rfl
  refine lv_istore_n (lv' := [(3, .int r17), (0, .ref qX0), (1, .int p1), (2, .int p2)]) hx hb dX11_feeds_20 rfl hl (by decide) rfl (fun ls hl => ?_)
  refine lv_iload_n hx hb dX11_feeds_21 rfl (lv_at hl 0 rfl) ?_
  refine lv_iconst (v := (-1 : Int32)) hx hb dX11_feeds_22 (by decide) ?_
  refine xicmp_eq hx hb 33 dX11_feeds_23 (by decide) hf (fun hf => ?_) (fun hf => ?_)
  · refine lv_iload_n hx hb dX11_feeds_33 rfl (lv_at hl 0 rfl) ?_
    cases hf
    exact mret_i hx hb hr hlocks hP hD hS dX11_feeds_34 rfl trivial
  · refine lv_aload_n hx hb dX11_feeds_26 rfl (lv_at hl 1 rfl) ?_
    refine gfX11_69 hx hb hts hown hK hP 29 rfl rfl dX11_feeds_27 ?_
    obtain ⟨z_cnt_30, z_next_30, hg30, hf⟩ := ob2_some hf
    refine mcV_v (wr := [(qd0, .inr (2, [.int d_n, .ref qd1, .ref qd2])), (qd1, .inl (cI, 8, .inl d_for)), (qf0, .inr (1, [.ref qf1, .ref qf2, .ref qf3])), (qf1, .inl (cI, 76, .inl f_row_17)), (qf2, .inl (cI, 6, .inl f_fears)), (qz1, .inl (cI, 2356, .inl z_store_8)), (qr0, .inr (6, [.ref qd0, .ref qf0, .ref qz0, .ref qn0, .int r_tx, .int r_rul])), (qt0, .inr (9, [.int t_cl, .int t_ln, .int t_pt, .ref qt1, .ref qt2, .ref qt3, .ref qt4])), (qt1, .inl (cI, 301, .inl t_code)), (qt2, .inl (cI, 4, .inl t_st)), (qt3, .inl (cI, 4, .inl t_en)), (qu0, .inr (9, [.int u_cl, .int u_ln, .int u_pt, .ref qu1, .ref qu2, .ref qu3, .ref qu4])), (qu1, .inl (cI, 301, .inl u_code)), (qu2, .inl (cI, 4, .inl u_st)), (qu3, .inl (cI, 4, .inl u_en)), (qw0, .inr (9, [.int w_cl, .int w_ln, .int w_pt, .ref qw1, .ref qw2, .ref qw3, .ref qw4])), (qw1, .inl (cI, 301, .inl w_code)), (qw2, .inl (cI, 4, .inl w_st)), (qw3, .inl (cI, 4, .inl w_en)), (qx0, .inr (9, [.int x_cl, .int x_ln, .int x_pt, .ref qx1, .ref qx2, .ref qx3, .ref qx4])), (qx1, .inl (cI, 301, .inl x_code)), (qx2, .inl (cI, 4, .inl x_st)), (qx3, .inl (cI, 4, .inl x_en)), (qT, .inl (cT, 4, .inr (.inr (.inr (.inr (fT qt0 qu0 qw0 qx0)))))), (qL1, .inl (cI, 10, .inl l_names_17)), (qL2, .inl (cI, 64, .inl l_stack_17)), (qL0, .inr (3, [.ref qr0, .ref qT, .ref qL1, .ref qL2])), (qD0, .inr (0, [.ref qr0, .ref qf0, .ref qL0])), (qX0, .inr (11, [.ref qr0, .ref qk0, .ref qT, .ref qb0, .ref qe0, .ref qL0, .ref qf0, .ref qd0, .ref qn0, .ref qz0, .ref qD0, .ref qh0, .ref qD1, .ref qv0]))]) (As := []) (rest := []) hx hb hml hown hts hK hP hD hS hA (k_X7_keep l N D cI cJ cZ cB cT qz0 qz1 z_cnt z_next z_cnt_30 z_next_30 hg30) (kwX11_153 hts rfl rfl ⟨Nat.le_of_ble_eq_true rfl, Nat.le_of_ble_eq_true rfl⟩) [5] [0, 1, 2, 3, 4, 6, 7, 8, 9, 10, 11, 12, 13, 14, 15, 16, 17, 18, 19, 20, 21, 22, 23, 24, 25, 26, 27, 28, 29] rfl rfl rfl (by decide) rfl 0 rfl rfl rfl rfl hl.1 rfl (Nat.le_of_ble_eq_true rfl) dX11_feeds_30 ⟨Nat.zero_le _, Nat.zero_le _⟩ (fun H locs hP hD hS => ?_)
    have hP := mP_sub (wc := (W_X_0t1_3t5_7t8_16_34t37_39t42_44t47_49t52_54_61t64_76 qd0 qd1 qf0 qf1 qf2 qz0 qz1 qr0 qt0 qt1 qt2 qt3 qu0 qu1 qu2 qu3 qw0 qw1 qw2 qw3 qx0 qx1 qx2 qx3 qT qL1 qL2 qL0 qD0 qX0 qd2 qf3 qn0 qt4 qu4 qw4 qx4 qk0 qb0 qe0 qh0 qD1 qv0 cI cJ cZ cB cT d_n d_for f_row_17 f_fears z_cnt_30 z_next_30 z_store_8 r_tx r_rul t_cl t_ln t_pt t_code t_st t_en u_cl u_ln u_pt u_code u_st u_en w_cl w_ln w_pt w_code w_st w_en x_cl x_ln x_pt x_code x_st x_en l_names_17 l_stack_17)) hP [0, 1, 2, 3, 4, 29, 5, 6, 7, 8, 9, 10, 11, 12, 13, 14, 15, 16, 17, 18, 19, 20, 21, 22, 23, 24, 25, 26, 27, 28] rfl
    have hD := hD.sub (ws' := (W_X_0t1_3t5_7t8_16_34t37_39t42_44t47_49t52_54_61t64_76 qd0 qd1 qf0 qf1 qf2 qz0 qz1 qr0 qt0 qt1 qt2 qt3 qu0 qu1 qu2 qu3 qw0 qw1 qw2 qw3 qx0 qx1 qx2 qx3 qT qL1 qL2 qL0 qD0 qX0 qd2 qf3 qn0 qt4 qu4 qw4 qx4 qk0 qb0 qe0 qh0 qD1 qv0 cI cJ cZ cB cT d_n d_for f_row_17 f_fears z_cnt_30 z_next_30 z_store_8 r_tx r_rul t_cl t_ln t_pt t_code t_st t_en u_cl u_ln u_pt u_code u_st u_en w_cl w_ln w_pt w_code w_st w_en x_cl x_ln x_pt x_code x_st x_en l_names_17 l_stack_17)) [0, 1, 2, 3, 4, 29, 5, 6, 7, 8, 9, 10, 11, 12, 13, 14, 15, 16, 17, 18, 19, 20, 21, 22, 23, 24, 25, 26, 27, 28] rfl rfl
    refine lv_iload_n hx hb dX11_feeds_33 rfl (lv_at hl 0 rfl) ?_
    cases hf
    exact mret_i hx hb hr hlocks hP hD hS dX11_feeds_34 rfl trivial
theorem dX11_kill_0 : decode cX11_kill 0 = .ok (.aload_n 0, 1) := by decide +kernel
theorem dX11_kill_1 : decode cX11_kill 1 = .ok (.getfield 69, 3) := by decide +kernel
theorem dX11_kill_4 : decode cX11_kill 4 = .ok (.aload_n 0, 1) := by decide +kernel
theorem dX11_kill_5 : decode cX11_kill 5 = .ok (.getfield 54, 3) := by decide +kernel
theorem dX11_kill_8 : decode cX11_kill 8 = .ok (.invokevirtual 143, 3) := by decide +kernel
theorem dX11_kill_11 : decode cX11_kill 11 = .ok (.aload_n 0, 1) := by decide +kernel
theorem dX11_kill_12 : decode cX11_kill 12 = .ok (.getfield 75, 3) := by decide +kernel
theorem dX11_kill_15 : decode cX11_kill 15 = .ok (.iload_n 1, 1) := by decide +kernel
theorem dX11_kill_16 : decode cX11_kill 16 = .ok (.iload_n 2, 1) := by decide +kernel
theorem dX11_kill_17 : decode cX11_kill 17 = .ok (.invokevirtual 162, 3) := by decide +kernel
theorem dX11_kill_20 : decode cX11_kill 20 = .ok (.istore_n 3, 1) := by decide +kernel
theorem dX11_kill_21 : decode cX11_kill 21 = .ok (.iload_n 3, 1) := by decide +kernel
theorem dX11_kill_22 : decode cX11_kill 22 = .ok (.ifCond .eq 10, 3) := by decide +kernel
theorem dX11_kill_25 : decode cX11_kill 25 = .ok (.aload_n 0, 1) := by decide +kernel
theorem dX11_kill_26 : decode cX11_kill 26 = .ok (.getfield 69, 3) := by decide +kernel
theorem dX11_kill_29 : decode cX11_kill 29 = .ok (.invokevirtual 153, 3) := by decide +kernel
theorem dX11_kill_32 : decode cX11_kill 32 = .ok (.iload_n 3, 1) := by decide +kernel
theorem dX11_kill_33 : decode cX11_kill 33 = .ok (.ireturn, 1) := by decide +kernel
def f_X11_kill (N : Nat) (f_row : Nat → Int32) (z_cnt : Int32) (z_next : Int32) (z_store : Nat → Int32) (p1 : Int32) (p2 : Int32) : Option (Int32 × (Nat → Int32) × Int32 × Int32 × (Nat → Int32)) := ob1 (f_X7_ahead N z_next z_store f_row) fun z_store_8 => ob2 (f_X0_slay N f_row p1 p2) fun r17 f_row_17 => if r17 = 0 then (some (r17, f_row_17, z_cnt, z_next, z_store_8)) else (ob2 (f_X7_keep N z_cnt z_next) fun z_cnt_29 z_next_29 => some (r17, f_row_17, z_cnt_29, z_next_29, z_store_8))
set_option maxHeartbeats 4000000 in
set_option maxRecDepth 100000 in
theorem k_X11_kill (l : Launch) (N : Nat) (D : va_G) (cI cJ cZ cB cT : ClassId) (qf0 : Nat) (qf1 : Nat) (qz0 : Nat) (qz1 : Nat) (qD0 : Nat) (qX0 : Nat) (qf2 : Nat) (qf3 : Nat) (qr0 : Nat) (qL0 : Nat) (qk0 : Nat) (qT : Nat) (qb0 : Nat) (qe0 : Nat) (qd0 : Nat) (qn0 : Nat) (qh0 : Nat) (qD1 : Nat) (qv0 : Nat) (f_row : Nat → Int32) (z_cnt : Int32) (z_next : Int32) (z_store : Nat → Int32) (p1 : Int32) (p2 : Int32) (o_r : Int32) (o_f_row : Nat → Int32) (o_z_cnt : Int32) (o_z_next : Int32) (o_z_store : Nat → Int32) (hf : f_X11_kill N f_row z_cnt z_next z_store p1 p2 = some (o_r, o_f_row, o_z_cnt, o_z_next, o_z_store)) : ∀ sz, Met l yX11_kill (mw yX11_kill cX11_kill 4 (some .boolean)) ({ frames := 4, cells := 0, slots := 0, locals := 105 } : Room) (mPre D (mT cI cJ cZ cB cT) (W_X_3t4_7t8_64_76 qf0 qf1 qz0 qz1 qD0 qX0 qf2 qf3 qr0 qL0 qk0 qT qb0 qe0 qd0 qn0 qh0 qD1 qv0 cI cJ cZ cB cT f_row z_cnt z_next z_store) sz [.ref qX0, .int p1, .int p2]) ((mQi D (W_X_3t4_7t8_64_76 qf0 qf1 qz0 qz1 qD0 qX0 qf2 qf3 qr0 qL0 qk0 qT qb0 qe0 qd0 qn0 qh0 qD1 qv0 cI cJ cZ cB cT o_f_row o_z_cnt o_z_next o_z_store) o_r (mB o_r)) (va_A (W_X_3t4_7t8_64_76 qf0 qf1 qz0 qz1 qD0 qX0 qf2 qf3 qr0 qL0 qk0 qT qb0 qe0 qd0 qn0 qh0 qD1 qv0 cI cJ cZ cB cT f_row z_cnt z_next z_store) sz)) 0 0 (va_A (W_X_3t4_7t8_64_76 qf0 qf1 qz0 qz1 qD0 qX0 qf2 qf3 qr0 qL0 qk0 qT qb0 qe0 qd0 qn0 qh0 qD1 qv0 cI cJ cZ cB cT f_row z_cnt z_next z_store) sz) := by
  refine mMet (Qc := (mQi D (W_X_3t4_7t8_64_76 qf0 qf1 qz0 qz1 qD0 qX0 qf2 qf3 qr0 qL0 qk0 qT qb0 qe0 qd0 qn0 qh0 qD1 qv0 cI cJ cZ cB cT o_f_row o_z_cnt o_z_next o_z_store) o_r (mB o_r))) (by decide) (Nat.le_of_ble_eq_true rfl) (fun p e s m below meth c A ls hx hb hr hml hts hown hlocks hK hA hP hD hl => ?_)
  have hown : s.vm.findClass RX11 = some m.cls := hown
  have hl : lv_has ls 4 [(0, .ref qX0), (1, .int p1), (2, .int p2)] := hl
  have hS : va_S A s.heap s.heap [] := va_S.rf
  unfold f_X11_kill at hf
  refine lv_aload_n hx hb dX11_kill_0 rfl (lv_at hl 0 rfl) ?_
  refine gfX11_69 hx hb hts hown hK hP 5 rfl rfl dX11_kill_1 ?_
  refine lv_aload_n hx hb dX11_kill_4 rfl (lv_at hl 0 rfl) ?_
  refine gfX11_54 hx hb hts hown hK hP 5 rfl rfl dX11_kill_5 ?_
  obtain ⟨z_store_8, hg8, hf⟩ := ob1_some hf
  refine mcV_v (wr := [(qD0, .inr (0, [.ref qr0, .ref qf0, .ref qL0])), (qX0, .inr (11, [.ref qr0, .ref qk0, .ref qT, .ref qb0, .ref qe0, .ref qL0, .ref qf0, .ref qd0, .ref qn0, .ref qz0, .ref qD0, .ref qh0, .ref qD1, .ref qv0]))]) (As := [.ref qf0]) (rest := []) hx hb hml hown hts hK hP hD hS hA (k_X7_ahead l N D cI cJ cZ cB cT qz0 qz1 qf0 qf1 qf2 qf3 z_cnt z_next z_store f_row z_store_8 hg8) (kwX11_143 hts rfl rfl ⟨Nat.le_of_ble_eq_true rfl, Nat.le_of_ble_eq_true rfl⟩) [2, 3, 0, 1] [4, 5] rfl rfl rfl (by decide) rfl 0 rfl rfl rfl rfl hl.1 rfl (Nat.le_of_ble_eq_true rfl) dX11_kill_8 ⟨Nat.zero_le _, Nat.zero_le _⟩ (fun H locs hP hD hS => ?_)
  have hP := mP_sub (wc := (W_X_3t4_7t8_64_76 qf0 qf1 qz0 qz1 qD0 qX0 qf2 qf3 qr0 qL0 qk0 qT qb0 qe0 qd0 qn0 qh0 qD1 qv0 cI cJ cZ cB cT f_row z_cnt z_next z_store_8)) hP [4, 5, 2, 3, 0, 1] rfl
  have hD := hD.sub (ws' := (W_X_3t4_7t8_64_76 qf0 qf1 qz0 qz1 qD0 qX0 qf2 qf3 qr0 qL0 qk0 qT qb0 qe0 qd0 qn0 qh0 qD1 qv0 cI cJ cZ cB cT f_row z_cnt z_next z_store_8)) [4, 5, 2, 3, 0, 1] rfl rfl
  refine lv_aload_n hx hb dX11_kill_11 rfl (lv_at hl 0 rfl) ?_
  refine gfX11_75 hx hb hts hown hK hP 5 rfl rfl dX11_kill_12 ?_
  refine lv_iload_n hx hb dX11_kill_15 rfl (lv_at hl 1 rfl) ?_
  refine lv_iload_n hx hb dX11_kill_16 rfl (lv_at hl 2 rfl) ?_
  obtain ⟨r17, f_row_17, hg17, hf⟩ := ob2_some hf
  refine mcV_i (wr := [(qz0, .inr (7, [.int z_cnt, .int z_next, .ref qz1])), (qz1, .inl (cI, 2356, .inl z_store_8)), (qX0, .inr (11, [.ref qr0, .ref qk0, .ref qT, .ref qb0, .ref qe0, .ref qL0, .ref qf0, .ref qd0, .ref qn0, .ref qz0, .ref qD0, .ref qh0, .ref qD1, .ref qv0]))]) (As := [.int p1, .int p2]) (rest := []) hx hb hml hown hts hK hP hD hS hA (k_X0_slay l N D cI cJ cZ cB cT qf0 qf1 qD0 qf2 qf3 qr0 qL0 f_row p1 p2 r17 f_row_17 hg17) (kwX11_162 hts rfl rfl ⟨Nat.le_of_ble_eq_true rfl, Nat.le_of_ble_eq_true rfl⟩) [0, 1, 4] [2, 3, 5] rfl rfl rfl (by decide) rfl 2 rfl rfl rfl rfl hl.1 rfl (Nat.le_of_ble_eq_true rfl) dX11_kill_17 ⟨Nat.zero_le _, Nat.zero_le _⟩ (fun hB17 H locs hP hD hS => ?_)
  have hP := mP_sub (wc := (W_X_3t4_7t8_64_76 qf0 qf1 qz0 qz1 qD0 qX0 qf2 qf3 qr0 qL0 qk0 qT qb0 qe0 qd0 qn0 qh0 qD1 qv0 cI cJ cZ cB cT f_row_17 z_cnt z_next z_store_8)) hP [3, 4, 0, 1, 5, 2] rfl
  have hD := hD.sub (ws' := (W_X_3t4_7t8_64_76 qf0 qf1 qz0 qz1 qD0 qX0 qf2 qf3 qr0 qL0 qk0 qT qb0 qe0 qd0 qn0 qh0 qD1 qv0 cI cJ cZ cB cT f_row_17 z_cnt z_next z_store_8)) [3, 4, 0, 1, 5, 2] rfl rfl
  refine lv_istore_n (lv' := [(3, .int r17), (0, .ref qX0), (1, .int p1), (2, .int p2)]) hx hb dX11_kill_20 rfl hl (by decide) rfl (fun ls hl => ?_)
  refine lv_iload_n hx hb dX11_kill_21 rfl (lv_at hl 0 rfl) ?_
  refine xif_eq hx hb 32 dX11_kill_22 (by decide) hf (fun hf => ?_) (fun hf => ?_)
  · refine lv_iload_n hx hb dX11_kill_32 rfl (lv_at hl 0 rfl) ?_
    cases hf
    exact mret_z hx hb hr hlocks hP hD hS dX11_kill_33 rfl hB17
  · refine lv_aload_n hx hb dX11_kill_25 rfl (lv_at hl 1 rfl) ?_
    refine gfX11_69 hx hb hts hown hK hP 5 rfl rfl dX11_kill_26 ?_
    obtain ⟨z_cnt_29, z_next_29, hg29, hf⟩ := ob2_some hf
    refine mcV_v (wr := [(qf0, .inr (1, [.ref qf1, .ref qf2, .ref qf3])), (qf1, .inl (cI, 76, .inl f_row_17)), (qz1, .inl (cI, 2356, .inl z_store_8)), (qD0, .inr (0, [.ref qr0, .ref qf0, .ref qL0])), (qX0, .inr (11, [.ref qr0, .ref qk0, .ref qT, .ref qb0, .ref qe0, .ref qL0, .ref qf0, .ref qd0, .ref qn0, .ref qz0, .ref qD0, .ref qh0, .ref qD1, .ref qv0]))]) (As := []) (rest := []) hx hb hml hown hts hK hP hD hS hA (k_X7_keep l N D cI cJ cZ cB cT qz0 qz1 z_cnt z_next z_cnt_29 z_next_29 hg29) (kwX11_153 hts rfl rfl ⟨Nat.le_of_ble_eq_true rfl, Nat.le_of_ble_eq_true rfl⟩) [2] [0, 1, 3, 4, 5] rfl rfl rfl (by decide) rfl 0 rfl rfl rfl rfl hl.1 rfl (Nat.le_of_ble_eq_true rfl) dX11_kill_29 ⟨Nat.zero_le _, Nat.zero_le _⟩ (fun H locs hP hD hS => ?_)
    have hP := mP_sub (wc := (W_X_3t4_7t8_64_76 qf0 qf1 qz0 qz1 qD0 qX0 qf2 qf3 qr0 qL0 qk0 qT qb0 qe0 qd0 qn0 qh0 qD1 qv0 cI cJ cZ cB cT f_row_17 z_cnt_29 z_next_29 z_store_8)) hP [0, 1, 5, 2, 3, 4] rfl
    have hD := hD.sub (ws' := (W_X_3t4_7t8_64_76 qf0 qf1 qz0 qz1 qD0 qX0 qf2 qf3 qr0 qL0 qk0 qT qb0 qe0 qd0 qn0 qh0 qD1 qv0 cI cJ cZ cB cT f_row_17 z_cnt_29 z_next_29 z_store_8)) [0, 1, 5, 2, 3, 4] rfl rfl
    refine lv_iload_n hx hb dX11_kill_32 rfl (lv_at hl 0 rfl) ?_
    cases hf
    exact mret_z hx hb hr hlocks hP hD hS dX11_kill_33 rfl hB17
theorem dX11_pardon_0 : decode cX11_pardon 0 = .ok (.aload_n 0, 1) := by decide +kernel
theorem dX11_pardon_1 : decode cX11_pardon 1 = .ok (.getfield 69, 3) := by decide +kernel
theorem dX11_pardon_4 : decode cX11_pardon 4 = .ok (.aload_n 0, 1) := by decide +kernel
theorem dX11_pardon_5 : decode cX11_pardon 5 = .ok (.getfield 54, 3) := by decide +kernel
theorem dX11_pardon_8 : decode cX11_pardon 8 = .ok (.invokevirtual 143, 3) := by decide +kernel
theorem dX11_pardon_11 : decode cX11_pardon 11 = .ok (.aload_n 0, 1) := by decide +kernel
theorem dX11_pardon_12 : decode cX11_pardon 12 = .ok (.getfield 75, 3) := by decide +kernel
theorem dX11_pardon_15 : decode cX11_pardon 15 = .ok (.iload_n 1, 1) := by decide +kernel
theorem dX11_pardon_16 : decode cX11_pardon 16 = .ok (.iload_n 2, 1) := by decide +kernel
theorem dX11_pardon_17 : decode cX11_pardon 17 = .ok (.invokevirtual 165, 3) := by decide +kernel
theorem dX11_pardon_20 : decode cX11_pardon 20 = .ok (.istore_n 3, 1) := by decide +kernel
theorem dX11_pardon_21 : decode cX11_pardon 21 = .ok (.iload_n 3, 1) := by decide +kernel
theorem dX11_pardon_22 : decode cX11_pardon 22 = .ok (.iconst (-1), 1) := by decide +kernel
theorem dX11_pardon_23 : decode cX11_pardon 23 = .ok (.if_icmp .eq 10, 3) := by decide +kernel
theorem dX11_pardon_26 : decode cX11_pardon 26 = .ok (.aload_n 0, 1) := by decide +kernel
theorem dX11_pardon_27 : decode cX11_pardon 27 = .ok (.getfield 69, 3) := by decide +kernel
theorem dX11_pardon_30 : decode cX11_pardon 30 = .ok (.invokevirtual 153, 3) := by decide +kernel
theorem dX11_pardon_33 : decode cX11_pardon 33 = .ok (.iload_n 3, 1) := by decide +kernel
theorem dX11_pardon_34 : decode cX11_pardon 34 = .ok (.ireturn, 1) := by decide +kernel
def f_X11_pardon (N : Nat) (d_n : Int32) (d_for : Nat → Int32) (f_row : Nat → Int32) (f_fears : Nat → Int32) (z_cnt : Int32) (z_next : Int32) (z_store : Nat → Int32) (r_tx : Int32) (r_rul : Int32) (t_code : Nat → Int32) (t_st : Nat → Int32) (t_en : Nat → Int32) (u_code : Nat → Int32) (u_st : Nat → Int32) (u_en : Nat → Int32) (w_code : Nat → Int32) (w_st : Nat → Int32) (w_en : Nat → Int32) (x_code : Nat → Int32) (x_st : Nat → Int32) (x_en : Nat → Int32) (l_names : Nat → Int32) (l_stack : Nat → Int32) (p1 : Int32) (p2 : Int32) : Option (Int32 × (Nat → Int32) × Int32 × Int32 × (Nat → Int32) × (Nat → Int32) × (Nat → Int32)) := ob1 (f_X7_ahead N z_next z_store f_row) fun z_store_8 => ob4 (f_X0_forgive N d_n d_for t_code t_st t_en u_code u_st u_en w_code w_st w_en x_code x_st x_en f_row f_fears r_tx r_rul l_names l_stack p1 p2) fun r17 f_row_17 l_names_17 l_stack_17 => if r17 = (-1 : Int32) then (some (r17, f_row_17, z_cnt, z_next, z_store_8, l_names_17, l_stack_17)) else (ob2 (f_X7_keep N z_cnt z_next) fun z_cnt_30 z_next_30 => some (r17, f_row_17, z_cnt_30, z_next_30, z_store_8, l_names_17, l_stack_17))
set_option maxHeartbeats 4000000 in
set_option maxRecDepth 100000 in
theorem k_X11_pardon (l : Launch) (N : Nat) (D : va_G) (cI cJ cZ cB cT : ClassId) (qd0 : Nat) (qd1 : Nat) (qf0 : Nat) (qf1 : Nat) (qf2 : Nat) (qz0 : Nat) (qz1 : Nat) (qr0 : Nat) (qt0 : Nat) (qt1 : Nat) (qt2 : Nat) (qt3 : Nat) (qu0 : Nat) (qu1 : Nat) (qu2 : Nat) (qu3 : Nat) (qw0 : Nat) (qw1 : Nat) (qw2 : Nat) (qw3 : Nat) (qx0 : Nat) (qx1 : Nat) (qx2 : Nat) (qx3 : Nat) (qT : Nat) (qL1 : Nat) (qL2 : Nat) (qL0 : Nat) (qD0 : Nat) (qX0 : Nat) (qd2 : Nat) (qf3 : Nat) (qn0 : Nat) (qt4 : Nat) (qu4 : Nat) (qw4 : Nat) (qx4 : Nat) (qk0 : Nat) (qb0 : Nat) (qe0 : Nat) (qh0 : Nat) (qD1 : Nat) (qv0 : Nat) (d_n : Int32) (d_for : Nat → Int32) (f_row : Nat → Int32) (f_fears : Nat → Int32) (z_cnt : Int32) (z_next : Int32) (z_store : Nat → Int32) (r_tx : Int32) (r_rul : Int32) (t_cl : Int32) (t_ln : Int32) (t_pt : Int32) (t_code : Nat → Int32) (t_st : Nat → Int32) (t_en : Nat → Int32) (u_cl : Int32) (u_ln : Int32) (u_pt : Int32) (u_code : Nat → Int32) (u_st : Nat → Int32) (u_en : Nat → Int32) (w_cl : Int32) (w_ln : Int32) (w_pt : Int32) (w_code : Nat → Int32) (w_st : Nat → Int32) (w_en : Nat → Int32) (x_cl : Int32) (x_ln : Int32) (x_pt : Int32) (x_code : Nat → Int32) (x_st : Nat → Int32) (x_en : Nat → Int32) (l_names : Nat → Int32) (l_stack : Nat → Int32) (p1 : Int32) (p2 : Int32) (o_r : Int32) (o_f_row : Nat → Int32) (o_z_cnt : Int32) (o_z_next : Int32) (o_z_store : Nat → Int32) (o_l_names : Nat → Int32) (o_l_stack : Nat → Int32) (hf : f_X11_pardon N d_n d_for f_row f_fears z_cnt z_next z_store r_tx r_rul t_code t_st t_en u_code u_st u_en w_code w_st w_en x_code x_st x_en l_names l_stack p1 p2 = some (o_r, o_f_row, o_z_cnt, o_z_next, o_z_store, o_l_names, o_l_stack)) : ∀ sz, Met l yX11_pardon (mw yX11_pardon cX11_pardon 4 (some .int)) ({ frames := 5, cells := 0, slots := 0, locals := 147 } : Room) (mPreE D (mT cI cJ cZ cB cT) (W_X_0t1_3t5_7t8_16_34t37_39t42_44t47_49t52_54_61t64_76 qd0 qd1 qf0 qf1 qf2 qz0 qz1 qr0 qt0 qt1 qt2 qt3 qu0 qu1 qu2 qu3 qw0 qw1 qw2 qw3 qx0 qx1 qx2 qx3 qT qL1 qL2 qL0 qD0 qX0 qd2 qf3 qn0 qt4 qu4 qw4 qx4 qk0 qb0 qe0 qh0 qD1 qv0 cI cJ cZ cB cT d_n d_for f_row f_fears z_cnt z_next z_store r_tx r_rul t_cl t_ln t_pt t_code t_st t_en u_cl u_ln u_pt u_code u_st u_en w_cl w_ln w_pt w_code w_st w_en x_cl x_ln x_pt x_code x_st x_en l_names l_stack) sz [.ref qX0, .int p1, .int p2]) ((mQi D (W_X_0t1_3t5_7t8_16_34t37_39t42_44t47_49t52_54_61t64_76 qd0 qd1 qf0 qf1 qf2 qz0 qz1 qr0 qt0 qt1 qt2 qt3 qu0 qu1 qu2 qu3 qw0 qw1 qw2 qw3 qx0 qx1 qx2 qx3 qT qL1 qL2 qL0 qD0 qX0 qd2 qf3 qn0 qt4 qu4 qw4 qx4 qk0 qb0 qe0 qh0 qD1 qv0 cI cJ cZ cB cT d_n d_for o_f_row f_fears o_z_cnt o_z_next o_z_store r_tx r_rul t_cl t_ln t_pt t_code t_st t_en u_cl u_ln u_pt u_code u_st u_en w_cl w_ln w_pt w_code w_st w_en x_cl x_ln x_pt x_code x_st x_en o_l_names o_l_stack) o_r True) (va_A (W_X_0t1_3t5_7t8_16_34t37_39t42_44t47_49t52_54_61t64_76 qd0 qd1 qf0 qf1 qf2 qz0 qz1 qr0 qt0 qt1 qt2 qt3 qu0 qu1 qu2 qu3 qw0 qw1 qw2 qw3 qx0 qx1 qx2 qx3 qT qL1 qL2 qL0 qD0 qX0 qd2 qf3 qn0 qt4 qu4 qw4 qx4 qk0 qb0 qe0 qh0 qD1 qv0 cI cJ cZ cB cT d_n d_for f_row f_fears z_cnt z_next z_store r_tx r_rul t_cl t_ln t_pt t_code t_st t_en u_cl u_ln u_pt u_code u_st u_en w_cl w_ln w_pt w_code w_st w_en x_cl x_ln x_pt x_code x_st x_en l_names l_stack) sz)) 0 0 (va_A (W_X_0t1_3t5_7t8_16_34t37_39t42_44t47_49t52_54_61t64_76 qd0 qd1 qf0 qf1 qf2 qz0 qz1 qr0 qt0 qt1 qt2 qt3 qu0 qu1 qu2 qu3 qw0 qw1 qw2 qw3 qx0 qx1 qx2 qx3 qT qL1 qL2 qL0 qD0 qX0 qd2 qf3 qn0 qt4 qu4 qw4 qx4 qk0 qb0 qe0 qh0 qD1 qv0 cI cJ cZ cB cT d_n d_for f_row f_fears z_cnt z_next z_store r_tx r_rul t_cl t_ln t_pt t_code t_st t_en u_cl u_ln u_pt u_code u_st u_en w_cl w_ln w_pt w_code w_st w_en x_cl x_ln x_pt x_code x_st x_en l_names l_stack) sz) := by
  refine mMetE (Qc := (mQi D (W_X_0t1_3t5_7t8_16_34t37_39t42_44t47_49t52_54_61t64_76 qd0 qd1 qf0 qf1 qf2 qz0 qz1 qr0 qt0 qt1 qt2 qt3 qu0 qu1 qu2 qu3 qw0 qw1 qw2 qw3 qx0 qx1 qx2 qx3 qT qL1 qL2 qL0 qD0 qX0 qd2 qf3 qn0 qt4 qu4 qw4 qx4 qk0 qb0 qe0 qh0 qD1 qv0 cI cJ cZ cB cT d_n d_for o_f_row f_fears o_z_cnt o_z_next o_z_store r_tx r_rul t_cl t_ln t_pt t_code t_st t_en u_cl u_ln u_pt u_code u_st u_en w_cl w_ln w_pt w_code w_st w_en x_cl x_ln x_pt x_code x_st x_en o_l_names o_l_stack) o_r True)) (by decide) (Nat.le_of_ble_eq_true rfl) (fun p e s m below meth c A ls hx hb hr hml hts hown hlocks hK hA hP hD hl hE => ?_)
  have hown : s.vm.findClass RX11 = some m.cls := hown
  have hl : lv_has ls 4 [(0, .ref qX0), (1, .int p1), (2, .int p2)] := hl
  have hS : va_S A s.heap s.heap [] := va_S.rf
  obtain ⟨⟨tM, hZM, hTM⟩, ⟨tL, hZL, hTL⟩, ⟨hNX4, hNX10⟩, tS, tV, hRS, hZC, hZF, hKS⟩ := id hE
  unfold f_X11_pardon at hf
  refine lv_aload_n hx hb dX11_pardon_0 rfl (lv_at hl 0 rfl) ?_
  refine gfX11_69 hx hb hts hown hK hP 29 rfl rfl dX11_pardon_1 ?_
  refine lv_aload_n hx hb dX11_pardon_4 rfl (lv_at hl 0 rfl) ?_
  refine gfX11_54 hx hb hts hown hK hP 29 rfl rfl dX11_pardon_5 ?_
  obtain ⟨z_store_8, hg8, hf⟩ := ob1_some hf
  refine mcV_v (wr := [(qd0, .inr (2, [.int d_n, .ref qd1, .ref qd2])), (qd1, .inl (cI, 8, .inl d_for)), (qf2, .inl (cI, 6, .inl f_fears)), (qr0, .inr (6, [.ref qd0, .ref qf0, .ref qz0, .ref qn0, .int r_tx, .int r_rul])), (qt0, .inr (9, [.int t_cl, .int t_ln, .int t_pt, .ref qt1, .ref qt2, .ref qt3, .ref qt4])), (qt1, .inl (cI, 301, .inl t_code)), (qt2, .inl (cI, 4, .inl t_st)), (qt3, .inl (cI, 4, .inl t_en)), (qu0, .inr (9, [.int u_cl, .int u_ln, .int u_pt, .ref qu1, .ref qu2, .ref qu3, .ref qu4])), (qu1, .inl (cI, 301, .inl u_code)), (qu2, .inl (cI, 4, .inl u_st)), (qu3, .inl (cI, 4, .inl u_en)), (qw0, .inr (9, [.int w_cl, .int w_ln, .int w_pt, .ref qw1, .ref qw2, .ref qw3, .ref qw4])), (qw1, .inl (cI, 301, .inl w_code)), (qw2, .inl (cI, 4, .inl w_st)), (qw3, .inl (cI, 4, .inl w_en)), (qx0, .inr (9, [.int x_cl, .int x_ln, .int x_pt, .ref qx1, .ref qx2, .ref qx3, .ref qx4])), (qx1, .inl (cI, 301, .inl x_code)), (qx2, .inl (cI, 4, .inl x_st)), (qx3, .inl (cI, 4, .inl x_en)), (qT, .inl (cT, 4, .inr (.inr (.inr (.inr (fT qt0 qu0 qw0 qx0)))))), (qL1, .inl (cI, 10, .inl l_names)), (qL2, .inl (cI, 64, .inl l_stack)), (qL0, .inr (3, [.ref qr0, .ref qT, .ref qL1, .ref qL2])), (qD0, .inr (0, [.ref qr0, .ref qf0, .ref qL0])), (qX0, .inr (11, [.ref qr0, .ref qk0, .ref qT, .ref qb0, .ref qe0, .ref qL0, .ref qf0, .ref qd0, .ref qn0, .ref qz0, .ref qD0, .ref qh0, .ref qD1, .ref qv0]))]) (As := [.ref qf0]) (rest := []) hx hb hml hown hts hK hP hD hS hA (k_X7_ahead l N D cI cJ cZ cB cT qz0 qz1 qf0 qf1 qf2 qf3 z_cnt z_next z_store f_row z_store_8 hg8) (kwX11_143 hts rfl rfl ⟨Nat.le_of_ble_eq_true rfl, Nat.le_of_ble_eq_true rfl⟩) [5, 6, 2, 3] [0, 1, 4, 7, 8, 9, 10, 11, 12, 13, 14, 15, 16, 17, 18, 19, 20, 21, 22, 23, 24, 25, 26, 27, 28, 29] rfl rfl rfl (by decide) rfl 0 rfl rfl rfl rfl hl.1 rfl (Nat.le_of_ble_eq_true rfl) dX11_pardon_8 ⟨Nat.zero_le _, Nat.zero_le _⟩ (fun H locs hP hD hS => ?_)
  have hP := mP_sub (wc := (W_X_0t1_3t5_7t8_16_34t37_39t42_44t47_49t52_54_61t64_76 qd0 qd1 qf0 qf1 qf2 qz0 qz1 qr0 qt0 qt1 qt2 qt3 qu0 qu1 qu2 qu3 qw0 qw1 qw2 qw3 qx0 qx1 qx2 qx3 qT qL1 qL2 qL0 qD0 qX0 qd2 qf3 qn0 qt4 qu4 qw4 qx4 qk0 qb0 qe0 qh0 qD1 qv0 cI cJ cZ cB cT d_n d_for f_row f_fears z_cnt z_next z_store_8 r_tx r_rul t_cl t_ln t_pt t_code t_st t_en u_cl u_ln u_pt u_code u_st u_en w_cl w_ln w_pt w_code w_st w_en x_cl x_ln x_pt x_code x_st x_en l_names l_stack)) hP [0, 1, 28, 29, 2, 26, 27, 3, 4, 5, 6, 7, 8, 9, 10, 11, 12, 13, 14, 15, 16, 17, 18, 19, 20, 21, 22, 23, 24, 25] rfl
  have hD := hD.sub (ws' := (W_X_0t1_3t5_7t8_16_34t37_39t42_44t47_49t52_54_61t64_76 qd0 qd1 qf0 qf1 qf2 qz0 qz1 qr0 qt0 qt1 qt2 qt3 qu0 qu1 qu2 qu3 qw0 qw1 qw2 qw3 qx0 qx1 qx2 qx3 qT qL1 qL2 qL0 qD0 qX0 qd2 qf3 qn0 qt4 qu4 qw4 qx4 qk0 qb0 qe0 qh0 qD1 qv0 cI cJ cZ cB cT d_n d_for f_row f_fears z_cnt z_next z_store_8 r_tx r_rul t_cl t_ln t_pt t_code t_st t_en u_cl u_ln u_pt u_code u_st u_en w_cl w_ln w_pt w_code w_st w_en x_cl x_ln x_pt x_code x_st x_en l_names l_stack)) [0, 1, 28, 29, 2, 26, 27, 3, 4, 5, 6, 7, 8, 9, 10, 11, 12, 13, 14, 15, 16, 17, 18, 19, 20, 21, 22, 23, 24, 25] rfl rfl
  refine lv_aload_n hx hb dX11_pardon_11 rfl (lv_at hl 0 rfl) ?_
  refine gfX11_75 hx hb hts hown hK hP 29 rfl rfl dX11_pardon_12 ?_
  refine lv_iload_n hx hb dX11_pardon_15 rfl (lv_at hl 1 rfl) ?_
  refine lv_iload_n hx hb dX11_pardon_16 rfl (lv_at hl 2 rfl) ?_
  obtain ⟨r17, f_row_17, l_names_17, l_stack_17, hg17, hf⟩ := ob4_some hf
  refine mcVE_i (wr := [(qz0, .inr (7, [.int z_cnt, .int z_next, .ref qz1])), (qz1, .inl (cI, 2356, .inl z_store_8)), (qX0, .inr (11, [.ref qr0, .ref qk0, .ref qT, .ref qb0, .ref qe0, .ref qL0, .ref qf0, .ref qd0, .ref qn0, .ref qz0, .ref qD0, .ref qh0, .ref qD1, .ref qv0]))]) (As := [.int p1, .int p2]) (rest := []) hx hb hml hown hts hK hP hD hS hA hE (k_X0_forgive l N D cI cJ cZ cB cT qd0 qd1 qt0 qt1 qt2 qt3 qu0 qu1 qu2 qu3 qw0 qw1 qw2 qw3 qx0 qx1 qx2 qx3 qT qf0 qf1 qf2 qr0 qL1 qL2 qL0 qD0 qd2 qt4 qu4 qw4 qx4 qf3 qf0 qz0 qn0 d_n d_for t_cl t_ln t_pt t_code t_st t_en u_cl u_ln u_pt u_code u_st u_en w_cl w_ln w_pt w_code w_st w_en x_cl x_ln x_pt x_code x_st x_en f_row f_fears r_tx r_rul l_names l_stack p1 p2 r17 f_row_17 l_names_17 l_stack_17 hg17) (kwX11_165 hts rfl rfl ⟨Nat.le_of_ble_eq_true rfl, Nat.le_of_ble_eq_true rfl⟩) [0, 1, 8, 9, 10, 11, 12, 13, 14, 15, 16, 17, 18, 19, 20, 21, 22, 23, 24, 2, 3, 4, 7, 25, 26, 27, 28] [5, 6, 29] rfl rfl rfl (by decide) rfl 26 rfl rfl rfl rfl hl.1 rfl (Nat.le_of_ble_eq_true rfl) dX11_pardon_17 ⟨Nat.zero_le _, Nat.zero_le _⟩ (fun hB17 H locs hP hD hS => ?_)
  have hP := mP_sub (wc := (W_X_0t1_3t5_7t8_16_34t37_39t42_44t47_49t52_54_61t64_76 qd0 qd1 qf0 qf1 qf2 qz0 qz1 qr0 qt0 qt1 qt2 qt3 qu0 qu1 qu2 qu3 qw0 qw1 qw2 qw3 qx0 qx1 qx2 qx3 qT qL1 qL2 qL0 qD0 qX0 qd2 qf3 qn0 qt4 qu4 qw4 qx4 qk0 qb0 qe0 qh0 qD1 qv0 cI cJ cZ cB cT d_n d_for f_row_17 f_fears z_cnt z_next z_store_8 r_tx r_rul t_cl t_ln t_pt t_code t_st t_en u_cl u_ln u_pt u_code u_st u_en w_cl w_ln w_pt w_code w_st w_en x_cl x_ln x_pt x_code x_st x_en l_names_17 l_stack_17)) hP [3, 4, 22, 23, 24, 0, 1, 25, 5, 6, 7, 8, 9, 10, 11, 12, 13, 14, 15, 16, 17, 18, 19, 20, 21, 26, 27, 28, 29, 2] rfl
  have hD := hD.sub (ws' := (W_X_0t1_3t5_7t8_16_34t37_39t42_44t47_49t52_54_61t64_76 qd0 qd1 qf0 qf1 qf2 qz0 qz1 qr0 qt0 qt1 qt2 qt3 qu0 qu1 qu2 qu3 qw0 qw1 qw2 qw3 qx0 qx1 qx2 qx3 qT qL1 qL2 qL0 qD0 qX0 qd2 qf3 qn0 qt4 qu4 qw4 qx4 qk0 qb0 qe0 qh0 qD1 qv0 cI cJ cZ cB cT d_n d_for f_row_17 f_fears z_cnt z_next z_store_8 r_tx r_rul t_cl t_ln t_pt t_code t_st t_en u_cl u_ln u_pt u_code u_st u_en w_cl w_ln w_pt w_code w_st w_en x_cl x_ln x_pt x_code x_st x_en l_names_17 l_stack_17)) [3, 4, 22, 23, 24, 0, 1, 25, 5, 6, 7, 8, 9, 10, 11, 12, 13, 14, 15, 16, 17, 18, 19, 20, 21, 26, 27, 28, 29, 2] rfl rfl
  refine lv_istore_n (lv' := [(3, .int r17), (0, .ref qX0), (1, .int p1), (2, .int p2)]) hx hb dX11_pardon_20 rfl hl (by decide) rfl (fun ls hl => ?_)
  refine lv_iload_n hx hb dX11_pardon_21 rfl (lv_at hl 0 rfl) ?_
  refine lv_iconst (v := (-1 : Int32)) hx hb dX11_pardon_22 (by decide) ?_
  refine xicmp_eq hx hb 33 dX11_pardon_23 (by decide) hf (fun hf => ?_) (fun hf => ?_)
  · refine lv_iload_n hx hb dX11_pardon_33 rfl (lv_at hl 0 rfl) ?_
    cases hf
    exact mret_i hx hb hr hlocks hP hD hS dX11_pardon_34 rfl trivial
  · refine lv_aload_n hx hb dX11_pardon_26 rfl (lv_at hl 1 rfl) ?_
    refine gfX11_69 hx hb hts hown hK hP 29 rfl rfl dX11_pardon_27 ?_
    obtain ⟨z_cnt_30, z_next_30, hg30, hf⟩ := ob2_some hf
    refine mcV_v (wr := [(qd0, .inr (2, [.int d_n, .ref qd1, .ref qd2])), (qd1, .inl (cI, 8, .inl d_for)), (qf0, .inr (1, [.ref qf1, .ref qf2, .ref qf3])), (qf1, .inl (cI, 76, .inl f_row_17)), (qf2, .inl (cI, 6, .inl f_fears)), (qz1, .inl (cI, 2356, .inl z_store_8)), (qr0, .inr (6, [.ref qd0, .ref qf0, .ref qz0, .ref qn0, .int r_tx, .int r_rul])), (qt0, .inr (9, [.int t_cl, .int t_ln, .int t_pt, .ref qt1, .ref qt2, .ref qt3, .ref qt4])), (qt1, .inl (cI, 301, .inl t_code)), (qt2, .inl (cI, 4, .inl t_st)), (qt3, .inl (cI, 4, .inl t_en)), (qu0, .inr (9, [.int u_cl, .int u_ln, .int u_pt, .ref qu1, .ref qu2, .ref qu3, .ref qu4])), (qu1, .inl (cI, 301, .inl u_code)), (qu2, .inl (cI, 4, .inl u_st)), (qu3, .inl (cI, 4, .inl u_en)), (qw0, .inr (9, [.int w_cl, .int w_ln, .int w_pt, .ref qw1, .ref qw2, .ref qw3, .ref qw4])), (qw1, .inl (cI, 301, .inl w_code)), (qw2, .inl (cI, 4, .inl w_st)), (qw3, .inl (cI, 4, .inl w_en)), (qx0, .inr (9, [.int x_cl, .int x_ln, .int x_pt, .ref qx1, .ref qx2, .ref qx3, .ref qx4])), (qx1, .inl (cI, 301, .inl x_code)), (qx2, .inl (cI, 4, .inl x_st)), (qx3, .inl (cI, 4, .inl x_en)), (qT, .inl (cT, 4, .inr (.inr (.inr (.inr (fT qt0 qu0 qw0 qx0)))))), (qL1, .inl (cI, 10, .inl l_names_17)), (qL2, .inl (cI, 64, .inl l_stack_17)), (qL0, .inr (3, [.ref qr0, .ref qT, .ref qL1, .ref qL2])), (qD0, .inr (0, [.ref qr0, .ref qf0, .ref qL0])), (qX0, .inr (11, [.ref qr0, .ref qk0, .ref qT, .ref qb0, .ref qe0, .ref qL0, .ref qf0, .ref qd0, .ref qn0, .ref qz0, .ref qD0, .ref qh0, .ref qD1, .ref qv0]))]) (As := []) (rest := []) hx hb hml hown hts hK hP hD hS hA (k_X7_keep l N D cI cJ cZ cB cT qz0 qz1 z_cnt z_next z_cnt_30 z_next_30 hg30) (kwX11_153 hts rfl rfl ⟨Nat.le_of_ble_eq_true rfl, Nat.le_of_ble_eq_true rfl⟩) [5] [0, 1, 2, 3, 4, 6, 7, 8, 9, 10, 11, 12, 13, 14, 15, 16, 17, 18, 19, 20, 21, 22, 23, 24, 25, 26, 27, 28, 29] rfl rfl rfl (by decide) rfl 0 rfl rfl rfl rfl hl.1 rfl (Nat.le_of_ble_eq_true rfl) dX11_pardon_30 ⟨Nat.zero_le _, Nat.zero_le _⟩ (fun H locs hP hD hS => ?_)
    have hP := mP_sub (wc := (W_X_0t1_3t5_7t8_16_34t37_39t42_44t47_49t52_54_61t64_76 qd0 qd1 qf0 qf1 qf2 qz0 qz1 qr0 qt0 qt1 qt2 qt3 qu0 qu1 qu2 qu3 qw0 qw1 qw2 qw3 qx0 qx1 qx2 qx3 qT qL1 qL2 qL0 qD0 qX0 qd2 qf3 qn0 qt4 qu4 qw4 qx4 qk0 qb0 qe0 qh0 qD1 qv0 cI cJ cZ cB cT d_n d_for f_row_17 f_fears z_cnt_30 z_next_30 z_store_8 r_tx r_rul t_cl t_ln t_pt t_code t_st t_en u_cl u_ln u_pt u_code u_st u_en w_cl w_ln w_pt w_code w_st w_en x_cl x_ln x_pt x_code x_st x_en l_names_17 l_stack_17)) hP [0, 1, 2, 3, 4, 29, 5, 6, 7, 8, 9, 10, 11, 12, 13, 14, 15, 16, 17, 18, 19, 20, 21, 22, 23, 24, 25, 26, 27, 28] rfl
    have hD := hD.sub (ws' := (W_X_0t1_3t5_7t8_16_34t37_39t42_44t47_49t52_54_61t64_76 qd0 qd1 qf0 qf1 qf2 qz0 qz1 qr0 qt0 qt1 qt2 qt3 qu0 qu1 qu2 qu3 qw0 qw1 qw2 qw3 qx0 qx1 qx2 qx3 qT qL1 qL2 qL0 qD0 qX0 qd2 qf3 qn0 qt4 qu4 qw4 qx4 qk0 qb0 qe0 qh0 qD1 qv0 cI cJ cZ cB cT d_n d_for f_row_17 f_fears z_cnt_30 z_next_30 z_store_8 r_tx r_rul t_cl t_ln t_pt t_code t_st t_en u_cl u_ln u_pt u_code u_st u_en w_cl w_ln w_pt w_code w_st w_en x_cl x_ln x_pt x_code x_st x_en l_names_17 l_stack_17)) [0, 1, 2, 3, 4, 29, 5, 6, 7, 8, 9, 10, 11, 12, 13, 14, 15, 16, 17, 18, 19, 20, 21, 22, 23, 24, 25, 26, 27, 28] rfl rfl
    refine lv_iload_n hx hb dX11_pardon_33 rfl (lv_at hl 0 rfl) ?_
    cases hf
    exact mret_i hx hb hr hlocks hP hD hS dX11_pardon_34 rfl trivial
theorem dX11_month_0 : decode cX11_month 0 = .ok (.iload_n 1, 1) := by decide +kernel
theorem dX11_month_1 : decode cX11_month 1 = .ok (.iconst 1, 1) := by decide +kernel
theorem dX11_month_2 : decode cX11_month 2 = .ok (.if_icmp .lt 24, 3) := by decide +kernel
theorem dX11_month_5 : decode cX11_month 5 = .ok (.iload_n 1, 1) := by decide +kernel
theorem dX11_month_6 : decode cX11_month 6 = .ok (.bipush 60, 2) := by decide +kernel
theorem dX11_month_8 : decode cX11_month 8 = .ok (.if_icmp .gt 18, 3) := by decide +kernel
theorem dX11_month_11 : decode cX11_month 11 = .ok (.aload_n 0, 1) := by decide +kernel
theorem dX11_month_12 : decode cX11_month 12 = .ok (.getfield 54, 3) := by decide +kernel
theorem dX11_month_15 : decode cX11_month 15 = .ok (.invokevirtual 168, 3) := by decide +kernel
theorem dX11_month_18 : decode cX11_month 18 = .ok (.iload_n 1, 1) := by decide +kernel
theorem dX11_month_19 : decode cX11_month 19 = .ok (.iadd, 1) := by decide +kernel
theorem dX11_month_20 : decode cX11_month 20 = .ok (.sipush 9999, 3) := by decide +kernel
theorem dX11_month_23 : decode cX11_month 23 = .ok (.if_icmp .le 5, 3) := by decide +kernel
theorem dX11_month_26 : decode cX11_month 26 = .ok (.iconst (-1), 1) := by decide +kernel
theorem dX11_month_27 : decode cX11_month 27 = .ok (.ireturn, 1) := by decide +kernel
theorem dX11_month_28 : decode cX11_month 28 = .ok (.iconst 0, 1) := by decide +kernel
theorem dX11_month_29 : decode cX11_month 29 = .ok (.istore_n 2, 1) := by decide +kernel
theorem dX11_month_30 : decode cX11_month 30 = .ok (.iconst 0, 1) := by decide +kernel
theorem dX11_month_31 : decode cX11_month 31 = .ok (.istore_n 3, 1) := by decide +kernel
theorem dX11_month_32 : decode cX11_month 32 = .ok (.iload_n 3, 1) := by decide +kernel
theorem dX11_month_33 : decode cX11_month 33 = .ok (.iload_n 1, 1) := by decide +kernel
theorem dX11_month_34 : decode cX11_month 34 = .ok (.if_icmp .ge 41, 3) := by decide +kernel
theorem dX11_month_37 : decode cX11_month 37 = .ok (.aload_n 0, 1) := by decide +kernel
theorem dX11_month_38 : decode cX11_month 38 = .ok (.getfield 69, 3) := by decide +kernel
theorem dX11_month_41 : decode cX11_month 41 = .ok (.aload_n 0, 1) := by decide +kernel
theorem dX11_month_42 : decode cX11_month 42 = .ok (.getfield 54, 3) := by decide +kernel
theorem dX11_month_45 : decode cX11_month 45 = .ok (.invokevirtual 143, 3) := by decide +kernel
theorem dX11_month_48 : decode cX11_month 48 = .ok (.iload_n 2, 1) := by decide +kernel
theorem dX11_month_49 : decode cX11_month 49 = .ok (.aload_n 0, 1) := by decide +kernel
theorem dX11_month_50 : decode cX11_month 50 = .ok (.getfield 75, 3) := by decide +kernel
theorem dX11_month_53 : decode cX11_month 53 = .ok (.invokevirtual 172, 3) := by decide +kernel
theorem dX11_month_56 : decode cX11_month 56 = .ok (.iconst 0, 1) := by decide +kernel
theorem dX11_month_57 : decode cX11_month 57 = .ok (.invokestatic 175, 3) := by decide +kernel
theorem dX11_month_60 : decode cX11_month 60 = .ok (.iadd, 1) := by decide +kernel
theorem dX11_month_61 : decode cX11_month 61 = .ok (.istore_n 2, 1) := by decide +kernel
theorem dX11_month_62 : decode cX11_month 62 = .ok (.aload_n 0, 1) := by decide +kernel
theorem dX11_month_63 : decode cX11_month 63 = .ok (.getfield 69, 3) := by decide +kernel
theorem dX11_month_66 : decode cX11_month 66 = .ok (.invokevirtual 153, 3) := by decide +kernel
theorem dX11_month_69 : decode cX11_month 69 = .ok (.iinc 3 1, 3) := by decide +kernel
theorem dX11_month_72 : decode cX11_month 72 = .ok (.goto (-40), 3) := by decide +kernel
theorem dX11_month_75 : decode cX11_month 75 = .ok (.iload_n 2, 1) := by decide +kernel
theorem dX11_month_76 : decode cX11_month 76 = .ok (.ireturn, 1) := by decide +kernel
def f_X11_month_32 (N : Nat) : Nat → Int32 → (Nat → Int32) → (Nat → Int32) → (Nat → Int32) → Int32 → Int32 → (Nat → Int32) → Int32 → Int32 → (Nat → Int32) → (Nat → Int32) → (Nat → Int32) → (Nat → Int32) → (Nat → Int32) → (Nat → Int32) → (Nat → Int32) → (Nat → Int32) → (Nat → Int32) → (Nat → Int32) → (Nat → Int32) → (Nat → Int32) → (Nat → Int32) → (Nat → Int32) → Int32 → Int32 → Int32 → Option (Int32 × (Nat → Int32) × Int32 × Int32 × (Nat → Int32) × (Nat → Int32) × (Nat → Int32))
  | 0, _, _, _, _, _, _, _, _, _, _, _, _, _, _, _, _, _, _, _, _, _, _, _, _, _, _ => none
  | n + 1, d_n, d_for, f_row, f_fears, z_cnt, z_next, z_store, r_tx, r_rul, t_code, t_st, t_en, u_code, u_st, u_en, w_code, w_st, w_en, x_code, x_st, x_en, l_names, l_stack, x1, x2, x3 => if x1 ≤ x3 then (some (x2, f_row, z_cnt, z_next, z_store, l_names, l_stack)) else (ob1 (f_X7_ahead N z_next z_store f_row) fun z_store_45 => ob4 (f_X0_passMonth N d_n d_for t_code t_st t_en u_code u_st u_en w_code w_st w_en x_code x_st x_en f_row f_fears r_tx r_rul l_names l_stack) fun r53 f_row_53 l_names_53 l_stack_53 => ob2 (f_X7_keep N z_cnt z_next) fun z_cnt_66 z_next_66 => (f_X11_month_32 N n) d_n d_for f_row_53 f_fears z_cnt_66 z_next_66 z_store_45 r_tx r_rul t_code t_st t_en u_code u_st u_en w_code w_st w_en x_code x_st x_en l_names_53 l_stack_53 x1 (x2 + (mxI r53 (0 : Int32))) (x3 + (1 : Int32)))
def f_X11_month (N : Nat) (d_n : Int32) (d_for : Nat → Int32) (f_row : Nat → Int32) (f_fears : Nat → Int32) (z_cnt : Int32) (z_next : Int32) (z_store : Nat → Int32) (r_tx : Int32) (r_rul : Int32) (t_code : Nat → Int32) (t_st : Nat → Int32) (t_en : Nat → Int32) (u_code : Nat → Int32) (u_st : Nat → Int32) (u_en : Nat → Int32) (w_code : Nat → Int32) (w_st : Nat → Int32) (w_en : Nat → Int32) (x_code : Nat → Int32) (x_st : Nat → Int32) (x_en : Nat → Int32) (l_names : Nat → Int32) (l_stack : Nat → Int32) (p1 : Int32) : Option (Int32 × (Nat → Int32) × Int32 × Int32 × (Nat → Int32) × (Nat → Int32) × (Nat → Int32)) := if p1 < (1 : Int32) then (some ((-1 : Int32), f_row, z_cnt, z_next, z_store, l_names, l_stack)) else (if (60 : Int32) < p1 then (some ((-1 : Int32), f_row, z_cnt, z_next, z_store, l_names, l_stack)) else (ob1 (f_X1_monthNow N f_row) fun r15 => if (r15 + p1) ≤ (9999 : Int32) then (f_X11_month_32 N N d_n d_for f_row f_fears z_cnt z_next z_store r_tx r_rul t_code t_st t_en u_code u_st u_en w_code w_st w_en x_code x_st x_en l_names l_stack p1 (0 : Int32) (0 : Int32)) else (some ((-1 : Int32), f_row, z_cnt, z_next, z_store, l_names, l_stack))))
set_option maxHeartbeats 4000000 in
set_option maxRecDepth 100000 in
theorem k_X11_month (l : Launch) (N : Nat) (D : va_G) (cI cJ cZ cB cT : ClassId) (qd0 : Nat) (qd1 : Nat) (qf0 : Nat) (qf1 : Nat) (qf2 : Nat) (qz0 : Nat) (qz1 : Nat) (qr0 : Nat) (qt0 : Nat) (qt1 : Nat) (qt2 : Nat) (qt3 : Nat) (qu0 : Nat) (qu1 : Nat) (qu2 : Nat) (qu3 : Nat) (qw0 : Nat) (qw1 : Nat) (qw2 : Nat) (qw3 : Nat) (qx0 : Nat) (qx1 : Nat) (qx2 : Nat) (qx3 : Nat) (qT : Nat) (qL1 : Nat) (qL2 : Nat) (qL0 : Nat) (qD0 : Nat) (qX0 : Nat) (qd2 : Nat) (qf3 : Nat) (qn0 : Nat) (qt4 : Nat) (qu4 : Nat) (qw4 : Nat) (qx4 : Nat) (qk0 : Nat) (qb0 : Nat) (qe0 : Nat) (qh0 : Nat) (qD1 : Nat) (qv0 : Nat) (d_n : Int32) (d_for : Nat → Int32) (f_row : Nat → Int32) (f_fears : Nat → Int32) (z_cnt : Int32) (z_next : Int32) (z_store : Nat → Int32) (r_tx : Int32) (r_rul : Int32) (t_cl : Int32) (t_ln : Int32) (t_pt : Int32) (t_code : Nat → Int32) (t_st : Nat → Int32) (t_en : Nat → Int32) (u_cl : Int32) (u_ln : Int32) (u_pt : Int32) (u_code : Nat → Int32) (u_st : Nat → Int32) (u_en : Nat → Int32) (w_cl : Int32) (w_ln : Int32) (w_pt : Int32) (w_code : Nat → Int32) (w_st : Nat → Int32) (w_en : Nat → Int32) (x_cl : Int32) (x_ln : Int32) (x_pt : Int32) (x_code : Nat → Int32) (x_st : Nat → Int32) (x_en : Nat → Int32) (l_names : Nat → Int32) (l_stack : Nat → Int32) (p1 : Int32) (o_r : Int32) (o_f_row : Nat → Int32) (o_z_cnt : Int32) (o_z_next : Int32) (o_z_store : Nat → Int32) (o_l_names : Nat → Int32) (o_l_stack : Nat → Int32) (hf : f_X11_month N d_n d_for f_row f_fears z_cnt z_next z_store r_tx r_rul t_code t_st t_en u_code u_st u_en w_code w_st w_en x_code x_st x_en l_names l_stack p1 = some (o_r, o_f_row, o_z_cnt, o_z_next, o_z_store, o_l_names, o_l_stack)) : ∀ sz, Met l yX11_month (mw yX11_month cX11_month 4 (some .int)) ({ frames := 5, cells := 0, slots := 0, locals := 147 } : Room) (mPreE D (mT cI cJ cZ cB cT) (W_X_0t1_3t5_7t8_16_34t37_39t42_44t47_49t52_54_61t64_76 qd0 qd1 qf0 qf1 qf2 qz0 qz1 qr0 qt0 qt1 qt2 qt3 qu0 qu1 qu2 qu3 qw0 qw1 qw2 qw3 qx0 qx1 qx2 qx3 qT qL1 qL2 qL0 qD0 qX0 qd2 qf3 qn0 qt4 qu4 qw4 qx4 qk0 qb0 qe0 qh0 qD1 qv0 cI cJ cZ cB cT d_n d_for f_row f_fears z_cnt z_next z_store r_tx r_rul t_cl t_ln t_pt t_code t_st t_en u_cl u_ln u_pt u_code u_st u_en w_cl w_ln w_pt w_code w_st w_en x_cl x_ln x_pt x_code x_st x_en l_names l_stack) sz [.ref qX0, .int p1]) ((mQi D (W_X_0t1_3t5_7t8_16_34t37_39t42_44t47_49t52_54_61t64_76 qd0 qd1 qf0 qf1 qf2 qz0 qz1 qr0 qt0 qt1 qt2 qt3 qu0 qu1 qu2 qu3 qw0 qw1 qw2 qw3 qx0 qx1 qx2 qx3 qT qL1 qL2 qL0 qD0 qX0 qd2 qf3 qn0 qt4 qu4 qw4 qx4 qk0 qb0 qe0 qh0 qD1 qv0 cI cJ cZ cB cT d_n d_for o_f_row f_fears o_z_cnt o_z_next o_z_store r_tx r_rul t_cl t_ln t_pt t_code t_st t_en u_cl u_ln u_pt u_code u_st u_en w_cl w_ln w_pt w_code w_st w_en x_cl x_ln x_pt x_code x_st x_en o_l_names o_l_stack) o_r True) (va_A (W_X_0t1_3t5_7t8_16_34t37_39t42_44t47_49t52_54_61t64_76 qd0 qd1 qf0 qf1 qf2 qz0 qz1 qr0 qt0 qt1 qt2 qt3 qu0 qu1 qu2 qu3 qw0 qw1 qw2 qw3 qx0 qx1 qx2 qx3 qT qL1 qL2 qL0 qD0 qX0 qd2 qf3 qn0 qt4 qu4 qw4 qx4 qk0 qb0 qe0 qh0 qD1 qv0 cI cJ cZ cB cT d_n d_for f_row f_fears z_cnt z_next z_store r_tx r_rul t_cl t_ln t_pt t_code t_st t_en u_cl u_ln u_pt u_code u_st u_en w_cl w_ln w_pt w_code w_st w_en x_cl x_ln x_pt x_code x_st x_en l_names l_stack) sz)) 0 0 (va_A (W_X_0t1_3t5_7t8_16_34t37_39t42_44t47_49t52_54_61t64_76 qd0 qd1 qf0 qf1 qf2 qz0 qz1 qr0 qt0 qt1 qt2 qt3 qu0 qu1 qu2 qu3 qw0 qw1 qw2 qw3 qx0 qx1 qx2 qx3 qT qL1 qL2 qL0 qD0 qX0 qd2 qf3 qn0 qt4 qu4 qw4 qx4 qk0 qb0 qe0 qh0 qD1 qv0 cI cJ cZ cB cT d_n d_for f_row f_fears z_cnt z_next z_store r_tx r_rul t_cl t_ln t_pt t_code t_st t_en u_cl u_ln u_pt u_code u_st u_en w_cl w_ln w_pt w_code w_st w_en x_cl x_ln x_pt x_code x_st x_en l_names l_stack) sz) := by
  refine mMetE (Qc := (mQi D (W_X_0t1_3t5_7t8_16_34t37_39t42_44t47_49t52_54_61t64_76 qd0 qd1 qf0 qf1 qf2 qz0 qz1 qr0 qt0 qt1 qt2 qt3 qu0 qu1 qu2 qu3 qw0 qw1 qw2 qw3 qx0 qx1 qx2 qx3 qT qL1 qL2 qL0 qD0 qX0 qd2 qf3 qn0 qt4 qu4 qw4 qx4 qk0 qb0 qe0 qh0 qD1 qv0 cI cJ cZ cB cT d_n d_for o_f_row f_fears o_z_cnt o_z_next o_z_store r_tx r_rul t_cl t_ln t_pt t_code t_st t_en u_cl u_ln u_pt u_code u_st u_en w_cl w_ln w_pt w_code w_st w_en x_cl x_ln x_pt x_code x_st x_en o_l_names o_l_stack) o_r True)) (by decide) (Nat.le_of_ble_eq_true rfl) (fun p e s m below meth c A ls hx hb hr hml hts hown hlocks hK hA hP hD hl hE => ?_)
  have hown : s.vm.findClass RX11 = some m.cls := hown
  have hl : lv_has ls 4 [(0, .ref qX0), (1, .int p1)] := hl
  have hS : va_S A s.heap s.heap [] := va_S.rf
  obtain ⟨⟨tM, hZM, hTM⟩, ⟨tL, hZL, hTL⟩, ⟨hNX4, hNX10⟩, tS, tV, hRS, hZC, hZF, hKS⟩ := id hE
  have b32 : ∀ n32 : Nat, ∀ (f_row : Nat → Int32) (z_cnt : Int32) (z_next : Int32) (z_store : Nat → Int32) (l_names : Nat → Int32) (l_stack : Nat → Int32) (x1 : Int32) (x2 : Int32) (x3 : Int32) (H : Heap) (locs : List Loc) (ls : Array Slot), f_X11_month_32 N n32 d_n d_for f_row f_fears z_cnt z_next z_store r_tx r_rul t_code t_st t_en u_code u_st u_en w_code w_st w_en x_code x_st x_en l_names l_stack x1 x2 x3 = some (o_r, o_f_row, o_z_cnt, o_z_next, o_z_store, o_l_names, o_l_stack) → va_P D vwCl (W_X_0t1_3t5_7t8_16_34t37_39t42_44t47_49t52_54_61t64_76 qd0 qd1 qf0 qf1 qf2 qz0 qz1 qr0 qt0 qt1 qt2 qt3 qu0 qu1 qu2 qu3 qw0 qw1 qw2 qw3 qx0 qx1 qx2 qx3 qT qL1 qL2 qL0 qD0 qX0 qd2 qf3 qn0 qt4 qu4 qw4 qx4 qk0 qb0 qe0 qh0 qD1 qv0 cI cJ cZ cB cT d_n d_for f_row f_fears z_cnt z_next z_store r_tx r_rul t_cl t_ln t_pt t_code t_st t_en u_cl u_ln u_pt u_code u_st u_en w_cl w_ln w_pt w_code w_st w_en x_cl x_ln x_pt x_code x_st x_en l_names l_stack) H → va_D A (W_X_0t1_3t5_7t8_16_34t37_39t42_44t47_49t52_54_61t64_76 qd0 qd1 qf0 qf1 qf2 qz0 qz1 qr0 qt0 qt1 qt2 qt3 qu0 qu1 qu2 qu3 qw0 qw1 qw2 qw3 qx0 qx1 qx2 qx3 qT qL1 qL2 qL0 qD0 qX0 qd2 qf3 qn0 qt4 qu4 qw4 qx4 qk0 qb0 qe0 qh0 qD1 qv0 cI cJ cZ cB cT d_n d_for f_row f_fears z_cnt z_next z_store r_tx r_rul t_cl t_ln t_pt t_code t_st t_en u_cl u_ln u_pt u_code u_st u_en w_cl w_ln w_pt w_code w_st w_en x_cl x_ln x_pt x_code x_st x_en l_names l_stack) → va_S A s.heap H locs → lv_has ls 4 [(0, .ref qX0), (1, .int x1), (2, .int x2), (3, .int x3)] → W p l e ({ frames := 5, cells := 0, slots := 0, locals := 147 } : Room) s m ([.ref qX0, .int p1] : List Value).toArray below meth c H locs 0 0 (MQ below ((mQi D (W_X_0t1_3t5_7t8_16_34t37_39t42_44t47_49t52_54_61t64_76 qd0 qd1 qf0 qf1 qf2 qz0 qz1 qr0 qt0 qt1 qt2 qt3 qu0 qu1 qu2 qu3 qw0 qw1 qw2 qw3 qx0 qx1 qx2 qx3 qT qL1 qL2 qL0 qD0 qX0 qd2 qf3 qn0 qt4 qu4 qw4 qx4 qk0 qb0 qe0 qh0 qD1 qv0 cI cJ cZ cB cT d_n d_for o_f_row f_fears o_z_cnt o_z_next o_z_store r_tx r_rul t_cl t_ln t_pt t_code t_st t_en u_cl u_ln u_pt u_code u_st u_en w_cl w_ln w_pt w_code w_st w_en x_cl x_ln x_pt x_code x_st x_en o_l_names o_l_stack) o_r True) A) ([.ref qX0, .int p1] : List Value).toArray s 0 0 A) (F0 m 32 ls []) := by
    intro n32
    induction n32 with
    | zero =>
      intro f_row z_cnt z_next z_store l_names l_stack x1 x2 x3 H locs ls hf hP hD hS hl
      simp [f_X11_month_32] at hf
    | succ n32 ih32 =>
      intro f_row z_cnt z_next z_store l_names l_stack x1 x2 x3 H locs ls hf hP hD hS hl
      rw [f_X11_month_32.eq_2] at hf
      refine lv_iload_n hx hb dX11_month_32 rfl (lv_at hl 3 rfl) ?_
      refine lv_iload_n hx hb dX11_month_33 rfl (lv_at hl 1 rfl) ?_
      refine xicmp_ge hx hb 75 dX11_month_34 (by decide) hf (fun hf => ?_) (fun hf => ?_)
      · refine lv_iload_n hx hb dX11_month_75 rfl (lv_at hl 2 rfl) ?_
        cases hf
        exact mret_i hx hb hr hlocks hP hD hS dX11_month_76 rfl trivial
      · refine lv_aload_n hx hb dX11_month_37 rfl (lv_at hl 0 rfl) ?_
        refine gfX11_69 hx hb hts hown hK hP 29 rfl rfl dX11_month_38 ?_
        refine lv_aload_n hx hb dX11_month_41 rfl (lv_at hl 0 rfl) ?_
        refine gfX11_54 hx hb hts hown hK hP 29 rfl rfl dX11_month_42 ?_
        obtain ⟨z_store_45, hg45, hf⟩ := ob1_some hf
        refine mcV_v (wr := [(qd0, .inr (2, [.int d_n, .ref qd1, .ref qd2])), (qd1, .inl (cI, 8, .inl d_for)), (qf2, .inl (cI, 6, .inl f_fears)), (qr0, .inr (6, [.ref qd0, .ref qf0, .ref qz0, .ref qn0, .int r_tx, .int r_rul])), (qt0, .inr (9, [.int t_cl, .int t_ln, .int t_pt, .ref qt1, .ref qt2, .ref qt3, .ref qt4])), (qt1, .inl (cI, 301, .inl t_code)), (qt2, .inl (cI, 4, .inl t_st)), (qt3, .inl (cI, 4, .inl t_en)), (qu0, .inr (9, [.int u_cl, .int u_ln, .int u_pt, .ref qu1, .ref qu2, .ref qu3, .ref qu4])), (qu1, .inl (cI, 301, .inl u_code)), (qu2, .inl (cI, 4, .inl u_st)), (qu3, .inl (cI, 4, .inl u_en)), (qw0, .inr (9, [.int w_cl, .int w_ln, .int w_pt, .ref qw1, .ref qw2, .ref qw3, .ref qw4])), (qw1, .inl (cI, 301, .inl w_code)), (qw2, .inl (cI, 4, .inl w_st)), (qw3, .inl (cI, 4, .inl w_en)), (qx0, .inr (9, [.int x_cl, .int x_ln, .int x_pt, .ref qx1, .ref qx2, .ref qx3, .ref qx4])), (qx1, .inl (cI, 301, .inl x_code)), (qx2, .inl (cI, 4, .inl x_st)), (qx3, .inl (cI, 4, .inl x_en)), (qT, .inl (cT, 4, .inr (.inr (.inr (.inr (fT qt0 qu0 qw0 qx0)))))), (qL1, .inl (cI, 10, .inl l_names)), (qL2, .inl (cI, 64, .inl l_stack)), (qL0, .inr (3, [.ref qr0, .ref qT, .ref qL1, .ref qL2])), (qD0, .inr (0, [.ref qr0, .ref qf0, .ref qL0])), (qX0, .inr (11, [.ref qr0, .ref qk0, .ref qT, .ref qb0, .ref qe0, .ref qL0, .ref qf0, .ref qd0, .ref qn0, .ref qz0, .ref qD0, .ref qh0, .ref qD1, .ref qv0]))]) (As := [.ref qf0]) (rest := []) hx hb hml hown hts hK hP hD hS hA (k_X7_ahead l N D cI cJ cZ cB cT qz0 qz1 qf0 qf1 qf2 qf3 z_cnt z_next z_store f_row z_store_45 hg45) (kwX11_143 hts rfl rfl ⟨Nat.le_of_ble_eq_true rfl, Nat.le_of_ble_eq_true rfl⟩) [5, 6, 2, 3] [0, 1, 4, 7, 8, 9, 10, 11, 12, 13, 14, 15, 16, 17, 18, 19, 20, 21, 22, 23, 24, 25, 26, 27, 28, 29] rfl rfl rfl (by decide) rfl 0 rfl rfl rfl rfl hl.1 rfl (Nat.le_of_ble_eq_true rfl) dX11_month_45 ⟨Nat.zero_le _, Nat.zero_le _⟩ (fun H locs hP hD hS => ?_)
        have hP := mP_sub (wc := (W_X_0t1_3t5_7t8_16_34t37_39t42_44t47_49t52_54_61t64_76 qd0 qd1 qf0 qf1 qf2 qz0 qz1 qr0 qt0 qt1 qt2 qt3 qu0 qu1 qu2 qu3 qw0 qw1 qw2 qw3 qx0 qx1 qx2 qx3 qT qL1 qL2 qL0 qD0 qX0 qd2 qf3 qn0 qt4 qu4 qw4 qx4 qk0 qb0 qe0 qh0 qD1 qv0 cI cJ cZ cB cT d_n d_for f_row f_fears z_cnt z_next z_store_45 r_tx r_rul t_cl t_ln t_pt t_code t_st t_en u_cl u_ln u_pt u_code u_st u_en w_cl w_ln w_pt w_code w_st w_en x_cl x_ln x_pt x_code x_st x_en l_names l_stack)) hP [0, 1, 28, 29, 2, 26, 27, 3, 4, 5, 6, 7, 8, 9, 10, 11, 12, 13, 14, 15, 16, 17, 18, 19, 20, 21, 22, 23, 24, 25] rfl
        have hD := hD.sub (ws' := (W_X_0t1_3t5_7t8_16_34t37_39t42_44t47_49t52_54_61t64_76 qd0 qd1 qf0 qf1 qf2 qz0 qz1 qr0 qt0 qt1 qt2 qt3 qu0 qu1 qu2 qu3 qw0 qw1 qw2 qw3 qx0 qx1 qx2 qx3 qT qL1 qL2 qL0 qD0 qX0 qd2 qf3 qn0 qt4 qu4 qw4 qx4 qk0 qb0 qe0 qh0 qD1 qv0 cI cJ cZ cB cT d_n d_for f_row f_fears z_cnt z_next z_store_45 r_tx r_rul t_cl t_ln t_pt t_code t_st t_en u_cl u_ln u_pt u_code u_st u_en w_cl w_ln w_pt w_code w_st w_en x_cl x_ln x_pt x_code x_st x_en l_names l_stack)) [0, 1, 28, 29, 2, 26, 27, 3, 4, 5, 6, 7, 8, 9, 10, 11, 12, 13, 14, 15, 16, 17, 18, 19, 20, 21, 22, 23, 24, 25] rfl rfl
        refine lv_iload_n hx hb dX11_month_48 rfl (lv_at hl 2 rfl) ?_
        refine lv_aload_n hx hb dX11_month_49 rfl (lv_at hl 0 rfl) ?_
        refine gfX11_75 hx hb hts hown hK hP 29 rfl rfl dX11_month_50 ?_
        obtain ⟨r53, f_row_53, l_names_53, l_stack_53, hg53, hf⟩ := ob4_some hf
        refine mcVE_i (wr := [(qz0, .inr (7, [.int z_cnt, .int z_next, .ref qz1])), (qz1, .inl (cI, 2356, .inl z_store_45)), (qX0, .inr (11, [.ref qr0, .ref qk0, .ref qT, .ref qb0, .ref qe0, .ref qL0, .ref qf0, .ref qd0, .ref qn0, .ref qz0, .ref qD0, .ref qh0, .ref qD1, .ref qv0]))]) (As := []) (rest := [.int x2]) hx hb hml hown hts hK hP hD hS hA hE (k_X0_passMonth l N D cI cJ cZ cB cT qd0 qd1 qt0 qt1 qt2 qt3 qu0 qu1 qu2 qu3 qw0 qw1 qw2 qw3 qx0 qx1 qx2 qx3 qT qf0 qf1 qf2 qr0 qL1 qL2 qL0 qD0 qd2 qt4 qu4 qw4 qx4 qf3 qf0 qz0 qn0 d_n d_for t_cl t_ln t_pt t_code t_st t_en u_cl u_ln u_pt u_code u_st u_en w_cl w_ln w_pt w_code w_st w_en x_cl x_ln x_pt x_code x_st x_en f_row f_fears r_tx r_rul l_names l_stack r53 f_row_53 l_names_53 l_stack_53 hg53) (kwX11_172 hts rfl rfl ⟨Nat.le_of_ble_eq_true rfl, Nat.le_of_ble_eq_true rfl⟩) [0, 1, 8, 9, 10, 11, 12, 13, 14, 15, 16, 17, 18, 19, 20, 21, 22, 23, 24, 2, 3, 4, 7, 25, 26, 27, 28] [5, 6, 29] rfl rfl rfl (by decide) rfl 26 rfl rfl rfl rfl hl.1 rfl (Nat.le_of_ble_eq_true rfl) dX11_month_53 ⟨Nat.zero_le _, Nat.zero_le _⟩ (fun hB53 H locs hP hD hS => ?_)
        have hP := mP_sub (wc := (W_X_0t1_3t5_7t8_16_34t37_39t42_44t47_49t52_54_61t64_76 qd0 qd1 qf0 qf1 qf2 qz0 qz1 qr0 qt0 qt1 qt2 qt3 qu0 qu1 qu2 qu3 qw0 qw1 qw2 qw3 qx0 qx1 qx2 qx3 qT qL1 qL2 qL0 qD0 qX0 qd2 qf3 qn0 qt4 qu4 qw4 qx4 qk0 qb0 qe0 qh0 qD1 qv0 cI cJ cZ cB cT d_n d_for f_row_53 f_fears z_cnt z_next z_store_45 r_tx r_rul t_cl t_ln t_pt t_code t_st t_en u_cl u_ln u_pt u_code u_st u_en w_cl w_ln w_pt w_code w_st w_en x_cl x_ln x_pt x_code x_st x_en l_names_53 l_stack_53)) hP [3, 4, 22, 23, 24, 0, 1, 25, 5, 6, 7, 8, 9, 10, 11, 12, 13, 14, 15, 16, 17, 18, 19, 20, 21, 26, 27, 28, 29, 2] rfl
        have hD := hD.sub (ws' := (W_X_0t1_3t5_7t8_16_34t37_39t42_44t47_49t52_54_61t64_76 qd0 qd1 qf0 qf1 qf2 qz0 qz1 qr0 qt0 qt1 qt2 qt3 qu0 qu1 qu2 qu3 qw0 qw1 qw2 qw3 qx0 qx1 qx2 qx3 qT qL1 qL2 qL0 qD0 qX0 qd2 qf3 qn0 qt4 qu4 qw4 qx4 qk0 qb0 qe0 qh0 qD1 qv0 cI cJ cZ cB cT d_n d_for f_row_53 f_fears z_cnt z_next z_store_45 r_tx r_rul t_cl t_ln t_pt t_code t_st t_en u_cl u_ln u_pt u_code u_st u_en w_cl w_ln w_pt w_code w_st w_en x_cl x_ln x_pt x_code x_st x_en l_names_53 l_stack_53)) [3, 4, 22, 23, 24, 0, 1, 25, 5, 6, 7, 8, 9, 10, 11, 12, 13, 14, 15, 16, 17, 18, 19, 20, 21, 26, 27, 28, 29, 2] rfl rfl
        refine lv_iconst (v := (0 : Int32)) hx hb dX11_month_56 (by decide) ?_
        refine xmax hx hb hml hl.1 hown hts mtX11_175 (Nat.le_of_ble_eq_true rfl) (Nat.le_of_ble_eq_true rfl) ⟨Nat.zero_le _, Nat.zero_le _⟩ dX11_month_57 ?_
        refine lv_iadd hx hb dX11_month_60 ?_
        refine lv_istore_n (lv' := [(2, .int (x2 + (mxI r53 (0 : Int32)))), (0, .ref qX0), (1, .int x1), (3, .int x3)]) hx hb dX11_month_61 rfl hl (by decide) rfl (fun ls hl => ?_)
        refine lv_aload_n hx hb dX11_month_62 rfl (lv_at hl 1 rfl) ?_
        refine gfX11_69 hx hb hts hown hK hP 29 rfl rfl dX11_month_63 ?_
        obtain ⟨z_cnt_66, z_next_66, hg66, hf⟩ := ob2_some hf
        refine mcV_v (wr := [(qd0, .inr (2, [.int d_n, .ref qd1, .ref qd2])), (qd1, .inl (cI, 8, .inl d_for)), (qf0, .inr (1, [.ref qf1, .ref qf2, .ref qf3])), (qf1, .inl (cI, 76, .inl f_row_53)), (qf2, .inl (cI, 6, .inl f_fears)), (qz1, .inl (cI, 2356, .inl z_store_45)), (qr0, .inr (6, [.ref qd0, .ref qf0, .ref qz0, .ref qn0, .int r_tx, .int r_rul])), (qt0, .inr (9, [.int t_cl, .int t_ln, .int t_pt, .ref qt1, .ref qt2, .ref qt3, .ref qt4])), (qt1, .inl (cI, 301, .inl t_code)), (qt2, .inl (cI, 4, .inl t_st)), (qt3, .inl (cI, 4, .inl t_en)), (qu0, .inr (9, [.int u_cl, .int u_ln, .int u_pt, .ref qu1, .ref qu2, .ref qu3, .ref qu4])), (qu1, .inl (cI, 301, .inl u_code)), (qu2, .inl (cI, 4, .inl u_st)), (qu3, .inl (cI, 4, .inl u_en)), (qw0, .inr (9, [.int w_cl, .int w_ln, .int w_pt, .ref qw1, .ref qw2, .ref qw3, .ref qw4])), (qw1, .inl (cI, 301, .inl w_code)), (qw2, .inl (cI, 4, .inl w_st)), (qw3, .inl (cI, 4, .inl w_en)), (qx0, .inr (9, [.int x_cl, .int x_ln, .int x_pt, .ref qx1, .ref qx2, .ref qx3, .ref qx4])), (qx1, .inl (cI, 301, .inl x_code)), (qx2, .inl (cI, 4, .inl x_st)), (qx3, .inl (cI, 4, .inl x_en)), (qT, .inl (cT, 4, .inr (.inr (.inr (.inr (fT qt0 qu0 qw0 qx0)))))), (qL1, .inl (cI, 10, .inl l_names_53)), (qL2, .inl (cI, 64, .inl l_stack_53)), (qL0, .inr (3, [.ref qr0, .ref qT, .ref qL1, .ref qL2])), (qD0, .inr (0, [.ref qr0, .ref qf0, .ref qL0])), (qX0, .inr (11, [.ref qr0, .ref qk0, .ref qT, .ref qb0, .ref qe0, .ref qL0, .ref qf0, .ref qd0, .ref qn0, .ref qz0, .ref qD0, .ref qh0, .ref qD1, .ref qv0]))]) (As := []) (rest := []) hx hb hml hown hts hK hP hD hS hA (k_X7_keep l N D cI cJ cZ cB cT qz0 qz1 z_cnt z_next z_cnt_66 z_next_66 hg66) (kwX11_153 hts rfl rfl ⟨Nat.le_of_ble_eq_true rfl, Nat.le_of_ble_eq_true rfl⟩) [5] [0, 1, 2, 3, 4, 6, 7, 8, 9, 10, 11, 12, 13, 14, 15, 16, 17, 18, 19, 20, 21, 22, 23, 24, 25, 26, 27, 28, 29] rfl rfl rfl (by decide) rfl 0 rfl rfl rfl rfl hl.1 rfl (Nat.le_of_ble_eq_true rfl) dX11_month_66 ⟨Nat.zero_le _, Nat.zero_le _⟩ (fun H locs hP hD hS => ?_)
        have hP := mP_sub (wc := (W_X_0t1_3t5_7t8_16_34t37_39t42_44t47_49t52_54_61t64_76 qd0 qd1 qf0 qf1 qf2 qz0 qz1 qr0 qt0 qt1 qt2 qt3 qu0 qu1 qu2 qu3 qw0 qw1 qw2 qw3 qx0 qx1 qx2 qx3 qT qL1 qL2 qL0 qD0 qX0 qd2 qf3 qn0 qt4 qu4 qw4 qx4 qk0 qb0 qe0 qh0 qD1 qv0 cI cJ cZ cB cT d_n d_for f_row_53 f_fears z_cnt_66 z_next_66 z_store_45 r_tx r_rul t_cl t_ln t_pt t_code t_st t_en u_cl u_ln u_pt u_code u_st u_en w_cl w_ln w_pt w_code w_st w_en x_cl x_ln x_pt x_code x_st x_en l_names_53 l_stack_53)) hP [0, 1, 2, 3, 4, 29, 5, 6, 7, 8, 9, 10, 11, 12, 13, 14, 15, 16, 17, 18, 19, 20, 21, 22, 23, 24, 25, 26, 27, 28] rfl
        have hD := hD.sub (ws' := (W_X_0t1_3t5_7t8_16_34t37_39t42_44t47_49t52_54_61t64_76 qd0 qd1 qf0 qf1 qf2 qz0 qz1 qr0 qt0 qt1 qt2 qt3 qu0 qu1 qu2 qu3 qw0 qw1 qw2 qw3 qx0 qx1 qx2 qx3 qT qL1 qL2 qL0 qD0 qX0 qd2 qf3 qn0 qt4 qu4 qw4 qx4 qk0 qb0 qe0 qh0 qD1 qv0 cI cJ cZ cB cT d_n d_for f_row_53 f_fears z_cnt_66 z_next_66 z_store_45 r_tx r_rul t_cl t_ln t_pt t_code t_st t_en u_cl u_ln u_pt u_code u_st u_en w_cl w_ln w_pt w_code w_st w_en x_cl x_ln x_pt x_code x_st x_en l_names_53 l_stack_53)) [0, 1, 2, 3, 4, 29, 5, 6, 7, 8, 9, 10, 11, 12, 13, 14, 15, 16, 17, 18, 19, 20, 21, 22, 23, 24, 25, 26, 27, 28] rfl rfl
        refine lv_iinc (v := (x3 + (1 : Int32))) (lv' := [(3, .int (x3 + (1 : Int32))), (2, .int (x2 + (mxI r53 (0 : Int32)))), (0, .ref qX0), (1, .int x1)]) hx hb dX11_month_69 hl (k := 3) rfl rfl (by decide) rfl (fun ls hl => ?_)
        refine lv_goto (tgt := 32) hx hb dX11_month_72 (by decide) ?_
        exact ih32 f_row_53 z_cnt_66 z_next_66 z_store_45 l_names_53 l_stack_53 x1 (x2 + (mxI r53 (0 : Int32))) (x3 + (1 : Int32)) _ _ _ hf hP hD hS (lv_sub hl [2, 3, 1, 0] rfl)
  unfold f_X11_month at hf
  refine lv_iload_n hx hb dX11_month_0 rfl (lv_at hl 1 rfl) ?_
  refine lv_iconst (v := (1 : Int32)) hx hb dX11_month_1 (by decide) ?_
  refine xicmp_lt hx hb 26 dX11_month_2 (by decide) hf (fun hf => ?_) (fun hf => ?_)
  · refine lv_iconst (v := (-1 : Int32)) hx hb dX11_month_26 (by decide) ?_
    cases hf
    exact mret_i hx hb hr hlocks hP hD hS dX11_month_27 rfl trivial
  · refine lv_iload_n hx hb dX11_month_5 rfl (lv_at hl 1 rfl) ?_
    refine lv_bipush (v := (60 : Int32)) hx hb dX11_month_6 (by decide) ?_
    refine xicmp_gt hx hb 26 dX11_month_8 (by decide) hf (fun hf => ?_) (fun hf => ?_)
    · refine lv_iconst (v := (-1 : Int32)) hx hb dX11_month_26 (by decide) ?_
      cases hf
      exact mret_i hx hb hr hlocks hP hD hS dX11_month_27 rfl trivial
    · refine lv_aload_n hx hb dX11_month_11 rfl (lv_at hl 0 rfl) ?_
      refine gfX11_54 hx hb hts hown hK hP 29 rfl rfl dX11_month_12 ?_
      obtain ⟨r15, hg15, hf⟩ := ob1_some hf
      refine mcV_i (wr := [(qd0, .inr (2, [.int d_n, .ref qd1, .ref qd2])), (qd1, .inl (cI, 8, .inl d_for)), (qf2, .inl (cI, 6, .inl f_fears)), (qz0, .inr (7, [.int z_cnt, .int z_next, .ref qz1])), (qz1, .inl (cI, 2356, .inl z_store)), (qr0, .inr (6, [.ref qd0, .ref qf0, .ref qz0, .ref qn0, .int r_tx, .int r_rul])), (qt0, .inr (9, [.int t_cl, .int t_ln, .int t_pt, .ref qt1, .ref qt2, .ref qt3, .ref qt4])), (qt1, .inl (cI, 301, .inl t_code)), (qt2, .inl (cI, 4, .inl t_st)), (qt3, .inl (cI, 4, .inl t_en)), (qu0, .inr (9, [.int u_cl, .int u_ln, .int u_pt, .ref qu1, .ref qu2, .ref qu3, .ref qu4])), (qu1, .inl (cI, 301, .inl u_code)), (qu2, .inl (cI, 4, .inl u_st)), (qu3, .inl (cI, 4, .inl u_en)), (qw0, .inr (9, [.int w_cl, .int w_ln, .int w_pt, .ref qw1, .ref qw2, .ref qw3, .ref qw4])), (qw1, .inl (cI, 301, .inl w_code)), (qw2, .inl (cI, 4, .inl w_st)), (qw3, .inl (cI, 4, .inl w_en)), (qx0, .inr (9, [.int x_cl, .int x_ln, .int x_pt, .ref qx1, .ref qx2, .ref qx3, .ref qx4])), (qx1, .inl (cI, 301, .inl x_code)), (qx2, .inl (cI, 4, .inl x_st)), (qx3, .inl (cI, 4, .inl x_en)), (qT, .inl (cT, 4, .inr (.inr (.inr (.inr (fT qt0 qu0 qw0 qx0)))))), (qL1, .inl (cI, 10, .inl l_names)), (qL2, .inl (cI, 64, .inl l_stack)), (qL0, .inr (3, [.ref qr0, .ref qT, .ref qL1, .ref qL2])), (qD0, .inr (0, [.ref qr0, .ref qf0, .ref qL0])), (qX0, .inr (11, [.ref qr0, .ref qk0, .ref qT, .ref qb0, .ref qe0, .ref qL0, .ref qf0, .ref qd0, .ref qn0, .ref qz0, .ref qD0, .ref qh0, .ref qD1, .ref qv0]))]) (As := []) (rest := []) hx hb hml hown hts hK hP hD hS hA (k_X1_monthNow l N D cI cJ cZ cB cT qf0 qf1 qf2 qf3 f_row r15 hg15) (kwX11_168 hts rfl rfl ⟨Nat.le_of_ble_eq_true rfl, Nat.le_of_ble_eq_true rfl⟩) [2, 3] [0, 1, 4, 5, 6, 7, 8, 9, 10, 11, 12, 13, 14, 15, 16, 17, 18, 19, 20, 21, 22, 23, 24, 25, 26, 27, 28, 29] rfl rfl rfl (by decide) rfl 0 rfl rfl rfl rfl hl.1 rfl (Nat.le_of_ble_eq_true rfl) dX11_month_15 ⟨Nat.zero_le _, Nat.zero_le _⟩ (fun hB15 H locs hP hD hS => ?_)
      have hP := mP_sub (wc := (W_X_0t1_3t5_7t8_16_34t37_39t42_44t47_49t52_54_61t64_76 qd0 qd1 qf0 qf1 qf2 qz0 qz1 qr0 qt0 qt1 qt2 qt3 qu0 qu1 qu2 qu3 qw0 qw1 qw2 qw3 qx0 qx1 qx2 qx3 qT qL1 qL2 qL0 qD0 qX0 qd2 qf3 qn0 qt4 qu4 qw4 qx4 qk0 qb0 qe0 qh0 qD1 qv0 cI cJ cZ cB cT d_n d_for f_row f_fears z_cnt z_next z_store r_tx r_rul t_cl t_ln t_pt t_code t_st t_en u_cl u_ln u_pt u_code u_st u_en w_cl w_ln w_pt w_code w_st w_en x_cl x_ln x_pt x_code x_st x_en l_names l_stack)) hP [0, 1, 28, 29, 2, 3, 4, 5, 6, 7, 8, 9, 10, 11, 12, 13, 14, 15, 16, 17, 18, 19, 20, 21, 22, 23, 24, 25, 26, 27] rfl
      have hD := hD.sub (ws' := (W_X_0t1_3t5_7t8_16_34t37_39t42_44t47_49t52_54_61t64_76 qd0 qd1 qf0 qf1 qf2 qz0 qz1 qr0 qt0 qt1 qt2 qt3 qu0 qu1 qu2 qu3 qw0 qw1 qw2 qw3 qx0 qx1 qx2 qx3 qT qL1 qL2 qL0 qD0 qX0 qd2 qf3 qn0 qt4 qu4 qw4 qx4 qk0 qb0 qe0 qh0 qD1 qv0 cI cJ cZ cB cT d_n d_for f_row f_fears z_cnt z_next z_store r_tx r_rul t_cl t_ln t_pt t_code t_st t_en u_cl u_ln u_pt u_code u_st u_en w_cl w_ln w_pt w_code w_st w_en x_cl x_ln x_pt x_code x_st x_en l_names l_stack)) [0, 1, 28, 29, 2, 3, 4, 5, 6, 7, 8, 9, 10, 11, 12, 13, 14, 15, 16, 17, 18, 19, 20, 21, 22, 23, 24, 25, 26, 27] rfl rfl
      refine lv_iload_n hx hb dX11_month_18 rfl (lv_at hl 1 rfl) ?_
      refine lv_iadd hx hb dX11_month_19 ?_
      refine lv_sipush (v := (9999 : Int32)) hx hb dX11_month_20 (by decide) ?_
      refine xicmp_le hx hb 28 dX11_month_23 (by decide) hf (fun hf => ?_) (fun hf => ?_)
      · refine lv_iconst (v := (0 : Int32)) hx hb dX11_month_28 (by decide) ?_
        refine lv_istore_n (lv' := [(2, .int (0 : Int32)), (0, .ref qX0), (1, .int p1)]) hx hb dX11_month_29 rfl hl (by decide) rfl (fun ls hl => ?_)
        refine lv_iconst (v := (0 : Int32)) hx hb dX11_month_30 (by decide) ?_
        refine lv_istore_n (lv' := [(3, .int (0 : Int32)), (2, .int (0 : Int32)), (0, .ref qX0), (1, .int p1)]) hx hb dX11_month_31 rfl hl (by decide) rfl (fun ls hl => ?_)
        exact b32 N f_row z_cnt z_next z_store l_names l_stack p1 (0 : Int32) (0 : Int32) _ _ _ hf hP hD hS (lv_sub hl [2, 3, 1, 0] rfl)
      · refine lv_iconst (v := (-1 : Int32)) hx hb dX11_month_26 (by decide) ?_
        cases hf
        exact mret_i hx hb hr hlocks hP hD hS dX11_month_27 rfl trivial
theorem dX11_passAll_0 : decode cX11_passAll 0 = .ok (.iconst 0, 1) := by decide +kernel
theorem dX11_passAll_1 : decode cX11_passAll 1 = .ok (.istore_n 2, 1) := by decide +kernel
theorem dX11_passAll_2 : decode cX11_passAll 2 = .ok (.iload_n 2, 1) := by decide +kernel
theorem dX11_passAll_3 : decode cX11_passAll 3 = .ok (.iload_n 1, 1) := by decide +kernel
theorem dX11_passAll_4 : decode cX11_passAll 4 = .ok (.if_icmp .ge 40, 3) := by decide +kernel
theorem dX11_passAll_7 : decode cX11_passAll 7 = .ok (.aload_n 0, 1) := by decide +kernel
theorem dX11_passAll_8 : decode cX11_passAll 8 = .ok (.getfield 69, 3) := by decide +kernel
theorem dX11_passAll_11 : decode cX11_passAll 11 = .ok (.aload_n 0, 1) := by decide +kernel
theorem dX11_passAll_12 : decode cX11_passAll 12 = .ok (.getfield 54, 3) := by decide +kernel
theorem dX11_passAll_15 : decode cX11_passAll 15 = .ok (.invokevirtual 143, 3) := by decide +kernel
theorem dX11_passAll_18 : decode cX11_passAll 18 = .ok (.aload_n 0, 1) := by decide +kernel
theorem dX11_passAll_19 : decode cX11_passAll 19 = .ok (.getfield 75, 3) := by decide +kernel
theorem dX11_passAll_22 : decode cX11_passAll 22 = .ok (.invokevirtual 172, 3) := by decide +kernel
theorem dX11_passAll_25 : decode cX11_passAll 25 = .ok (.iconst (-1), 1) := by decide +kernel
theorem dX11_passAll_26 : decode cX11_passAll 26 = .ok (.if_icmp .ne 5, 3) := by decide +kernel
theorem dX11_passAll_29 : decode cX11_passAll 29 = .ok (.iconst 0, 1) := by decide +kernel
theorem dX11_passAll_30 : decode cX11_passAll 30 = .ok (.ireturn, 1) := by decide +kernel
theorem dX11_passAll_31 : decode cX11_passAll 31 = .ok (.aload_n 0, 1) := by decide +kernel
theorem dX11_passAll_32 : decode cX11_passAll 32 = .ok (.getfield 69, 3) := by decide +kernel
theorem dX11_passAll_35 : decode cX11_passAll 35 = .ok (.invokevirtual 153, 3) := by decide +kernel
theorem dX11_passAll_38 : decode cX11_passAll 38 = .ok (.iinc 2 1, 3) := by decide +kernel
theorem dX11_passAll_41 : decode cX11_passAll 41 = .ok (.goto (-39), 3) := by decide +kernel
theorem dX11_passAll_44 : decode cX11_passAll 44 = .ok (.iconst 1, 1) := by decide +kernel
theorem dX11_passAll_45 : decode cX11_passAll 45 = .ok (.ireturn, 1) := by decide +kernel
def f_X11_passAll_2 (N : Nat) : Nat → Int32 → (Nat → Int32) → (Nat → Int32) → (Nat → Int32) → Int32 → Int32 → (Nat → Int32) → Int32 → Int32 → (Nat → Int32) → (Nat → Int32) → (Nat → Int32) → (Nat → Int32) → (Nat → Int32) → (Nat → Int32) → (Nat → Int32) → (Nat → Int32) → (Nat → Int32) → (Nat → Int32) → (Nat → Int32) → (Nat → Int32) → (Nat → Int32) → (Nat → Int32) → Int32 → Int32 → Option (Int32 × (Nat → Int32) × Int32 × Int32 × (Nat → Int32) × (Nat → Int32) × (Nat → Int32))
  | 0, _, _, _, _, _, _, _, _, _, _, _, _, _, _, _, _, _, _, _, _, _, _, _, _, _ => none
  | n + 1, d_n, d_for, f_row, f_fears, z_cnt, z_next, z_store, r_tx, r_rul, t_code, t_st, t_en, u_code, u_st, u_en, w_code, w_st, w_en, x_code, x_st, x_en, l_names, l_stack, x1, x2 => if x1 ≤ x2 then (some ((1 : Int32), f_row, z_cnt, z_next, z_store, l_names, l_stack)) else (ob1 (f_X7_ahead N z_next z_store f_row) fun z_store_15 => ob4 (f_X0_passMonth N d_n d_for t_code t_st t_en u_code u_st u_en w_code w_st w_en x_code x_st x_en f_row f_fears r_tx r_rul l_names l_stack) fun r22 f_row_22 l_names_22 l_stack_22 => if r22 = (-1 : Int32) then (some ((0 : Int32), f_row_22, z_cnt, z_next, z_store_15, l_names_22, l_stack_22)) else (ob2 (f_X7_keep N z_cnt z_next) fun z_cnt_35 z_next_35 => (f_X11_passAll_2 N n) d_n d_for f_row_22 f_fears z_cnt_35 z_next_35 z_store_15 r_tx r_rul t_code t_st t_en u_code u_st u_en w_code w_st w_en x_code x_st x_en l_names_22 l_stack_22 x1 (x2 + (1 : Int32))))
def f_X11_passAll (N : Nat) (d_n : Int32) (d_for : Nat → Int32) (f_row : Nat → Int32) (f_fears : Nat → Int32) (z_cnt : Int32) (z_next : Int32) (z_store : Nat → Int32) (r_tx : Int32) (r_rul : Int32) (t_code : Nat → Int32) (t_st : Nat → Int32) (t_en : Nat → Int32) (u_code : Nat → Int32) (u_st : Nat → Int32) (u_en : Nat → Int32) (w_code : Nat → Int32) (w_st : Nat → Int32) (w_en : Nat → Int32) (x_code : Nat → Int32) (x_st : Nat → Int32) (x_en : Nat → Int32) (l_names : Nat → Int32) (l_stack : Nat → Int32) (p1 : Int32) : Option (Int32 × (Nat → Int32) × Int32 × Int32 × (Nat → Int32) × (Nat → Int32) × (Nat → Int32)) := f_X11_passAll_2 N N d_n d_for f_row f_fears z_cnt z_next z_store r_tx r_rul t_code t_st t_en u_code u_st u_en w_code w_st w_en x_code x_st x_en l_names l_stack p1 (0 : Int32)
set_option maxHeartbeats 4000000 in
set_option maxRecDepth 100000 in
theorem k_X11_passAll (l : Launch) (N : Nat) (D : va_G) (cI cJ cZ cB cT : ClassId) (qd0 : Nat) (qd1 : Nat) (qf0 : Nat) (qf1 : Nat) (qf2 : Nat) (qz0 : Nat) (qz1 : Nat) (qr0 : Nat) (qt0 : Nat) (qt1 : Nat) (qt2 : Nat) (qt3 : Nat) (qu0 : Nat) (qu1 : Nat) (qu2 : Nat) (qu3 : Nat) (qw0 : Nat) (qw1 : Nat) (qw2 : Nat) (qw3 : Nat) (qx0 : Nat) (qx1 : Nat) (qx2 : Nat) (qx3 : Nat) (qT : Nat) (qL1 : Nat) (qL2 : Nat) (qL0 : Nat) (qD0 : Nat) (qX0 : Nat) (qd2 : Nat) (qf3 : Nat) (qn0 : Nat) (qt4 : Nat) (qu4 : Nat) (qw4 : Nat) (qx4 : Nat) (qk0 : Nat) (qb0 : Nat) (qe0 : Nat) (qh0 : Nat) (qD1 : Nat) (qv0 : Nat) (d_n : Int32) (d_for : Nat → Int32) (f_row : Nat → Int32) (f_fears : Nat → Int32) (z_cnt : Int32) (z_next : Int32) (z_store : Nat → Int32) (r_tx : Int32) (r_rul : Int32) (t_cl : Int32) (t_ln : Int32) (t_pt : Int32) (t_code : Nat → Int32) (t_st : Nat → Int32) (t_en : Nat → Int32) (u_cl : Int32) (u_ln : Int32) (u_pt : Int32) (u_code : Nat → Int32) (u_st : Nat → Int32) (u_en : Nat → Int32) (w_cl : Int32) (w_ln : Int32) (w_pt : Int32) (w_code : Nat → Int32) (w_st : Nat → Int32) (w_en : Nat → Int32) (x_cl : Int32) (x_ln : Int32) (x_pt : Int32) (x_code : Nat → Int32) (x_st : Nat → Int32) (x_en : Nat → Int32) (l_names : Nat → Int32) (l_stack : Nat → Int32) (p1 : Int32) (o_r : Int32) (o_f_row : Nat → Int32) (o_z_cnt : Int32) (o_z_next : Int32) (o_z_store : Nat → Int32) (o_l_names : Nat → Int32) (o_l_stack : Nat → Int32) (hf : f_X11_passAll N d_n d_for f_row f_fears z_cnt z_next z_store r_tx r_rul t_code t_st t_en u_code u_st u_en w_code w_st w_en x_code x_st x_en l_names l_stack p1 = some (o_r, o_f_row, o_z_cnt, o_z_next, o_z_store, o_l_names, o_l_stack)) : ∀ sz, Met l yX11_passAll (mw yX11_passAll cX11_passAll 3 (some .boolean)) ({ frames := 5, cells := 0, slots := 0, locals := 147 } : Room) (mPreE D (mT cI cJ cZ cB cT) (W_X_0t1_3t5_7t8_16_34t37_39t42_44t47_49t52_54_61t64_76 qd0 qd1 qf0 qf1 qf2 qz0 qz1 qr0 qt0 qt1 qt2 qt3 qu0 qu1 qu2 qu3 qw0 qw1 qw2 qw3 qx0 qx1 qx2 qx3 qT qL1 qL2 qL0 qD0 qX0 qd2 qf3 qn0 qt4 qu4 qw4 qx4 qk0 qb0 qe0 qh0 qD1 qv0 cI cJ cZ cB cT d_n d_for f_row f_fears z_cnt z_next z_store r_tx r_rul t_cl t_ln t_pt t_code t_st t_en u_cl u_ln u_pt u_code u_st u_en w_cl w_ln w_pt w_code w_st w_en x_cl x_ln x_pt x_code x_st x_en l_names l_stack) sz [.ref qX0, .int p1]) ((mQi D (W_X_0t1_3t5_7t8_16_34t37_39t42_44t47_49t52_54_61t64_76 qd0 qd1 qf0 qf1 qf2 qz0 qz1 qr0 qt0 qt1 qt2 qt3 qu0 qu1 qu2 qu3 qw0 qw1 qw2 qw3 qx0 qx1 qx2 qx3 qT qL1 qL2 qL0 qD0 qX0 qd2 qf3 qn0 qt4 qu4 qw4 qx4 qk0 qb0 qe0 qh0 qD1 qv0 cI cJ cZ cB cT d_n d_for o_f_row f_fears o_z_cnt o_z_next o_z_store r_tx r_rul t_cl t_ln t_pt t_code t_st t_en u_cl u_ln u_pt u_code u_st u_en w_cl w_ln w_pt w_code w_st w_en x_cl x_ln x_pt x_code x_st x_en o_l_names o_l_stack) o_r (mB o_r)) (va_A (W_X_0t1_3t5_7t8_16_34t37_39t42_44t47_49t52_54_61t64_76 qd0 qd1 qf0 qf1 qf2 qz0 qz1 qr0 qt0 qt1 qt2 qt3 qu0 qu1 qu2 qu3 qw0 qw1 qw2 qw3 qx0 qx1 qx2 qx3 qT qL1 qL2 qL0 qD0 qX0 qd2 qf3 qn0 qt4 qu4 qw4 qx4 qk0 qb0 qe0 qh0 qD1 qv0 cI cJ cZ cB cT d_n d_for f_row f_fears z_cnt z_next z_store r_tx r_rul t_cl t_ln t_pt t_code t_st t_en u_cl u_ln u_pt u_code u_st u_en w_cl w_ln w_pt w_code w_st w_en x_cl x_ln x_pt x_code x_st x_en l_names l_stack) sz)) 0 0 (va_A (W_X_0t1_3t5_7t8_16_34t37_39t42_44t47_49t52_54_61t64_76 qd0 qd1 qf0 qf1 qf2 qz0 qz1 qr0 qt0 qt1 qt2 qt3 qu0 qu1 qu2 qu3 qw0 qw1 qw2 qw3 qx0 qx1 qx2 qx3 qT qL1 qL2 qL0 qD0 qX0 qd2 qf3 qn0 qt4 qu4 qw4 qx4 qk0 qb0 qe0 qh0 qD1 qv0 cI cJ cZ cB cT d_n d_for f_row f_fears z_cnt z_next z_store r_tx r_rul t_cl t_ln t_pt t_code t_st t_en u_cl u_ln u_pt u_code u_st u_en w_cl w_ln w_pt w_code w_st w_en x_cl x_ln x_pt x_code x_st x_en l_names l_stack) sz) := by
  refine mMetE (Qc := (mQi D (W_X_0t1_3t5_7t8_16_34t37_39t42_44t47_49t52_54_61t64_76 qd0 qd1 qf0 qf1 qf2 qz0 qz1 qr0 qt0 qt1 qt2 qt3 qu0 qu1 qu2 qu3 qw0 qw1 qw2 qw3 qx0 qx1 qx2 qx3 qT qL1 qL2 qL0 qD0 qX0 qd2 qf3 qn0 qt4 qu4 qw4 qx4 qk0 qb0 qe0 qh0 qD1 qv0 cI cJ cZ cB cT d_n d_for o_f_row f_fears o_z_cnt o_z_next o_z_store r_tx r_rul t_cl t_ln t_pt t_code t_st t_en u_cl u_ln u_pt u_code u_st u_en w_cl w_ln w_pt w_code w_st w_en x_cl x_ln x_pt x_code x_st x_en o_l_names o_l_stack) o_r (mB o_r))) (by decide) (Nat.le_of_ble_eq_true rfl) (fun p e s m below meth c A ls hx hb hr hml hts hown hlocks hK hA hP hD hl hE => ?_)
  have hown : s.vm.findClass RX11 = some m.cls := hown
  have hl : lv_has ls 3 [(0, .ref qX0), (1, .int p1)] := hl
  have hS : va_S A s.heap s.heap [] := va_S.rf
  obtain ⟨⟨tM, hZM, hTM⟩, ⟨tL, hZL, hTL⟩, ⟨hNX4, hNX10⟩, tS, tV, hRS, hZC, hZF, hKS⟩ := id hE
  have b2 : ∀ n2 : Nat, ∀ (f_row : Nat → Int32) (z_cnt : Int32) (z_next : Int32) (z_store : Nat → Int32) (l_names : Nat → Int32) (l_stack : Nat → Int32) (x1 : Int32) (x2 : Int32) (H : Heap) (locs : List Loc) (ls : Array Slot), f_X11_passAll_2 N n2 d_n d_for f_row f_fears z_cnt z_next z_store r_tx r_rul t_code t_st t_en u_code u_st u_en w_code w_st w_en x_code x_st x_en l_names l_stack x1 x2 = some (o_r, o_f_row, o_z_cnt, o_z_next, o_z_store, o_l_names, o_l_stack) → va_P D vwCl (W_X_0t1_3t5_7t8_16_34t37_39t42_44t47_49t52_54_61t64_76 qd0 qd1 qf0 qf1 qf2 qz0 qz1 qr0 qt0 qt1 qt2 qt3 qu0 qu1 qu2 qu3 qw0 qw1 qw2 qw3 qx0 qx1 qx2 qx3 qT qL1 qL2 qL0 qD0 qX0 qd2 qf3 qn0 qt4 qu4 qw4 qx4 qk0 qb0 qe0 qh0 qD1 qv0 cI cJ cZ cB cT d_n d_for f_row f_fears z_cnt z_next z_store r_tx r_rul t_cl t_ln t_pt t_code t_st t_en u_cl u_ln u_pt u_code u_st u_en w_cl w_ln w_pt w_code w_st w_en x_cl x_ln x_pt x_code x_st x_en l_names l_stack) H → va_D A (W_X_0t1_3t5_7t8_16_34t37_39t42_44t47_49t52_54_61t64_76 qd0 qd1 qf0 qf1 qf2 qz0 qz1 qr0 qt0 qt1 qt2 qt3 qu0 qu1 qu2 qu3 qw0 qw1 qw2 qw3 qx0 qx1 qx2 qx3 qT qL1 qL2 qL0 qD0 qX0 qd2 qf3 qn0 qt4 qu4 qw4 qx4 qk0 qb0 qe0 qh0 qD1 qv0 cI cJ cZ cB cT d_n d_for f_row f_fears z_cnt z_next z_store r_tx r_rul t_cl t_ln t_pt t_code t_st t_en u_cl u_ln u_pt u_code u_st u_en w_cl w_ln w_pt w_code w_st w_en x_cl x_ln x_pt x_code x_st x_en l_names l_stack) → va_S A s.heap H locs → lv_has ls 3 [(0, .ref qX0), (1, .int x1), (2, .int x2)] → W p l e ({ frames := 5, cells := 0, slots := 0, locals := 147 } : Room) s m ([.ref qX0, .int p1] : List Value).toArray below meth c H locs 0 0 (MQ below ((mQi D (W_X_0t1_3t5_7t8_16_34t37_39t42_44t47_49t52_54_61t64_76 qd0 qd1 qf0 qf1 qf2 qz0 qz1 qr0 qt0 qt1 qt2 qt3 qu0 qu1 qu2 qu3 qw0 qw1 qw2 qw3 qx0 qx1 qx2 qx3 qT qL1 qL2 qL0 qD0 qX0 qd2 qf3 qn0 qt4 qu4 qw4 qx4 qk0 qb0 qe0 qh0 qD1 qv0 cI cJ cZ cB cT d_n d_for o_f_row f_fears o_z_cnt o_z_next o_z_store r_tx r_rul t_cl t_ln t_pt t_code t_st t_en u_cl u_ln u_pt u_code u_st u_en w_cl w_ln w_pt w_code w_st w_en x_cl x_ln x_pt x_code x_st x_en o_l_names o_l_stack) o_r (mB o_r)) A) ([.ref qX0, .int p1] : List Value).toArray s 0 0 A) (F0 m 2 ls []) := by
    intro n2
    induction n2 with
    | zero =>
      intro f_row z_cnt z_next z_store l_names l_stack x1 x2 H locs ls hf hP hD hS hl
      simp [f_X11_passAll_2] at hf
    | succ n2 ih2 =>
      intro f_row z_cnt z_next z_store l_names l_stack x1 x2 H locs ls hf hP hD hS hl
      rw [f_X11_passAll_2.eq_2] at hf
      refine lv_iload_n hx hb dX11_passAll_2 rfl (lv_at hl 2 rfl) ?_
      refine lv_iload_n hx hb dX11_passAll_3 rfl (lv_at hl 1 rfl) ?_
      refine xicmp_ge hx hb 44 dX11_passAll_4 (by decide) hf (fun hf => ?_) (fun hf => ?_)
      · refine lv_iconst (v := (1 : Int32)) hx hb dX11_passAll_44 (by decide) ?_
        cases hf
        exact mret_z hx hb hr hlocks hP hD hS dX11_passAll_45 rfl rfl
      · refine lv_aload_n hx hb dX11_passAll_7 rfl (lv_at hl 0 rfl) ?_
        refine gfX11_69 hx hb hts hown hK hP 29 rfl rfl dX11_passAll_8 ?_
        refine lv_aload_n hx hb dX11_passAll_11 rfl (lv_at hl 0 rfl) ?_
        refine gfX11_54 hx hb hts hown hK hP 29 rfl rfl dX11_passAll_12 ?_
        obtain ⟨z_store_15, hg15, hf⟩ := ob1_some hf
        refine mcV_v (wr := [(qd0, .inr (2, [.int d_n, .ref qd1, .ref qd2])), (qd1, .inl (cI, 8, .inl d_for)), (qf2, .inl (cI, 6, .inl f_fears)), (qr0, .inr (6, [.ref qd0, .ref qf0, .ref qz0, .ref qn0, .int r_tx, .int r_rul])), (qt0, .inr (9, [.int t_cl, .int t_ln, .int t_pt, .ref qt1, .ref qt2, .ref qt3, .ref qt4])), (qt1, .inl (cI, 301, .inl t_code)), (qt2, .inl (cI, 4, .inl t_st)), (qt3, .inl (cI, 4, .inl t_en)), (qu0, .inr (9, [.int u_cl, .int u_ln, .int u_pt, .ref qu1, .ref qu2, .ref qu3, .ref qu4])), (qu1, .inl (cI, 301, .inl u_code)), (qu2, .inl (cI, 4, .inl u_st)), (qu3, .inl (cI, 4, .inl u_en)), (qw0, .inr (9, [.int w_cl, .int w_ln, .int w_pt, .ref qw1, .ref qw2, .ref qw3, .ref qw4])), (qw1, .inl (cI, 301, .inl w_code)), (qw2, .inl (cI, 4, .inl w_st)), (qw3, .inl (cI, 4, .inl w_en)), (qx0, .inr (9, [.int x_cl, .int x_ln, .int x_pt, .ref qx1, .ref qx2, .ref qx3, .ref qx4])), (qx1, .inl (cI, 301, .inl x_code)), (qx2, .inl (cI, 4, .inl x_st)), (qx3, .inl (cI, 4, .inl x_en)), (qT, .inl (cT, 4, .inr (.inr (.inr (.inr (fT qt0 qu0 qw0 qx0)))))), (qL1, .inl (cI, 10, .inl l_names)), (qL2, .inl (cI, 64, .inl l_stack)), (qL0, .inr (3, [.ref qr0, .ref qT, .ref qL1, .ref qL2])), (qD0, .inr (0, [.ref qr0, .ref qf0, .ref qL0])), (qX0, .inr (11, [.ref qr0, .ref qk0, .ref qT, .ref qb0, .ref qe0, .ref qL0, .ref qf0, .ref qd0, .ref qn0, .ref qz0, .ref qD0, .ref qh0, .ref qD1, .ref qv0]))]) (As := [.ref qf0]) (rest := []) hx hb hml hown hts hK hP hD hS hA (k_X7_ahead l N D cI cJ cZ cB cT qz0 qz1 qf0 qf1 qf2 qf3 z_cnt z_next z_store f_row z_store_15 hg15) (kwX11_143 hts rfl rfl ⟨Nat.le_of_ble_eq_true rfl, Nat.le_of_ble_eq_true rfl⟩) [5, 6, 2, 3] [0, 1, 4, 7, 8, 9, 10, 11, 12, 13, 14, 15, 16, 17, 18, 19, 20, 21, 22, 23, 24, 25, 26, 27, 28, 29] rfl rfl rfl (by decide) rfl 0 rfl rfl rfl rfl hl.1 rfl (Nat.le_of_ble_eq_true rfl) dX11_passAll_15 ⟨Nat.zero_le _, Nat.zero_le _⟩ (fun H locs hP hD hS => ?_)
        have hP := mP_sub (wc := (W_X_0t1_3t5_7t8_16_34t37_39t42_44t47_49t52_54_61t64_76 qd0 qd1 qf0 qf1 qf2 qz0 qz1 qr0 qt0 qt1 qt2 qt3 qu0 qu1 qu2 qu3 qw0 qw1 qw2 qw3 qx0 qx1 qx2 qx3 qT qL1 qL2 qL0 qD0 qX0 qd2 qf3 qn0 qt4 qu4 qw4 qx4 qk0 qb0 qe0 qh0 qD1 qv0 cI cJ cZ cB cT d_n d_for f_row f_fears z_cnt z_next z_store_15 r_tx r_rul t_cl t_ln t_pt t_code t_st t_en u_cl u_ln u_pt u_code u_st u_en w_cl w_ln w_pt w_code w_st w_en x_cl x_ln x_pt x_code x_st x_en l_names l_stack)) hP [0, 1, 28, 29, 2, 26, 27, 3, 4, 5, 6, 7, 8, 9, 10, 11, 12, 13, 14, 15, 16, 17, 18, 19, 20, 21, 22, 23, 24, 25] rfl
        have hD := hD.sub (ws' := (W_X_0t1_3t5_7t8_16_34t37_39t42_44t47_49t52_54_61t64_76 qd0 qd1 qf0 qf1 qf2 qz0 qz1 qr0 qt0 qt1 qt2 qt3 qu0 qu1 qu2 qu3 qw0 qw1 qw2 qw3 qx0 qx1 qx2 qx3 qT qL1 qL2 qL0 qD0 qX0 qd2 qf3 qn0 qt4 qu4 qw4 qx4 qk0 qb0 qe0 qh0 qD1 qv0 cI cJ cZ cB cT d_n d_for f_row f_fears z_cnt z_next z_store_15 r_tx r_rul t_cl t_ln t_pt t_code t_st t_en u_cl u_ln u_pt u_code u_st u_en w_cl w_ln w_pt w_code w_st w_en x_cl x_ln x_pt x_code x_st x_en l_names l_stack)) [0, 1, 28, 29, 2, 26, 27, 3, 4, 5, 6, 7, 8, 9, 10, 11, 12, 13, 14, 15, 16, 17, 18, 19, 20, 21, 22, 23, 24, 25] rfl rfl
        refine lv_aload_n hx hb dX11_passAll_18 rfl (lv_at hl 0 rfl) ?_
        refine gfX11_75 hx hb hts hown hK hP 29 rfl rfl dX11_passAll_19 ?_
        obtain ⟨r22, f_row_22, l_names_22, l_stack_22, hg22, hf⟩ := ob4_some hf
        refine mcVE_i (wr := [(qz0, .inr (7, [.int z_cnt, .int z_next, .ref qz1])), (qz1, .inl (cI, 2356, .inl z_store_15)), (qX0, .inr (11, [.ref qr0, .ref qk0, .ref qT, .ref qb0, .ref qe0, .ref qL0, .ref qf0, .ref qd0, .ref qn0, .ref qz0, .ref qD0, .ref qh0, .ref qD1, .ref qv0]))]) (As := []) (rest := []) hx hb hml hown hts hK hP hD hS hA hE (k_X0_passMonth l N D cI cJ cZ cB cT qd0 qd1 qt0 qt1 qt2 qt3 qu0 qu1 qu2 qu3 qw0 qw1 qw2 qw3 qx0 qx1 qx2 qx3 qT qf0 qf1 qf2 qr0 qL1 qL2 qL0 qD0 qd2 qt4 qu4 qw4 qx4 qf3 qf0 qz0 qn0 d_n d_for t_cl t_ln t_pt t_code t_st t_en u_cl u_ln u_pt u_code u_st u_en w_cl w_ln w_pt w_code w_st w_en x_cl x_ln x_pt x_code x_st x_en f_row f_fears r_tx r_rul l_names l_stack r22 f_row_22 l_names_22 l_stack_22 hg22) (kwX11_172 hts rfl rfl ⟨Nat.le_of_ble_eq_true rfl, Nat.le_of_ble_eq_true rfl⟩) [0, 1, 8, 9, 10, 11, 12, 13, 14, 15, 16, 17, 18, 19, 20, 21, 22, 23, 24, 2, 3, 4, 7, 25, 26, 27, 28] [5, 6, 29] rfl rfl rfl (by decide) rfl 26 rfl rfl rfl rfl hl.1 rfl (Nat.le_of_ble_eq_true rfl) dX11_passAll_22 ⟨Nat.zero_le _, Nat.zero_le _⟩ (fun hB22 H locs hP hD hS => ?_)
        have hP := mP_sub (wc := (W_X_0t1_3t5_7t8_16_34t37_39t42_44t47_49t52_54_61t64_76 qd0 qd1 qf0 qf1 qf2 qz0 qz1 qr0 qt0 qt1 qt2 qt3 qu0 qu1 qu2 qu3 qw0 qw1 qw2 qw3 qx0 qx1 qx2 qx3 qT qL1 qL2 qL0 qD0 qX0 qd2 qf3 qn0 qt4 qu4 qw4 qx4 qk0 qb0 qe0 qh0 qD1 qv0 cI cJ cZ cB cT d_n d_for f_row_22 f_fears z_cnt z_next z_store_15 r_tx r_rul t_cl t_ln t_pt t_code t_st t_en u_cl u_ln u_pt u_code u_st u_en w_cl w_ln w_pt w_code w_st w_en x_cl x_ln x_pt x_code x_st x_en l_names_22 l_stack_22)) hP [3, 4, 22, 23, 24, 0, 1, 25, 5, 6, 7, 8, 9, 10, 11, 12, 13, 14, 15, 16, 17, 18, 19, 20, 21, 26, 27, 28, 29, 2] rfl
        have hD := hD.sub (ws' := (W_X_0t1_3t5_7t8_16_34t37_39t42_44t47_49t52_54_61t64_76 qd0 qd1 qf0 qf1 qf2 qz0 qz1 qr0 qt0 qt1 qt2 qt3 qu0 qu1 qu2 qu3 qw0 qw1 qw2 qw3 qx0 qx1 qx2 qx3 qT qL1 qL2 qL0 qD0 qX0 qd2 qf3 qn0 qt4 qu4 qw4 qx4 qk0 qb0 qe0 qh0 qD1 qv0 cI cJ cZ cB cT d_n d_for f_row_22 f_fears z_cnt z_next z_store_15 r_tx r_rul t_cl t_ln t_pt t_code t_st t_en u_cl u_ln u_pt u_code u_st u_en w_cl w_ln w_pt w_code w_st w_en x_cl x_ln x_pt x_code x_st x_en l_names_22 l_stack_22)) [3, 4, 22, 23, 24, 0, 1, 25, 5, 6, 7, 8, 9, 10, 11, 12, 13, 14, 15, 16, 17, 18, 19, 20, 21, 26, 27, 28, 29, 2] rfl rfl
        refine lv_iconst (v := (-1 : Int32)) hx hb dX11_passAll_25 (by decide) ?_
        refine xicmp_ne hx hb 31 dX11_passAll_26 (by decide) hf (fun hf => ?_) (fun hf => ?_)
        · refine lv_iconst (v := (0 : Int32)) hx hb dX11_passAll_29 (by decide) ?_
          cases hf
          exact mret_z hx hb hr hlocks hP hD hS dX11_passAll_30 rfl rfl
        · refine lv_aload_n hx hb dX11_passAll_31 rfl (lv_at hl 0 rfl) ?_
          refine gfX11_69 hx hb hts hown hK hP 29 rfl rfl dX11_passAll_32 ?_
          obtain ⟨z_cnt_35, z_next_35, hg35, hf⟩ := ob2_some hf
          refine mcV_v (wr := [(qd0, .inr (2, [.int d_n, .ref qd1, .ref qd2])), (qd1, .inl (cI, 8, .inl d_for)), (qf0, .inr (1, [.ref qf1, .ref qf2, .ref qf3])), (qf1, .inl (cI, 76, .inl f_row_22)), (qf2, .inl (cI, 6, .inl f_fears)), (qz1, .inl (cI, 2356, .inl z_store_15)), (qr0, .inr (6, [.ref qd0, .ref qf0, .ref qz0, .ref qn0, .int r_tx, .int r_rul])), (qt0, .inr (9, [.int t_cl, .int t_ln, .int t_pt, .ref qt1, .ref qt2, .ref qt3, .ref qt4])), (qt1, .inl (cI, 301, .inl t_code)), (qt2, .inl (cI, 4, .inl t_st)), (qt3, .inl (cI, 4, .inl t_en)), (qu0, .inr (9, [.int u_cl, .int u_ln, .int u_pt, .ref qu1, .ref qu2, .ref qu3, .ref qu4])), (qu1, .inl (cI, 301, .inl u_code)), (qu2, .inl (cI, 4, .inl u_st)), (qu3, .inl (cI, 4, .inl u_en)), (qw0, .inr (9, [.int w_cl, .int w_ln, .int w_pt, .ref qw1, .ref qw2, .ref qw3, .ref qw4])), (qw1, .inl (cI, 301, .inl w_code)), (qw2, .inl (cI, 4, .inl w_st)), (qw3, .inl (cI, 4, .inl w_en)), (qx0, .inr (9, [.int x_cl, .int x_ln, .int x_pt, .ref qx1, .ref qx2, .ref qx3, .ref qx4])), (qx1, .inl (cI, 301, .inl x_code)), (qx2, .inl (cI, 4, .inl x_st)), (qx3, .inl (cI, 4, .inl x_en)), (qT, .inl (cT, 4, .inr (.inr (.inr (.inr (fT qt0 qu0 qw0 qx0)))))), (qL1, .inl (cI, 10, .inl l_names_22)), (qL2, .inl (cI, 64, .inl l_stack_22)), (qL0, .inr (3, [.ref qr0, .ref qT, .ref qL1, .ref qL2])), (qD0, .inr (0, [.ref qr0, .ref qf0, .ref qL0])), (qX0, .inr (11, [.ref qr0, .ref qk0, .ref qT, .ref qb0, .ref qe0, .ref qL0, .ref qf0, .ref qd0, .ref qn0, .ref qz0, .ref qD0, .ref qh0, .ref qD1, .ref qv0]))]) (As := []) (rest := []) hx hb hml hown hts hK hP hD hS hA (k_X7_keep l N D cI cJ cZ cB cT qz0 qz1 z_cnt z_next z_cnt_35 z_next_35 hg35) (kwX11_153 hts rfl rfl ⟨Nat.le_of_ble_eq_true rfl, Nat.le_of_ble_eq_true rfl⟩) [5] [0, 1, 2, 3, 4, 6, 7, 8, 9, 10, 11, 12, 13, 14, 15, 16, 17, 18, 19, 20, 21, 22, 23, 24, 25, 26, 27, 28, 29] rfl rfl rfl (by decide) rfl 0 rfl rfl rfl rfl hl.1 rfl (Nat.le_of_ble_eq_true rfl) dX11_passAll_35 ⟨Nat.zero_le _, Nat.zero_le _⟩ (fun H locs hP hD hS => ?_)
          have hP := mP_sub (wc := (W_X_0t1_3t5_7t8_16_34t37_39t42_44t47_49t52_54_61t64_76 qd0 qd1 qf0 qf1 qf2 qz0 qz1 qr0 qt0 qt1 qt2 qt3 qu0 qu1 qu2 qu3 qw0 qw1 qw2 qw3 qx0 qx1 qx2 qx3 qT qL1 qL2 qL0 qD0 qX0 qd2 qf3 qn0 qt4 qu4 qw4 qx4 qk0 qb0 qe0 qh0 qD1 qv0 cI cJ cZ cB cT d_n d_for f_row_22 f_fears z_cnt_35 z_next_35 z_store_15 r_tx r_rul t_cl t_ln t_pt t_code t_st t_en u_cl u_ln u_pt u_code u_st u_en w_cl w_ln w_pt w_code w_st w_en x_cl x_ln x_pt x_code x_st x_en l_names_22 l_stack_22)) hP [0, 1, 2, 3, 4, 29, 5, 6, 7, 8, 9, 10, 11, 12, 13, 14, 15, 16, 17, 18, 19, 20, 21, 22, 23, 24, 25, 26, 27, 28] rfl
          have hD := hD.sub (ws' := (W_X_0t1_3t5_7t8_16_34t37_39t42_44t47_49t52_54_61t64_76 qd0 qd1 qf0 qf1 qf2 qz0 qz1 qr0 qt0 qt1 qt2 qt3 qu0 qu1 qu2 qu3 qw0 qw1 qw2 qw3 qx0 qx1 qx2 qx3 qT qL1 qL2 qL0 qD0 qX0 qd2 qf3 qn0 qt4 qu4 qw4 qx4 qk0 qb0 qe0 qh0 qD1 qv0 cI cJ cZ cB cT d_n d_for f_row_22 f_fears z_cnt_35 z_next_35 z_store_15 r_tx r_rul t_cl t_ln t_pt t_code t_st t_en u_cl u_ln u_pt u_code u_st u_en w_cl w_ln w_pt w_code w_st w_en x_cl x_ln x_pt x_code x_st x_en l_names_22 l_stack_22)) [0, 1, 2, 3, 4, 29, 5, 6, 7, 8, 9, 10, 11, 12, 13, 14, 15, 16, 17, 18, 19, 20, 21, 22, 23, 24, 25, 26, 27, 28] rfl rfl
          refine lv_iinc (v := (x2 + (1 : Int32))) (lv' := [(2, .int (x2 + (1 : Int32))), (0, .ref qX0), (1, .int x1)]) hx hb dX11_passAll_38 hl (k := 2) rfl rfl (by decide) rfl (fun ls hl => ?_)
          refine lv_goto (tgt := 2) hx hb dX11_passAll_41 (by decide) ?_
          exact ih2 f_row_22 z_cnt_35 z_next_35 z_store_15 l_names_22 l_stack_22 x1 (x2 + (1 : Int32)) _ _ _ hf hP hD hS (lv_sub hl [1, 2, 0] rfl)
  unfold f_X11_passAll at hf
  refine lv_iconst (v := (0 : Int32)) hx hb dX11_passAll_0 (by decide) ?_
  refine lv_istore_n (lv' := [(2, .int (0 : Int32)), (0, .ref qX0), (1, .int p1)]) hx hb dX11_passAll_1 rfl hl (by decide) rfl (fun ls hl => ?_)
  exact b2 N f_row z_cnt z_next z_store l_names l_stack p1 (0 : Int32) _ _ _ hf hP hD hS (lv_sub hl [1, 2, 0] rfl)
theorem dX11_reignOnce_0 : decode cX11_reignOnce 0 = .ok (.aload_n 0, 1) := by decide +kernel
theorem dX11_reignOnce_1 : decode cX11_reignOnce 1 = .ok (.getfield 54, 3) := by decide +kernel
theorem dX11_reignOnce_4 : decode cX11_reignOnce 4 = .ok (.invokevirtual 217, 3) := by decide +kernel
theorem dX11_reignOnce_7 : decode cX11_reignOnce 7 = .ok (.istore_n 1, 1) := by decide +kernel
theorem dX11_reignOnce_8 : decode cX11_reignOnce 8 = .ok (.iload_n 1, 1) := by decide +kernel
theorem dX11_reignOnce_9 : decode cX11_reignOnce 9 = .ok (.ifCond .le 13, 3) := by decide +kernel
theorem dX11_reignOnce_12 : decode cX11_reignOnce 12 = .ok (.aload_n 0, 1) := by decide +kernel
theorem dX11_reignOnce_13 : decode cX11_reignOnce 13 = .ok (.getfield 59, 3) := by decide +kernel
theorem dX11_reignOnce_16 : decode cX11_reignOnce 16 = .ok (.getfield 220, 3) := by decide +kernel
theorem dX11_reignOnce_19 : decode cX11_reignOnce 19 = .ok (.ifCond .gt 4, 3) := by decide +kernel
theorem dX11_reignOnce_22 : decode cX11_reignOnce 22 = .ok (.return_, 1) := by decide +kernel
theorem dX11_reignOnce_23 : decode cX11_reignOnce 23 = .ok (.aload_n 0, 1) := by decide +kernel
theorem dX11_reignOnce_24 : decode cX11_reignOnce 24 = .ok (.getfield 54, 3) := by decide +kernel
theorem dX11_reignOnce_27 : decode cX11_reignOnce 27 = .ok (.invokevirtual 228, 3) := by decide +kernel
theorem dX11_reignOnce_30 : decode cX11_reignOnce 30 = .ok (.istore_n 2, 1) := by decide +kernel
theorem dX11_reignOnce_31 : decode cX11_reignOnce 31 = .ok (.aload_n 0, 1) := by decide +kernel
theorem dX11_reignOnce_32 : decode cX11_reignOnce 32 = .ok (.getfield 54, 3) := by decide +kernel
theorem dX11_reignOnce_35 : decode cX11_reignOnce 35 = .ok (.invokevirtual 231, 3) := by decide +kernel
theorem dX11_reignOnce_38 : decode cX11_reignOnce 38 = .ok (.iload_n 2, 1) := by decide +kernel
theorem dX11_reignOnce_39 : decode cX11_reignOnce 39 = .ok (.iload_n 1, 1) := by decide +kernel
theorem dX11_reignOnce_40 : decode cX11_reignOnce 40 = .ok (.irem, 1) := by decide +kernel
theorem dX11_reignOnce_41 : decode cX11_reignOnce 41 = .ok (.istore_n 3, 1) := by decide +kernel
theorem dX11_reignOnce_42 : decode cX11_reignOnce 42 = .ok (.iload_n 2, 1) := by decide +kernel
theorem dX11_reignOnce_43 : decode cX11_reignOnce 43 = .ok (.bipush 7, 2) := by decide +kernel
theorem dX11_reignOnce_45 : decode cX11_reignOnce 45 = .ok (.idiv, 1) := by decide +kernel
theorem dX11_reignOnce_46 : decode cX11_reignOnce 46 = .ok (.aload_n 0, 1) := by decide +kernel
theorem dX11_reignOnce_47 : decode cX11_reignOnce 47 = .ok (.getfield 59, 3) := by decide +kernel
theorem dX11_reignOnce_50 : decode cX11_reignOnce 50 = .ok (.getfield 220, 3) := by decide +kernel
theorem dX11_reignOnce_53 : decode cX11_reignOnce 53 = .ok (.irem, 1) := by decide +kernel
theorem dX11_reignOnce_54 : decode cX11_reignOnce 54 = .ok (.istore 4, 2) := by decide +kernel
theorem dX11_reignOnce_56 : decode cX11_reignOnce 56 = .ok (.iload_n 2, 1) := by decide +kernel
theorem dX11_reignOnce_57 : decode cX11_reignOnce 57 = .ok (.iconst 5, 1) := by decide +kernel
theorem dX11_reignOnce_58 : decode cX11_reignOnce 58 = .ok (.idiv, 1) := by decide +kernel
theorem dX11_reignOnce_59 : decode cX11_reignOnce 59 = .ok (.iload_n 1, 1) := by decide +kernel
theorem dX11_reignOnce_60 : decode cX11_reignOnce 60 = .ok (.irem, 1) := by decide +kernel
theorem dX11_reignOnce_61 : decode cX11_reignOnce 61 = .ok (.istore 5, 2) := by decide +kernel
theorem dX11_reignOnce_63 : decode cX11_reignOnce 63 = .ok (.iload_n 2, 1) := by decide +kernel
theorem dX11_reignOnce_64 : decode cX11_reignOnce 64 = .ok (.bipush 7, 2) := by decide +kernel
theorem dX11_reignOnce_66 : decode cX11_reignOnce 66 = .ok (.irem, 1) := by decide +kernel
theorem dX11_reignOnce_67 : decode cX11_reignOnce 67 = .ok (.tableswitch 106 2 6 #[33, 47, 61, 81, 95], 33) := by decide +kernel
theorem dX11_reignOnce_100 : decode cX11_reignOnce 100 = .ok (.aload_n 0, 1) := by decide +kernel
theorem dX11_reignOnce_101 : decode cX11_reignOnce 101 = .ok (.getfield 75, 3) := by decide +kernel
theorem dX11_reignOnce_104 : decode cX11_reignOnce 104 = .ok (.iload_n 3, 1) := by decide +kernel
theorem dX11_reignOnce_105 : decode cX11_reignOnce 105 = .ok (.iload 4, 2) := by decide +kernel
theorem dX11_reignOnce_107 : decode cX11_reignOnce 107 = .ok (.invokevirtual 156, 3) := by decide +kernel
theorem dX11_reignOnce_110 : decode cX11_reignOnce 110 = .ok (.pop, 1) := by decide +kernel
theorem dX11_reignOnce_111 : decode cX11_reignOnce 111 = .ok (.goto 73, 3) := by decide +kernel
theorem dX11_reignOnce_114 : decode cX11_reignOnce 114 = .ok (.aload_n 0, 1) := by decide +kernel
theorem dX11_reignOnce_115 : decode cX11_reignOnce 115 = .ok (.getfield 75, 3) := by decide +kernel
theorem dX11_reignOnce_118 : decode cX11_reignOnce 118 = .ok (.iload_n 3, 1) := by decide +kernel
theorem dX11_reignOnce_119 : decode cX11_reignOnce 119 = .ok (.iload 5, 2) := by decide +kernel
theorem dX11_reignOnce_121 : decode cX11_reignOnce 121 = .ok (.invokevirtual 159, 3) := by decide +kernel
theorem dX11_reignOnce_124 : decode cX11_reignOnce 124 = .ok (.pop, 1) := by decide +kernel
theorem dX11_reignOnce_125 : decode cX11_reignOnce 125 = .ok (.goto 59, 3) := by decide +kernel
theorem dX11_reignOnce_128 : decode cX11_reignOnce 128 = .ok (.iload_n 2, 1) := by decide +kernel
theorem dX11_reignOnce_129 : decode cX11_reignOnce 129 = .ok (.iconst 4, 1) := by decide +kernel
theorem dX11_reignOnce_130 : decode cX11_reignOnce 130 = .ok (.irem, 1) := by decide +kernel
theorem dX11_reignOnce_131 : decode cX11_reignOnce 131 = .ok (.ifCond .ne 53, 3) := by decide +kernel
theorem dX11_reignOnce_134 : decode cX11_reignOnce 134 = .ok (.aload_n 0, 1) := by decide +kernel
theorem dX11_reignOnce_135 : decode cX11_reignOnce 135 = .ok (.getfield 75, 3) := by decide +kernel
theorem dX11_reignOnce_138 : decode cX11_reignOnce 138 = .ok (.iload_n 3, 1) := by decide +kernel
theorem dX11_reignOnce_139 : decode cX11_reignOnce 139 = .ok (.iload 5, 2) := by decide +kernel
theorem dX11_reignOnce_141 : decode cX11_reignOnce 141 = .ok (.invokevirtual 162, 3) := by decide +kernel
theorem dX11_reignOnce_144 : decode cX11_reignOnce 144 = .ok (.pop, 1) := by decide +kernel
theorem dX11_reignOnce_145 : decode cX11_reignOnce 145 = .ok (.goto 39, 3) := by decide +kernel
theorem dX11_reignOnce_148 : decode cX11_reignOnce 148 = .ok (.aload_n 0, 1) := by decide +kernel
theorem dX11_reignOnce_149 : decode cX11_reignOnce 149 = .ok (.getfield 75, 3) := by decide +kernel
theorem dX11_reignOnce_152 : decode cX11_reignOnce 152 = .ok (.iload_n 3, 1) := by decide +kernel
theorem dX11_reignOnce_153 : decode cX11_reignOnce 153 = .ok (.iload 5, 2) := by decide +kernel
theorem dX11_reignOnce_155 : decode cX11_reignOnce 155 = .ok (.invokevirtual 165, 3) := by decide +kernel
theorem dX11_reignOnce_158 : decode cX11_reignOnce 158 = .ok (.pop, 1) := by decide +kernel
theorem dX11_reignOnce_159 : decode cX11_reignOnce 159 = .ok (.goto 25, 3) := by decide +kernel
theorem dX11_reignOnce_162 : decode cX11_reignOnce 162 = .ok (.aload_n 0, 1) := by decide +kernel
theorem dX11_reignOnce_163 : decode cX11_reignOnce 163 = .ok (.getfield 75, 3) := by decide +kernel
theorem dX11_reignOnce_166 : decode cX11_reignOnce 166 = .ok (.invokevirtual 172, 3) := by decide +kernel
theorem dX11_reignOnce_169 : decode cX11_reignOnce 169 = .ok (.pop, 1) := by decide +kernel
theorem dX11_reignOnce_170 : decode cX11_reignOnce 170 = .ok (.goto 14, 3) := by decide +kernel
theorem dX11_reignOnce_173 : decode cX11_reignOnce 173 = .ok (.aload_n 0, 1) := by decide +kernel
theorem dX11_reignOnce_174 : decode cX11_reignOnce 174 = .ok (.getfield 75, 3) := by decide +kernel
theorem dX11_reignOnce_177 : decode cX11_reignOnce 177 = .ok (.iload_n 3, 1) := by decide +kernel
theorem dX11_reignOnce_178 : decode cX11_reignOnce 178 = .ok (.iload 4, 2) := by decide +kernel
theorem dX11_reignOnce_180 : decode cX11_reignOnce 180 = .ok (.invokevirtual 149, 3) := by decide +kernel
theorem dX11_reignOnce_183 : decode cX11_reignOnce 183 = .ok (.pop, 1) := by decide +kernel
theorem dX11_reignOnce_184 : decode cX11_reignOnce 184 = .ok (.return_, 1) := by decide +kernel
def f_X11_reignOnce (N : Nat) (d_n : Int32) (d_for : Nat → Int32) (d_road : Nat → Int32) (f_row : Nat → Int32) (f_fears : Nat → Int32) (r_tx : Int32) (r_rul : Int32) (t_code : Nat → Int32) (t_st : Nat → Int32) (t_en : Nat → Int32) (u_code : Nat → Int32) (u_st : Nat → Int32) (u_en : Nat → Int32) (w_code : Nat → Int32) (w_st : Nat → Int32) (w_en : Nat → Int32) (x_code : Nat → Int32) (x_st : Nat → Int32) (x_en : Nat → Int32) (l_names : Nat → Int32) (l_stack : Nat → Int32) : Option ((Nat → Int32) × (Nat → Int32) × (Nat → Int32)) := ob1 (f_X1_count N f_row) fun r4 => if r4 ≤ 0 then (some (f_row, l_names, l_stack)) else (if 0 < d_n then (ob1 (f_X1_x N f_row) fun r27 => ob1 (f_X1_stir N f_row) fun f_row_35 => rmI r27 r4 fun v40 => dvI r27 (7 : Int32) fun v45 => rmI v45 d_n fun v53 => dvI r27 (5 : Int32) fun v58 => rmI v58 r4 fun v60 => rmI r27 (7 : Int32) fun v66 => if v66 = (2 : Int32) then (ob2 (f_X0_travel N d_n d_road f_row_35 v40 v53) fun r107 f_row_107 => some (f_row_107, l_names, l_stack)) else if v66 = (3 : Int32) then (ob4 (f_X0_nourish N d_n d_for t_code t_st t_en u_code u_st u_en w_code w_st w_en x_code x_st x_en f_row_35 f_fears r_tx r_rul l_names l_stack v40 v60) fun r121 f_row_121 l_names_121 l_stack_121 => some (f_row_121, l_names_121, l_stack_121)) else if v66 = (4 : Int32) then (rmI r27 (4 : Int32) fun v130 => if v130 = 0 then (ob2 (f_X0_slay N f_row_35 v40 v60) fun r141 f_row_141 => some (f_row_141, l_names, l_stack)) else (some (f_row_35, l_names, l_stack))) else if v66 = (5 : Int32) then (ob4 (f_X0_forgive N d_n d_for t_code t_st t_en u_code u_st u_en w_code w_st w_en x_code x_st x_en f_row_35 f_fears r_tx r_rul l_names l_stack v40 v60) fun r155 f_row_155 l_names_155 l_stack_155 => some (f_row_155, l_names_155, l_stack_155)) else if v66 = (6 : Int32) then (ob4 (f_X0_passMonth N d_n d_for t_code t_st t_en u_code u_st u_en w_code w_st w_en x_code x_st x_en f_row_35 f_fears r_tx r_rul l_names l_stack) fun r166 f_row_166 l_names_166 l_stack_166 => some (f_row_166, l_names_166, l_stack_166)) else (ob2 (f_X0_summon N d_n f_row_35 v40 v53) fun r180 f_row_180 => some (f_row_180, l_names, l_stack))) else (some (f_row, l_names, l_stack)))
set_option maxHeartbeats 4000000 in
set_option maxRecDepth 100000 in
theorem k_X11_reignOnce (l : Launch) (N : Nat) (D : va_G) (cI cJ cZ cB cT : ClassId) (qd0 : Nat) (qd1 : Nat) (qd2 : Nat) (qf0 : Nat) (qf1 : Nat) (qf2 : Nat) (qr0 : Nat) (qt0 : Nat) (qt1 : Nat) (qt2 : Nat) (qt3 : Nat) (qu0 : Nat) (qu1 : Nat) (qu2 : Nat) (qu3 : Nat) (qw0 : Nat) (qw1 : Nat) (qw2 : Nat) (qw3 : Nat) (qx0 : Nat) (qx1 : Nat) (qx2 : Nat) (qx3 : Nat) (qT : Nat) (qL1 : Nat) (qL2 : Nat) (qL0 : Nat) (qD0 : Nat) (qX0 : Nat) (qf3 : Nat) (qz0 : Nat) (qn0 : Nat) (qt4 : Nat) (qu4 : Nat) (qw4 : Nat) (qx4 : Nat) (qk0 : Nat) (qb0 : Nat) (qe0 : Nat) (qh0 : Nat) (qD1 : Nat) (qv0 : Nat) (d_n : Int32) (d_for : Nat → Int32) (d_road : Nat → Int32) (f_row : Nat → Int32) (f_fears : Nat → Int32) (r_tx : Int32) (r_rul : Int32) (t_cl : Int32) (t_ln : Int32) (t_pt : Int32) (t_code : Nat → Int32) (t_st : Nat → Int32) (t_en : Nat → Int32) (u_cl : Int32) (u_ln : Int32) (u_pt : Int32) (u_code : Nat → Int32) (u_st : Nat → Int32) (u_en : Nat → Int32) (w_cl : Int32) (w_ln : Int32) (w_pt : Int32) (w_code : Nat → Int32) (w_st : Nat → Int32) (w_en : Nat → Int32) (x_cl : Int32) (x_ln : Int32) (x_pt : Int32) (x_code : Nat → Int32) (x_st : Nat → Int32) (x_en : Nat → Int32) (l_names : Nat → Int32) (l_stack : Nat → Int32) (o_f_row : Nat → Int32) (o_l_names : Nat → Int32) (o_l_stack : Nat → Int32) (hf : f_X11_reignOnce N d_n d_for d_road f_row f_fears r_tx r_rul t_code t_st t_en u_code u_st u_en w_code w_st w_en x_code x_st x_en l_names l_stack = some (o_f_row, o_l_names, o_l_stack)) : ∀ sz, Met l yX11_reignOnce (mw yX11_reignOnce cX11_reignOnce 6 none) ({ frames := 5, cells := 0, slots := 0, locals := 147 } : Room) (mPreE D (mT cI cJ cZ cB cT) (W_X_0t5_16_34t37_39t42_44t47_49t52_54_61t64_76 qd0 qd1 qd2 qf0 qf1 qf2 qr0 qt0 qt1 qt2 qt3 qu0 qu1 qu2 qu3 qw0 qw1 qw2 qw3 qx0 qx1 qx2 qx3 qT qL1 qL2 qL0 qD0 qX0 qf3 qz0 qn0 qt4 qu4 qw4 qx4 qk0 qb0 qe0 qh0 qD1 qv0 cI cJ cZ cB cT d_n d_for d_road f_row f_fears r_tx r_rul t_cl t_ln t_pt t_code t_st t_en u_cl u_ln u_pt u_code u_st u_en w_cl w_ln w_pt w_code w_st w_en x_cl x_ln x_pt x_code x_st x_en l_names l_stack) sz [.ref qX0]) ((mQv D (W_X_0t5_16_34t37_39t42_44t47_49t52_54_61t64_76 qd0 qd1 qd2 qf0 qf1 qf2 qr0 qt0 qt1 qt2 qt3 qu0 qu1 qu2 qu3 qw0 qw1 qw2 qw3 qx0 qx1 qx2 qx3 qT qL1 qL2 qL0 qD0 qX0 qf3 qz0 qn0 qt4 qu4 qw4 qx4 qk0 qb0 qe0 qh0 qD1 qv0 cI cJ cZ cB cT d_n d_for d_road o_f_row f_fears r_tx r_rul t_cl t_ln t_pt t_code t_st t_en u_cl u_ln u_pt u_code u_st u_en w_cl w_ln w_pt w_code w_st w_en x_cl x_ln x_pt x_code x_st x_en o_l_names o_l_stack)) (va_A (W_X_0t5_16_34t37_39t42_44t47_49t52_54_61t64_76 qd0 qd1 qd2 qf0 qf1 qf2 qr0 qt0 qt1 qt2 qt3 qu0 qu1 qu2 qu3 qw0 qw1 qw2 qw3 qx0 qx1 qx2 qx3 qT qL1 qL2 qL0 qD0 qX0 qf3 qz0 qn0 qt4 qu4 qw4 qx4 qk0 qb0 qe0 qh0 qD1 qv0 cI cJ cZ cB cT d_n d_for d_road f_row f_fears r_tx r_rul t_cl t_ln t_pt t_code t_st t_en u_cl u_ln u_pt u_code u_st u_en w_cl w_ln w_pt w_code w_st w_en x_cl x_ln x_pt x_code x_st x_en l_names l_stack) sz)) 0 0 (va_A (W_X_0t5_16_34t37_39t42_44t47_49t52_54_61t64_76 qd0 qd1 qd2 qf0 qf1 qf2 qr0 qt0 qt1 qt2 qt3 qu0 qu1 qu2 qu3 qw0 qw1 qw2 qw3 qx0 qx1 qx2 qx3 qT qL1 qL2 qL0 qD0 qX0 qf3 qz0 qn0 qt4 qu4 qw4 qx4 qk0 qb0 qe0 qh0 qD1 qv0 cI cJ cZ cB cT d_n d_for d_road f_row f_fears r_tx r_rul t_cl t_ln t_pt t_code t_st t_en u_cl u_ln u_pt u_code u_st u_en w_cl w_ln w_pt w_code w_st w_en x_cl x_ln x_pt x_code x_st x_en l_names l_stack) sz) := by
  refine mMetE (Qc := (mQv D (W_X_0t5_16_34t37_39t42_44t47_49t52_54_61t64_76 qd0 qd1 qd2 qf0 qf1 qf2 qr0 qt0 qt1 qt2 qt3 qu0 qu1 qu2 qu3 qw0 qw1 qw2 qw3 qx0 qx1 qx2 qx3 qT qL1 qL2 qL0 qD0 qX0 qf3 qz0 qn0 qt4 qu4 qw4 qx4 qk0 qb0 qe0 qh0 qD1 qv0 cI cJ cZ cB cT d_n d_for d_road o_f_row f_fears r_tx r_rul t_cl t_ln t_pt t_code t_st t_en u_cl u_ln u_pt u_code u_st u_en w_cl w_ln w_pt w_code w_st w_en x_cl x_ln x_pt x_code x_st x_en o_l_names o_l_stack))) (by decide) (Nat.le_of_ble_eq_true rfl) (fun p e s m below meth c A ls hx hb hr hml hts hown hlocks hK hA hP hD hl hE => ?_)
  have hown : s.vm.findClass RX11 = some m.cls := hown
  have hl : lv_has ls 6 [(0, .ref qX0)] := hl
  have hS : va_S A s.heap s.heap [] := va_S.rf
  obtain ⟨⟨tM, hZM, hTM⟩, ⟨tL, hZL, hTL⟩, ⟨hNX4, hNX10⟩, tS, tV, hRS, hZC, hZF, hKS⟩ := id hE
  unfold f_X11_reignOnce at hf
  refine lv_aload_n hx hb dX11_reignOnce_0 rfl (lv_at hl 0 rfl) ?_
  refine gfX11_54 hx hb hts hown hK hP 28 rfl rfl dX11_reignOnce_1 ?_
  obtain ⟨r4, hg4, hf⟩ := ob1_some hf
  refine mcV_i (wr := [(qd0, .inr (2, [.int d_n, .ref qd1, .ref qd2])), (qd1, .inl (cI, 8, .inl d_for)), (qd2, .inl (cI, 8, .inl d_road)), (qf2, .inl (cI, 6, .inl f_fears)), (qr0, .inr (6, [.ref qd0, .ref qf0, .ref qz0, .ref qn0, .int r_tx, .int r_rul])), (qt0, .inr (9, [.int t_cl, .int t_ln, .int t_pt, .ref qt1, .ref qt2, .ref qt3, .ref qt4])), (qt1, .inl (cI, 301, .inl t_code)), (qt2, .inl (cI, 4, .inl t_st)), (qt3, .inl (cI, 4, .inl t_en)), (qu0, .inr (9, [.int u_cl, .int u_ln, .int u_pt, .ref qu1, .ref qu2, .ref qu3, .ref qu4])), (qu1, .inl (cI, 301, .inl u_code)), (qu2, .inl (cI, 4, .inl u_st)), (qu3, .inl (cI, 4, .inl u_en)), (qw0, .inr (9, [.int w_cl, .int w_ln, .int w_pt, .ref qw1, .ref qw2, .ref qw3, .ref qw4])), (qw1, .inl (cI, 301, .inl w_code)), (qw2, .inl (cI, 4, .inl w_st)), (qw3, .inl (cI, 4, .inl w_en)), (qx0, .inr (9, [.int x_cl, .int x_ln, .int x_pt, .ref qx1, .ref qx2, .ref qx3, .ref qx4])), (qx1, .inl (cI, 301, .inl x_code)), (qx2, .inl (cI, 4, .inl x_st)), (qx3, .inl (cI, 4, .inl x_en)), (qT, .inl (cT, 4, .inr (.inr (.inr (.inr (fT qt0 qu0 qw0 qx0)))))), (qL1, .inl (cI, 10, .inl l_names)), (qL2, .inl (cI, 64, .inl l_stack)), (qL0, .inr (3, [.ref qr0, .ref qT, .ref qL1, .ref qL2])), (qD0, .inr (0, [.ref qr0, .ref qf0, .ref qL0])), (qX0, .inr (11, [.ref qr0, .ref qk0, .ref qT, .ref qb0, .ref qe0, .ref qL0, .ref qf0, .ref qd0, .ref qn0, .ref qz0, .ref qD0, .ref qh0, .ref qD1, .ref qv0]))]) (As := []) (rest := []) hx hb hml hown hts hK hP hD hS hA (k_X1_count l N D cI cJ cZ cB cT qf0 qf1 qf2 qf3 f_row r4 hg4) (kwX11_217 hts rfl rfl ⟨Nat.le_of_ble_eq_true rfl, Nat.le_of_ble_eq_true rfl⟩) [3, 4] [0, 1, 2, 5, 6, 7, 8, 9, 10, 11, 12, 13, 14, 15, 16, 17, 18, 19, 20, 21, 22, 23, 24, 25, 26, 27, 28] rfl rfl rfl (by decide) rfl 0 rfl rfl rfl rfl hl.1 rfl (Nat.le_of_ble_eq_true rfl) dX11_reignOnce_4 ⟨Nat.zero_le _, Nat.zero_le _⟩ (fun hB4 H locs hP hD hS => ?_)
  have hP := mP_sub (wc := (W_X_0t5_16_34t37_39t42_44t47_49t52_54_61t64_76 qd0 qd1 qd2 qf0 qf1 qf2 qr0 qt0 qt1 qt2 qt3 qu0 qu1 qu2 qu3 qw0 qw1 qw2 qw3 qx0 qx1 qx2 qx3 qT qL1 qL2 qL0 qD0 qX0 qf3 qz0 qn0 qt4 qu4 qw4 qx4 qk0 qb0 qe0 qh0 qD1 qv0 cI cJ cZ cB cT d_n d_for d_road f_row f_fears r_tx r_rul t_cl t_ln t_pt t_code t_st t_en u_cl u_ln u_pt u_code u_st u_en w_cl w_ln w_pt w_code w_st w_en x_cl x_ln x_pt x_code x_st x_en l_names l_stack)) hP [0, 1, 2, 27, 28, 3, 4, 5, 6, 7, 8, 9, 10, 11, 12, 13, 14, 15, 16, 17, 18, 19, 20, 21, 22, 23, 24, 25, 26] rfl
  have hD := hD.sub (ws' := (W_X_0t5_16_34t37_39t42_44t47_49t52_54_61t64_76 qd0 qd1 qd2 qf0 qf1 qf2 qr0 qt0 qt1 qt2 qt3 qu0 qu1 qu2 qu3 qw0 qw1 qw2 qw3 qx0 qx1 qx2 qx3 qT qL1 qL2 qL0 qD0 qX0 qf3 qz0 qn0 qt4 qu4 qw4 qx4 qk0 qb0 qe0 qh0 qD1 qv0 cI cJ cZ cB cT d_n d_for d_road f_row f_fears r_tx r_rul t_cl t_ln t_pt t_code t_st t_en u_cl u_ln u_pt u_code u_st u_en w_cl w_ln w_pt w_code w_st w_en x_cl x_ln x_pt x_code x_st x_en l_names l_stack)) [0, 1, 2, 27, 28, 3, 4, 5, 6, 7, 8, 9, 10, 11, 12, 13, 14, 15, 16, 17, 18, 19, 20, 21, 22, 23, 24, 25, 26] rfl rfl
  refine lv_istore_n (lv' := [(1, .int r4), (0, .ref qX0)]) hx hb dX11_reignOnce_7 rfl hl (by decide) rfl (fun ls hl => ?_)
  refine lv_iload_n hx hb dX11_reignOnce_8 rfl (lv_at hl 0 rfl) ?_
  refine xif_le hx hb 22 dX11_reignOnce_9 (by decide) hf (fun hf => ?_) (fun hf => ?_)
  · cases hf
    exact mret_v hx hb hr hlocks hP hD hS dX11_reignOnce_22
  · refine lv_aload_n hx hb dX11_reignOnce_12 rfl (lv_at hl 1 rfl) ?_
    refine gfX11_59 hx hb hts hown hK hP 28 rfl rfl dX11_reignOnce_13 ?_
    refine gfX11_220 hx hb hts hown hK hP 0 rfl rfl dX11_reignOnce_16 ?_
    refine xif_gt hx hb 23 dX11_reignOnce_19 (by decide) hf (fun hf => ?_) (fun hf => ?_)
    · refine lv_aload_n hx hb dX11_reignOnce_23 rfl (lv_at hl 1 rfl) ?_
      refine gfX11_54 hx hb hts hown hK hP 28 rfl rfl dX11_reignOnce_24 ?_
      obtain ⟨r27, hg27, hf⟩ := ob1_some hf
      refine mcV_i (wr := [(qd0, .inr (2, [.int d_n, .ref qd1, .ref qd2])), (qd1, .inl (cI, 8, .inl d_for)), (qd2, .inl (cI, 8, .inl d_road)), (qf2, .inl (cI, 6, .inl f_fears)), (qr0, .inr (6, [.ref qd0, .ref qf0, .ref qz0, .ref qn0, .int r_tx, .int r_rul])), (qt0, .inr (9, [.int t_cl, .int t_ln, .int t_pt, .ref qt1, .ref qt2, .ref qt3, .ref qt4])), (qt1, .inl (cI, 301, .inl t_code)), (qt2, .inl (cI, 4, .inl t_st)), (qt3, .inl (cI, 4, .inl t_en)), (qu0, .inr (9, [.int u_cl, .int u_ln, .int u_pt, .ref qu1, .ref qu2, .ref qu3, .ref qu4])), (qu1, .inl (cI, 301, .inl u_code)), (qu2, .inl (cI, 4, .inl u_st)), (qu3, .inl (cI, 4, .inl u_en)), (qw0, .inr (9, [.int w_cl, .int w_ln, .int w_pt, .ref qw1, .ref qw2, .ref qw3, .ref qw4])), (qw1, .inl (cI, 301, .inl w_code)), (qw2, .inl (cI, 4, .inl w_st)), (qw3, .inl (cI, 4, .inl w_en)), (qx0, .inr (9, [.int x_cl, .int x_ln, .int x_pt, .ref qx1, .ref qx2, .ref qx3, .ref qx4])), (qx1, .inl (cI, 301, .inl x_code)), (qx2, .inl (cI, 4, .inl x_st)), (qx3, .inl (cI, 4, .inl x_en)), (qT, .inl (cT, 4, .inr (.inr (.inr (.inr (fT qt0 qu0 qw0 qx0)))))), (qL1, .inl (cI, 10, .inl l_names)), (qL2, .inl (cI, 64, .inl l_stack)), (qL0, .inr (3, [.ref qr0, .ref qT, .ref qL1, .ref qL2])), (qD0, .inr (0, [.ref qr0, .ref qf0, .ref qL0])), (qX0, .inr (11, [.ref qr0, .ref qk0, .ref qT, .ref qb0, .ref qe0, .ref qL0, .ref qf0, .ref qd0, .ref qn0, .ref qz0, .ref qD0, .ref qh0, .ref qD1, .ref qv0]))]) (As := []) (rest := []) hx hb hml hown hts hK hP hD hS hA (k_X1_x l N D cI cJ cZ cB cT qf0 qf1 qf2 qf3 f_row r27 hg27) (kwX11_228 hts rfl rfl ⟨Nat.le_of_ble_eq_true rfl, Nat.le_of_ble_eq_true rfl⟩) [3, 4] [0, 1, 2, 5, 6, 7, 8, 9, 10, 11, 12, 13, 14, 15, 16, 17, 18, 19, 20, 21, 22, 23, 24, 25, 26, 27, 28] rfl rfl rfl (by decide) rfl 0 rfl rfl rfl rfl hl.1 rfl (Nat.le_of_ble_eq_true rfl) dX11_reignOnce_27 ⟨Nat.zero_le _, Nat.zero_le _⟩ (fun hB27 H locs hP hD hS => ?_)
      have hP := mP_sub (wc := (W_X_0t5_16_34t37_39t42_44t47_49t52_54_61t64_76 qd0 qd1 qd2 qf0 qf1 qf2 qr0 qt0 qt1 qt2 qt3 qu0 qu1 qu2 qu3 qw0 qw1 qw2 qw3 qx0 qx1 qx2 qx3 qT qL1 qL2 qL0 qD0 qX0 qf3 qz0 qn0 qt4 qu4 qw4 qx4 qk0 qb0 qe0 qh0 qD1 qv0 cI cJ cZ cB cT d_n d_for d_road f_row f_fears r_tx r_rul t_cl t_ln t_pt t_code t_st t_en u_cl u_ln u_pt u_code u_st u_en w_cl w_ln w_pt w_code w_st w_en x_cl x_ln x_pt x_code x_st x_en l_names l_stack)) hP [0, 1, 2, 27, 28, 3, 4, 5, 6, 7, 8, 9, 10, 11, 12, 13, 14, 15, 16, 17, 18, 19, 20, 21, 22, 23, 24, 25, 26] rfl
      have hD := hD.sub (ws' := (W_X_0t5_16_34t37_39t42_44t47_49t52_54_61t64_76 qd0 qd1 qd2 qf0 qf1 qf2 qr0 qt0 qt1 qt2 qt3 qu0 qu1 qu2 qu3 qw0 qw1 qw2 qw3 qx0 qx1 qx2 qx3 qT qL1 qL2 qL0 qD0 qX0 qf3 qz0 qn0 qt4 qu4 qw4 qx4 qk0 qb0 qe0 qh0 qD1 qv0 cI cJ cZ cB cT d_n d_for d_road f_row f_fears r_tx r_rul t_cl t_ln t_pt t_code t_st t_en u_cl u_ln u_pt u_code u_st u_en w_cl w_ln w_pt w_code w_st w_en x_cl x_ln x_pt x_code x_st x_en l_names l_stack)) [0, 1, 2, 27, 28, 3, 4, 5, 6, 7, 8, 9, 10, 11, 12, 13, 14, 15, 16, 17, 18, 19, 20, 21, 22, 23, 24, 25, 26] rfl rfl
      refine lv_istore_n (lv' := [(2, .int r27), (1, .int r4), (0, .ref qX0)]) hx hb dX11_reignOnce_30 rfl hl (by decide) rfl (fun ls hl => ?_)
      refine lv_aload_n hx hb dX11_reignOnce_31 rfl (lv_at hl 2 rfl) ?_
      refine gfX11_54 hx hb hts hown hK hP 28 rfl rfl dX11_reignOnce_32 ?_
      obtain ⟨f_row_35, hg35, hf⟩ := ob1_some hf
      refine mcV_v (wr := [(qd0, .inr (2, [.int d_n, .ref qd1, .ref qd2])), (qd1, .inl (cI, 8, .inl d_for)), (qd2, .inl (cI, 8, .inl d_road)), (qf2, .inl (cI, 6, .inl f_fears)), (qr0, .inr (6, [.ref qd0, .ref qf0, .ref qz0, .ref qn0, .int r_tx, .int r_rul])), (qt0, .inr (9, [.int t_cl, .int t_ln, .int t_pt, .ref qt1, .ref qt2, .ref qt3, .ref qt4])), (qt1, .inl (cI, 301, .inl t_code)), (qt2, .inl (cI, 4, .inl t_st)), (qt3, .inl (cI, 4, .inl t_en)), (qu0, .inr (9, [.int u_cl, .int u_ln, .int u_pt, .ref qu1, .ref qu2, .ref qu3, .ref qu4])), (qu1, .inl (cI, 301, .inl u_code)), (qu2, .inl (cI, 4, .inl u_st)), (qu3, .inl (cI, 4, .inl u_en)), (qw0, .inr (9, [.int w_cl, .int w_ln, .int w_pt, .ref qw1, .ref qw2, .ref qw3, .ref qw4])), (qw1, .inl (cI, 301, .inl w_code)), (qw2, .inl (cI, 4, .inl w_st)), (qw3, .inl (cI, 4, .inl w_en)), (qx0, .inr (9, [.int x_cl, .int x_ln, .int x_pt, .ref qx1, .ref qx2, .ref qx3, .ref qx4])), (qx1, .inl (cI, 301, .inl x_code)), (qx2, .inl (cI, 4, .inl x_st)), (qx3, .inl (cI, 4, .inl x_en)), (qT, .inl (cT, 4, .inr (.inr (.inr (.inr (fT qt0 qu0 qw0 qx0)))))), (qL1, .inl (cI, 10, .inl l_names)), (qL2, .inl (cI, 64, .inl l_stack)), (qL0, .inr (3, [.ref qr0, .ref qT, .ref qL1, .ref qL2])), (qD0, .inr (0, [.ref qr0, .ref qf0, .ref qL0])), (qX0, .inr (11, [.ref qr0, .ref qk0, .ref qT, .ref qb0, .ref qe0, .ref qL0, .ref qf0, .ref qd0, .ref qn0, .ref qz0, .ref qD0, .ref qh0, .ref qD1, .ref qv0]))]) (As := []) (rest := []) hx hb hml hown hts hK hP hD hS hA (k_X1_stir l N D cI cJ cZ cB cT qf0 qf1 qf2 qf3 f_row f_row_35 hg35) (kwX11_231 hts rfl rfl ⟨Nat.le_of_ble_eq_true rfl, Nat.le_of_ble_eq_true rfl⟩) [3, 4] [0, 1, 2, 5, 6, 7, 8, 9, 10, 11, 12, 13, 14, 15, 16, 17, 18, 19, 20, 21, 22, 23, 24, 25, 26, 27, 28] rfl rfl rfl (by decide) rfl 0 rfl rfl rfl rfl hl.1 rfl (Nat.le_of_ble_eq_true rfl) dX11_reignOnce_35 ⟨Nat.zero_le _, Nat.zero_le _⟩ (fun H locs hP hD hS => ?_)
      have hP := mP_sub (wc := (W_X_0t5_16_34t37_39t42_44t47_49t52_54_61t64_76 qd0 qd1 qd2 qf0 qf1 qf2 qr0 qt0 qt1 qt2 qt3 qu0 qu1 qu2 qu3 qw0 qw1 qw2 qw3 qx0 qx1 qx2 qx3 qT qL1 qL2 qL0 qD0 qX0 qf3 qz0 qn0 qt4 qu4 qw4 qx4 qk0 qb0 qe0 qh0 qD1 qv0 cI cJ cZ cB cT d_n d_for d_road f_row_35 f_fears r_tx r_rul t_cl t_ln t_pt t_code t_st t_en u_cl u_ln u_pt u_code u_st u_en w_cl w_ln w_pt w_code w_st w_en x_cl x_ln x_pt x_code x_st x_en l_names l_stack)) hP [0, 1, 2, 27, 28, 3, 4, 5, 6, 7, 8, 9, 10, 11, 12, 13, 14, 15, 16, 17, 18, 19, 20, 21, 22, 23, 24, 25, 26] rfl
      have hD := hD.sub (ws' := (W_X_0t5_16_34t37_39t42_44t47_49t52_54_61t64_76 qd0 qd1 qd2 qf0 qf1 qf2 qr0 qt0 qt1 qt2 qt3 qu0 qu1 qu2 qu3 qw0 qw1 qw2 qw3 qx0 qx1 qx2 qx3 qT qL1 qL2 qL0 qD0 qX0 qf3 qz0 qn0 qt4 qu4 qw4 qx4 qk0 qb0 qe0 qh0 qD1 qv0 cI cJ cZ cB cT d_n d_for d_road f_row_35 f_fears r_tx r_rul t_cl t_ln t_pt t_code t_st t_en u_cl u_ln u_pt u_code u_st u_en w_cl w_ln w_pt w_code w_st w_en x_cl x_ln x_pt x_code x_st x_en l_names l_stack)) [0, 1, 2, 27, 28, 3, 4, 5, 6, 7, 8, 9, 10, 11, 12, 13, 14, 15, 16, 17, 18, 19, 20, 21, 22, 23, 24, 25, 26] rfl rfl
      refine lv_iload_n hx hb dX11_reignOnce_38 rfl (lv_at hl 0 rfl) ?_
      refine lv_iload_n hx hb dX11_reignOnce_39 rfl (lv_at hl 1 rfl) ?_
      refine xirem hx hb dX11_reignOnce_40 hf (fun v40 hf => ?_)
      refine lv_istore_n (lv' := [(3, .int v40), (2, .int r27), (1, .int r4), (0, .ref qX0)]) hx hb dX11_reignOnce_41 rfl hl (by decide) rfl (fun ls hl => ?_)
      refine lv_iload_n hx hb dX11_reignOnce_42 rfl (lv_at hl 1 rfl) ?_
      refine lv_bipush (v := (7 : Int32)) hx hb dX11_reignOnce_43 (by decide) ?_
      refine xidiv hx hb dX11_reignOnce_45 hf (fun v45 hf => ?_)
      refine lv_aload_n hx hb dX11_reignOnce_46 rfl (lv_at hl 3 rfl) ?_
      refine gfX11_59 hx hb hts hown hK hP 28 rfl rfl dX11_reignOnce_47 ?_
      refine gfX11_220 hx hb hts hown hK hP 0 rfl rfl dX11_reignOnce_50 ?_
      refine xirem hx hb dX11_reignOnce_53 hf (fun v53 hf => ?_)
      refine lv_istore (lv' := [(4, .int v53), (3, .int v40), (2, .int r27), (1, .int r4), (0, .ref qX0)]) hx hb dX11_reignOnce_54 hl (by decide) rfl (fun ls hl => ?_)
      refine lv_iload_n hx hb dX11_reignOnce_56 rfl (lv_at hl 2 rfl) ?_
      refine lv_iconst (v := (5 : Int32)) hx hb dX11_reignOnce_57 (by decide) ?_
      refine xidiv hx hb dX11_reignOnce_58 hf (fun v58 hf => ?_)
      refine lv_iload_n hx hb dX11_reignOnce_59 rfl (lv_at hl 3 rfl) ?_
      refine xirem hx hb dX11_reignOnce_60 hf (fun v60 hf => ?_)
      refine lv_istore (lv' := [(5, .int v60), (4, .int v53), (3, .int v40), (2, .int r27), (1, .int r4), (0, .ref qX0)]) hx hb dX11_reignOnce_61 hl (by decide) rfl (fun ls hl => ?_)
      refine lv_iload_n hx hb dX11_reignOnce_63 rfl (lv_at hl 3 rfl) ?_
      refine lv_bipush (v := (7 : Int32)) hx hb dX11_reignOnce_64 (by decide) ?_
      refine xirem hx hb dX11_reignOnce_66 hf (fun v66 hf => ?_)
      by_cases e67_2 : v66 = (2 : Int32)
      · replace hf := (if_pos e67_2).symm.trans hf
        refine lv_tableIn (off := 33) (tgt := 100) hx hb dX11_reignOnce_67 (by rw [e67_2]; decide) (by rw [e67_2]; decide) (by rw [e67_2]; rfl) (by decide) ?_
        refine lv_aload_n hx hb dX11_reignOnce_100 rfl (lv_at hl 5 rfl) ?_
        refine gfX11_75 hx hb hts hown hK hP 28 rfl rfl dX11_reignOnce_101 ?_
        refine lv_iload_n hx hb dX11_reignOnce_104 rfl (lv_at hl 2 rfl) ?_
        refine lv_iload hx hb dX11_reignOnce_105 (lv_at hl 1 rfl) ?_
        obtain ⟨r107, f_row_107, hg107, hf⟩ := ob2_some hf
        refine mcV_i (wr := [(qd1, .inl (cI, 8, .inl d_for)), (qf2, .inl (cI, 6, .inl f_fears)), (qt0, .inr (9, [.int t_cl, .int t_ln, .int t_pt, .ref qt1, .ref qt2, .ref qt3, .ref qt4])), (qt1, .inl (cI, 301, .inl t_code)), (qt2, .inl (cI, 4, .inl t_st)), (qt3, .inl (cI, 4, .inl t_en)), (qu0, .inr (9, [.int u_cl, .int u_ln, .int u_pt, .ref qu1, .ref qu2, .ref qu3, .ref qu4])), (qu1, .inl (cI, 301, .inl u_code)), (qu2, .inl (cI, 4, .inl u_st)), (qu3, .inl (cI, 4, .inl u_en)), (qw0, .inr (9, [.int w_cl, .int w_ln, .int w_pt, .ref qw1, .ref qw2, .ref qw3, .ref qw4])), (qw1, .inl (cI, 301, .inl w_code)), (qw2, .inl (cI, 4, .inl w_st)), (qw3, .inl (cI, 4, .inl w_en)), (qx0, .inr (9, [.int x_cl, .int x_ln, .int x_pt, .ref qx1, .ref qx2, .ref qx3, .ref qx4])), (qx1, .inl (cI, 301, .inl x_code)), (qx2, .inl (cI, 4, .inl x_st)), (qx3, .inl (cI, 4, .inl x_en)), (qT, .inl (cT, 4, .inr (.inr (.inr (.inr (fT qt0 qu0 qw0 qx0)))))), (qL1, .inl (cI, 10, .inl l_names)), (qL2, .inl (cI, 64, .inl l_stack)), (qL0, .inr (3, [.ref qr0, .ref qT, .ref qL1, .ref qL2])), (qX0, .inr (11, [.ref qr0, .ref qk0, .ref qT, .ref qb0, .ref qe0, .ref qL0, .ref qf0, .ref qd0, .ref qn0, .ref qz0, .ref qD0, .ref qh0, .ref qD1, .ref qv0]))]) (As := [.int v40, .int v53]) (rest := []) hx hb hml hown hts hK hP hD hS hA (k_X0_travel l N D cI cJ cZ cB cT qd0 qd2 qf0 qf1 qr0 qD0 qd1 qf2 qf3 qf0 qz0 qn0 qL0 d_n d_road f_row_35 r_tx r_rul v40 v53 r107 f_row_107 hg107) (kwX11_156 hts rfl rfl ⟨Nat.le_of_ble_eq_true rfl, Nat.le_of_ble_eq_true rfl⟩) [0, 2, 3, 4, 6, 27] [1, 5, 7, 8, 9, 10, 11, 12, 13, 14, 15, 16, 17, 18, 19, 20, 21, 22, 23, 24, 25, 26, 28] rfl rfl rfl (by decide) rfl 5 rfl rfl rfl rfl hl.1 rfl (Nat.le_of_ble_eq_true rfl) dX11_reignOnce_107 ⟨Nat.zero_le _, Nat.zero_le _⟩ (fun hB107 H locs hP hD hS => ?_)
        have hP := mP_sub (wc := (W_X_0t5_16_34t37_39t42_44t47_49t52_54_61t64_76 qd0 qd1 qd2 qf0 qf1 qf2 qr0 qt0 qt1 qt2 qt3 qu0 qu1 qu2 qu3 qw0 qw1 qw2 qw3 qx0 qx1 qx2 qx3 qT qL1 qL2 qL0 qD0 qX0 qf3 qz0 qn0 qt4 qu4 qw4 qx4 qk0 qb0 qe0 qh0 qD1 qv0 cI cJ cZ cB cT d_n d_for d_road f_row_107 f_fears r_tx r_rul t_cl t_ln t_pt t_code t_st t_en u_cl u_ln u_pt u_code u_st u_en w_cl w_ln w_pt w_code w_st w_en x_cl x_ln x_pt x_code x_st x_en l_names l_stack)) hP [23, 0, 24, 25, 26, 1, 27, 2, 3, 4, 5, 6, 7, 8, 9, 10, 11, 12, 13, 14, 15, 16, 17, 18, 19, 20, 21, 28, 22] rfl
        have hD := hD.sub (ws' := (W_X_0t5_16_34t37_39t42_44t47_49t52_54_61t64_76 qd0 qd1 qd2 qf0 qf1 qf2 qr0 qt0 qt1 qt2 qt3 qu0 qu1 qu2 qu3 qw0 qw1 qw2 qw3 qx0 qx1 qx2 qx3 qT qL1 qL2 qL0 qD0 qX0 qf3 qz0 qn0 qt4 qu4 qw4 qx4 qk0 qb0 qe0 qh0 qD1 qv0 cI cJ cZ cB cT d_n d_for d_road f_row_107 f_fears r_tx r_rul t_cl t_ln t_pt t_code t_st t_en u_cl u_ln u_pt u_code u_st u_en w_cl w_ln w_pt w_code w_st w_en x_cl x_ln x_pt x_code x_st x_en l_names l_stack)) [23, 0, 24, 25, 26, 1, 27, 2, 3, 4, 5, 6, 7, 8, 9, 10, 11, 12, 13, 14, 15, 16, 17, 18, 19, 20, 21, 28, 22] rfl rfl
        refine lv_pop hx hb dX11_reignOnce_110 rfl ?_
        refine lv_goto (tgt := 184) hx hb dX11_reignOnce_111 (by decide) ?_
        cases hf
        exact mret_v hx hb hr hlocks hP hD hS dX11_reignOnce_184
      replace hf := (if_neg e67_2).symm.trans hf
      by_cases e67_3 : v66 = (3 : Int32)
      · replace hf := (if_pos e67_3).symm.trans hf
        refine lv_tableIn (off := 47) (tgt := 114) hx hb dX11_reignOnce_67 (by rw [e67_3]; decide) (by rw [e67_3]; decide) (by rw [e67_3]; rfl) (by decide) ?_
        refine lv_aload_n hx hb dX11_reignOnce_114 rfl (lv_at hl 5 rfl) ?_
        refine gfX11_75 hx hb hts hown hK hP 28 rfl rfl dX11_reignOnce_115 ?_
        refine lv_iload_n hx hb dX11_reignOnce_118 rfl (lv_at hl 2 rfl) ?_
        refine lv_iload hx hb dX11_reignOnce_119 (lv_at hl 0 rfl) ?_
        obtain ⟨r121, f_row_121, l_names_121, l_stack_121, hg121, hf⟩ := ob4_some hf
        refine mcVE_i (wr := [(qd2, .inl (cI, 8, .inl d_road)), (qX0, .inr (11, [.ref qr0, .ref qk0, .ref qT, .ref qb0, .ref qe0, .ref qL0, .ref qf0, .ref qd0, .ref qn0, .ref qz0, .ref qD0, .ref qh0, .ref qD1, .ref qv0]))]) (As := [.int v40, .int v60]) (rest := []) hx hb hml hown hts hK hP hD hS hA hE (k_X0_nourish l N D cI cJ cZ cB cT qd0 qd1 qt0 qt1 qt2 qt3 qu0 qu1 qu2 qu3 qw0 qw1 qw2 qw3 qx0 qx1 qx2 qx3 qT qf0 qf1 qf2 qr0 qL1 qL2 qL0 qD0 qd2 qt4 qu4 qw4 qx4 qf3 qf0 qz0 qn0 d_n d_for t_cl t_ln t_pt t_code t_st t_en u_cl u_ln u_pt u_code u_st u_en w_cl w_ln w_pt w_code w_st w_en x_cl x_ln x_pt x_code x_st x_en f_row_35 f_fears r_tx r_rul l_names l_stack v40 v60 r121 f_row_121 l_names_121 l_stack_121 hg121) (kwX11_159 hts rfl rfl ⟨Nat.le_of_ble_eq_true rfl, Nat.le_of_ble_eq_true rfl⟩) [0, 1, 7, 8, 9, 10, 11, 12, 13, 14, 15, 16, 17, 18, 19, 20, 21, 22, 23, 3, 4, 5, 6, 24, 25, 26, 27] [2, 28] rfl rfl rfl (by decide) rfl 26 rfl rfl rfl rfl hl.1 rfl (Nat.le_of_ble_eq_true rfl) dX11_reignOnce_121 ⟨Nat.zero_le _, Nat.zero_le _⟩ (fun hB121 H locs hP hD hS => ?_)
        have hP := mP_sub (wc := (W_X_0t5_16_34t37_39t42_44t47_49t52_54_61t64_76 qd0 qd1 qd2 qf0 qf1 qf2 qr0 qt0 qt1 qt2 qt3 qu0 qu1 qu2 qu3 qw0 qw1 qw2 qw3 qx0 qx1 qx2 qx3 qT qL1 qL2 qL0 qD0 qX0 qf3 qz0 qn0 qt4 qu4 qw4 qx4 qk0 qb0 qe0 qh0 qD1 qv0 cI cJ cZ cB cT d_n d_for d_road f_row_121 f_fears r_tx r_rul t_cl t_ln t_pt t_code t_st t_en u_cl u_ln u_pt u_code u_st u_en w_cl w_ln w_pt w_code w_st w_en x_cl x_ln x_pt x_code x_st x_en l_names_121 l_stack_121)) hP [2, 3, 0, 21, 22, 23, 24, 4, 5, 6, 7, 8, 9, 10, 11, 12, 13, 14, 15, 16, 17, 18, 19, 20, 25, 26, 27, 28, 1] rfl
        have hD := hD.sub (ws' := (W_X_0t5_16_34t37_39t42_44t47_49t52_54_61t64_76 qd0 qd1 qd2 qf0 qf1 qf2 qr0 qt0 qt1 qt2 qt3 qu0 qu1 qu2 qu3 qw0 qw1 qw2 qw3 qx0 qx1 qx2 qx3 qT qL1 qL2 qL0 qD0 qX0 qf3 qz0 qn0 qt4 qu4 qw4 qx4 qk0 qb0 qe0 qh0 qD1 qv0 cI cJ cZ cB cT d_n d_for d_road f_row_121 f_fears r_tx r_rul t_cl t_ln t_pt t_code t_st t_en u_cl u_ln u_pt u_code u_st u_en w_cl w_ln w_pt w_code w_st w_en x_cl x_ln x_pt x_code x_st x_en l_names_121 l_stack_121)) [2, 3, 0, 21, 22, 23, 24, 4, 5, 6, 7, 8, 9, 10, 11, 12, 13, 14, 15, 16, 17, 18, 19, 20, 25, 26, 27, 28, 1] rfl rfl
        refine lv_pop hx hb dX11_reignOnce_124 rfl ?_
        refine lv_goto (tgt := 184) hx hb dX11_reignOnce_125 (by decide) ?_
        cases hf
        exact mret_v hx hb hr hlocks hP hD hS dX11_reignOnce_184
      replace hf := (if_neg e67_3).symm.trans hf
      by_cases e67_4 : v66 = (4 : Int32)
      · replace hf := (if_pos e67_4).symm.trans hf
        refine lv_tableIn (off := 61) (tgt := 128) hx hb dX11_reignOnce_67 (by rw [e67_4]; decide) (by rw [e67_4]; decide) (by rw [e67_4]; rfl) (by decide) ?_
        refine lv_iload_n hx hb dX11_reignOnce_128 rfl (lv_at hl 3 rfl) ?_
        refine lv_iconst (v := (4 : Int32)) hx hb dX11_reignOnce_129 (by decide) ?_
        refine xirem hx hb dX11_reignOnce_130 hf (fun v130 hf => ?_)
        refine xif_ne hx hb 184 dX11_reignOnce_131 (by decide) hf (fun hf => ?_) (fun hf => ?_)
        · refine lv_aload_n hx hb dX11_reignOnce_134 rfl (lv_at hl 5 rfl) ?_
          refine gfX11_75 hx hb hts hown hK hP 28 rfl rfl dX11_reignOnce_135 ?_
          refine lv_iload_n hx hb dX11_reignOnce_138 rfl (lv_at hl 2 rfl) ?_
          refine lv_iload hx hb dX11_reignOnce_139 (lv_at hl 0 rfl) ?_
          obtain ⟨r141, f_row_141, hg141, hf⟩ := ob2_some hf
          refine mcV_i (wr := [(qd0, .inr (2, [.int d_n, .ref qd1, .ref qd2])), (qd1, .inl (cI, 8, .inl d_for)), (qd2, .inl (cI, 8, .inl d_road)), (qf2, .inl (cI, 6, .inl f_fears)), (qr0, .inr (6, [.ref qd0, .ref qf0, .ref qz0, .ref qn0, .int r_tx, .int r_rul])), (qt0, .inr (9, [.int t_cl, .int t_ln, .int t_pt, .ref qt1, .ref qt2, .ref qt3, .ref qt4])), (qt1, .inl (cI, 301, .inl t_code)), (qt2, .inl (cI, 4, .inl t_st)), (qt3, .inl (cI, 4, .inl t_en)), (qu0, .inr (9, [.int u_cl, .int u_ln, .int u_pt, .ref qu1, .ref qu2, .ref qu3, .ref qu4])), (qu1, .inl (cI, 301, .inl u_code)), (qu2, .inl (cI, 4, .inl u_st)), (qu3, .inl (cI, 4, .inl u_en)), (qw0, .inr (9, [.int w_cl, .int w_ln, .int w_pt, .ref qw1, .ref qw2, .ref qw3, .ref qw4])), (qw1, .inl (cI, 301, .inl w_code)), (qw2, .inl (cI, 4, .inl w_st)), (qw3, .inl (cI, 4, .inl w_en)), (qx0, .inr (9, [.int x_cl, .int x_ln, .int x_pt, .ref qx1, .ref qx2, .ref qx3, .ref qx4])), (qx1, .inl (cI, 301, .inl x_code)), (qx2, .inl (cI, 4, .inl x_st)), (qx3, .inl (cI, 4, .inl x_en)), (qT, .inl (cT, 4, .inr (.inr (.inr (.inr (fT qt0 qu0 qw0 qx0)))))), (qL1, .inl (cI, 10, .inl l_names)), (qL2, .inl (cI, 64, .inl l_stack)), (qL0, .inr (3, [.ref qr0, .ref qT, .ref qL1, .ref qL2])), (qX0, .inr (11, [.ref qr0, .ref qk0, .ref qT, .ref qb0, .ref qe0, .ref qL0, .ref qf0, .ref qd0, .ref qn0, .ref qz0, .ref qD0, .ref qh0, .ref qD1, .ref qv0]))]) (As := [.int v40, .int v60]) (rest := []) hx hb hml hown hts hK hP hD hS hA (k_X0_slay l N D cI cJ cZ cB cT qf0 qf1 qD0 qf2 qf3 qr0 qL0 f_row_35 v40 v60 r141 f_row_141 hg141) (kwX11_162 hts rfl rfl ⟨Nat.le_of_ble_eq_true rfl, Nat.le_of_ble_eq_true rfl⟩) [3, 4, 27] [0, 1, 2, 5, 6, 7, 8, 9, 10, 11, 12, 13, 14, 15, 16, 17, 18, 19, 20, 21, 22, 23, 24, 25, 26, 28] rfl rfl rfl (by decide) rfl 2 rfl rfl rfl rfl hl.1 rfl (Nat.le_of_ble_eq_true rfl) dX11_reignOnce_141 ⟨Nat.zero_le _, Nat.zero_le _⟩ (fun hB141 H locs hP hD hS => ?_)
          have hP := mP_sub (wc := (W_X_0t5_16_34t37_39t42_44t47_49t52_54_61t64_76 qd0 qd1 qd2 qf0 qf1 qf2 qr0 qt0 qt1 qt2 qt3 qu0 qu1 qu2 qu3 qw0 qw1 qw2 qw3 qx0 qx1 qx2 qx3 qT qL1 qL2 qL0 qD0 qX0 qf3 qz0 qn0 qt4 qu4 qw4 qx4 qk0 qb0 qe0 qh0 qD1 qv0 cI cJ cZ cB cT d_n d_for d_road f_row_141 f_fears r_tx r_rul t_cl t_ln t_pt t_code t_st t_en u_cl u_ln u_pt u_code u_st u_en w_cl w_ln w_pt w_code w_st w_en x_cl x_ln x_pt x_code x_st x_en l_names l_stack)) hP [0, 1, 2, 26, 27, 3, 4, 5, 6, 7, 8, 9, 10, 11, 12, 13, 14, 15, 16, 17, 18, 19, 20, 21, 22, 23, 24, 28, 25] rfl
          have hD := hD.sub (ws' := (W_X_0t5_16_34t37_39t42_44t47_49t52_54_61t64_76 qd0 qd1 qd2 qf0 qf1 qf2 qr0 qt0 qt1 qt2 qt3 qu0 qu1 qu2 qu3 qw0 qw1 qw2 qw3 qx0 qx1 qx2 qx3 qT qL1 qL2 qL0 qD0 qX0 qf3 qz0 qn0 qt4 qu4 qw4 qx4 qk0 qb0 qe0 qh0 qD1 qv0 cI cJ cZ cB cT d_n d_for d_road f_row_141 f_fears r_tx r_rul t_cl t_ln t_pt t_code t_st t_en u_cl u_ln u_pt u_code u_st u_en w_cl w_ln w_pt w_code w_st w_en x_cl x_ln x_pt x_code x_st x_en l_names l_stack)) [0, 1, 2, 26, 27, 3, 4, 5, 6, 7, 8, 9, 10, 11, 12, 13, 14, 15, 16, 17, 18, 19, 20, 21, 22, 23, 24, 28, 25] rfl rfl
          refine lv_pop hx hb dX11_reignOnce_144 rfl ?_
          refine lv_goto (tgt := 184) hx hb dX11_reignOnce_145 (by decide) ?_
          cases hf
          exact mret_v hx hb hr hlocks hP hD hS dX11_reignOnce_184
        · cases hf
          exact mret_v hx hb hr hlocks hP hD hS dX11_reignOnce_184
      replace hf := (if_neg e67_4).symm.trans hf
      by_cases e67_5 : v66 = (5 : Int32)
      · replace hf := (if_pos e67_5).symm.trans hf
        refine lv_tableIn (off := 81) (tgt := 148) hx hb dX11_reignOnce_67 (by rw [e67_5]; decide) (by rw [e67_5]; decide) (by rw [e67_5]; rfl) (by decide) ?_
        refine lv_aload_n hx hb dX11_reignOnce_148 rfl (lv_at hl 5 rfl) ?_
        refine gfX11_75 hx hb hts hown hK hP 28 rfl rfl dX11_reignOnce_149 ?_
        refine lv_iload_n hx hb dX11_reignOnce_152 rfl (lv_at hl 2 rfl) ?_
        refine lv_iload hx hb dX11_reignOnce_153 (lv_at hl 0 rfl) ?_
        obtain ⟨r155, f_row_155, l_names_155, l_stack_155, hg155, hf⟩ := ob4_some hf
        refine mcVE_i (wr := [(qd2, .inl (cI, 8, .inl d_road)), (qX0, .inr (11, [.ref qr0, .ref qk0, .ref qT, .ref qb0, .ref qe0, .ref qL0, .ref qf0, .ref qd0, .ref qn0, .ref qz0, .ref qD0, .ref qh0, .ref qD1, .ref qv0]))]) (As := [.int v40, .int v60]) (rest := []) hx hb hml hown hts hK hP hD hS hA hE (k_X0_forgive l N D cI cJ cZ cB cT qd0 qd1 qt0 qt1 qt2 qt3 qu0 qu1 qu2 qu3 qw0 qw1 qw2 qw3 qx0 qx1 qx2 qx3 qT qf0 qf1 qf2 qr0 qL1 qL2 qL0 qD0 qd2 qt4 qu4 qw4 qx4 qf3 qf0 qz0 qn0 d_n d_for t_cl t_ln t_pt t_code t_st t_en u_cl u_ln u_pt u_code u_st u_en w_cl w_ln w_pt w_code w_st w_en x_cl x_ln x_pt x_code x_st x_en f_row_35 f_fears r_tx r_rul l_names l_stack v40 v60 r155 f_row_155 l_names_155 l_stack_155 hg155) (kwX11_165 hts rfl rfl ⟨Nat.le_of_ble_eq_true rfl, Nat.le_of_ble_eq_true rfl⟩) [0, 1, 7, 8, 9, 10, 11, 12, 13, 14, 15, 16, 17, 18, 19, 20, 21, 22, 23, 3, 4, 5, 6, 24, 25, 26, 27] [2, 28] rfl rfl rfl (by decide) rfl 26 rfl rfl rfl rfl hl.1 rfl (Nat.le_of_ble_eq_true rfl) dX11_reignOnce_155 ⟨Nat.zero_le _, Nat.zero_le _⟩ (fun hB155 H locs hP hD hS => ?_)
        have hP := mP_sub (wc := (W_X_0t5_16_34t37_39t42_44t47_49t52_54_61t64_76 qd0 qd1 qd2 qf0 qf1 qf2 qr0 qt0 qt1 qt2 qt3 qu0 qu1 qu2 qu3 qw0 qw1 qw2 qw3 qx0 qx1 qx2 qx3 qT qL1 qL2 qL0 qD0 qX0 qf3 qz0 qn0 qt4 qu4 qw4 qx4 qk0 qb0 qe0 qh0 qD1 qv0 cI cJ cZ cB cT d_n d_for d_road f_row_155 f_fears r_tx r_rul t_cl t_ln t_pt t_code t_st t_en u_cl u_ln u_pt u_code u_st u_en w_cl w_ln w_pt w_code w_st w_en x_cl x_ln x_pt x_code x_st x_en l_names_155 l_stack_155)) hP [2, 3, 0, 21, 22, 23, 24, 4, 5, 6, 7, 8, 9, 10, 11, 12, 13, 14, 15, 16, 17, 18, 19, 20, 25, 26, 27, 28, 1] rfl
        have hD := hD.sub (ws' := (W_X_0t5_16_34t37_39t42_44t47_49t52_54_61t64_76 qd0 qd1 qd2 qf0 qf1 qf2 qr0 qt0 qt1 qt2 qt3 qu0 qu1 qu2 qu3 qw0 qw1 qw2 qw3 qx0 qx1 qx2 qx3 qT qL1 qL2 qL0 qD0 qX0 qf3 qz0 qn0 qt4 qu4 qw4 qx4 qk0 qb0 qe0 qh0 qD1 qv0 cI cJ cZ cB cT d_n d_for d_road f_row_155 f_fears r_tx r_rul t_cl t_ln t_pt t_code t_st t_en u_cl u_ln u_pt u_code u_st u_en w_cl w_ln w_pt w_code w_st w_en x_cl x_ln x_pt x_code x_st x_en l_names_155 l_stack_155)) [2, 3, 0, 21, 22, 23, 24, 4, 5, 6, 7, 8, 9, 10, 11, 12, 13, 14, 15, 16, 17, 18, 19, 20, 25, 26, 27, 28, 1] rfl rfl
        refine lv_pop hx hb dX11_reignOnce_158 rfl ?_
        refine lv_goto (tgt := 184) hx hb dX11_reignOnce_159 (by decide) ?_
        cases hf
        exact mret_v hx hb hr hlocks hP hD hS dX11_reignOnce_184
      replace hf := (if_neg e67_5).symm.trans hf
      by_cases e67_6 : v66 = (6 : Int32)
      · replace hf := (if_pos e67_6).symm.trans hf
        refine lv_tableIn (off := 95) (tgt := 162) hx hb dX11_reignOnce_67 (by rw [e67_6]; decide) (by rw [e67_6]; decide) (by rw [e67_6]; rfl) (by decide) ?_
        refine lv_aload_n hx hb dX11_reignOnce_162 rfl (lv_at hl 5 rfl) ?_
        refine gfX11_75 hx hb hts hown hK hP 28 rfl rfl dX11_reignOnce_163 ?_
        obtain ⟨r166, f_row_166, l_names_166, l_stack_166, hg166, hf⟩ := ob4_some hf
        refine mcVE_i (wr := [(qd2, .inl (cI, 8, .inl d_road)), (qX0, .inr (11, [.ref qr0, .ref qk0, .ref qT, .ref qb0, .ref qe0, .ref qL0, .ref qf0, .ref qd0, .ref qn0, .ref qz0, .ref qD0, .ref qh0, .ref qD1, .ref qv0]))]) (As := []) (rest := []) hx hb hml hown hts hK hP hD hS hA hE (k_X0_passMonth l N D cI cJ cZ cB cT qd0 qd1 qt0 qt1 qt2 qt3 qu0 qu1 qu2 qu3 qw0 qw1 qw2 qw3 qx0 qx1 qx2 qx3 qT qf0 qf1 qf2 qr0 qL1 qL2 qL0 qD0 qd2 qt4 qu4 qw4 qx4 qf3 qf0 qz0 qn0 d_n d_for t_cl t_ln t_pt t_code t_st t_en u_cl u_ln u_pt u_code u_st u_en w_cl w_ln w_pt w_code w_st w_en x_cl x_ln x_pt x_code x_st x_en f_row_35 f_fears r_tx r_rul l_names l_stack r166 f_row_166 l_names_166 l_stack_166 hg166) (kwX11_172 hts rfl rfl ⟨Nat.le_of_ble_eq_true rfl, Nat.le_of_ble_eq_true rfl⟩) [0, 1, 7, 8, 9, 10, 11, 12, 13, 14, 15, 16, 17, 18, 19, 20, 21, 22, 23, 3, 4, 5, 6, 24, 25, 26, 27] [2, 28] rfl rfl rfl (by decide) rfl 26 rfl rfl rfl rfl hl.1 rfl (Nat.le_of_ble_eq_true rfl) dX11_reignOnce_166 ⟨Nat.zero_le _, Nat.zero_le _⟩ (fun hB166 H locs hP hD hS => ?_)
        have hP := mP_sub (wc := (W_X_0t5_16_34t37_39t42_44t47_49t52_54_61t64_76 qd0 qd1 qd2 qf0 qf1 qf2 qr0 qt0 qt1 qt2 qt3 qu0 qu1 qu2 qu3 qw0 qw1 qw2 qw3 qx0 qx1 qx2 qx3 qT qL1 qL2 qL0 qD0 qX0 qf3 qz0 qn0 qt4 qu4 qw4 qx4 qk0 qb0 qe0 qh0 qD1 qv0 cI cJ cZ cB cT d_n d_for d_road f_row_166 f_fears r_tx r_rul t_cl t_ln t_pt t_code t_st t_en u_cl u_ln u_pt u_code u_st u_en w_cl w_ln w_pt w_code w_st w_en x_cl x_ln x_pt x_code x_st x_en l_names_166 l_stack_166)) hP [2, 3, 0, 21, 22, 23, 24, 4, 5, 6, 7, 8, 9, 10, 11, 12, 13, 14, 15, 16, 17, 18, 19, 20, 25, 26, 27, 28, 1] rfl
        have hD := hD.sub (ws' := (W_X_0t5_16_34t37_39t42_44t47_49t52_54_61t64_76 qd0 qd1 qd2 qf0 qf1 qf2 qr0 qt0 qt1 qt2 qt3 qu0 qu1 qu2 qu3 qw0 qw1 qw2 qw3 qx0 qx1 qx2 qx3 qT qL1 qL2 qL0 qD0 qX0 qf3 qz0 qn0 qt4 qu4 qw4 qx4 qk0 qb0 qe0 qh0 qD1 qv0 cI cJ cZ cB cT d_n d_for d_road f_row_166 f_fears r_tx r_rul t_cl t_ln t_pt t_code t_st t_en u_cl u_ln u_pt u_code u_st u_en w_cl w_ln w_pt w_code w_st w_en x_cl x_ln x_pt x_code x_st x_en l_names_166 l_stack_166)) [2, 3, 0, 21, 22, 23, 24, 4, 5, 6, 7, 8, 9, 10, 11, 12, 13, 14, 15, 16, 17, 18, 19, 20, 25, 26, 27, 28, 1] rfl rfl
        refine lv_pop hx hb dX11_reignOnce_169 rfl ?_
        refine lv_goto (tgt := 184) hx hb dX11_reignOnce_170 (by decide) ?_
        cases hf
        exact mret_v hx hb hr hlocks hP hD hS dX11_reignOnce_184
      replace hf := (if_neg e67_6).symm.trans hf
      have ne67_2 : v66.toInt ≠ (2 : Int) := sw_ne e67_2
      have ne67_3 : v66.toInt ≠ (3 : Int) := sw_ne e67_3
      have ne67_4 : v66.toInt ≠ (4 : Int) := sw_ne e67_4
      have ne67_5 : v66.toInt ≠ (5 : Int) := sw_ne e67_5
      have ne67_6 : v66.toInt ≠ (6 : Int) := sw_ne e67_6
      refine lv_tableOut (tgt := 173) hx hb dX11_reignOnce_67 (by omega) (by decide) ?_
      refine lv_aload_n hx hb dX11_reignOnce_173 rfl (lv_at hl 5 rfl) ?_
      refine gfX11_75 hx hb hts hown hK hP 28 rfl rfl dX11_reignOnce_174 ?_
      refine lv_iload_n hx hb dX11_reignOnce_177 rfl (lv_at hl 2 rfl) ?_
      refine lv_iload hx hb dX11_reignOnce_178 (lv_at hl 1 rfl) ?_
      obtain ⟨r180, f_row_180, hg180, hf⟩ := ob2_some hf
      refine mcV_i (wr := [(qd1, .inl (cI, 8, .inl d_for)), (qd2, .inl (cI, 8, .inl d_road)), (qf2, .inl (cI, 6, .inl f_fears)), (qt0, .inr (9, [.int t_cl, .int t_ln, .int t_pt, .ref qt1, .ref qt2, .ref qt3, .ref qt4])), (qt1, .inl (cI, 301, .inl t_code)), (qt2, .inl (cI, 4, .inl t_st)), (qt3, .inl (cI, 4, .inl t_en)), (qu0, .inr (9, [.int u_cl, .int u_ln, .int u_pt, .ref qu1, .ref qu2, .ref qu3, .ref qu4])), (qu1, .inl (cI, 301, .inl u_code)), (qu2, .inl (cI, 4, .inl u_st)), (qu3, .inl (cI, 4, .inl u_en)), (qw0, .inr (9, [.int w_cl, .int w_ln, .int w_pt, .ref qw1, .ref qw2, .ref qw3, .ref qw4])), (qw1, .inl (cI, 301, .inl w_code)), (qw2, .inl (cI, 4, .inl w_st)), (qw3, .inl (cI, 4, .inl w_en)), (qx0, .inr (9, [.int x_cl, .int x_ln, .int x_pt, .ref qx1, .ref qx2, .ref qx3, .ref qx4])), (qx1, .inl (cI, 301, .inl x_code)), (qx2, .inl (cI, 4, .inl x_st)), (qx3, .inl (cI, 4, .inl x_en)), (qT, .inl (cT, 4, .inr (.inr (.inr (.inr (fT qt0 qu0 qw0 qx0)))))), (qL1, .inl (cI, 10, .inl l_names)), (qL2, .inl (cI, 64, .inl l_stack)), (qL0, .inr (3, [.ref qr0, .ref qT, .ref qL1, .ref qL2])), (qX0, .inr (11, [.ref qr0, .ref qk0, .ref qT, .ref qb0, .ref qe0, .ref qL0, .ref qf0, .ref qd0, .ref qn0, .ref qz0, .ref qD0, .ref qh0, .ref qD1, .ref qv0]))]) (As := [.int v40, .int v53]) (rest := []) hx hb hml hown hts hK hP hD hS hA (k_X0_summon l N D cI cJ cZ cB cT qd0 qf0 qf1 qr0 qD0 qd1 qd2 qf2 qf3 qf0 qz0 qn0 qL0 d_n f_row_35 r_tx r_rul v40 v53 r180 f_row_180 hg180) (kwX11_149 hts rfl rfl ⟨Nat.le_of_ble_eq_true rfl, Nat.le_of_ble_eq_true rfl⟩) [0, 3, 4, 6, 27] [1, 2, 5, 7, 8, 9, 10, 11, 12, 13, 14, 15, 16, 17, 18, 19, 20, 21, 22, 23, 24, 25, 26, 28] rfl rfl rfl (by decide) rfl 4 rfl rfl rfl rfl hl.1 rfl (Nat.le_of_ble_eq_true rfl) dX11_reignOnce_180 ⟨Nat.zero_le _, Nat.zero_le _⟩ (fun hB180 H locs hP hD hS => ?_)
      have hP := mP_sub (wc := (W_X_0t5_16_34t37_39t42_44t47_49t52_54_61t64_76 qd0 qd1 qd2 qf0 qf1 qf2 qr0 qt0 qt1 qt2 qt3 qu0 qu1 qu2 qu3 qw0 qw1 qw2 qw3 qx0 qx1 qx2 qx3 qT qL1 qL2 qL0 qD0 qX0 qf3 qz0 qn0 qt4 qu4 qw4 qx4 qk0 qb0 qe0 qh0 qD1 qv0 cI cJ cZ cB cT d_n d_for d_road f_row_180 f_fears r_tx r_rul t_cl t_ln t_pt t_code t_st t_en u_cl u_ln u_pt u_code u_st u_en w_cl w_ln w_pt w_code w_st w_en x_cl x_ln x_pt x_code x_st x_en l_names l_stack)) hP [24, 0, 1, 25, 26, 2, 27, 3, 4, 5, 6, 7, 8, 9, 10, 11, 12, 13, 14, 15, 16, 17, 18, 19, 20, 21, 22, 28, 23] rfl
      have hD := hD.sub (ws' := (W_X_0t5_16_34t37_39t42_44t47_49t52_54_61t64_76 qd0 qd1 qd2 qf0 qf1 qf2 qr0 qt0 qt1 qt2 qt3 qu0 qu1 qu2 qu3 qw0 qw1 qw2 qw3 qx0 qx1 qx2 qx3 qT qL1 qL2 qL0 qD0 qX0 qf3 qz0 qn0 qt4 qu4 qw4 qx4 qk0 qb0 qe0 qh0 qD1 qv0 cI cJ cZ cB cT d_n d_for d_road f_row_180 f_fears r_tx r_rul t_cl t_ln t_pt t_code t_st t_en u_cl u_ln u_pt u_code u_st u_en w_cl w_ln w_pt w_code w_st w_en x_cl x_ln x_pt x_code x_st x_en l_names l_stack)) [24, 0, 1, 25, 26, 2, 27, 3, 4, 5, 6, 7, 8, 9, 10, 11, 12, 13, 14, 15, 16, 17, 18, 19, 20, 21, 22, 28, 23] rfl rfl
      refine lv_pop hx hb dX11_reignOnce_183 rfl ?_
      cases hf
      exact mret_v hx hb hr hlocks hP hD hS dX11_reignOnce_184
    · cases hf
      exact mret_v hx hb hr hlocks hP hD hS dX11_reignOnce_22
