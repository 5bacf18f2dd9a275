theorem dX11_surest_0 : decode cX11_surest 0 = .ok (.iload_n 2, 1) := by decide +kernel
theorem dX11_surest_1 : decode cX11_surest 1 = .ok (.iconst 1, 1) := by decide +kernel
theorem dX11_surest_2 : decode cX11_surest 2 = .ok (.if_icmp .lt 20, 3) := by decide +kernel
theorem dX11_surest_5 : decode cX11_surest 5 = .ok (.iload_n 2, 1) := by decide +kernel
theorem dX11_surest_6 : decode cX11_surest 6 = .ok (.bipush 6, 2) := by decide +kernel
theorem dX11_surest_8 : decode cX11_surest 8 = .ok (.if_icmp .gt 14, 3) := by decide +kernel
theorem dX11_surest_11 : decode cX11_surest 11 = .ok (.iload_n 3, 1) := by decide +kernel
theorem dX11_surest_12 : decode cX11_surest 12 = .ok (.bipush (-2), 2) := by decide +kernel
theorem dX11_surest_14 : decode cX11_surest 14 = .ok (.if_icmp .lt 8, 3) := by decide +kernel
theorem dX11_surest_17 : decode cX11_surest 17 = .ok (.iload_n 3, 1) := by decide +kernel
theorem dX11_surest_18 : decode cX11_surest 18 = .ok (.iload_n 2, 1) := by decide +kernel
theorem dX11_surest_19 : decode cX11_surest 19 = .ok (.if_icmp .lt 6, 3) := by decide +kernel
theorem dX11_surest_22 : decode cX11_surest 22 = .ok (.bipush (-3), 2) := by decide +kernel
theorem dX11_surest_24 : decode cX11_surest 24 = .ok (.ireturn, 1) := by decide +kernel
theorem dX11_surest_25 : decode cX11_surest 25 = .ok (.aload_n 0, 1) := by decide +kernel
theorem dX11_surest_26 : decode cX11_surest 26 = .ok (.getfield 54, 3) := by decide +kernel
theorem dX11_surest_29 : decode cX11_surest 29 = .ok (.iload_n 1, 1) := by decide +kernel
theorem dX11_surest_30 : decode cX11_surest 30 = .ok (.invokevirtual 238, 3) := by decide +kernel
theorem dX11_surest_33 : decode cX11_surest 33 = .ok (.ifCond .eq 17, 3) := by decide +kernel
theorem dX11_surest_36 : decode cX11_surest 36 = .ok (.aload_n 0, 1) := by decide +kernel
theorem dX11_surest_37 : decode cX11_surest 37 = .ok (.getfield 54, 3) := by decide +kernel
theorem dX11_surest_40 : decode cX11_surest 40 = .ok (.iload_n 1, 1) := by decide +kernel
theorem dX11_surest_41 : decode cX11_surest 41 = .ok (.bipush 6, 2) := by decide +kernel
theorem dX11_surest_43 : decode cX11_surest 43 = .ok (.invokevirtual 239, 3) := by decide +kernel
theorem dX11_surest_46 : decode cX11_surest 46 = .ok (.iconst 1, 1) := by decide +kernel
theorem dX11_surest_47 : decode cX11_surest 47 = .ok (.if_icmp .eq 6, 3) := by decide +kernel
theorem dX11_surest_50 : decode cX11_surest 50 = .ok (.bipush (-3), 2) := by decide +kernel
theorem dX11_surest_52 : decode cX11_surest 52 = .ok (.ireturn, 1) := by decide +kernel
theorem dX11_surest_53 : decode cX11_surest 53 = .ok (.aload_n 0, 1) := by decide +kernel
theorem dX11_surest_54 : decode cX11_surest 54 = .ok (.getfield 91, 3) := by decide +kernel
theorem dX11_surest_57 : decode cX11_surest 57 = .ok (.aload_n 0, 1) := by decide +kernel
theorem dX11_surest_58 : decode cX11_surest 58 = .ok (.getfield 10, 3) := by decide +kernel
theorem dX11_surest_61 : decode cX11_surest 61 = .ok (.aload_n 0, 1) := by decide +kernel
theorem dX11_surest_62 : decode cX11_surest 62 = .ok (.getfield 46, 3) := by decide +kernel
theorem dX11_surest_65 : decode cX11_surest 65 = .ok (.iload_n 1, 1) := by decide +kernel
theorem dX11_surest_66 : decode cX11_surest 66 = .ok (.iload_n 2, 1) := by decide +kernel
theorem dX11_surest_67 : decode cX11_surest 67 = .ok (.invokevirtual 281, 3) := by decide +kernel
theorem dX11_surest_70 : decode cX11_surest 70 = .ok (.iload_n 3, 1) := by decide +kernel
theorem dX11_surest_71 : decode cX11_surest 71 = .ok (.bipush (-2), 2) := by decide +kernel
theorem dX11_surest_73 : decode cX11_surest 73 = .ok (.if_icmp .ne 11, 3) := by decide +kernel
theorem dX11_surest_76 : decode cX11_surest 76 = .ok (.aload_n 0, 1) := by decide +kernel
theorem dX11_surest_77 : decode cX11_surest 77 = .ok (.getfield 91, 3) := by decide +kernel
theorem dX11_surest_80 : decode cX11_surest 80 = .ok (.getfield 285, 3) := by decide +kernel
theorem dX11_surest_83 : decode cX11_surest 83 = .ok (.ireturn, 1) := by decide +kernel
theorem dX11_surest_84 : decode cX11_surest 84 = .ok (.iload_n 3, 1) := by decide +kernel
theorem dX11_surest_85 : decode cX11_surest 85 = .ok (.iconst (-1), 1) := by decide +kernel
theorem dX11_surest_86 : decode cX11_surest 86 = .ok (.if_icmp .ne 13, 3) := by decide +kernel
theorem dX11_surest_89 : decode cX11_surest 89 = .ok (.aload_n 0, 1) := by decide +kernel
theorem dX11_surest_90 : decode cX11_surest 90 = .ok (.getfield 91, 3) := by decide +kernel
theorem dX11_surest_93 : decode cX11_surest 93 = .ok (.getfield 288, 3) := by decide +kernel
theorem dX11_surest_96 : decode cX11_surest 96 = .ok (.goto 11, 3) := by decide +kernel
theorem dX11_surest_99 : decode cX11_surest 99 = .ok (.aload_n 0, 1) := by decide +kernel
theorem dX11_surest_100 : decode cX11_surest 100 = .ok (.getfield 91, 3) := by decide +kernel
theorem dX11_surest_103 : decode cX11_surest 103 = .ok (.iload_n 3, 1) := by decide +kernel
theorem dX11_surest_104 : decode cX11_surest 104 = .ok (.invokevirtual 291, 3) := by decide +kernel
theorem dX11_surest_107 : decode cX11_surest 107 = .ok (.ireturn, 1) := by decide +kernel
def f_X11_surest (N : Nat) (d_n : Int32) (d_for : Nat → Int32) (d_road : Nat → Int32) (f_row : Nat → Int32) (f_fears : Nat → Int32) (r_tx : Int32) (r_rul : Int32) (t_code : Nat → Int32) (t_st : Nat → Int32) (t_en : Nat → Int32) (u_code : Nat → Int32) (u_st : Nat → Int32) (u_en : Nat → Int32) (w_code : Nat → Int32) (w_st : Nat → Int32) (w_en : Nat → Int32) (x_code : Nat → Int32) (x_st : Nat → Int32) (x_en : Nat → Int32) (l_names : Nat → Int32) (l_stack : Nat → Int32) (v_up : Int32) (v_low : Int32) (v_liv : Nat → Int32) (v_best : Nat → Int32) (v_way : Nat → Int32) (p1 : Int32) (p2 : Int32) (p3 : Int32) : Option (Int32 × (Nat → Int32) × (Nat → Int32) × Int32 × Int32 × (Nat → Int32) × (Nat → Int32) × (Nat → Int32)) := if p2 < (1 : Int32) then (some ((-3 : Int32), l_names, l_stack, v_up, v_low, v_liv, v_best, v_way)) else (if (6 : Int32) < p2 then (some ((-3 : Int32), l_names, l_stack, v_up, v_low, v_liv, v_best, v_way)) else (if p3 < (-2 : Int32) then (some ((-3 : Int32), l_names, l_stack, v_up, v_low, v_liv, v_best, v_way)) else (if p3 < p2 then (ob1 (f_X1_told N f_row p1) fun r30 => if r30 = 0 then (some ((-3 : Int32), l_names, l_stack, v_up, v_low, v_liv, v_best, v_way)) else (ob1 (f_X1_get N f_row p1 (6 : Int32)) fun r43 => if r43 = (1 : Int32) then (ob7 (f_X10_seekSurest N v_up v_low v_liv v_best v_way f_row f_fears d_n d_for d_road t_code t_st t_en u_code u_st u_en w_code w_st w_en x_code x_st x_en r_tx r_rul l_names l_stack p1 p2) fun v_up_67 v_low_67 v_liv_67 v_best_67 v_way_67 l_names_67 l_stack_67 => if p3 = (-2 : Int32) then (some (v_up_67, l_names_67, l_stack_67, v_up_67, v_low_67, v_liv_67, v_best_67, v_way_67)) else (if p3 = (-1 : Int32) then (some (v_low_67, l_names_67, l_stack_67, v_up_67, v_low_67, v_liv_67, v_best_67, v_way_67)) else (ob1 (f_X10_landAt N v_way_67 p3) fun r104 => some (r104, l_names_67, l_stack_67, v_up_67, v_low_67, v_liv_67, v_best_67, v_way_67)))) else (some ((-3 : Int32), l_names, l_stack, v_up, v_low, v_liv, v_best, v_way)))) else (some ((-3 : Int32), l_names, l_stack, v_up, v_low, v_liv, v_best, v_way)))))
set_option maxHeartbeats 4000000 in
set_option maxRecDepth 100000 in
theorem k_X11_surest (l : Launch) (N : Nat) (D : va_G) (cI cJ cZ cB cT : ClassId) (qd0 : Nat) (qd1 : Nat) (qd2 : Nat) (qf0 : Nat) (qf1 : Nat) (qf2 : Nat) (qr0 : Nat) (qt0 : Nat) (qt1 : Nat) (qt2 : Nat) (qt3 : Nat) (qu0 : Nat) (qu1 : Nat) (qu2 : Nat) (qu3 : Nat) (qw0 : Nat) (qw1 : Nat) (qw2 : Nat) (qw3 : Nat) (qx0 : Nat) (qx1 : Nat) (qx2 : Nat) (qx3 : Nat) (qT : Nat) (qL1 : Nat) (qL2 : Nat) (qL0 : Nat) (qv0 : Nat) (qv1 : Nat) (qv2 : Nat) (qv3 : Nat) (qX0 : Nat) (qf3 : Nat) (qz0 : Nat) (qn0 : Nat) (qt4 : Nat) (qu4 : Nat) (qw4 : Nat) (qx4 : Nat) (qv4 : Nat) (qv5 : Nat) (qk0 : Nat) (qb0 : Nat) (qe0 : Nat) (qD0 : Nat) (qh0 : Nat) (qD1 : Nat) (d_n : Int32) (d_for : Nat → Int32) (d_road : Nat → Int32) (f_row : Nat → Int32) (f_fears : Nat → Int32) (r_tx : Int32) (r_rul : Int32) (t_cl : Int32) (t_ln : Int32) (t_pt : Int32) (t_code : Nat → Int32) (t_st : Nat → Int32) (t_en : Nat → Int32) (u_cl : Int32) (u_ln : Int32) (u_pt : Int32) (u_code : Nat → Int32) (u_st : Nat → Int32) (u_en : Nat → Int32) (w_cl : Int32) (w_ln : Int32) (w_pt : Int32) (w_code : Nat → Int32) (w_st : Nat → Int32) (w_en : Nat → Int32) (x_cl : Int32) (x_ln : Int32) (x_pt : Int32) (x_code : Nat → Int32) (x_st : Nat → Int32) (x_en : Nat → Int32) (l_names : Nat → Int32) (l_stack : Nat → Int32) (v_up : Int32) (v_low : Int32) (v_gone : Int32) (v_may : Int32) (v_must : Int32) (v_liv : Nat → Int32) (v_best : Nat → Int32) (v_way : Nat → Int32) (p1 : Int32) (p2 : Int32) (p3 : Int32) (o_r : Int32) (o_l_names : Nat → Int32) (o_l_stack : Nat → Int32) (o_v_up : Int32) (o_v_low : Int32) (o_v_liv : Nat → Int32) (o_v_best : Nat → Int32) (o_v_way : Nat → Int32) (hf : f_X11_surest N d_n d_for d_road f_row f_fears r_tx r_rul t_code t_st t_en u_code u_st u_en w_code w_st w_en x_code x_st x_en l_names l_stack v_up v_low v_liv v_best v_way p1 p2 p3 = some (o_r, o_l_names, o_l_stack, o_v_up, o_v_low, o_v_liv, o_v_best, o_v_way)) : ∀ sz, Met l yX11_surest (mw yX11_surest cX11_surest 4 (some .int)) ({ frames := 4, cells := 0, slots := 0, locals := 127 } : Room) (mPreE D (mT cI cJ cZ cB cT) (W_X_0t5_16_34t37_39t42_44t47_49t52_54_61t63_70t73_76 qd0 qd1 qd2 qf0 qf1 qf2 qr0 qt0 qt1 qt2 qt3 qu0 qu1 qu2 qu3 qw0 qw1 qw2 qw3 qx0 qx1 qx2 qx3 qT qL1 qL2 qL0 qv0 qv1 qv2 qv3 qX0 qf3 qz0 qn0 qt4 qu4 qw4 qx4 qv4 qv5 qk0 qb0 qe0 qD0 qh0 qD1 cI cJ cZ cB cT d_n d_for d_road f_row f_fears r_tx r_rul t_cl t_ln t_pt t_code t_st t_en u_cl u_ln u_pt u_code u_st u_en w_cl w_ln w_pt w_code w_st w_en x_cl x_ln x_pt x_code x_st x_en l_names l_stack v_up v_low v_gone v_may v_must v_liv v_best v_way) sz [.ref qX0, .int p1, .int p2, .int p3]) ((mQi D (W_X_0t5_16_34t37_39t42_44t47_49t52_54_61t63_70t73_76 qd0 qd1 qd2 qf0 qf1 qf2 qr0 qt0 qt1 qt2 qt3 qu0 qu1 qu2 qu3 qw0 qw1 qw2 qw3 qx0 qx1 qx2 qx3 qT qL1 qL2 qL0 qv0 qv1 qv2 qv3 qX0 qf3 qz0 qn0 qt4 qu4 qw4 qx4 qv4 qv5 qk0 qb0 qe0 qD0 qh0 qD1 cI cJ cZ cB cT d_n d_for d_road f_row f_fears r_tx r_rul t_cl t_ln t_pt t_code t_st t_en u_cl u_ln u_pt u_code u_st u_en w_cl w_ln w_pt w_code w_st w_en x_cl x_ln x_pt x_code x_st x_en o_l_names o_l_stack o_v_up o_v_low v_gone v_may v_must o_v_liv o_v_best o_v_way) o_r True) (va_A (W_X_0t5_16_34t37_39t42_44t47_49t52_54_61t63_70t73_76 qd0 qd1 qd2 qf0 qf1 qf2 qr0 qt0 qt1 qt2 qt3 qu0 qu1 qu2 qu3 qw0 qw1 qw2 qw3 qx0 qx1 qx2 qx3 qT qL1 qL2 qL0 qv0 qv1 qv2 qv3 qX0 qf3 qz0 qn0 qt4 qu4 qw4 qx4 qv4 qv5 qk0 qb0 qe0 qD0 qh0 qD1 cI cJ cZ cB cT d_n d_for d_road f_row f_fears r_tx r_rul t_cl t_ln t_pt t_code t_st t_en u_cl u_ln u_pt u_code u_st u_en w_cl w_ln w_pt w_code w_st w_en x_cl x_ln x_pt x_code x_st x_en l_names l_stack v_up v_low v_gone v_may v_must v_liv v_best v_way) sz)) 0 0 (va_A (W_X_0t5_16_34t37_39t42_44t47_49t52_54_61t63_70t73_76 qd0 qd1 qd2 qf0 qf1 qf2 qr0 qt0 qt1 qt2 qt3 qu0 qu1 qu2 qu3 qw0 qw1 qw2 qw3 qx0 qx1 qx2 qx3 qT qL1 qL2 qL0 qv0 qv1 qv2 qv3 qX0 qf3 qz0 qn0 qt4 qu4 qw4 qx4 qv4 qv5 qk0 qb0 qe0 qD0 qh0 qD1 cI cJ cZ cB cT d_n d_for d_road f_row f_fears r_tx r_rul t_cl t_ln t_pt t_code t_st t_en u_cl u_ln u_pt u_code u_st u_en w_cl w_ln w_pt w_code w_st w_en x_cl x_ln x_pt x_code x_st x_en l_names l_stack v_up v_low v_gone v_may v_must v_liv v_best v_way) sz) := by
  refine mMetE (Qc := (mQi D (W_X_0t5_16_34t37_39t42_44t47_49t52_54_61t63_70t73_76 qd0 qd1 qd2 qf0 qf1 qf2 qr0 qt0 qt1 qt2 qt3 qu0 qu1 qu2 qu3 qw0 qw1 qw2 qw3 qx0 qx1 qx2 qx3 qT qL1 qL2 qL0 qv0 qv1 qv2 qv3 qX0 qf3 qz0 qn0 qt4 qu4 qw4 qx4 qv4 qv5 qk0 qb0 qe0 qD0 qh0 qD1 cI cJ cZ cB cT d_n d_for d_road f_row f_fears r_tx r_rul t_cl t_ln t_pt t_code t_st t_en u_cl u_ln u_pt u_code u_st u_en w_cl w_ln w_pt w_code w_st w_en x_cl x_ln x_pt x_code x_st x_en o_l_names o_l_stack o_v_up o_v_low v_gone v_may v_must o_v_liv o_v_best o_v_way) o_r True)) (by decide) (Nat.le_of_ble_eq_true rfl) (fun p e s m below meth c A ls hx hb hr hml hts hown hlocks hK hA hP hD hl hE => ?_)
  have hown : s.vm.findClass RX11 = some m.cls := hown
  have hl : lv_has ls 4 [(0, .ref qX0), (1, .int p1), (2, .int p2), (3, .int p3)] := hl
  have hS : va_S A s.heap s.heap [] := va_S.rf
  obtain ⟨⟨tM, hZM, hTM⟩, ⟨tL, hZL, hTL⟩, ⟨hNX4, hNX10⟩, tS, tV, hRS, hZC, hZF, hKS⟩ := id hE
  unfold f_X11_surest at hf
  refine lv_iload_n hx hb dX11_surest_0 rfl (lv_at hl 2 rfl) ?_
  refine lv_iconst (v := (1 : Int32)) hx hb dX11_surest_1 (by decide) ?_
  refine xicmp_lt hx hb 22 dX11_surest_2 (by decide) hf (fun hf => ?_) (fun hf => ?_)
  · refine lv_bipush (v := (-3 : Int32)) hx hb dX11_surest_22 (by decide) ?_
    cases hf
    exact mret_i hx hb hr hlocks hP hD hS dX11_surest_24 rfl trivial
  · refine lv_iload_n hx hb dX11_surest_5 rfl (lv_at hl 2 rfl) ?_
    refine lv_bipush (v := (6 : Int32)) hx hb dX11_surest_6 (by decide) ?_
    refine xicmp_gt hx hb 22 dX11_surest_8 (by decide) hf (fun hf => ?_) (fun hf => ?_)
    · refine lv_bipush (v := (-3 : Int32)) hx hb dX11_surest_22 (by decide) ?_
      cases hf
      exact mret_i hx hb hr hlocks hP hD hS dX11_surest_24 rfl trivial
    · refine lv_iload_n hx hb dX11_surest_11 rfl (lv_at hl 3 rfl) ?_
      refine lv_bipush (v := (-2 : Int32)) hx hb dX11_surest_12 (by decide) ?_
      refine xicmp_lt hx hb 22 dX11_surest_14 (by decide) hf (fun hf => ?_) (fun hf => ?_)
      · refine lv_bipush (v := (-3 : Int32)) hx hb dX11_surest_22 (by decide) ?_
        cases hf
        exact mret_i hx hb hr hlocks hP hD hS dX11_surest_24 rfl trivial
      · refine lv_iload_n hx hb dX11_surest_17 rfl (lv_at hl 3 rfl) ?_
        refine lv_iload_n hx hb dX11_surest_18 rfl (lv_at hl 2 rfl) ?_
        refine xicmp_lt hx hb 25 dX11_surest_19 (by decide) hf (fun hf => ?_) (fun hf => ?_)
        · refine lv_aload_n hx hb dX11_surest_25 rfl (lv_at hl 0 rfl) ?_
          refine gfX11_54 hx hb hts hown hK hP 31 rfl rfl dX11_surest_26 ?_
          refine lv_iload_n hx hb dX11_surest_29 rfl (lv_at hl 1 rfl) ?_
          obtain ⟨r30, hg30, hf⟩ := ob1_some hf
          refine mcV_i (wr := [(qd0, .inr (2, [.int d_n, .ref qd1, .ref qd2])), (qd1, .inl (cI, 8, .inl d_for)), (qd2, .inl (cI, 8, .inl d_road)), (qf2, .inl (cI, 6, .inl f_fears)), (qr0, .inr (6, [.ref qd0, .ref qf0, .ref qz0, .ref qn0, .int r_tx, .int r_rul])), (qt0, .inr (9, [.int t_cl, .int t_ln, .int t_pt, .ref qt1, .ref qt2, .ref qt3, .ref qt4])), (qt1, .inl (cI, 301, .inl t_code)), (qt2, .inl (cI, 4, .inl t_st)), (qt3, .inl (cI, 4, .inl t_en)), (qu0, .inr (9, [.int u_cl, .int u_ln, .int u_pt, .ref qu1, .ref qu2, .ref qu3, .ref qu4])), (qu1, .inl (cI, 301, .inl u_code)), (qu2, .inl (cI, 4, .inl u_st)), (qu3, .inl (cI, 4, .inl u_en)), (qw0, .inr (9, [.int w_cl, .int w_ln, .int w_pt, .ref qw1, .ref qw2, .ref qw3, .ref qw4])), (qw1, .inl (cI, 301, .inl w_code)), (qw2, .inl (cI, 4, .inl w_st)), (qw3, .inl (cI, 4, .inl w_en)), (qx0, .inr (9, [.int x_cl, .int x_ln, .int x_pt, .ref qx1, .ref qx2, .ref qx3, .ref qx4])), (qx1, .inl (cI, 301, .inl x_code)), (qx2, .inl (cI, 4, .inl x_st)), (qx3, .inl (cI, 4, .inl x_en)), (qT, .inl (cT, 4, .inr (.inr (.inr (.inr (fT qt0 qu0 qw0 qx0)))))), (qL1, .inl (cI, 10, .inl l_names)), (qL2, .inl (cI, 64, .inl l_stack)), (qL0, .inr (3, [.ref qr0, .ref qT, .ref qL1, .ref qL2])), (qv0, .inr (10, [.int v_up, .int v_low, .int v_gone, .int v_may, .int v_must, .ref qv1, .ref qv2, .ref qv3, .ref qv4, .ref qv5])), (qv1, .inl (cI, 8, .inl v_liv)), (qv2, .inl (cI, 56, .inl v_best)), (qv3, .inl (cI, 6, .inl v_way)), (qX0, .inr (11, [.ref qr0, .ref qk0, .ref qT, .ref qb0, .ref qe0, .ref qL0, .ref qf0, .ref qd0, .ref qn0, .ref qz0, .ref qD0, .ref qh0, .ref qD1, .ref qv0]))]) (As := [.int p1]) (rest := []) hx hb hml hown hts hK hP hD hS hA (k_X1_told l N D cI cJ cZ cB cT qf0 qf1 qf2 qf3 f_row p1 r30 hg30) (kwX11_238 hts rfl rfl ⟨Nat.le_of_ble_eq_true rfl, Nat.le_of_ble_eq_true rfl⟩) [3, 4] [0, 1, 2, 5, 6, 7, 8, 9, 10, 11, 12, 13, 14, 15, 16, 17, 18, 19, 20, 21, 22, 23, 24, 25, 26, 27, 28, 29, 30, 31] rfl rfl rfl (by decide) rfl 0 rfl rfl rfl rfl hl.1 rfl (Nat.le_of_ble_eq_true rfl) dX11_surest_30 ⟨Nat.zero_le _, Nat.zero_le _⟩ (fun hB30 H locs hP hD hS => ?_)
          have hP := mP_sub (wc := (W_X_0t5_16_34t37_39t42_44t47_49t52_54_61t63_70t73_76 qd0 qd1 qd2 qf0 qf1 qf2 qr0 qt0 qt1 qt2 qt3 qu0 qu1 qu2 qu3 qw0 qw1 qw2 qw3 qx0 qx1 qx2 qx3 qT qL1 qL2 qL0 qv0 qv1 qv2 qv3 qX0 qf3 qz0 qn0 qt4 qu4 qw4 qx4 qv4 qv5 qk0 qb0 qe0 qD0 qh0 qD1 cI cJ cZ cB cT d_n d_for d_road f_row f_fears r_tx r_rul t_cl t_ln t_pt t_code t_st t_en u_cl u_ln u_pt u_code u_st u_en w_cl w_ln w_pt w_code w_st w_en x_cl x_ln x_pt x_code x_st x_en l_names l_stack v_up v_low v_gone v_may v_must v_liv v_best v_way)) hP [0, 1, 2, 30, 31, 3, 4, 5, 6, 7, 8, 9, 10, 11, 12, 13, 14, 15, 16, 17, 18, 19, 20, 21, 22, 23, 24, 25, 26, 27, 28, 29] rfl
          have hD := hD.sub (ws' := (W_X_0t5_16_34t37_39t42_44t47_49t52_54_61t63_70t73_76 qd0 qd1 qd2 qf0 qf1 qf2 qr0 qt0 qt1 qt2 qt3 qu0 qu1 qu2 qu3 qw0 qw1 qw2 qw3 qx0 qx1 qx2 qx3 qT qL1 qL2 qL0 qv0 qv1 qv2 qv3 qX0 qf3 qz0 qn0 qt4 qu4 qw4 qx4 qv4 qv5 qk0 qb0 qe0 qD0 qh0 qD1 cI cJ cZ cB cT d_n d_for d_road f_row f_fears r_tx r_rul t_cl t_ln t_pt t_code t_st t_en u_cl u_ln u_pt u_code u_st u_en w_cl w_ln w_pt w_code w_st w_en x_cl x_ln x_pt x_code x_st x_en l_names l_stack v_up v_low v_gone v_may v_must v_liv v_best v_way)) [0, 1, 2, 30, 31, 3, 4, 5, 6, 7, 8, 9, 10, 11, 12, 13, 14, 15, 16, 17, 18, 19, 20, 21, 22, 23, 24, 25, 26, 27, 28, 29] rfl rfl
          refine xif_eq hx hb 50 dX11_surest_33 (by decide) hf (fun hf => ?_) (fun hf => ?_)
          · refine lv_bipush (v := (-3 : Int32)) hx hb dX11_surest_50 (by decide) ?_
            cases hf
            exact mret_i hx hb hr hlocks hP hD hS dX11_surest_52 rfl trivial
          · refine lv_aload_n hx hb dX11_surest_36 rfl (lv_at hl 0 rfl) ?_
            refine gfX11_54 hx hb hts hown hK hP 31 rfl rfl dX11_surest_37 ?_
            refine lv_iload_n hx hb dX11_surest_40 rfl (lv_at hl 1 rfl) ?_
            refine lv_bipush (v := (6 : Int32)) hx hb dX11_surest_41 (by decide) ?_
            obtain ⟨r43, hg43, hf⟩ := ob1_some hf
            refine mcV_i (wr := [(qd0, .inr (2, [.int d_n, .ref qd1, .ref qd2])), (qd1, .inl (cI, 8, .inl d_for)), (qd2, .inl (cI, 8, .inl d_road)), (qf2, .inl (cI, 6, .inl f_fears)), (qr0, .inr (6, [.ref qd0, .ref qf0, .ref qz0, .ref qn0, .int r_tx, .int r_rul])), (qt0, .inr (9, [.int t_cl, .int t_ln, .int t_pt, .ref qt1, .ref qt2, .ref qt3, .ref qt4])), (qt1, .inl (cI, 301, .inl t_code)), (qt2, .inl (cI, 4, .inl t_st)), (qt3, .inl (cI, 4, .inl t_en)), (qu0, .inr (9, [.int u_cl, .int u_ln, .int u_pt, .ref qu1, .ref qu2, .ref qu3, .ref qu4])), (qu1, .inl (cI, 301, .inl u_code)), (qu2, .inl (cI, 4, .inl u_st)), (qu3, .inl (cI, 4, .inl u_en)), (qw0, .inr (9, [.int w_cl, .int w_ln, .int w_pt, .ref qw1, .ref qw2, .ref qw3, .ref qw4])), (qw1, .inl (cI, 301, .inl w_code)), (qw2, .inl (cI, 4, .inl w_st)), (qw3, .inl (cI, 4, .inl w_en)), (qx0, .inr (9, [.int x_cl, .int x_ln, .int x_pt, .ref qx1, .ref qx2, .ref qx3, .ref qx4])), (qx1, .inl (cI, 301, .inl x_code)), (qx2, .inl (cI, 4, .inl x_st)), (qx3, .inl (cI, 4, .inl x_en)), (qT, .inl (cT, 4, .inr (.inr (.inr (.inr (fT qt0 qu0 qw0 qx0)))))), (qL1, .inl (cI, 10, .inl l_names)), (qL2, .inl (cI, 64, .inl l_stack)), (qL0, .inr (3, [.ref qr0, .ref qT, .ref qL1, .ref qL2])), (qv0, .inr (10, [.int v_up, .int v_low, .int v_gone, .int v_may, .int v_must, .ref qv1, .ref qv2, .ref qv3, .ref qv4, .ref qv5])), (qv1, .inl (cI, 8, .inl v_liv)), (qv2, .inl (cI, 56, .inl v_best)), (qv3, .inl (cI, 6, .inl v_way)), (qX0, .inr (11, [.ref qr0, .ref qk0, .ref qT, .ref qb0, .ref qe0, .ref qL0, .ref qf0, .ref qd0, .ref qn0, .ref qz0, .ref qD0, .ref qh0, .ref qD1, .ref qv0]))]) (As := [.int p1, .int (6 : Int32)]) (rest := []) hx hb hml hown hts hK hP hD hS hA (k_X1_get l N D cI cJ cZ cB cT qf0 qf1 qf2 qf3 f_row p1 (6 : Int32) r43 hg43) (kwX11_239 hts rfl rfl ⟨Nat.le_of_ble_eq_true rfl, Nat.le_of_ble_eq_true rfl⟩) [3, 4] [0, 1, 2, 5, 6, 7, 8, 9, 10, 11, 12, 13, 14, 15, 16, 17, 18, 19, 20, 21, 22, 23, 24, 25, 26, 27, 28, 29, 30, 31] rfl rfl rfl (by decide) rfl 0 rfl rfl rfl rfl hl.1 rfl (Nat.le_of_ble_eq_true rfl) dX11_surest_43 ⟨Nat.zero_le _, Nat.zero_le _⟩ (fun hB43 H locs hP hD hS => ?_)
            have hP := mP_sub (wc := (W_X_0t5_16_34t37_39t42_44t47_49t52_54_61t63_70t73_76 qd0 qd1 qd2 qf0 qf1 qf2 qr0 qt0 qt1 qt2 qt3 qu0 qu1 qu2 qu3 qw0 qw1 qw2 qw3 qx0 qx1 qx2 qx3 qT qL1 qL2 qL0 qv0 qv1 qv2 qv3 qX0 qf3 qz0 qn0 qt4 qu4 qw4 qx4 qv4 qv5 qk0 qb0 qe0 qD0 qh0 qD1 cI cJ cZ cB cT d_n d_for d_road f_row f_fears r_tx r_rul t_cl t_ln t_pt t_code t_st t_en u_cl u_ln u_pt u_code u_st u_en w_cl w_ln w_pt w_code w_st w_en x_cl x_ln x_pt x_code x_st x_en l_names l_stack v_up v_low v_gone v_may v_must v_liv v_best v_way)) hP [0, 1, 2, 30, 31, 3, 4, 5, 6, 7, 8, 9, 10, 11, 12, 13, 14, 15, 16, 17, 18, 19, 20, 21, 22, 23, 24, 25, 26, 27, 28, 29] rfl
            have hD := hD.sub (ws' := (W_X_0t5_16_34t37_39t42_44t47_49t52_54_61t63_70t73_76 qd0 qd1 qd2 qf0 qf1 qf2 qr0 qt0 qt1 qt2 qt3 qu0 qu1 qu2 qu3 qw0 qw1 qw2 qw3 qx0 qx1 qx2 qx3 qT qL1 qL2 qL0 qv0 qv1 qv2 qv3 qX0 qf3 qz0 qn0 qt4 qu4 qw4 qx4 qv4 qv5 qk0 qb0 qe0 qD0 qh0 qD1 cI cJ cZ cB cT d_n d_for d_road f_row f_fears r_tx r_rul t_cl t_ln t_pt t_code t_st t_en u_cl u_ln u_pt u_code u_st u_en w_cl w_ln w_pt w_code w_st w_en x_cl x_ln x_pt x_code x_st x_en l_names l_stack v_up v_low v_gone v_may v_must v_liv v_best v_way)) [0, 1, 2, 30, 31, 3, 4, 5, 6, 7, 8, 9, 10, 11, 12, 13, 14, 15, 16, 17, 18, 19, 20, 21, 22, 23, 24, 25, 26, 27, 28, 29] rfl rfl
            refine lv_iconst (v := (1 : Int32)) hx hb dX11_surest_46 (by decide) ?_
            refine xicmp_eq hx hb 53 dX11_surest_47 (by decide) hf (fun hf => ?_) (fun hf => ?_)
            · refine lv_aload_n hx hb dX11_surest_53 rfl (lv_at hl 0 rfl) ?_
              refine gfX11_91 hx hb hts hown hK hP 31 rfl rfl dX11_surest_54 ?_
              refine lv_aload_n hx hb dX11_surest_57 rfl (lv_at hl 0 rfl) ?_
              refine gfX11_10 hx hb hts hown hK hP 31 rfl rfl dX11_surest_58 ?_
              refine lv_aload_n hx hb dX11_surest_61 rfl (lv_at hl 0 rfl) ?_
              refine gfX11_46 hx hb hts hown hK hP 31 rfl rfl dX11_surest_62 ?_
              refine lv_iload_n hx hb dX11_surest_65 rfl (lv_at hl 1 rfl) ?_
              refine lv_iload_n hx hb dX11_surest_66 rfl (lv_at hl 2 rfl) ?_
              obtain ⟨v_up_67, v_low_67, v_liv_67, v_best_67, v_way_67, l_names_67, l_stack_67, hg67, hf⟩ := ob7_some hf
              refine mcVE_v (wr := [(qX0, .inr (11, [.ref qr0, .ref qk0, .ref qT, .ref qb0, .ref qe0, .ref qL0, .ref qf0, .ref qd0, .ref qn0, .ref qz0, .ref qD0, .ref qh0, .ref qD1, .ref qv0]))]) (As := [.ref qr0, .ref qL0, .int p1, .int p2]) (rest := []) hx hb hml hown hts hK hP hD hS hA hE (k_X10_seekSurest l N D cI cJ cZ cB cT qv0 qv1 qv2 qv3 qf0 qf1 qf2 qd0 qd1 qd2 qt0 qt1 qt2 qt3 qu0 qu1 qu2 qu3 qw0 qw1 qw2 qw3 qx0 qx1 qx2 qx3 qT qr0 qL1 qL2 qL0 qv4 qv5 qf3 qt4 qu4 qw4 qx4 qz0 qn0 v_up v_low v_gone v_may v_must v_liv v_best v_way f_row f_fears d_n d_for d_road t_cl t_ln t_pt t_code t_st t_en u_cl u_ln u_pt u_code u_st u_en w_cl w_ln w_pt w_code w_st w_en x_cl x_ln x_pt x_code x_st x_en r_tx r_rul l_names l_stack p1 p2 v_up_67 v_low_67 v_liv_67 v_best_67 v_way_67 l_names_67 l_stack_67 hg67) (kwX11_281 hts rfl rfl ⟨Nat.le_of_ble_eq_true rfl, Nat.le_of_ble_eq_true rfl⟩) [27, 28, 29, 30, 3, 4, 5, 0, 1, 2, 7, 8, 9, 10, 11, 12, 13, 14, 15, 16, 17, 18, 19, 20, 21, 22, 23, 6, 24, 25, 26] [31] rfl rfl rfl (by decide) rfl 0 rfl rfl rfl rfl hl.1 rfl (Nat.le_of_ble_eq_true rfl) dX11_surest_67 ⟨Nat.zero_le _, Nat.zero_le _⟩ (fun H locs hP hD hS => ?_)
              have hP := mP_sub (wc := (W_X_0t5_16_34t37_39t42_44t47_49t52_54_61t63_70t73_76 qd0 qd1 qd2 qf0 qf1 qf2 qr0 qt0 qt1 qt2 qt3 qu0 qu1 qu2 qu3 qw0 qw1 qw2 qw3 qx0 qx1 qx2 qx3 qT qL1 qL2 qL0 qv0 qv1 qv2 qv3 qX0 qf3 qz0 qn0 qt4 qu4 qw4 qx4 qv4 qv5 qk0 qb0 qe0 qD0 qh0 qD1 cI cJ cZ cB cT d_n d_for d_road f_row f_fears r_tx r_rul t_cl t_ln t_pt t_code t_st t_en u_cl u_ln u_pt u_code u_st u_en w_cl w_ln w_pt w_code w_st w_en x_cl x_ln x_pt x_code x_st x_en l_names_67 l_stack_67 v_up_67 v_low_67 v_gone v_may v_must v_liv_67 v_best_67 v_way_67)) hP [8, 9, 10, 5, 6, 7, 28, 11, 12, 13, 14, 15, 16, 17, 18, 19, 20, 21, 22, 23, 24, 25, 26, 27, 29, 30, 31, 1, 2, 3, 4, 0] rfl
              have hD := hD.sub (ws' := (W_X_0t5_16_34t37_39t42_44t47_49t52_54_61t63_70t73_76 qd0 qd1 qd2 qf0 qf1 qf2 qr0 qt0 qt1 qt2 qt3 qu0 qu1 qu2 qu3 qw0 qw1 qw2 qw3 qx0 qx1 qx2 qx3 qT qL1 qL2 qL0 qv0 qv1 qv2 qv3 qX0 qf3 qz0 qn0 qt4 qu4 qw4 qx4 qv4 qv5 qk0 qb0 qe0 qD0 qh0 qD1 cI cJ cZ cB cT d_n d_for d_road f_row f_fears r_tx r_rul t_cl t_ln t_pt t_code t_st t_en u_cl u_ln u_pt u_code u_st u_en w_cl w_ln w_pt w_code w_st w_en x_cl x_ln x_pt x_code x_st x_en l_names_67 l_stack_67 v_up_67 v_low_67 v_gone v_may v_must v_liv_67 v_best_67 v_way_67)) [8, 9, 10, 5, 6, 7, 28, 11, 12, 13, 14, 15, 16, 17, 18, 19, 20, 21, 22, 23, 24, 25, 26, 27, 29, 30, 31, 1, 2, 3, 4, 0] rfl rfl
              refine lv_iload_n hx hb dX11_surest_70 rfl (lv_at hl 3 rfl) ?_
              refine lv_bipush (v := (-2 : Int32)) hx hb dX11_surest_71 (by decide) ?_
              refine xicmp_ne hx hb 84 dX11_surest_73 (by decide) hf (fun hf => ?_) (fun hf => ?_)
              · refine lv_aload_n hx hb dX11_surest_76 rfl (lv_at hl 0 rfl) ?_
                refine gfX11_91 hx hb hts hown hK hP 31 rfl rfl dX11_surest_77 ?_
                refine gfX11_285 hx hb hts hown hK hP 27 rfl rfl dX11_surest_80 ?_
                cases hf
                exact mret_i hx hb hr hlocks hP hD hS dX11_surest_83 rfl trivial
              · refine lv_iload_n hx hb dX11_surest_84 rfl (lv_at hl 3 rfl) ?_
                refine lv_iconst (v := (-1 : Int32)) hx hb dX11_surest_85 (by decide) ?_
                refine xicmp_ne hx hb 99 dX11_surest_86 (by decide) hf (fun hf => ?_) (fun hf => ?_)
                · refine lv_aload_n hx hb dX11_surest_89 rfl (lv_at hl 0 rfl) ?_
                  refine gfX11_91 hx hb hts hown hK hP 31 rfl rfl dX11_surest_90 ?_
                  refine gfX11_288 hx hb hts hown hK hP 27 rfl rfl dX11_surest_93 ?_
                  refine lv_goto (tgt := 107) hx hb dX11_surest_96 (by decide) ?_
                  cases hf
                  exact mret_i hx hb hr hlocks hP hD hS dX11_surest_107 rfl trivial
                · refine lv_aload_n hx hb dX11_surest_99 rfl (lv_at hl 0 rfl) ?_
                  refine gfX11_91 hx hb hts hown hK hP 31 rfl rfl dX11_surest_100 ?_
                  refine lv_iload_n hx hb dX11_surest_103 rfl (lv_at hl 3 rfl) ?_
                  obtain ⟨r104, hg104, hf⟩ := ob1_some hf
                  refine mcV_i (wr := [(qd0, .inr (2, [.int d_n, .ref qd1, .ref qd2])), (qd1, .inl (cI, 8, .inl d_for)), (qd2, .inl (cI, 8, .inl d_road)), (qf0, .inr (1, [.ref qf1, .ref qf2, .ref qf3])), (qf1, .inl (cI, 76, .inl f_row)), (qf2, .inl (cI, 6, .inl f_fears)), (qr0, .inr (6, [.ref qd0, .ref qf0, .ref qz0, .ref qn0, .int r_tx, .int r_rul])), (qt0, .inr (9, [.int t_cl, .int t_ln, .int t_pt, .ref qt1, .ref qt2, .ref qt3, .ref qt4])), (qt1, .inl (cI, 301, .inl t_code)), (qt2, .inl (cI, 4, .inl t_st)), (qt3, .inl (cI, 4, .inl t_en)), (qu0, .inr (9, [.int u_cl, .int u_ln, .int u_pt, .ref qu1, .ref qu2, .ref qu3, .ref qu4])), (qu1, .inl (cI, 301, .inl u_code)), (qu2, .inl (cI, 4, .inl u_st)), (qu3, .inl (cI, 4, .inl u_en)), (qw0, .inr (9, [.int w_cl, .int w_ln, .int w_pt, .ref qw1, .ref qw2, .ref qw3, .ref qw4])), (qw1, .inl (cI, 301, .inl w_code)), (qw2, .inl (cI, 4, .inl w_st)), (qw3, .inl (cI, 4, .inl w_en)), (qx0, .inr (9, [.int x_cl, .int x_ln, .int x_pt, .ref qx1, .ref qx2, .ref qx3, .ref qx4])), (qx1, .inl (cI, 301, .inl x_code)), (qx2, .inl (cI, 4, .inl x_st)), (qx3, .inl (cI, 4, .inl x_en)), (qT, .inl (cT, 4, .inr (.inr (.inr (.inr (fT qt0 qu0 qw0 qx0)))))), (qL1, .inl (cI, 10, .inl l_names_67)), (qL2, .inl (cI, 64, .inl l_stack_67)), (qL0, .inr (3, [.ref qr0, .ref qT, .ref qL1, .ref qL2])), (qv1, .inl (cI, 8, .inl v_liv_67)), (qv2, .inl (cI, 56, .inl v_best_67)), (qX0, .inr (11, [.ref qr0, .ref qk0, .ref qT, .ref qb0, .ref qe0, .ref qL0, .ref qf0, .ref qd0, .ref qn0, .ref qz0, .ref qD0, .ref qh0, .ref qD1, .ref qv0]))]) (As := [.int p3]) (rest := []) hx hb hml hown hts hK hP hD hS hA (k_X10_landAt l N D cI cJ cZ cB cT qv0 qv3 qv1 qv2 qv4 qv5 v_up_67 v_low_67 v_gone v_may v_must v_way_67 p3 r104 hg104) (kwX11_291 hts rfl rfl ⟨Nat.le_of_ble_eq_true rfl, Nat.le_of_ble_eq_true rfl⟩) [27, 30] [0, 1, 2, 3, 4, 5, 6, 7, 8, 9, 10, 11, 12, 13, 14, 15, 16, 17, 18, 19, 20, 21, 22, 23, 24, 25, 26, 28, 29, 31] rfl rfl rfl (by decide) rfl 0 rfl rfl rfl rfl hl.1 rfl (Nat.le_of_ble_eq_true rfl) dX11_surest_104 ⟨Nat.zero_le _, Nat.zero_le _⟩ (fun hB104 H locs hP hD hS => ?_)
                  have hP := mP_sub (wc := (W_X_0t5_16_34t37_39t42_44t47_49t52_54_61t63_70t73_76 qd0 qd1 qd2 qf0 qf1 qf2 qr0 qt0 qt1 qt2 qt3 qu0 qu1 qu2 qu3 qw0 qw1 qw2 qw3 qx0 qx1 qx2 qx3 qT qL1 qL2 qL0 qv0 qv1 qv2 qv3 qX0 qf3 qz0 qn0 qt4 qu4 qw4 qx4 qv4 qv5 qk0 qb0 qe0 qD0 qh0 qD1 cI cJ cZ cB cT d_n d_for d_road f_row f_fears r_tx r_rul t_cl t_ln t_pt t_code t_st t_en u_cl u_ln u_pt u_code u_st u_en w_cl w_ln w_pt w_code w_st w_en x_cl x_ln x_pt x_code x_st x_en l_names_67 l_stack_67 v_up_67 v_low_67 v_gone v_may v_must v_liv_67 v_best_67 v_way_67)) hP [0, 1, 2, 3, 4, 5, 6, 7, 8, 9, 10, 11, 12, 13, 14, 15, 16, 17, 18, 19, 20, 21, 22, 23, 24, 25, 26, 30, 27, 28, 31, 29] rfl
                  have hD := hD.sub (ws' := (W_X_0t5_16_34t37_39t42_44t47_49t52_54_61t63_70t73_76 qd0 qd1 qd2 qf0 qf1 qf2 qr0 qt0 qt1 qt2 qt3 qu0 qu1 qu2 qu3 qw0 qw1 qw2 qw3 qx0 qx1 qx2 qx3 qT qL1 qL2 qL0 qv0 qv1 qv2 qv3 qX0 qf3 qz0 qn0 qt4 qu4 qw4 qx4 qv4 qv5 qk0 qb0 qe0 qD0 qh0 qD1 cI cJ cZ cB cT d_n d_for d_road f_row f_fears r_tx r_rul t_cl t_ln t_pt t_code t_st t_en u_cl u_ln u_pt u_code u_st u_en w_cl w_ln w_pt w_code w_st w_en x_cl x_ln x_pt x_code x_st x_en l_names_67 l_stack_67 v_up_67 v_low_67 v_gone v_may v_must v_liv_67 v_best_67 v_way_67)) [0, 1, 2, 3, 4, 5, 6, 7, 8, 9, 10, 11, 12, 13, 14, 15, 16, 17, 18, 19, 20, 21, 22, 23, 24, 25, 26, 30, 27, 28, 31, 29] rfl rfl
                  cases hf
                  exact mret_i hx hb hr hlocks hP hD hS dX11_surest_107 rfl trivial
            · refine lv_bipush (v := (-3 : Int32)) hx hb dX11_surest_50 (by decide) ?_
              cases hf
              exact mret_i hx hb hr hlocks hP hD hS dX11_surest_52 rfl trivial
        · refine lv_bipush (v := (-3 : Int32)) hx hb dX11_surest_22 (by decide) ?_
          cases hf
          exact mret_i hx hb hr hlocks hP hD hS dX11_surest_24 rfl trivial
theorem dX11_steps_0 : decode cX11_steps 0 = .ok (.aload_n 0, 1) := by decide +kernel
theorem dX11_steps_1 : decode cX11_steps 1 = .ok (.getfield 59, 3) := by decide +kernel
theorem dX11_steps_4 : decode cX11_steps 4 = .ok (.iload_n 1, 1) := by decide +kernel
theorem dX11_steps_5 : decode cX11_steps 5 = .ok (.invokevirtual 106, 3) := by decide +kernel
theorem dX11_steps_8 : decode cX11_steps 8 = .ok (.ifCond .eq 14, 3) := by decide +kernel
theorem dX11_steps_11 : decode cX11_steps 11 = .ok (.aload_n 0, 1) := by decide +kernel
theorem dX11_steps_12 : decode cX11_steps 12 = .ok (.getfield 59, 3) := by decide +kernel
theorem dX11_steps_15 : decode cX11_steps 15 = .ok (.iload_n 2, 1) := by decide +kernel
theorem dX11_steps_16 : decode cX11_steps 16 = .ok (.invokevirtual 106, 3) := by decide +kernel
theorem dX11_steps_19 : decode cX11_steps 19 = .ok (.ifCond .ne 5, 3) := by decide +kernel
theorem dX11_steps_22 : decode cX11_steps 22 = .ok (.iconst (-1), 1) := by decide +kernel
theorem dX11_steps_23 : decode cX11_steps 23 = .ok (.ireturn, 1) := by decide +kernel
theorem dX11_steps_24 : decode cX11_steps 24 = .ok (.aload_n 0, 1) := by decide +kernel
theorem dX11_steps_25 : decode cX11_steps 25 = .ok (.getfield 59, 3) := by decide +kernel
theorem dX11_steps_28 : decode cX11_steps 28 = .ok (.iload_n 1, 1) := by decide +kernel
theorem dX11_steps_29 : decode cX11_steps 29 = .ok (.iconst 1, 1) := by decide +kernel
theorem dX11_steps_30 : decode cX11_steps 30 = .ok (.iload_n 2, 1) := by decide +kernel
theorem dX11_steps_31 : decode cX11_steps 31 = .ok (.ishl, 1) := by decide +kernel
theorem dX11_steps_32 : decode cX11_steps 32 = .ok (.invokevirtual 294, 3) := by decide +kernel
theorem dX11_steps_35 : decode cX11_steps 35 = .ok (.ireturn, 1) := by decide +kernel
def f_X11_steps (N : Nat) (d_n : Int32) (d_road : Nat → Int32) (p1 : Int32) (p2 : Int32) : Option (Int32) := ob1 (f_X2_told N d_n p1) fun r5 => if r5 = 0 then (some (-1 : Int32)) else (ob1 (f_X2_told N d_n p2) fun r16 => if r16 = 0 then (some (-1 : Int32)) else (ob1 (f_X2_distance N d_n d_road p1 ((1 : Int32) <<< (p2 &&& 31))) fun r32 => some r32))
set_option maxHeartbeats 4000000 in
set_option maxRecDepth 100000 in
theorem k_X11_steps (l : Launch) (N : Nat) (D : va_G) (cI cJ cZ cB cT : ClassId) (qd0 : Nat) (qd2 : Nat) (qX0 : Nat) (qd1 : Nat) (qr0 : Nat) (qk0 : Nat) (qT : Nat) (qb0 : Nat) (qe0 : Nat) (qL0 : Nat) (qf0 : Nat) (qn0 : Nat) (qz0 : Nat) (qD0 : Nat) (qh0 : Nat) (qD1 : Nat) (qv0 : Nat) (d_n : Int32) (d_road : Nat → Int32) (p1 : Int32) (p2 : Int32) (o_r : Int32) (hf : f_X11_steps N d_n d_road p1 p2 = some o_r) : ∀ sz, Met l yX11_steps (mw yX11_steps cX11_steps 3 (some .int)) ({ frames := 2, cells := 0, slots := 0, locals := 47 } : Room) (mPre D (mT cI cJ cZ cB cT) (W_X_0_2_76 qd0 qd2 qX0 qd1 qr0 qk0 qT qb0 qe0 qL0 qf0 qn0 qz0 qD0 qh0 qD1 qv0 cI cJ cZ cB cT d_n d_road) sz [.ref qX0, .int p1, .int p2]) ((mQi D (W_X_0_2_76 qd0 qd2 qX0 qd1 qr0 qk0 qT qb0 qe0 qL0 qf0 qn0 qz0 qD0 qh0 qD1 qv0 cI cJ cZ cB cT d_n d_road) o_r True) (va_A (W_X_0_2_76 qd0 qd2 qX0 qd1 qr0 qk0 qT qb0 qe0 qL0 qf0 qn0 qz0 qD0 qh0 qD1 qv0 cI cJ cZ cB cT d_n d_road) sz)) 0 0 (va_A (W_X_0_2_76 qd0 qd2 qX0 qd1 qr0 qk0 qT qb0 qe0 qL0 qf0 qn0 qz0 qD0 qh0 qD1 qv0 cI cJ cZ cB cT d_n d_road) sz) := by
  refine mMet (Qc := (mQi D (W_X_0_2_76 qd0 qd2 qX0 qd1 qr0 qk0 qT qb0 qe0 qL0 qf0 qn0 qz0 qD0 qh0 qD1 qv0 cI cJ cZ cB cT d_n d_road) o_r True)) (by decide) (Nat.le_of_ble_eq_true rfl) (fun p e s m below meth c A ls hx hb hr hml hts hown hlocks hK hA hP hD hl => ?_)
  have hown : s.vm.findClass RX11 = some m.cls := hown
  have hl : lv_has ls 3 [(0, .ref qX0), (1, .int p1), (2, .int p2)] := hl
  have hS : va_S A s.heap s.heap [] := va_S.rf
  unfold f_X11_steps at hf
  refine lv_aload_n hx hb dX11_steps_0 rfl (lv_at hl 0 rfl) ?_
  refine gfX11_59 hx hb hts hown hK hP 2 rfl rfl dX11_steps_1 ?_
  refine lv_iload_n hx hb dX11_steps_4 rfl (lv_at hl 1 rfl) ?_
  obtain ⟨r5, hg5, hf⟩ := ob1_some hf
  refine mcV_i (wr := [(qd2, .inl (cI, 8, .inl d_road)), (qX0, .inr (11, [.ref qr0, .ref qk0, .ref qT, .ref qb0, .ref qe0, .ref qL0, .ref qf0, .ref qd0, .ref qn0, .ref qz0, .ref qD0, .ref qh0, .ref qD1, .ref qv0]))]) (As := [.int p1]) (rest := []) hx hb hml hown hts hK hP hD hS hA (k_X2_told l N D cI cJ cZ cB cT qd0 qd1 qd2 d_n p1 r5 hg5) (kwX11_106 hts rfl rfl ⟨Nat.le_of_ble_eq_true rfl, Nat.le_of_ble_eq_true rfl⟩) [0] [1, 2] rfl rfl rfl (by decide) rfl 0 rfl rfl rfl rfl hl.1 rfl (Nat.le_of_ble_eq_true rfl) dX11_steps_5 ⟨Nat.zero_le _, Nat.zero_le _⟩ (fun hB5 H locs hP hD hS => ?_)
  have hP := mP_sub (wc := (W_X_0_2_76 qd0 qd2 qX0 qd1 qr0 qk0 qT qb0 qe0 qL0 qf0 qn0 qz0 qD0 qh0 qD1 qv0 cI cJ cZ cB cT d_n d_road)) hP [2, 0, 1] rfl
  have hD := hD.sub (ws' := (W_X_0_2_76 qd0 qd2 qX0 qd1 qr0 qk0 qT qb0 qe0 qL0 qf0 qn0 qz0 qD0 qh0 qD1 qv0 cI cJ cZ cB cT d_n d_road)) [2, 0, 1] rfl rfl
  refine xif_eq hx hb 22 dX11_steps_8 (by decide) hf (fun hf => ?_) (fun hf => ?_)
  · refine lv_iconst (v := (-1 : Int32)) hx hb dX11_steps_22 (by decide) ?_
    cases hf
    exact mret_i hx hb hr hlocks hP hD hS dX11_steps_23 rfl trivial
  · refine lv_aload_n hx hb dX11_steps_11 rfl (lv_at hl 0 rfl) ?_
    refine gfX11_59 hx hb hts hown hK hP 2 rfl rfl dX11_steps_12 ?_
    refine lv_iload_n hx hb dX11_steps_15 rfl (lv_at hl 2 rfl) ?_
    obtain ⟨r16, hg16, hf⟩ := ob1_some hf
    refine mcV_i (wr := [(qd2, .inl (cI, 8, .inl d_road)), (qX0, .inr (11, [.ref qr0, .ref qk0, .ref qT, .ref qb0, .ref qe0, .ref qL0, .ref qf0, .ref qd0, .ref qn0, .ref qz0, .ref qD0, .ref qh0, .ref qD1, .ref qv0]))]) (As := [.int p2]) (rest := []) hx hb hml hown hts hK hP hD hS hA (k_X2_told l N D cI cJ cZ cB cT qd0 qd1 qd2 d_n p2 r16 hg16) (kwX11_106 hts rfl rfl ⟨Nat.le_of_ble_eq_true rfl, Nat.le_of_ble_eq_true rfl⟩) [0] [1, 2] rfl rfl rfl (by decide) rfl 0 rfl rfl rfl rfl hl.1 rfl (Nat.le_of_ble_eq_true rfl) dX11_steps_16 ⟨Nat.zero_le _, Nat.zero_le _⟩ (fun hB16 H locs hP hD hS => ?_)
    have hP := mP_sub (wc := (W_X_0_2_76 qd0 qd2 qX0 qd1 qr0 qk0 qT qb0 qe0 qL0 qf0 qn0 qz0 qD0 qh0 qD1 qv0 cI cJ cZ cB cT d_n d_road)) hP [2, 0, 1] rfl
    have hD := hD.sub (ws' := (W_X_0_2_76 qd0 qd2 qX0 qd1 qr0 qk0 qT qb0 qe0 qL0 qf0 qn0 qz0 qD0 qh0 qD1 qv0 cI cJ cZ cB cT d_n d_road)) [2, 0, 1] rfl rfl
    refine xif_ne hx hb 24 dX11_steps_19 (by decide) hf (fun hf => ?_) (fun hf => ?_)
    · refine lv_iconst (v := (-1 : Int32)) hx hb dX11_steps_22 (by decide) ?_
      cases hf
      exact mret_i hx hb hr hlocks hP hD hS dX11_steps_23 rfl trivial
    · refine lv_aload_n hx hb dX11_steps_24 rfl (lv_at hl 0 rfl) ?_
      refine gfX11_59 hx hb hts hown hK hP 2 rfl rfl dX11_steps_25 ?_
      refine lv_iload_n hx hb dX11_steps_28 rfl (lv_at hl 1 rfl) ?_
      refine lv_iconst (v := (1 : Int32)) hx hb dX11_steps_29 (by decide) ?_
      refine lv_iload_n hx hb dX11_steps_30 rfl (lv_at hl 2 rfl) ?_
      refine lv_ishl hx hb dX11_steps_31 ?_
      obtain ⟨r32, hg32, hf⟩ := ob1_some hf
      refine mcV_i (wr := [(qX0, .inr (11, [.ref qr0, .ref qk0, .ref qT, .ref qb0, .ref qe0, .ref qL0, .ref qf0, .ref qd0, .ref qn0, .ref qz0, .ref qD0, .ref qh0, .ref qD1, .ref qv0]))]) (As := [.int p1, .int ((1 : Int32) <<< (p2 &&& 31))]) (rest := []) hx hb hml hown hts hK hP hD hS hA (k_X2_distance l N D cI cJ cZ cB cT qd0 qd2 qd1 d_n d_road p1 ((1 : Int32) <<< (p2 &&& 31)) r32 hg32) (kwX11_294 hts rfl rfl ⟨Nat.le_of_ble_eq_true rfl, Nat.le_of_ble_eq_true rfl⟩) [0, 1] [2] rfl rfl rfl (by decide) rfl 0 rfl rfl rfl rfl hl.1 rfl (Nat.le_of_ble_eq_true rfl) dX11_steps_32 ⟨Nat.zero_le _, Nat.zero_le _⟩ (fun hB32 H locs hP hD hS => ?_)
      have hP := mP_sub (wc := (W_X_0_2_76 qd0 qd2 qX0 qd1 qr0 qk0 qT qb0 qe0 qL0 qf0 qn0 qz0 qD0 qh0 qD1 qv0 cI cJ cZ cB cT d_n d_road)) hP [1, 2, 0] rfl
      have hD := hD.sub (ws' := (W_X_0_2_76 qd0 qd2 qX0 qd1 qr0 qk0 qT qb0 qe0 qL0 qf0 qn0 qz0 qD0 qh0 qD1 qv0 cI cJ cZ cB cT d_n d_road)) [1, 2, 0] rfl rfl
      cases hf
      exact mret_i hx hb hr hlocks hP hD hS dX11_steps_35 rfl trivial
theorem dX11_unheard_0 : decode cX11_unheard 0 = .ok (.aload_n 0, 1) := by decide +kernel
theorem dX11_unheard_1 : decode cX11_unheard 1 = .ok (.getfield 59, 3) := by decide +kernel
theorem dX11_unheard_4 : decode cX11_unheard 4 = .ok (.iload_n 1, 1) := by decide +kernel
theorem dX11_unheard_5 : decode cX11_unheard 5 = .ok (.invokevirtual 106, 3) := by decide +kernel
theorem dX11_unheard_8 : decode cX11_unheard 8 = .ok (.ifCond .eq 13, 3) := by decide +kernel
theorem dX11_unheard_11 : decode cX11_unheard 11 = .ok (.iload_n 2, 1) := by decide +kernel
theorem dX11_unheard_12 : decode cX11_unheard 12 = .ok (.ifCond .lt 9, 3) := by decide +kernel
theorem dX11_unheard_15 : decode cX11_unheard 15 = .ok (.iload_n 2, 1) := by decide +kernel
theorem dX11_unheard_16 : decode cX11_unheard 16 = .ok (.bipush 9, 2) := by decide +kernel
theorem dX11_unheard_18 : decode cX11_unheard 18 = .ok (.if_icmp .le 5, 3) := by decide +kernel
theorem dX11_unheard_21 : decode cX11_unheard 21 = .ok (.iconst (-1), 1) := by decide +kernel
theorem dX11_unheard_22 : decode cX11_unheard 22 = .ok (.ireturn, 1) := by decide +kernel
theorem dX11_unheard_23 : decode cX11_unheard 23 = .ok (.iconst 1, 1) := by decide +kernel
theorem dX11_unheard_24 : decode cX11_unheard 24 = .ok (.iload_n 1, 1) := by decide +kernel
theorem dX11_unheard_25 : decode cX11_unheard 25 = .ok (.ishl, 1) := by decide +kernel
theorem dX11_unheard_26 : decode cX11_unheard 26 = .ok (.istore_n 3, 1) := by decide +kernel
theorem dX11_unheard_27 : decode cX11_unheard 27 = .ok (.iconst 0, 1) := by decide +kernel
theorem dX11_unheard_28 : decode cX11_unheard 28 = .ok (.istore 4, 2) := by decide +kernel
theorem dX11_unheard_30 : decode cX11_unheard 30 = .ok (.iload 4, 2) := by decide +kernel
theorem dX11_unheard_32 : decode cX11_unheard 32 = .ok (.iload_n 2, 1) := by decide +kernel
theorem dX11_unheard_33 : decode cX11_unheard 33 = .ok (.if_icmp .ge 18, 3) := by decide +kernel
theorem dX11_unheard_36 : decode cX11_unheard 36 = .ok (.aload_n 0, 1) := by decide +kernel
theorem dX11_unheard_37 : decode cX11_unheard 37 = .ok (.getfield 59, 3) := by decide +kernel
theorem dX11_unheard_40 : decode cX11_unheard 40 = .ok (.iload_n 3, 1) := by decide +kernel
theorem dX11_unheard_41 : decode cX11_unheard 41 = .ok (.invokevirtual 297, 3) := by decide +kernel
theorem dX11_unheard_44 : decode cX11_unheard 44 = .ok (.istore_n 3, 1) := by decide +kernel
theorem dX11_unheard_45 : decode cX11_unheard 45 = .ok (.iinc 4 1, 3) := by decide +kernel
theorem dX11_unheard_48 : decode cX11_unheard 48 = .ok (.goto (-18), 3) := by decide +kernel
theorem dX11_unheard_51 : decode cX11_unheard 51 = .ok (.aload_n 0, 1) := by decide +kernel
theorem dX11_unheard_52 : decode cX11_unheard 52 = .ok (.getfield 59, 3) := by decide +kernel
theorem dX11_unheard_55 : decode cX11_unheard 55 = .ok (.invokevirtual 300, 3) := by decide +kernel
theorem dX11_unheard_58 : decode cX11_unheard 58 = .ok (.iload_n 3, 1) := by decide +kernel
theorem dX11_unheard_59 : decode cX11_unheard 59 = .ok (.iconst (-1), 1) := by decide +kernel
theorem dX11_unheard_60 : decode cX11_unheard 60 = .ok (.ixor, 1) := by decide +kernel
theorem dX11_unheard_61 : decode cX11_unheard 61 = .ok (.iand, 1) := by decide +kernel
theorem dX11_unheard_62 : decode cX11_unheard 62 = .ok (.ireturn, 1) := by decide +kernel
def f_X11_unheard_30 (N : Nat) : Nat → Int32 → (Nat → Int32) → Int32 → Int32 → Int32 → Option (Int32)
  | 0, _, _, _, _, _ => none
  | n + 1, d_n, d_road, x2, x3, x4 => if x2 ≤ x4 then (ob1 (f_X2_all N d_n) fun r55 => some (r55 &&& (x3 ^^^ (-1 : Int32)))) else (ob1 (f_X2_spread N d_n d_road x3) fun r41 => (f_X11_unheard_30 N n) d_n d_road x2 r41 (x4 + (1 : Int32)))
def f_X11_unheard (N : Nat) (d_n : Int32) (d_road : Nat → Int32) (p1 : Int32) (p2 : Int32) : Option (Int32) := ob1 (f_X2_told N d_n p1) fun r5 => if r5 = 0 then (some (-1 : Int32)) else (if p2 < 0 then (some (-1 : Int32)) else (if p2 ≤ (9 : Int32) then (f_X11_unheard_30 N N d_n d_road p2 ((1 : Int32) <<< (p1 &&& 31)) (0 : Int32)) else (some (-1 : Int32))))
set_option maxHeartbeats 4000000 in
set_option maxRecDepth 100000 in
theorem k_X11_unheard (l : Launch) (N : Nat) (D : va_G) (cI cJ cZ cB cT : ClassId) (qd0 : Nat) (qd2 : Nat) (qX0 : Nat) (qd1 : Nat) (qr0 : Nat) (qk0 : Nat) (qT : Nat) (qb0 : Nat) (qe0 : Nat) (qL0 : Nat) (qf0 : Nat) (qn0 : Nat) (qz0 : Nat) (qD0 : Nat) (qh0 : Nat) (qD1 : Nat) (qv0 : Nat) (d_n : Int32) (d_road : Nat → Int32) (p1 : Int32) (p2 : Int32) (o_r : Int32) (hf : f_X11_unheard N d_n d_road p1 p2 = some o_r) : ∀ sz, Met l yX11_unheard (mw yX11_unheard cX11_unheard 5 (some .int)) ({ frames := 1, cells := 0, slots := 0, locals := 23 } : Room) (mPre D (mT cI cJ cZ cB cT) (W_X_0_2_76 qd0 qd2 qX0 qd1 qr0 qk0 qT qb0 qe0 qL0 qf0 qn0 qz0 qD0 qh0 qD1 qv0 cI cJ cZ cB cT d_n d_road) sz [.ref qX0, .int p1, .int p2]) ((mQi D (W_X_0_2_76 qd0 qd2 qX0 qd1 qr0 qk0 qT qb0 qe0 qL0 qf0 qn0 qz0 qD0 qh0 qD1 qv0 cI cJ cZ cB cT d_n d_road) o_r True) (va_A (W_X_0_2_76 qd0 qd2 qX0 qd1 qr0 qk0 qT qb0 qe0 qL0 qf0 qn0 qz0 qD0 qh0 qD1 qv0 cI cJ cZ cB cT d_n d_road) sz)) 0 0 (va_A (W_X_0_2_76 qd0 qd2 qX0 qd1 qr0 qk0 qT qb0 qe0 qL0 qf0 qn0 qz0 qD0 qh0 qD1 qv0 cI cJ cZ cB cT d_n d_road) sz) := by
  refine mMet (Qc := (mQi D (W_X_0_2_76 qd0 qd2 qX0 qd1 qr0 qk0 qT qb0 qe0 qL0 qf0 qn0 qz0 qD0 qh0 qD1 qv0 cI cJ cZ cB cT d_n d_road) o_r True)) (by decide) (Nat.le_of_ble_eq_true rfl) (fun p e s m below meth c A ls hx hb hr hml hts hown hlocks hK hA hP hD hl => ?_)
  have hown : s.vm.findClass RX11 = some m.cls := hown
  have hl : lv_has ls 5 [(0, .ref qX0), (1, .int p1), (2, .int p2)] := hl
  have hS : va_S A s.heap s.heap [] := va_S.rf
  have b30 : ∀ n30 : Nat, ∀ (x2 : Int32) (x3 : Int32) (x4 : Int32) (H : Heap) (locs : List Loc) (ls : Array Slot), f_X11_unheard_30 N n30 d_n d_road x2 x3 x4 = some o_r → va_P D vwCl (W_X_0_2_76 qd0 qd2 qX0 qd1 qr0 qk0 qT qb0 qe0 qL0 qf0 qn0 qz0 qD0 qh0 qD1 qv0 cI cJ cZ cB cT d_n d_road) H → va_D A (W_X_0_2_76 qd0 qd2 qX0 qd1 qr0 qk0 qT qb0 qe0 qL0 qf0 qn0 qz0 qD0 qh0 qD1 qv0 cI cJ cZ cB cT d_n d_road) → va_S A s.heap H locs → lv_has ls 5 [(0, .ref qX0), (2, .int x2), (3, .int x3), (4, .int x4)] → W p l e ({ frames := 1, cells := 0, slots := 0, locals := 23 } : Room) s m ([.ref qX0, .int p1, .int p2] : List Value).toArray below meth c H locs 0 0 (MQ below ((mQi D (W_X_0_2_76 qd0 qd2 qX0 qd1 qr0 qk0 qT qb0 qe0 qL0 qf0 qn0 qz0 qD0 qh0 qD1 qv0 cI cJ cZ cB cT d_n d_road) o_r True) A) ([.ref qX0, .int p1, .int p2] : List Value).toArray s 0 0 A) (F0 m 30 ls []) := by
    intro n30
    induction n30 with
    | zero =>
      intro x2 x3 x4 H locs ls hf hP hD hS hl
      simp [f_X11_unheard_30] at hf
    | succ n30 ih30 =>
      intro x2 x3 x4 H locs ls hf hP hD hS hl
      rw [f_X11_unheard_30.eq_2] at hf
      refine lv_iload hx hb dX11_unheard_30 (lv_at hl 3 rfl) ?_
      refine lv_iload_n hx hb dX11_unheard_32 rfl (lv_at hl 1 rfl) ?_
      refine xicmp_ge hx hb 51 dX11_unheard_33 (by decide) hf (fun hf => ?_) (fun hf => ?_)
      · refine lv_aload_n hx hb dX11_unheard_51 rfl (lv_at hl 0 rfl) ?_
        refine gfX11_59 hx hb hts hown hK hP 2 rfl rfl dX11_unheard_52 ?_
        obtain ⟨r55, hg55, hf⟩ := ob1_some hf
        refine mcV_i (wr := [(qd2, .inl (cI, 8, .inl d_road)), (qX0, .inr (11, [.ref qr0, .ref qk0, .ref qT, .ref qb0, .ref qe0, .ref qL0, .ref qf0, .ref qd0, .ref qn0, .ref qz0, .ref qD0, .ref qh0, .ref qD1, .ref qv0]))]) (As := []) (rest := []) hx hb hml hown hts hK hP hD hS hA (k_X2_all l N D cI cJ cZ cB cT qd0 qd1 qd2 d_n r55 hg55) (kwX11_300 hts rfl rfl ⟨Nat.le_of_ble_eq_true rfl, Nat.le_of_ble_eq_true rfl⟩) [0] [1, 2] rfl rfl rfl (by decide) rfl 0 rfl rfl rfl rfl hl.1 rfl (Nat.le_of_ble_eq_true rfl) dX11_unheard_55 ⟨Nat.zero_le _, Nat.zero_le _⟩ (fun hB55 H locs hP hD hS => ?_)
        have hP := mP_sub (wc := (W_X_0_2_76 qd0 qd2 qX0 qd1 qr0 qk0 qT qb0 qe0 qL0 qf0 qn0 qz0 qD0 qh0 qD1 qv0 cI cJ cZ cB cT d_n d_road)) hP [2, 0, 1] rfl
        have hD := hD.sub (ws' := (W_X_0_2_76 qd0 qd2 qX0 qd1 qr0 qk0 qT qb0 qe0 qL0 qf0 qn0 qz0 qD0 qh0 qD1 qv0 cI cJ cZ cB cT d_n d_road)) [2, 0, 1] rfl rfl
        refine lv_iload_n hx hb dX11_unheard_58 rfl (lv_at hl 2 rfl) ?_
        refine lv_iconst (v := (-1 : Int32)) hx hb dX11_unheard_59 (by decide) ?_
        refine lv_ixor hx hb dX11_unheard_60 ?_
        refine lv_iand hx hb dX11_unheard_61 ?_
        cases hf
        exact mret_i hx hb hr hlocks hP hD hS dX11_unheard_62 rfl trivial
      · refine lv_aload_n hx hb dX11_unheard_36 rfl (lv_at hl 0 rfl) ?_
        refine gfX11_59 hx hb hts hown hK hP 2 rfl rfl dX11_unheard_37 ?_
        refine lv_iload_n hx hb dX11_unheard_40 rfl (lv_at hl 2 rfl) ?_
        obtain ⟨r41, hg41, hf⟩ := ob1_some hf
        refine mcV_i (wr := [(qX0, .inr (11, [.ref qr0, .ref qk0, .ref qT, .ref qb0, .ref qe0, .ref qL0, .ref qf0, .ref qd0, .ref qn0, .ref qz0, .ref qD0, .ref qh0, .ref qD1, .ref qv0]))]) (As := [.int x3]) (rest := []) hx hb hml hown hts hK hP hD hS hA (k_X2_spread l N D cI cJ cZ cB cT qd0 qd2 qd1 d_n d_road x3 r41 hg41) (kwX11_297 hts rfl rfl ⟨Nat.le_of_ble_eq_true rfl, Nat.le_of_ble_eq_true rfl⟩) [0, 1] [2] rfl rfl rfl (by decide) rfl 0 rfl rfl rfl rfl hl.1 rfl (Nat.le_of_ble_eq_true rfl) dX11_unheard_41 ⟨Nat.zero_le _, Nat.zero_le _⟩ (fun hB41 H locs hP hD hS => ?_)
        have hP := mP_sub (wc := (W_X_0_2_76 qd0 qd2 qX0 qd1 qr0 qk0 qT qb0 qe0 qL0 qf0 qn0 qz0 qD0 qh0 qD1 qv0 cI cJ cZ cB cT d_n d_road)) hP [1, 2, 0] rfl
        have hD := hD.sub (ws' := (W_X_0_2_76 qd0 qd2 qX0 qd1 qr0 qk0 qT qb0 qe0 qL0 qf0 qn0 qz0 qD0 qh0 qD1 qv0 cI cJ cZ cB cT d_n d_road)) [1, 2, 0] rfl rfl
        refine lv_istore_n (lv' := [(3, .int r41), (0, .ref qX0), (2, .int x2), (4, .int x4)]) hx hb dX11_unheard_44 rfl hl (by decide) rfl (fun ls hl => ?_)
        refine lv_iinc (v := (x4 + (1 : Int32))) (lv' := [(4, .int (x4 + (1 : Int32))), (3, .int r41), (0, .ref qX0), (2, .int x2)]) hx hb dX11_unheard_45 hl (k := 3) rfl rfl (by decide) rfl (fun ls hl => ?_)
        refine lv_goto (tgt := 30) hx hb dX11_unheard_48 (by decide) ?_
        exact ih30 x2 r41 (x4 + (1 : Int32)) _ _ _ hf hP hD hS (lv_sub hl [2, 3, 1, 0] rfl)
  unfold f_X11_unheard at hf
  refine lv_aload_n hx hb dX11_unheard_0 rfl (lv_at hl 0 rfl) ?_
  refine gfX11_59 hx hb hts hown hK hP 2 rfl rfl dX11_unheard_1 ?_
  refine lv_iload_n hx hb dX11_unheard_4 rfl (lv_at hl 1 rfl) ?_
  obtain ⟨r5, hg5, hf⟩ := ob1_some hf
  refine mcV_i (wr := [(qd2, .inl (cI, 8, .inl d_road)), (qX0, .inr (11, [.ref qr0, .ref qk0, .ref qT, .ref qb0, .ref qe0, .ref qL0, .ref qf0, .ref qd0, .ref qn0, .ref qz0, .ref qD0, .ref qh0, .ref qD1, .ref qv0]))]) (As := [.int p1]) (rest := []) hx hb hml hown hts hK hP hD hS hA (k_X2_told l N D cI cJ cZ cB cT qd0 qd1 qd2 d_n p1 r5 hg5) (kwX11_106 hts rfl rfl ⟨Nat.le_of_ble_eq_true rfl, Nat.le_of_ble_eq_true rfl⟩) [0] [1, 2] rfl rfl rfl (by decide) rfl 0 rfl rfl rfl rfl hl.1 rfl (Nat.le_of_ble_eq_true rfl) dX11_unheard_5 ⟨Nat.zero_le _, Nat.zero_le _⟩ (fun hB5 H locs hP hD hS => ?_)
  have hP := mP_sub (wc := (W_X_0_2_76 qd0 qd2 qX0 qd1 qr0 qk0 qT qb0 qe0 qL0 qf0 qn0 qz0 qD0 qh0 qD1 qv0 cI cJ cZ cB cT d_n d_road)) hP [2, 0, 1] rfl
  have hD := hD.sub (ws' := (W_X_0_2_76 qd0 qd2 qX0 qd1 qr0 qk0 qT qb0 qe0 qL0 qf0 qn0 qz0 qD0 qh0 qD1 qv0 cI cJ cZ cB cT d_n d_road)) [2, 0, 1] rfl rfl
  refine xif_eq hx hb 21 dX11_unheard_8 (by decide) hf (fun hf => ?_) (fun hf => ?_)
  · refine lv_iconst (v := (-1 : Int32)) hx hb dX11_unheard_21 (by decide) ?_
    cases hf
    exact mret_i hx hb hr hlocks hP hD hS dX11_unheard_22 rfl trivial
  · refine lv_iload_n hx hb dX11_unheard_11 rfl (lv_at hl 2 rfl) ?_
    refine xif_lt hx hb 21 dX11_unheard_12 (by decide) hf (fun hf => ?_) (fun hf => ?_)
    · refine lv_iconst (v := (-1 : Int32)) hx hb dX11_unheard_21 (by decide) ?_
      cases hf
      exact mret_i hx hb hr hlocks hP hD hS dX11_unheard_22 rfl trivial
    · refine lv_iload_n hx hb dX11_unheard_15 rfl (lv_at hl 2 rfl) ?_
      refine lv_bipush (v := (9 : Int32)) hx hb dX11_unheard_16 (by decide) ?_
      refine xicmp_le hx hb 23 dX11_unheard_18 (by decide) hf (fun hf => ?_) (fun hf => ?_)
      · refine lv_iconst (v := (1 : Int32)) hx hb dX11_unheard_23 (by decide) ?_
        refine lv_iload_n hx hb dX11_unheard_24 rfl (lv_at hl 1 rfl) ?_
        refine lv_ishl hx hb dX11_unheard_25 ?_
        refine lv_istore_n (lv' := [(3, .int ((1 : Int32) <<< (p1 &&& 31))), (0, .ref qX0), (1, .int p1), (2, .int p2)]) hx hb dX11_unheard_26 rfl hl (by decide) rfl (fun ls hl => ?_)
        refine lv_iconst (v := (0 : Int32)) hx hb dX11_unheard_27 (by decide) ?_
        refine lv_istore (lv' := [(4, .int (0 : Int32)), (3, .int ((1 : Int32) <<< (p1 &&& 31))), (0, .ref qX0), (1, .int p1), (2, .int p2)]) hx hb dX11_unheard_28 hl (by decide) rfl (fun ls hl => ?_)
        exact b30 N p2 ((1 : Int32) <<< (p1 &&& 31)) (0 : Int32) _ _ _ hf hP hD hS (lv_sub hl [2, 4, 1, 0] rfl)
      · refine lv_iconst (v := (-1 : Int32)) hx hb dX11_unheard_21 (by decide) ?_
        cases hf
        exact mret_i hx hb hr hlocks hP hD hS dX11_unheard_22 rfl trivial
theorem dX11_crowd_0 : decode cX11_crowd 0 = .ok (.iload_n 1, 1) := by decide +kernel
theorem dX11_crowd_1 : decode cX11_crowd 1 = .ok (.iconst (-1), 1) := by decide +kernel
theorem dX11_crowd_2 : decode cX11_crowd 2 = .ok (.if_icmp .ne 12, 3) := by decide +kernel
theorem dX11_crowd_5 : decode cX11_crowd 5 = .ok (.aload_n 0, 1) := by decide +kernel
theorem dX11_crowd_6 : decode cX11_crowd 6 = .ok (.getfield 64, 3) := by decide +kernel
theorem dX11_crowd_9 : decode cX11_crowd 9 = .ok (.invokevirtual 303, 3) := by decide +kernel
theorem dX11_crowd_12 : decode cX11_crowd 12 = .ok (.iconst 0, 1) := by decide +kernel
theorem dX11_crowd_13 : decode cX11_crowd 13 = .ok (.ireturn, 1) := by decide +kernel
theorem dX11_crowd_14 : decode cX11_crowd 14 = .ok (.aload_n 0, 1) := by decide +kernel
theorem dX11_crowd_15 : decode cX11_crowd 15 = .ok (.getfield 59, 3) := by decide +kernel
theorem dX11_crowd_18 : decode cX11_crowd 18 = .ok (.iload_n 1, 1) := by decide +kernel
theorem dX11_crowd_19 : decode cX11_crowd 19 = .ok (.invokevirtual 106, 3) := by decide +kernel
theorem dX11_crowd_22 : decode cX11_crowd 22 = .ok (.ifCond .eq 14, 3) := by decide +kernel
theorem dX11_crowd_25 : decode cX11_crowd 25 = .ok (.aload_n 0, 1) := by decide +kernel
theorem dX11_crowd_26 : decode cX11_crowd 26 = .ok (.getfield 64, 3) := by decide +kernel
theorem dX11_crowd_29 : decode cX11_crowd 29 = .ok (.iload_n 1, 1) := by decide +kernel
theorem dX11_crowd_30 : decode cX11_crowd 30 = .ok (.invokevirtual 308, 3) := by decide +kernel
theorem dX11_crowd_33 : decode cX11_crowd 33 = .ok (.goto 5, 3) := by decide +kernel
theorem dX11_crowd_36 : decode cX11_crowd 36 = .ok (.bipush (-2), 2) := by decide +kernel
theorem dX11_crowd_38 : decode cX11_crowd 38 = .ok (.ireturn, 1) := by decide +kernel
def f_X11_crowd (N : Nat) (d_n : Int32) (n_calls : Int32) (n_cl : Nat → Int32) (p1 : Int32) : Option (Int32 × Int32 × (Nat → Int32)) := if p1 = (-1 : Int32) then (ob1 (f_X4_forgetCalls N n_calls) fun n_calls_9 => some ((0 : Int32), n_calls_9, n_cl)) else (ob1 (f_X2_told N d_n p1) fun r19 => if r19 = 0 then (some ((-2 : Int32), n_calls, n_cl)) else (ob3 (f_X4_noteCall N n_calls n_cl p1) fun r30 n_calls_30 n_cl_30 => some (r30, n_calls_30, n_cl_30)))
set_option maxHeartbeats 4000000 in
set_option maxRecDepth 100000 in
theorem k_X11_crowd (l : Launch) (N : Nat) (D : va_G) (cI cJ cZ cB cT : ClassId) (qd0 : Nat) (qn0 : Nat) (qn1 : Nat) (qX0 : Nat) (qd1 : Nat) (qd2 : Nat) (qn2 : Nat) (qn3 : Nat) (qn4 : Nat) (qn5 : Nat) (qn6 : Nat) (qr0 : Nat) (qk0 : Nat) (qT : Nat) (qb0 : Nat) (qe0 : Nat) (qL0 : Nat) (qf0 : Nat) (qz0 : Nat) (qD0 : Nat) (qh0 : Nat) (qD1 : Nat) (qv0 : Nat) (d_n : Int32) (n_calls : Int32) (n_bord : Int32) (n_rep : Int32) (n_unl : Int32) (n_pay : Int32) (n_cl : Nat → Int32) (p1 : Int32) (o_r : Int32) (o_n_calls : Int32) (o_n_cl : Nat → Int32) (hf : f_X11_crowd N d_n n_calls n_cl p1 = some (o_r, o_n_calls, o_n_cl)) : ∀ sz, Met l yX11_crowd (mw yX11_crowd cX11_crowd 2 (some .int)) ({ frames := 1, cells := 0, slots := 0, locals := 21 } : Room) (mPre D (mT cI cJ cZ cB cT) (W_X_0_9t10_76 qd0 qn0 qn1 qX0 qd1 qd2 qn2 qn3 qn4 qn5 qn6 qr0 qk0 qT qb0 qe0 qL0 qf0 qz0 qD0 qh0 qD1 qv0 cI cJ cZ cB cT d_n n_calls n_bord n_rep n_unl n_pay n_cl) sz [.ref qX0, .int p1]) ((mQi D (W_X_0_9t10_76 qd0 qn0 qn1 qX0 qd1 qd2 qn2 qn3 qn4 qn5 qn6 qr0 qk0 qT qb0 qe0 qL0 qf0 qz0 qD0 qh0 qD1 qv0 cI cJ cZ cB cT d_n o_n_calls n_bord n_rep n_unl n_pay o_n_cl) o_r True) (va_A (W_X_0_9t10_76 qd0 qn0 qn1 qX0 qd1 qd2 qn2 qn3 qn4 qn5 qn6 qr0 qk0 qT qb0 qe0 qL0 qf0 qz0 qD0 qh0 qD1 qv0 cI cJ cZ cB cT d_n n_calls n_bord n_rep n_unl n_pay n_cl) sz)) 0 0 (va_A (W_X_0_9t10_76 qd0 qn0 qn1 qX0 qd1 qd2 qn2 qn3 qn4 qn5 qn6 qr0 qk0 qT qb0 qe0 qL0 qf0 qz0 qD0 qh0 qD1 qv0 cI cJ cZ cB cT d_n n_calls n_bord n_rep n_unl n_pay n_cl) sz) := by
  refine mMet (Qc := (mQi D (W_X_0_9t10_76 qd0 qn0 qn1 qX0 qd1 qd2 qn2 qn3 qn4 qn5 qn6 qr0 qk0 qT qb0 qe0 qL0 qf0 qz0 qD0 qh0 qD1 qv0 cI cJ cZ cB cT d_n o_n_calls n_bord n_rep n_unl n_pay o_n_cl) o_r True)) (by decide) (Nat.le_of_ble_eq_true rfl) (fun p e s m below meth c A ls hx hb hr hml hts hown hlocks hK hA hP hD hl => ?_)
  have hown : s.vm.findClass RX11 = some m.cls := hown
  have hl : lv_has ls 2 [(0, .ref qX0), (1, .int p1)] := hl
  have hS : va_S A s.heap s.heap [] := va_S.rf
  unfold f_X11_crowd at hf
  refine lv_iload_n hx hb dX11_crowd_0 rfl (lv_at hl 1 rfl) ?_
  refine lv_iconst (v := (-1 : Int32)) hx hb dX11_crowd_1 (by decide) ?_
  refine xicmp_ne hx hb 14 dX11_crowd_2 (by decide) hf (fun hf => ?_) (fun hf => ?_)
  · refine lv_aload_n hx hb dX11_crowd_5 rfl (lv_at hl 0 rfl) ?_
    refine gfX11_64 hx hb hts hown hK hP 3 rfl rfl dX11_crowd_6 ?_
    obtain ⟨n_calls_9, hg9, hf⟩ := ob1_some hf
    refine mcV_v (wr := [(qd0, .inr (2, [.int d_n, .ref qd1, .ref qd2])), (qn1, .inl (cI, 5, .inl n_cl)), (qX0, .inr (11, [.ref qr0, .ref qk0, .ref qT, .ref qb0, .ref qe0, .ref qL0, .ref qf0, .ref qd0, .ref qn0, .ref qz0, .ref qD0, .ref qh0, .ref qD1, .ref qv0]))]) (As := []) (rest := []) hx hb hml hown hts hK hP hD hS hA (k_X4_forgetCalls l N D cI cJ cZ cB cT qn0 qn1 qn2 qn3 qn4 qn5 qn6 n_calls n_bord n_rep n_unl n_pay n_calls_9 hg9) (kwX11_303 hts rfl rfl ⟨Nat.le_of_ble_eq_true rfl, Nat.le_of_ble_eq_true rfl⟩) [1] [0, 2, 3] rfl rfl rfl (by decide) rfl 0 rfl rfl rfl rfl hl.1 rfl (Nat.le_of_ble_eq_true rfl) dX11_crowd_9 ⟨Nat.zero_le _, Nat.zero_le _⟩ (fun H locs hP hD hS => ?_)
    have hP := mP_sub (wc := (W_X_0_9t10_76 qd0 qn0 qn1 qX0 qd1 qd2 qn2 qn3 qn4 qn5 qn6 qr0 qk0 qT qb0 qe0 qL0 qf0 qz0 qD0 qh0 qD1 qv0 cI cJ cZ cB cT d_n n_calls_9 n_bord n_rep n_unl n_pay n_cl)) hP [0, 3, 1, 2] rfl
    have hD := hD.sub (ws' := (W_X_0_9t10_76 qd0 qn0 qn1 qX0 qd1 qd2 qn2 qn3 qn4 qn5 qn6 qr0 qk0 qT qb0 qe0 qL0 qf0 qz0 qD0 qh0 qD1 qv0 cI cJ cZ cB cT d_n n_calls_9 n_bord n_rep n_unl n_pay n_cl)) [0, 3, 1, 2] rfl rfl
    refine lv_iconst (v := (0 : Int32)) hx hb dX11_crowd_12 (by decide) ?_
    cases hf
    exact mret_i hx hb hr hlocks hP hD hS dX11_crowd_13 rfl trivial
  · refine lv_aload_n hx hb dX11_crowd_14 rfl (lv_at hl 0 rfl) ?_
    refine gfX11_59 hx hb hts hown hK hP 3 rfl rfl dX11_crowd_15 ?_
    refine lv_iload_n hx hb dX11_crowd_18 rfl (lv_at hl 1 rfl) ?_
    obtain ⟨r19, hg19, hf⟩ := ob1_some hf
    refine mcV_i (wr := [(qn0, .inr (4, [.int n_calls, .int n_bord, .int n_rep, .int n_unl, .int n_pay, .ref qn1, .ref qn2, .ref qn3, .ref qn4, .ref qn5, .ref qn6])), (qn1, .inl (cI, 5, .inl n_cl)), (qX0, .inr (11, [.ref qr0, .ref qk0, .ref qT, .ref qb0, .ref qe0, .ref qL0, .ref qf0, .ref qd0, .ref qn0, .ref qz0, .ref qD0, .ref qh0, .ref qD1, .ref qv0]))]) (As := [.int p1]) (rest := []) hx hb hml hown hts hK hP hD hS hA (k_X2_told l N D cI cJ cZ cB cT qd0 qd1 qd2 d_n p1 r19 hg19) (kwX11_106 hts rfl rfl ⟨Nat.le_of_ble_eq_true rfl, Nat.le_of_ble_eq_true rfl⟩) [0] [1, 2, 3] rfl rfl rfl (by decide) rfl 0 rfl rfl rfl rfl hl.1 rfl (Nat.le_of_ble_eq_true rfl) dX11_crowd_19 ⟨Nat.zero_le _, Nat.zero_le _⟩ (fun hB19 H locs hP hD hS => ?_)
    have hP := mP_sub (wc := (W_X_0_9t10_76 qd0 qn0 qn1 qX0 qd1 qd2 qn2 qn3 qn4 qn5 qn6 qr0 qk0 qT qb0 qe0 qL0 qf0 qz0 qD0 qh0 qD1 qv0 cI cJ cZ cB cT d_n n_calls n_bord n_rep n_unl n_pay n_cl)) hP [3, 0, 1, 2] rfl
    have hD := hD.sub (ws' := (W_X_0_9t10_76 qd0 qn0 qn1 qX0 qd1 qd2 qn2 qn3 qn4 qn5 qn6 qr0 qk0 qT qb0 qe0 qL0 qf0 qz0 qD0 qh0 qD1 qv0 cI cJ cZ cB cT d_n n_calls n_bord n_rep n_unl n_pay n_cl)) [3, 0, 1, 2] rfl rfl
    refine xif_eq hx hb 36 dX11_crowd_22 (by decide) hf (fun hf => ?_) (fun hf => ?_)
    · refine lv_bipush (v := (-2 : Int32)) hx hb dX11_crowd_36 (by decide) ?_
      cases hf
      exact mret_i hx hb hr hlocks hP hD hS dX11_crowd_38 rfl trivial
    · refine lv_aload_n hx hb dX11_crowd_25 rfl (lv_at hl 0 rfl) ?_
      refine gfX11_64 hx hb hts hown hK hP 3 rfl rfl dX11_crowd_26 ?_
      refine lv_iload_n hx hb dX11_crowd_29 rfl (lv_at hl 1 rfl) ?_
      obtain ⟨r30, n_calls_30, n_cl_30, hg30, hf⟩ := ob3_some hf
      refine mcV_i (wr := [(qd0, .inr (2, [.int d_n, .ref qd1, .ref qd2])), (qX0, .inr (11, [.ref qr0, .ref qk0, .ref qT, .ref qb0, .ref qe0, .ref qL0, .ref qf0, .ref qd0, .ref qn0, .ref qz0, .ref qD0, .ref qh0, .ref qD1, .ref qv0]))]) (As := [.int p1]) (rest := []) hx hb hml hown hts hK hP hD hS hA (k_X4_noteCall l N D cI cJ cZ cB cT qn0 qn1 qn2 qn3 qn4 qn5 qn6 n_calls n_bord n_rep n_unl n_pay n_cl p1 r30 n_calls_30 n_cl_30 hg30) (kwX11_308 hts rfl rfl ⟨Nat.le_of_ble_eq_true rfl, Nat.le_of_ble_eq_true rfl⟩) [1, 2] [0, 3] rfl rfl rfl (by decide) rfl 0 rfl rfl rfl rfl hl.1 rfl (Nat.le_of_ble_eq_true rfl) dX11_crowd_30 ⟨Nat.zero_le _, Nat.zero_le _⟩ (fun hB30 H locs hP hD hS => ?_)
      have hP := mP_sub (wc := (W_X_0_9t10_76 qd0 qn0 qn1 qX0 qd1 qd2 qn2 qn3 qn4 qn5 qn6 qr0 qk0 qT qb0 qe0 qL0 qf0 qz0 qD0 qh0 qD1 qv0 cI cJ cZ cB cT d_n n_calls_30 n_bord n_rep n_unl n_pay n_cl_30)) hP [0, 2, 3, 1] rfl
      have hD := hD.sub (ws' := (W_X_0_9t10_76 qd0 qn0 qn1 qX0 qd1 qd2 qn2 qn3 qn4 qn5 qn6 qr0 qk0 qT qb0 qe0 qL0 qf0 qz0 qD0 qh0 qD1 qv0 cI cJ cZ cB cT d_n n_calls_30 n_bord n_rep n_unl n_pay n_cl_30)) [0, 2, 3, 1] rfl rfl
      refine lv_goto (tgt := 38) hx hb dX11_crowd_33 (by decide) ?_
      cases hf
      exact mret_i hx hb hr hlocks hP hD hS dX11_crowd_38 rfl trivial
theorem dX11_inCrowd_0 : decode cX11_inCrowd 0 = .ok (.aload_n 0, 1) := by decide +kernel
theorem dX11_inCrowd_1 : decode cX11_inCrowd 1 = .ok (.getfield 59, 3) := by decide +kernel
theorem dX11_inCrowd_4 : decode cX11_inCrowd 4 = .ok (.iload_n 1, 1) := by decide +kernel
theorem dX11_inCrowd_5 : decode cX11_inCrowd 5 = .ok (.invokevirtual 106, 3) := by decide +kernel
theorem dX11_inCrowd_8 : decode cX11_inCrowd 8 = .ok (.ifCond .eq 22, 3) := by decide +kernel
theorem dX11_inCrowd_11 : decode cX11_inCrowd 11 = .ok (.iload_n 2, 1) := by decide +kernel
theorem dX11_inCrowd_12 : decode cX11_inCrowd 12 = .ok (.ifCond .lt 18, 3) := by decide +kernel
theorem dX11_inCrowd_15 : decode cX11_inCrowd 15 = .ok (.iload_n 2, 1) := by decide +kernel
theorem dX11_inCrowd_16 : decode cX11_inCrowd 16 = .ok (.iconst 5, 1) := by decide +kernel
theorem dX11_inCrowd_17 : decode cX11_inCrowd 17 = .ok (.if_icmp .gt 13, 3) := by decide +kernel
theorem dX11_inCrowd_20 : decode cX11_inCrowd 20 = .ok (.aload_n 0, 1) := by decide +kernel
theorem dX11_inCrowd_21 : decode cX11_inCrowd 21 = .ok (.getfield 64, 3) := by decide +kernel
theorem dX11_inCrowd_24 : decode cX11_inCrowd 24 = .ok (.getfield 311, 3) := by decide +kernel
theorem dX11_inCrowd_27 : decode cX11_inCrowd 27 = .ok (.ifCond .ne 5, 3) := by decide +kernel
theorem dX11_inCrowd_30 : decode cX11_inCrowd 30 = .ok (.iconst (-1), 1) := by decide +kernel
theorem dX11_inCrowd_31 : decode cX11_inCrowd 31 = .ok (.ireturn, 1) := by decide +kernel
theorem dX11_inCrowd_32 : decode cX11_inCrowd 32 = .ok (.iload_n 3, 1) := by decide +kernel
theorem dX11_inCrowd_33 : decode cX11_inCrowd 33 = .ok (.ifCond .lt 8, 3) := by decide +kernel
theorem dX11_inCrowd_36 : decode cX11_inCrowd 36 = .ok (.iload_n 3, 1) := by decide +kernel
theorem dX11_inCrowd_37 : decode cX11_inCrowd 37 = .ok (.iconst 2, 1) := by decide +kernel
theorem dX11_inCrowd_38 : decode cX11_inCrowd 38 = .ok (.if_icmp .le 5, 3) := by decide +kernel
theorem dX11_inCrowd_41 : decode cX11_inCrowd 41 = .ok (.iconst (-1), 1) := by decide +kernel
theorem dX11_inCrowd_42 : decode cX11_inCrowd 42 = .ok (.ireturn, 1) := by decide +kernel
theorem dX11_inCrowd_43 : decode cX11_inCrowd 43 = .ok (.aload_n 0, 1) := by decide +kernel
theorem dX11_inCrowd_44 : decode cX11_inCrowd 44 = .ok (.getfield 91, 3) := by decide +kernel
theorem dX11_inCrowd_47 : decode cX11_inCrowd 47 = .ok (.aload_n 0, 1) := by decide +kernel
theorem dX11_inCrowd_48 : decode cX11_inCrowd 48 = .ok (.getfield 59, 3) := by decide +kernel
theorem dX11_inCrowd_51 : decode cX11_inCrowd 51 = .ok (.aload_n 0, 1) := by decide +kernel
theorem dX11_inCrowd_52 : decode cX11_inCrowd 52 = .ok (.getfield 64, 3) := by decide +kernel
theorem dX11_inCrowd_55 : decode cX11_inCrowd 55 = .ok (.iload_n 1, 1) := by decide +kernel
theorem dX11_inCrowd_56 : decode cX11_inCrowd 56 = .ok (.iload_n 2, 1) := by decide +kernel
theorem dX11_inCrowd_57 : decode cX11_inCrowd 57 = .ok (.invokevirtual 314, 3) := by decide +kernel
theorem dX11_inCrowd_60 : decode cX11_inCrowd 60 = .ok (.iload_n 3, 1) := by decide +kernel
theorem dX11_inCrowd_61 : decode cX11_inCrowd 61 = .ok (.ifCond .ne 11, 3) := by decide +kernel
theorem dX11_inCrowd_64 : decode cX11_inCrowd 64 = .ok (.aload_n 0, 1) := by decide +kernel
theorem dX11_inCrowd_65 : decode cX11_inCrowd 65 = .ok (.getfield 91, 3) := by decide +kernel
theorem dX11_inCrowd_68 : decode cX11_inCrowd 68 = .ok (.getfield 318, 3) := by decide +kernel
theorem dX11_inCrowd_71 : decode cX11_inCrowd 71 = .ok (.ireturn, 1) := by decide +kernel
theorem dX11_inCrowd_72 : decode cX11_inCrowd 72 = .ok (.iload_n 3, 1) := by decide +kernel
theorem dX11_inCrowd_73 : decode cX11_inCrowd 73 = .ok (.iconst 1, 1) := by decide +kernel
theorem dX11_inCrowd_74 : decode cX11_inCrowd 74 = .ok (.if_icmp .ne 13, 3) := by decide +kernel
theorem dX11_inCrowd_77 : decode cX11_inCrowd 77 = .ok (.aload_n 0, 1) := by decide +kernel
theorem dX11_inCrowd_78 : decode cX11_inCrowd 78 = .ok (.getfield 91, 3) := by decide +kernel
theorem dX11_inCrowd_81 : decode cX11_inCrowd 81 = .ok (.getfield 321, 3) := by decide +kernel
theorem dX11_inCrowd_84 : decode cX11_inCrowd 84 = .ok (.goto 10, 3) := by decide +kernel
theorem dX11_inCrowd_87 : decode cX11_inCrowd 87 = .ok (.aload_n 0, 1) := by decide +kernel
theorem dX11_inCrowd_88 : decode cX11_inCrowd 88 = .ok (.getfield 91, 3) := by decide +kernel
theorem dX11_inCrowd_91 : decode cX11_inCrowd 91 = .ok (.getfield 324, 3) := by decide +kernel
theorem dX11_inCrowd_94 : decode cX11_inCrowd 94 = .ok (.ireturn, 1) := by decide +kernel
def f_X11_inCrowd (N : Nat) (d_n : Int32) (d_road : Nat → Int32) (n_calls : Int32) (n_cl : Nat → Int32) (v_gone : Int32) (v_may : Int32) (v_must : Int32) (v_ends : Nat → Int32) (v_beg : Nat → Int32) (p1 : Int32) (p2 : Int32) (p3 : Int32) : Option (Int32 × Int32 × Int32 × Int32 × (Nat → Int32) × (Nat → Int32)) := ob1 (f_X2_told N d_n p1) fun r5 => if r5 = 0 then (some ((-1 : Int32), v_gone, v_may, v_must, v_ends, v_beg)) else (if p2 < 0 then (some ((-1 : Int32), v_gone, v_may, v_must, v_ends, v_beg)) else (if (5 : Int32) < p2 then (some ((-1 : Int32), v_gone, v_may, v_must, v_ends, v_beg)) else (if n_calls = 0 then (some ((-1 : Int32), v_gone, v_may, v_must, v_ends, v_beg)) else (if p3 < 0 then (some ((-1 : Int32), v_gone, v_may, v_must, v_ends, v_beg)) else (if p3 ≤ (2 : Int32) then (ob5 (f_X10_countInCrowd N v_gone v_may v_must v_ends v_beg d_n d_road n_calls n_cl p1 p2) fun v_gone_57 v_may_57 v_must_57 v_ends_57 v_beg_57 => if p3 = 0 then (some (v_gone_57, v_gone_57, v_may_57, v_must_57, v_ends_57, v_beg_57)) else (if p3 = (1 : Int32) then (some (v_may_57, v_gone_57, v_may_57, v_must_57, v_ends_57, v_beg_57)) else (some (v_must_57, v_gone_57, v_may_57, v_must_57, v_ends_57, v_beg_57)))) else (some ((-1 : Int32), v_gone, v_may, v_must, v_ends, v_beg)))))))
set_option maxHeartbeats 4000000 in
set_option maxRecDepth 100000 in
theorem k_X11_inCrowd (l : Launch) (N : Nat) (D : va_G) (cI cJ cZ cB cT : ClassId) (qd0 : Nat) (qd2 : Nat) (qn0 : Nat) (qn1 : Nat) (qv0 : Nat) (qv4 : Nat) (qv5 : Nat) (qX0 : Nat) (qd1 : Nat) (qn2 : Nat) (qn3 : Nat) (qn4 : Nat) (qn5 : Nat) (qn6 : Nat) (qv1 : Nat) (qv2 : Nat) (qv3 : Nat) (qr0 : Nat) (qk0 : Nat) (qT : Nat) (qb0 : Nat) (qe0 : Nat) (qL0 : Nat) (qf0 : Nat) (qz0 : Nat) (qD0 : Nat) (qh0 : Nat) (qD1 : Nat) (d_n : Int32) (d_road : Nat → Int32) (n_calls : Int32) (n_bord : Int32) (n_rep : Int32) (n_unl : Int32) (n_pay : Int32) (n_cl : Nat → Int32) (v_up : Int32) (v_low : Int32) (v_gone : Int32) (v_may : Int32) (v_must : Int32) (v_ends : Nat → Int32) (v_beg : Nat → Int32) (p1 : Int32) (p2 : Int32) (p3 : Int32) (o_r : Int32) (o_v_gone : Int32) (o_v_may : Int32) (o_v_must : Int32) (o_v_ends : Nat → Int32) (o_v_beg : Nat → Int32) (hf : f_X11_inCrowd N d_n d_road n_calls n_cl v_gone v_may v_must v_ends v_beg p1 p2 p3 = some (o_r, o_v_gone, o_v_may, o_v_must, o_v_ends, o_v_beg)) : ∀ sz, Met l yX11_inCrowd (mw yX11_inCrowd cX11_inCrowd 4 (some .int)) ({ frames := 3, cells := 0, slots := 0, locals := 87 } : Room) (mPre D (mT cI cJ cZ cB cT) (W_X_0_2_9t10_70_74t76 qd0 qd2 qn0 qn1 qv0 qv4 qv5 qX0 qd1 qn2 qn3 qn4 qn5 qn6 qv1 qv2 qv3 qr0 qk0 qT qb0 qe0 qL0 qf0 qz0 qD0 qh0 qD1 cI cJ cZ cB cT d_n d_road n_calls n_bord n_rep n_unl n_pay n_cl v_up v_low v_gone v_may v_must v_ends v_beg) sz [.ref qX0, .int p1, .int p2, .int p3]) ((mQi D (W_X_0_2_9t10_70_74t76 qd0 qd2 qn0 qn1 qv0 qv4 qv5 qX0 qd1 qn2 qn3 qn4 qn5 qn6 qv1 qv2 qv3 qr0 qk0 qT qb0 qe0 qL0 qf0 qz0 qD0 qh0 qD1 cI cJ cZ cB cT d_n d_road n_calls n_bord n_rep n_unl n_pay n_cl v_up v_low o_v_gone o_v_may o_v_must o_v_ends o_v_beg) o_r True) (va_A (W_X_0_2_9t10_70_74t76 qd0 qd2 qn0 qn1 qv0 qv4 qv5 qX0 qd1 qn2 qn3 qn4 qn5 qn6 qv1 qv2 qv3 qr0 qk0 qT qb0 qe0 qL0 qf0 qz0 qD0 qh0 qD1 cI cJ cZ cB cT d_n d_road n_calls n_bord n_rep n_unl n_pay n_cl v_up v_low v_gone v_may v_must v_ends v_beg) sz)) 0 0 (va_A (W_X_0_2_9t10_70_74t76 qd0 qd2 qn0 qn1 qv0 qv4 qv5 qX0 qd1 qn2 qn3 qn4 qn5 qn6 qv1 qv2 qv3 qr0 qk0 qT qb0 qe0 qL0 qf0 qz0 qD0 qh0 qD1 cI cJ cZ cB cT d_n d_road n_calls n_bord n_rep n_unl n_pay n_cl v_up v_low v_gone v_may v_must v_ends v_beg) sz) := by
  refine mMet (Qc := (mQi D (W_X_0_2_9t10_70_74t76 qd0 qd2 qn0 qn1 qv0 qv4 qv5 qX0 qd1 qn2 qn3 qn4 qn5 qn6 qv1 qv2 qv3 qr0 qk0 qT qb0 qe0 qL0 qf0 qz0 qD0 qh0 qD1 cI cJ cZ cB cT d_n d_road n_calls n_bord n_rep n_unl n_pay n_cl v_up v_low o_v_gone o_v_may o_v_must o_v_ends o_v_beg) o_r True)) (by decide) (Nat.le_of_ble_eq_true rfl) (fun p e s m below meth c A ls hx hb hr hml hts hown hlocks hK hA hP hD hl => ?_)
  have hown : s.vm.findClass RX11 = some m.cls := hown
  have hl : lv_has ls 4 [(0, .ref qX0), (1, .int p1), (2, .int p2), (3, .int p3)] := hl
  have hS : va_S A s.heap s.heap [] := va_S.rf
  unfold f_X11_inCrowd at hf
  refine lv_aload_n hx hb dX11_inCrowd_0 rfl (lv_at hl 0 rfl) ?_
  refine gfX11_59 hx hb hts hown hK hP 7 rfl rfl dX11_inCrowd_1 ?_
  refine lv_iload_n hx hb dX11_inCrowd_4 rfl (lv_at hl 1 rfl) ?_
  obtain ⟨r5, hg5, hf⟩ := ob1_some hf
  refine mcV_i (wr := [(qd2, .inl (cI, 8, .inl d_road)), (qn0, .inr (4, [.int n_calls, .int n_bord, .int n_rep, .int n_unl, .int n_pay, .ref qn1, .ref qn2, .ref qn3, .ref qn4, .ref qn5, .ref qn6])), (qn1, .inl (cI, 5, .inl n_cl)), (qv0, .inr (10, [.int v_up, .int v_low, .int v_gone, .int v_may, .int v_must, .ref qv1, .ref qv2, .ref qv3, .ref qv4, .ref qv5])), (qv4, .inl (cI, 256, .inl v_ends)), (qv5, .inl (cI, 256, .inl v_beg)), (qX0, .inr (11, [.ref qr0, .ref qk0, .ref qT, .ref qb0, .ref qe0, .ref qL0, .ref qf0, .ref qd0, .ref qn0, .ref qz0, .ref qD0, .ref qh0, .ref qD1, .ref qv0]))]) (As := [.int p1]) (rest := []) hx hb hml hown hts hK hP hD hS hA (k_X2_told l N D cI cJ cZ cB cT qd0 qd1 qd2 d_n p1 r5 hg5) (kwX11_106 hts rfl rfl ⟨Nat.le_of_ble_eq_true rfl, Nat.le_of_ble_eq_true rfl⟩) [0] [1, 2, 3, 4, 5, 6, 7] rfl rfl rfl (by decide) rfl 0 rfl rfl rfl rfl hl.1 rfl (Nat.le_of_ble_eq_true rfl) dX11_inCrowd_5 ⟨Nat.zero_le _, Nat.zero_le _⟩ (fun hB5 H locs hP hD hS => ?_)
  have hP := mP_sub (wc := (W_X_0_2_9t10_70_74t76 qd0 qd2 qn0 qn1 qv0 qv4 qv5 qX0 qd1 qn2 qn3 qn4 qn5 qn6 qv1 qv2 qv3 qr0 qk0 qT qb0 qe0 qL0 qf0 qz0 qD0 qh0 qD1 cI cJ cZ cB cT d_n d_road n_calls n_bord n_rep n_unl n_pay n_cl v_up v_low v_gone v_may v_must v_ends v_beg)) hP [7, 0, 1, 2, 3, 4, 5, 6] rfl
  have hD := hD.sub (ws' := (W_X_0_2_9t10_70_74t76 qd0 qd2 qn0 qn1 qv0 qv4 qv5 qX0 qd1 qn2 qn3 qn4 qn5 qn6 qv1 qv2 qv3 qr0 qk0 qT qb0 qe0 qL0 qf0 qz0 qD0 qh0 qD1 cI cJ cZ cB cT d_n d_road n_calls n_bord n_rep n_unl n_pay n_cl v_up v_low v_gone v_may v_must v_ends v_beg)) [7, 0, 1, 2, 3, 4, 5, 6] rfl rfl
  refine xif_eq hx hb 30 dX11_inCrowd_8 (by decide) hf (fun hf => ?_) (fun hf => ?_)
  · refine lv_iconst (v := (-1 : Int32)) hx hb dX11_inCrowd_30 (by decide) ?_
    cases hf
    exact mret_i hx hb hr hlocks hP hD hS dX11_inCrowd_31 rfl trivial
  · refine lv_iload_n hx hb dX11_inCrowd_11 rfl (lv_at hl 2 rfl) ?_
    refine xif_lt hx hb 30 dX11_inCrowd_12 (by decide) hf (fun hf => ?_) (fun hf => ?_)
    · refine lv_iconst (v := (-1 : Int32)) hx hb dX11_inCrowd_30 (by decide) ?_
      cases hf
      exact mret_i hx hb hr hlocks hP hD hS dX11_inCrowd_31 rfl trivial
    · refine lv_iload_n hx hb dX11_inCrowd_15 rfl (lv_at hl 2 rfl) ?_
      refine lv_iconst (v := (5 : Int32)) hx hb dX11_inCrowd_16 (by decide) ?_
      refine xicmp_gt hx hb 30 dX11_inCrowd_17 (by decide) hf (fun hf => ?_) (fun hf => ?_)
      · refine lv_iconst (v := (-1 : Int32)) hx hb dX11_inCrowd_30 (by decide) ?_
        cases hf
        exact mret_i hx hb hr hlocks hP hD hS dX11_inCrowd_31 rfl trivial
      · refine lv_aload_n hx hb dX11_inCrowd_20 rfl (lv_at hl 0 rfl) ?_
        refine gfX11_64 hx hb hts hown hK hP 7 rfl rfl dX11_inCrowd_21 ?_
        refine gfX11_311 hx hb hts hown hK hP 2 rfl rfl dX11_inCrowd_24 ?_
        refine xif_ne hx hb 32 dX11_inCrowd_27 (by decide) hf (fun hf => ?_) (fun hf => ?_)
        · refine lv_iconst (v := (-1 : Int32)) hx hb dX11_inCrowd_30 (by decide) ?_
          cases hf
          exact mret_i hx hb hr hlocks hP hD hS dX11_inCrowd_31 rfl trivial
        · refine lv_iload_n hx hb dX11_inCrowd_32 rfl (lv_at hl 3 rfl) ?_
          refine xif_lt hx hb 41 dX11_inCrowd_33 (by decide) hf (fun hf => ?_) (fun hf => ?_)
          · refine lv_iconst (v := (-1 : Int32)) hx hb dX11_inCrowd_41 (by decide) ?_
            cases hf
            exact mret_i hx hb hr hlocks hP hD hS dX11_inCrowd_42 rfl trivial
          · refine lv_iload_n hx hb dX11_inCrowd_36 rfl (lv_at hl 3 rfl) ?_
            refine lv_iconst (v := (2 : Int32)) hx hb dX11_inCrowd_37 (by decide) ?_
            refine xicmp_le hx hb 43 dX11_inCrowd_38 (by decide) hf (fun hf => ?_) (fun hf => ?_)
            · refine lv_aload_n hx hb dX11_inCrowd_43 rfl (lv_at hl 0 rfl) ?_
              refine gfX11_91 hx hb hts hown hK hP 7 rfl rfl dX11_inCrowd_44 ?_
              refine lv_aload_n hx hb dX11_inCrowd_47 rfl (lv_at hl 0 rfl) ?_
              refine gfX11_59 hx hb hts hown hK hP 7 rfl rfl dX11_inCrowd_48 ?_
              refine lv_aload_n hx hb dX11_inCrowd_51 rfl (lv_at hl 0 rfl) ?_
              refine gfX11_64 hx hb hts hown hK hP 7 rfl rfl dX11_inCrowd_52 ?_
              refine lv_iload_n hx hb dX11_inCrowd_55 rfl (lv_at hl 1 rfl) ?_
              refine lv_iload_n hx hb dX11_inCrowd_56 rfl (lv_at hl 2 rfl) ?_
              obtain ⟨v_gone_57, v_may_57, v_must_57, v_ends_57, v_beg_57, hg57, hf⟩ := ob5_some hf
              refine mcV_v (wr := [(qX0, .inr (11, [.ref qr0, .ref qk0, .ref qT, .ref qb0, .ref qe0, .ref qL0, .ref qf0, .ref qd0, .ref qn0, .ref qz0, .ref qD0, .ref qh0, .ref qD1, .ref qv0]))]) (As := [.ref qd0, .ref qn0, .int p1, .int p2]) (rest := []) hx hb hml hown hts hK hP hD hS hA (k_X10_countInCrowd l N D cI cJ cZ cB cT qv0 qv4 qv5 qd0 qd2 qn0 qn1 qv1 qv2 qv3 qd1 qn2 qn3 qn4 qn5 qn6 v_up v_low v_gone v_may v_must v_ends v_beg d_n d_road n_calls n_bord n_rep n_unl n_pay n_cl p1 p2 v_gone_57 v_may_57 v_must_57 v_ends_57 v_beg_57 hg57) (kwX11_314 hts rfl rfl ⟨Nat.le_of_ble_eq_true rfl, Nat.le_of_ble_eq_true rfl⟩) [4, 5, 6, 0, 1, 2, 3] [7] rfl rfl rfl (by decide) rfl 0 rfl rfl rfl rfl hl.1 rfl (Nat.le_of_ble_eq_true rfl) dX11_inCrowd_57 ⟨Nat.zero_le _, Nat.zero_le _⟩ (fun H locs hP hD hS => ?_)
              have hP := mP_sub (wc := (W_X_0_2_9t10_70_74t76 qd0 qd2 qn0 qn1 qv0 qv4 qv5 qX0 qd1 qn2 qn3 qn4 qn5 qn6 qv1 qv2 qv3 qr0 qk0 qT qb0 qe0 qL0 qf0 qz0 qD0 qh0 qD1 cI cJ cZ cB cT d_n d_road n_calls n_bord n_rep n_unl n_pay n_cl v_up v_low v_gone_57 v_may_57 v_must_57 v_ends_57 v_beg_57)) hP [4, 5, 6, 7, 1, 2, 3, 0] rfl
              have hD := hD.sub (ws' := (W_X_0_2_9t10_70_74t76 qd0 qd2 qn0 qn1 qv0 qv4 qv5 qX0 qd1 qn2 qn3 qn4 qn5 qn6 qv1 qv2 qv3 qr0 qk0 qT qb0 qe0 qL0 qf0 qz0 qD0 qh0 qD1 cI cJ cZ cB cT d_n d_road n_calls n_bord n_rep n_unl n_pay n_cl v_up v_low v_gone_57 v_may_57 v_must_57 v_ends_57 v_beg_57)) [4, 5, 6, 7, 1, 2, 3, 0] rfl rfl
              refine lv_iload_n hx hb dX11_inCrowd_60 rfl (lv_at hl 3 rfl) ?_
              refine xif_ne hx hb 72 dX11_inCrowd_61 (by decide) hf (fun hf => ?_) (fun hf => ?_)
              · refine lv_aload_n hx hb dX11_inCrowd_64 rfl (lv_at hl 0 rfl) ?_
                refine gfX11_91 hx hb hts hown hK hP 7 rfl rfl dX11_inCrowd_65 ?_
                refine gfX11_318 hx hb hts hown hK hP 4 rfl rfl dX11_inCrowd_68 ?_
                cases hf
                exact mret_i hx hb hr hlocks hP hD hS dX11_inCrowd_71 rfl trivial
              · refine lv_iload_n hx hb dX11_inCrowd_72 rfl (lv_at hl 3 rfl) ?_
                refine lv_iconst (v := (1 : Int32)) hx hb dX11_inCrowd_73 (by decide) ?_
                refine xicmp_ne hx hb 87 dX11_inCrowd_74 (by decide) hf (fun hf => ?_) (fun hf => ?_)
                · refine lv_aload_n hx hb dX11_inCrowd_77 rfl (lv_at hl 0 rfl) ?_
                  refine gfX11_91 hx hb hts hown hK hP 7 rfl rfl dX11_inCrowd_78 ?_
                  refine gfX11_321 hx hb hts hown hK hP 4 rfl rfl dX11_inCrowd_81 ?_
                  refine lv_goto (tgt := 94) hx hb dX11_inCrowd_84 (by decide) ?_
                  cases hf
                  exact mret_i hx hb hr hlocks hP hD hS dX11_inCrowd_94 rfl trivial
                · refine lv_aload_n hx hb dX11_inCrowd_87 rfl (lv_at hl 0 rfl) ?_
                  refine gfX11_91 hx hb hts hown hK hP 7 rfl rfl dX11_inCrowd_88 ?_
                  refine gfX11_324 hx hb hts hown hK hP 4 rfl rfl dX11_inCrowd_91 ?_
                  cases hf
                  exact mret_i hx hb hr hlocks hP hD hS dX11_inCrowd_94 rfl trivial
            · refine lv_iconst (v := (-1 : Int32)) hx hb dX11_inCrowd_41 (by decide) ?_
              cases hf
              exact mret_i hx hb hr hlocks hP hD hS dX11_inCrowd_42 rfl trivial
theorem dX11_helpers_0 : decode cX11_helpers 0 = .ok (.aload_n 0, 1) := by decide +kernel
theorem dX11_helpers_1 : decode cX11_helpers 1 = .ok (.getfield 59, 3) := by decide +kernel
theorem dX11_helpers_4 : decode cX11_helpers 4 = .ok (.invokevirtual 327, 3) := by decide +kernel
theorem dX11_helpers_7 : decode cX11_helpers 7 = .ok (.ireturn, 1) := by decide +kernel
def f_X11_helpers (N : Nat) (d_n : Int32) (d_road : Nat → Int32) : Option (Int32) := ob1 (f_X2_fewestHelpers N d_n d_road) fun r4 => some r4
set_option maxHeartbeats 4000000 in
set_option maxRecDepth 100000 in
theorem k_X11_helpers (l : Launch) (N : Nat) (D : va_G) (cI cJ cZ cB cT : ClassId) (qd0 : Nat) (qd2 : Nat) (qX0 : Nat) (qd1 : Nat) (qr0 : Nat) (qk0 : Nat) (qT : Nat) (qb0 : Nat) (qe0 : Nat) (qL0 : Nat) (qf0 : Nat) (qn0 : Nat) (qz0 : Nat) (qD0 : Nat) (qh0 : Nat) (qD1 : Nat) (qv0 : Nat) (d_n : Int32) (d_road : Nat → Int32) (o_r : Int32) (hf : f_X11_helpers N d_n d_road = some o_r) : ∀ sz, Met l yX11_helpers (mw yX11_helpers cX11_helpers 1 (some .int)) ({ frames := 2, cells := 0, slots := 0, locals := 47 } : Room) (mPre D (mT cI cJ cZ cB cT) (W_X_0_2_76 qd0 qd2 qX0 qd1 qr0 qk0 qT qb0 qe0 qL0 qf0 qn0 qz0 qD0 qh0 qD1 qv0 cI cJ cZ cB cT d_n d_road) sz [.ref qX0]) ((mQi D (W_X_0_2_76 qd0 qd2 qX0 qd1 qr0 qk0 qT qb0 qe0 qL0 qf0 qn0 qz0 qD0 qh0 qD1 qv0 cI cJ cZ cB cT d_n d_road) o_r True) (va_A (W_X_0_2_76 qd0 qd2 qX0 qd1 qr0 qk0 qT qb0 qe0 qL0 qf0 qn0 qz0 qD0 qh0 qD1 qv0 cI cJ cZ cB cT d_n d_road) sz)) 0 0 (va_A (W_X_0_2_76 qd0 qd2 qX0 qd1 qr0 qk0 qT qb0 qe0 qL0 qf0 qn0 qz0 qD0 qh0 qD1 qv0 cI cJ cZ cB cT d_n d_road) sz) := by
  refine mMet (Qc := (mQi D (W_X_0_2_76 qd0 qd2 qX0 qd1 qr0 qk0 qT qb0 qe0 qL0 qf0 qn0 qz0 qD0 qh0 qD1 qv0 cI cJ cZ cB cT d_n d_road) o_r True)) (by decide) (Nat.le_of_ble_eq_true rfl) (fun p e s m below meth c A ls hx hb hr hml hts hown hlocks hK hA hP hD hl => ?_)
  have hown : s.vm.findClass RX11 = some m.cls := hown
  have hl : lv_has ls 1 [(0, .ref qX0)] := hl
  have hS : va_S A s.heap s.heap [] := va_S.rf
  unfold f_X11_helpers at hf
  refine lv_aload_n hx hb dX11_helpers_0 rfl (lv_at hl 0 rfl) ?_
  refine gfX11_59 hx hb hts hown hK hP 2 rfl rfl dX11_helpers_1 ?_
  obtain ⟨r4, hg4, hf⟩ := ob1_some hf
  refine mcV_i (wr := [(qX0, .inr (11, [.ref qr0, .ref qk0, .ref qT, .ref qb0, .ref qe0, .ref qL0, .ref qf0, .ref qd0, .ref qn0, .ref qz0, .ref qD0, .ref qh0, .ref qD1, .ref qv0]))]) (As := []) (rest := []) hx hb hml hown hts hK hP hD hS hA (k_X2_fewestHelpers l N D cI cJ cZ cB cT qd0 qd2 qd1 d_n d_road r4 hg4) (kwX11_327 hts rfl rfl ⟨Nat.le_of_ble_eq_true rfl, Nat.le_of_ble_eq_true rfl⟩) [0, 1] [2] rfl rfl rfl (by decide) rfl 0 rfl rfl rfl rfl hl.1 rfl (Nat.le_of_ble_eq_true rfl) dX11_helpers_4 ⟨Nat.zero_le _, Nat.zero_le _⟩ (fun hB4 H locs hP hD hS => ?_)
  have hP := mP_sub (wc := (W_X_0_2_76 qd0 qd2 qX0 qd1 qr0 qk0 qT qb0 qe0 qL0 qf0 qn0 qz0 qD0 qh0 qD1 qv0 cI cJ cZ cB cT d_n d_road)) hP [1, 2, 0] rfl
  have hD := hD.sub (ws' := (W_X_0_2_76 qd0 qd2 qX0 qd1 qr0 qk0 qT qb0 qe0 qL0 qf0 qn0 qz0 qD0 qh0 qD1 qv0 cI cJ cZ cB cT d_n d_road)) [1, 2, 0] rfl rfl
  cases hf
  exact mret_i hx hb hr hlocks hP hD hS dX11_helpers_7 rfl trivial
theorem dX11_watch_0 : decode cX11_watch 0 = .ok (.aload_n 0, 1) := by decide +kernel
theorem dX11_watch_1 : decode cX11_watch 1 = .ok (.getfield 59, 3) := by decide +kernel
theorem dX11_watch_4 : decode cX11_watch 4 = .ok (.iload_n 1, 1) := by decide +kernel
theorem dX11_watch_5 : decode cX11_watch 5 = .ok (.iload_n 2, 1) := by decide +kernel
theorem dX11_watch_6 : decode cX11_watch 6 = .ok (.invokevirtual 330, 3) := by decide +kernel
theorem dX11_watch_9 : decode cX11_watch 9 = .ok (.ireturn, 1) := by decide +kernel
def f_X11_watch (N : Nat) (d_n : Int32) (d_road : Nat → Int32) (p1 : Int32) (p2 : Int32) : Option (Int32) := ob1 (f_X2_fewestWatched N d_n d_road p1 p2) fun r6 => some r6
set_option maxHeartbeats 4000000 in
set_option maxRecDepth 100000 in
theorem k_X11_watch (l : Launch) (N : Nat) (D : va_G) (cI cJ cZ cB cT : ClassId) (qd0 : Nat) (qd2 : Nat) (qX0 : Nat) (qd1 : Nat) (qr0 : Nat) (qk0 : Nat) (qT : Nat) (qb0 : Nat) (qe0 : Nat) (qL0 : Nat) (qf0 : Nat) (qn0 : Nat) (qz0 : Nat) (qD0 : Nat) (qh0 : Nat) (qD1 : Nat) (qv0 : Nat) (d_n : Int32) (d_road : Nat → Int32) (p1 : Int32) (p2 : Int32) (o_r : Int32) (hf : f_X11_watch N d_n d_road p1 p2 = some o_r) : ∀ sz, Met l yX11_watch (mw yX11_watch cX11_watch 3 (some .int)) ({ frames := 3, cells := 0, slots := 0, locals := 75 } : Room) (mPre D (mT cI cJ cZ cB cT) (W_X_0_2_76 qd0 qd2 qX0 qd1 qr0 qk0 qT qb0 qe0 qL0 qf0 qn0 qz0 qD0 qh0 qD1 qv0 cI cJ cZ cB cT d_n d_road) sz [.ref qX0, .int p1, .int p2]) ((mQi D (W_X_0_2_76 qd0 qd2 qX0 qd1 qr0 qk0 qT qb0 qe0 qL0 qf0 qn0 qz0 qD0 qh0 qD1 qv0 cI cJ cZ cB cT d_n d_road) o_r True) (va_A (W_X_0_2_76 qd0 qd2 qX0 qd1 qr0 qk0 qT qb0 qe0 qL0 qf0 qn0 qz0 qD0 qh0 qD1 qv0 cI cJ cZ cB cT d_n d_road) sz)) 0 0 (va_A (W_X_0_2_76 qd0 qd2 qX0 qd1 qr0 qk0 qT qb0 qe0 qL0 qf0 qn0 qz0 qD0 qh0 qD1 qv0 cI cJ cZ cB cT d_n d_road) sz) := by
  refine mMet (Qc := (mQi D (W_X_0_2_76 qd0 qd2 qX0 qd1 qr0 qk0 qT qb0 qe0 qL0 qf0 qn0 qz0 qD0 qh0 qD1 qv0 cI cJ cZ cB cT d_n d_road) o_r True)) (by decide) (Nat.le_of_ble_eq_true rfl) (fun p e s m below meth c A ls hx hb hr hml hts hown hlocks hK hA hP hD hl => ?_)
  have hown : s.vm.findClass RX11 = some m.cls := hown
  have hl : lv_has ls 3 [(0, .ref qX0), (1, .int p1), (2, .int p2)] := hl
  have hS : va_S A s.heap s.heap [] := va_S.rf
  unfold f_X11_watch at hf
  refine lv_aload_n hx hb dX11_watch_0 rfl (lv_at hl 0 rfl) ?_
  refine gfX11_59 hx hb hts hown hK hP 2 rfl rfl dX11_watch_1 ?_
  refine lv_iload_n hx hb dX11_watch_4 rfl (lv_at hl 1 rfl) ?_
  refine lv_iload_n hx hb dX11_watch_5 rfl (lv_at hl 2 rfl) ?_
  obtain ⟨r6, hg6, hf⟩ := ob1_some hf
  refine mcV_i (wr := [(qX0, .inr (11, [.ref qr0, .ref qk0, .ref qT, .ref qb0, .ref qe0, .ref qL0, .ref qf0, .ref qd0, .ref qn0, .ref qz0, .ref qD0, .ref qh0, .ref qD1, .ref qv0]))]) (As := [.int p1, .int p2]) (rest := []) hx hb hml hown hts hK hP hD hS hA (k_X2_fewestWatched l N D cI cJ cZ cB cT qd0 qd2 qd1 d_n d_road p1 p2 r6 hg6) (kwX11_330 hts rfl rfl ⟨Nat.le_of_ble_eq_true rfl, Nat.le_of_ble_eq_true rfl⟩) [0, 1] [2] rfl rfl rfl (by decide) rfl 0 rfl rfl rfl rfl hl.1 rfl (Nat.le_of_ble_eq_true rfl) dX11_watch_6 ⟨Nat.zero_le _, Nat.zero_le _⟩ (fun hB6 H locs hP hD hS => ?_)
  have hP := mP_sub (wc := (W_X_0_2_76 qd0 qd2 qX0 qd1 qr0 qk0 qT qb0 qe0 qL0 qf0 qn0 qz0 qD0 qh0 qD1 qv0 cI cJ cZ cB cT d_n d_road)) hP [1, 2, 0] rfl
  have hD := hD.sub (ws' := (W_X_0_2_76 qd0 qd2 qX0 qd1 qr0 qk0 qT qb0 qe0 qL0 qf0 qn0 qz0 qD0 qh0 qD1 qv0 cI cJ cZ cB cT d_n d_road)) [1, 2, 0] rfl rfl
  cases hf
  exact mret_i hx hb hr hlocks hP hD hS dX11_watch_9 rfl trivial
theorem dX11_borders_0 : decode cX11_borders 0 = .ok (.iload_n 1, 1) := by decide +kernel
theorem dX11_borders_1 : decode cX11_borders 1 = .ok (.ifCond .lt 10, 3) := by decide +kernel
theorem dX11_borders_4 : decode cX11_borders 4 = .ok (.iload_n 1, 1) := by decide +kernel
theorem dX11_borders_5 : decode cX11_borders 5 = .ok (.sipush 256, 3) := by decide +kernel
theorem dX11_borders_8 : decode cX11_borders 8 = .ok (.if_icmp .lt 5, 3) := by decide +kernel
theorem dX11_borders_11 : decode cX11_borders 11 = .ok (.iconst 0, 1) := by decide +kernel
theorem dX11_borders_12 : decode cX11_borders 12 = .ok (.ireturn, 1) := by decide +kernel
theorem dX11_borders_13 : decode cX11_borders 13 = .ok (.aload_n 0, 1) := by decide +kernel
theorem dX11_borders_14 : decode cX11_borders 14 = .ok (.getfield 64, 3) := by decide +kernel
theorem dX11_borders_17 : decode cX11_borders 17 = .ok (.iload_n 1, 1) := by decide +kernel
theorem dX11_borders_18 : decode cX11_borders 18 = .ok (.putfield 333, 3) := by decide +kernel
theorem dX11_borders_21 : decode cX11_borders 21 = .ok (.iconst 1, 1) := by decide +kernel
theorem dX11_borders_22 : decode cX11_borders 22 = .ok (.ireturn, 1) := by decide +kernel
def f_X11_borders (N : Nat) (n_bord : Int32) (p1 : Int32) : Option (Int32 × Int32) := if p1 < 0 then (some ((0 : Int32), n_bord)) else (if p1 < (256 : Int32) then (some ((1 : Int32), p1)) else (some ((0 : Int32), n_bord)))
set_option maxHeartbeats 4000000 in
set_option maxRecDepth 100000 in
theorem k_X11_borders (l : Launch) (N : Nat) (D : va_G) (cI cJ cZ cB cT : ClassId) (qn0 : Nat) (qX0 : Nat) (qn1 : Nat) (qn2 : Nat) (qn3 : Nat) (qn4 : Nat) (qn5 : Nat) (qn6 : Nat) (qr0 : Nat) (qk0 : Nat) (qT : Nat) (qb0 : Nat) (qe0 : Nat) (qL0 : Nat) (qf0 : Nat) (qd0 : Nat) (qz0 : Nat) (qD0 : Nat) (qh0 : Nat) (qD1 : Nat) (qv0 : Nat) (n_calls : Int32) (n_bord : Int32) (n_rep : Int32) (n_unl : Int32) (n_pay : Int32) (p1 : Int32) (o_r : Int32) (o_n_bord : Int32) (hf : f_X11_borders N n_bord p1 = some (o_r, o_n_bord)) : ∀ sz, Met l yX11_borders (mw yX11_borders cX11_borders 2 (some .boolean)) ({ frames := 0, cells := 0, slots := 0, locals := 0 } : Room) (mPre D (mT cI cJ cZ cB cT) (W_X_9_76 qn0 qX0 qn1 qn2 qn3 qn4 qn5 qn6 qr0 qk0 qT qb0 qe0 qL0 qf0 qd0 qz0 qD0 qh0 qD1 qv0 cI cJ cZ cB cT n_calls n_bord n_rep n_unl n_pay) sz [.ref qX0, .int p1]) ((mQi D (W_X_9_76 qn0 qX0 qn1 qn2 qn3 qn4 qn5 qn6 qr0 qk0 qT qb0 qe0 qL0 qf0 qd0 qz0 qD0 qh0 qD1 qv0 cI cJ cZ cB cT n_calls o_n_bord n_rep n_unl n_pay) o_r (mB o_r)) (va_A (W_X_9_76 qn0 qX0 qn1 qn2 qn3 qn4 qn5 qn6 qr0 qk0 qT qb0 qe0 qL0 qf0 qd0 qz0 qD0 qh0 qD1 qv0 cI cJ cZ cB cT n_calls n_bord n_rep n_unl n_pay) sz)) 0 0 (va_A (W_X_9_76 qn0 qX0 qn1 qn2 qn3 qn4 qn5 qn6 qr0 qk0 qT qb0 qe0 qL0 qf0 qd0 qz0 qD0 qh0 qD1 qv0 cI cJ cZ cB cT n_calls n_bord n_rep n_unl n_pay) sz) := by
  refine mMet (Qc := (mQi D (W_X_9_76 qn0 qX0 qn1 qn2 qn3 qn4 qn5 qn6 qr0 qk0 qT qb0 qe0 qL0 qf0 qd0 qz0 qD0 qh0 qD1 qv0 cI cJ cZ cB cT n_calls o_n_bord n_rep n_unl n_pay) o_r (mB o_r))) (by decide) (Nat.le_of_ble_eq_true rfl) (fun p e s m below meth c A ls hx hb hr hml hts hown hlocks hK hA hP hD hl => ?_)
  have hown : s.vm.findClass RX11 = some m.cls := hown
  have hl : lv_has ls 2 [(0, .ref qX0), (1, .int p1)] := hl
  have hS : va_S A s.heap s.heap [] := va_S.rf
  unfold f_X11_borders at hf
  refine lv_iload_n hx hb dX11_borders_0 rfl (lv_at hl 1 rfl) ?_
  refine xif_lt hx hb 11 dX11_borders_1 (by decide) hf (fun hf => ?_) (fun hf => ?_)
  · refine lv_iconst (v := (0 : Int32)) hx hb dX11_borders_11 (by decide) ?_
    cases hf
    exact mret_z hx hb hr hlocks hP hD hS dX11_borders_12 rfl rfl
  · refine lv_iload_n hx hb dX11_borders_4 rfl (lv_at hl 1 rfl) ?_
    refine lv_sipush (v := (256 : Int32)) hx hb dX11_borders_5 (by decide) ?_
    refine xicmp_lt hx hb 13 dX11_borders_8 (by decide) hf (fun hf => ?_) (fun hf => ?_)
    · refine lv_aload_n hx hb dX11_borders_13 rfl (lv_at hl 0 rfl) ?_
      refine gfX11_64 hx hb hts hown hK hP 1 rfl rfl dX11_borders_14 ?_
      refine lv_iload_n hx hb dX11_borders_17 rfl (lv_at hl 1 rfl) ?_
      refine pfX11_333 hx hb hts hown hK hP hD hS 0 rfl (Nat.le_of_ble_eq_true rfl) dX11_borders_18 (fun H locs hP hD hS => ?_)
      have hP : va_P D vwCl (W_X_9_76 qn0 qX0 qn1 qn2 qn3 qn4 qn5 qn6 qr0 qk0 qT qb0 qe0 qL0 qf0 qd0 qz0 qD0 qh0 qD1 qv0 cI cJ cZ cB cT n_calls p1 n_rep n_unl n_pay) H := hP
      have hD : va_D A (W_X_9_76 qn0 qX0 qn1 qn2 qn3 qn4 qn5 qn6 qr0 qk0 qT qb0 qe0 qL0 qf0 qd0 qz0 qD0 qh0 qD1 qv0 cI cJ cZ cB cT n_calls p1 n_rep n_unl n_pay) := hD
      refine lv_iconst (v := (1 : Int32)) hx hb dX11_borders_21 (by decide) ?_
      cases hf
      exact mret_z hx hb hr hlocks hP hD hS dX11_borders_22 rfl rfl
    · refine lv_iconst (v := (0 : Int32)) hx hb dX11_borders_11 (by decide) ?_
      cases hf
      exact mret_z hx hb hr hlocks hP hD hS dX11_borders_12 rfl rfl
theorem dX11_toBorder_0 : decode cX11_toBorder 0 = .ok (.aload_n 0, 1) := by decide +kernel
theorem dX11_toBorder_1 : decode cX11_toBorder 1 = .ok (.getfield 59, 3) := by decide +kernel
theorem dX11_toBorder_4 : decode cX11_toBorder 4 = .ok (.iload_n 1, 1) := by decide +kernel
theorem dX11_toBorder_5 : decode cX11_toBorder 5 = .ok (.invokevirtual 106, 3) := by decide +kernel
theorem dX11_toBorder_8 : decode cX11_toBorder 8 = .ok (.ifCond .ne 5, 3) := by decide +kernel
theorem dX11_toBorder_11 : decode cX11_toBorder 11 = .ok (.iconst (-1), 1) := by decide +kernel
theorem dX11_toBorder_12 : decode cX11_toBorder 12 = .ok (.ireturn, 1) := by decide +kernel
theorem dX11_toBorder_13 : decode cX11_toBorder 13 = .ok (.aload_n 0, 1) := by decide +kernel
theorem dX11_toBorder_14 : decode cX11_toBorder 14 = .ok (.getfield 59, 3) := by decide +kernel
theorem dX11_toBorder_17 : decode cX11_toBorder 17 = .ok (.iload_n 1, 1) := by decide +kernel
theorem dX11_toBorder_18 : decode cX11_toBorder 18 = .ok (.aload_n 0, 1) := by decide +kernel
theorem dX11_toBorder_19 : decode cX11_toBorder 19 = .ok (.getfield 64, 3) := by decide +kernel
theorem dX11_toBorder_22 : decode cX11_toBorder 22 = .ok (.getfield 333, 3) := by decide +kernel
theorem dX11_toBorder_25 : decode cX11_toBorder 25 = .ok (.invokevirtual 294, 3) := by decide +kernel
theorem dX11_toBorder_28 : decode cX11_toBorder 28 = .ok (.ireturn, 1) := by decide +kernel
def f_X11_toBorder (N : Nat) (d_n : Int32) (d_road : Nat → Int32) (n_bord : Int32) (p1 : Int32) : Option (Int32) := ob1 (f_X2_told N d_n p1) fun r5 => if r5 = 0 then (some (-1 : Int32)) else (ob1 (f_X2_distance N d_n d_road p1 n_bord) fun r25 => some r25)
set_option maxHeartbeats 4000000 in
set_option maxRecDepth 100000 in
theorem k_X11_toBorder (l : Launch) (N : Nat) (D : va_G) (cI cJ cZ cB cT : ClassId) (qd0 : Nat) (qd2 : Nat) (qn0 : Nat) (qX0 : Nat) (qd1 : Nat) (qn1 : Nat) (qn2 : Nat) (qn3 : Nat) (qn4 : Nat) (qn5 : Nat) (qn6 : Nat) (qr0 : Nat) (qk0 : Nat) (qT : Nat) (qb0 : Nat) (qe0 : Nat) (qL0 : Nat) (qf0 : Nat) (qz0 : Nat) (qD0 : Nat) (qh0 : Nat) (qD1 : Nat) (qv0 : Nat) (d_n : Int32) (d_road : Nat → Int32) (n_calls : Int32) (n_bord : Int32) (n_rep : Int32) (n_unl : Int32) (n_pay : Int32) (p1 : Int32) (o_r : Int32) (hf : f_X11_toBorder N d_n d_road n_bord p1 = some o_r) : ∀ sz, Met l yX11_toBorder (mw yX11_toBorder cX11_toBorder 2 (some .int)) ({ frames := 2, cells := 0, slots := 0, locals := 47 } : Room) (mPre D (mT cI cJ cZ cB cT) (W_X_0_2_9_76 qd0 qd2 qn0 qX0 qd1 qn1 qn2 qn3 qn4 qn5 qn6 qr0 qk0 qT qb0 qe0 qL0 qf0 qz0 qD0 qh0 qD1 qv0 cI cJ cZ cB cT d_n d_road n_calls n_bord n_rep n_unl n_pay) sz [.ref qX0, .int p1]) ((mQi D (W_X_0_2_9_76 qd0 qd2 qn0 qX0 qd1 qn1 qn2 qn3 qn4 qn5 qn6 qr0 qk0 qT qb0 qe0 qL0 qf0 qz0 qD0 qh0 qD1 qv0 cI cJ cZ cB cT d_n d_road n_calls n_bord n_rep n_unl n_pay) o_r True) (va_A (W_X_0_2_9_76 qd0 qd2 qn0 qX0 qd1 qn1 qn2 qn3 qn4 qn5 qn6 qr0 qk0 qT qb0 qe0 qL0 qf0 qz0 qD0 qh0 qD1 qv0 cI cJ cZ cB cT d_n d_road n_calls n_bord n_rep n_unl n_pay) sz)) 0 0 (va_A (W_X_0_2_9_76 qd0 qd2 qn0 qX0 qd1 qn1 qn2 qn3 qn4 qn5 qn6 qr0 qk0 qT qb0 qe0 qL0 qf0 qz0 qD0 qh0 qD1 qv0 cI cJ cZ cB cT d_n d_road n_calls n_bord n_rep n_unl n_pay) sz) := by
  refine mMet (Qc := (mQi D (W_X_0_2_9_76 qd0 qd2 qn0 qX0 qd1 qn1 qn2 qn3 qn4 qn5 qn6 qr0 qk0 qT qb0 qe0 qL0 qf0 qz0 qD0 qh0 qD1 qv0 cI cJ cZ cB cT d_n d_road n_calls n_bord n_rep n_unl n_pay) o_r True)) (by decide) (Nat.le_of_ble_eq_true rfl) (fun p e s m below meth c A ls hx hb hr hml hts hown hlocks hK hA hP hD hl => ?_)
  have hown : s.vm.findClass RX11 = some m.cls := hown
  have hl : lv_has ls 2 [(0, .ref qX0), (1, .int p1)] := hl
  have hS : va_S A s.heap s.heap [] := va_S.rf
  unfold f_X11_toBorder at hf
  refine lv_aload_n hx hb dX11_toBorder_0 rfl (lv_at hl 0 rfl) ?_
  refine gfX11_59 hx hb hts hown hK hP 3 rfl rfl dX11_toBorder_1 ?_
  refine lv_iload_n hx hb dX11_toBorder_4 rfl (lv_at hl 1 rfl) ?_
  obtain ⟨r5, hg5, hf⟩ := ob1_some hf
  refine mcV_i (wr := [(qd2, .inl (cI, 8, .inl d_road)), (qn0, .inr (4, [.int n_calls, .int n_bord, .int n_rep, .int n_unl, .int n_pay, .ref qn1, .ref qn2, .ref qn3, .ref qn4, .ref qn5, .ref qn6])), (qX0, .inr (11, [.ref qr0, .ref qk0, .ref qT, .ref qb0, .ref qe0, .ref qL0, .ref qf0, .ref qd0, .ref qn0, .ref qz0, .ref qD0, .ref qh0, .ref qD1, .ref qv0]))]) (As := [.int p1]) (rest := []) hx hb hml hown hts hK hP hD hS hA (k_X2_told l N D cI cJ cZ cB cT qd0 qd1 qd2 d_n p1 r5 hg5) (kwX11_106 hts rfl rfl ⟨Nat.le_of_ble_eq_true rfl, Nat.le_of_ble_eq_true rfl⟩) [0] [1, 2, 3] rfl rfl rfl (by decide) rfl 0 rfl rfl rfl rfl hl.1 rfl (Nat.le_of_ble_eq_true rfl) dX11_toBorder_5 ⟨Nat.zero_le _, Nat.zero_le _⟩ (fun hB5 H locs hP hD hS => ?_)
  have hP := mP_sub (wc := (W_X_0_2_9_76 qd0 qd2 qn0 qX0 qd1 qn1 qn2 qn3 qn4 qn5 qn6 qr0 qk0 qT qb0 qe0 qL0 qf0 qz0 qD0 qh0 qD1 qv0 cI cJ cZ cB cT d_n d_road n_calls n_bord n_rep n_unl n_pay)) hP [3, 0, 1, 2] rfl
  have hD := hD.sub (ws' := (W_X_0_2_9_76 qd0 qd2 qn0 qX0 qd1 qn1 qn2 qn3 qn4 qn5 qn6 qr0 qk0 qT qb0 qe0 qL0 qf0 qz0 qD0 qh0 qD1 qv0 cI cJ cZ cB cT d_n d_road n_calls n_bord n_rep n_unl n_pay)) [3, 0, 1, 2] rfl rfl
  refine xif_ne hx hb 13 dX11_toBorder_8 (by decide) hf (fun hf => ?_) (fun hf => ?_)
  · refine lv_iconst (v := (-1 : Int32)) hx hb dX11_toBorder_11 (by decide) ?_
    cases hf
    exact mret_i hx hb hr hlocks hP hD hS dX11_toBorder_12 rfl trivial
  · refine lv_aload_n hx hb dX11_toBorder_13 rfl (lv_at hl 0 rfl) ?_
    refine gfX11_59 hx hb hts hown hK hP 3 rfl rfl dX11_toBorder_14 ?_
    refine lv_iload_n hx hb dX11_toBorder_17 rfl (lv_at hl 1 rfl) ?_
    refine lv_aload_n hx hb dX11_toBorder_18 rfl (lv_at hl 0 rfl) ?_
    refine gfX11_64 hx hb hts hown hK hP 3 rfl rfl dX11_toBorder_19 ?_
    refine gfX11_333 hx hb hts hown hK hP 2 rfl rfl dX11_toBorder_22 ?_
    obtain ⟨r25, hg25, hf⟩ := ob1_some hf
    refine mcV_i (wr := [(qn0, .inr (4, [.int n_calls, .int n_bord, .int n_rep, .int n_unl, .int n_pay, .ref qn1, .ref qn2, .ref qn3, .ref qn4, .ref qn5, .ref qn6])), (qX0, .inr (11, [.ref qr0, .ref qk0, .ref qT, .ref qb0, .ref qe0, .ref qL0, .ref qf0, .ref qd0, .ref qn0, .ref qz0, .ref qD0, .ref qh0, .ref qD1, .ref qv0]))]) (As := [.int p1, .int n_bord]) (rest := []) hx hb hml hown hts hK hP hD hS hA (k_X2_distance l N D cI cJ cZ cB cT qd0 qd2 qd1 d_n d_road p1 n_bord r25 hg25) (kwX11_294 hts rfl rfl ⟨Nat.le_of_ble_eq_true rfl, Nat.le_of_ble_eq_true rfl⟩) [0, 1] [2, 3] rfl rfl rfl (by decide) rfl 0 rfl rfl rfl rfl hl.1 rfl (Nat.le_of_ble_eq_true rfl) dX11_toBorder_25 ⟨Nat.zero_le _, Nat.zero_le _⟩ (fun hB25 H locs hP hD hS => ?_)
    have hP := mP_sub (wc := (W_X_0_2_9_76 qd0 qd2 qn0 qX0 qd1 qn1 qn2 qn3 qn4 qn5 qn6 qr0 qk0 qT qb0 qe0 qL0 qf0 qz0 qD0 qh0 qD1 qv0 cI cJ cZ cB cT d_n d_road n_calls n_bord n_rep n_unl n_pay)) hP [2, 3, 0, 1] rfl
    have hD := hD.sub (ws' := (W_X_0_2_9_76 qd0 qd2 qn0 qX0 qd1 qn1 qn2 qn3 qn4 qn5 qn6 qr0 qk0 qT qb0 qe0 qL0 qf0 qz0 qD0 qh0 qD1 qv0 cI cJ cZ cB cT d_n d_road n_calls n_bord n_rep n_unl n_pay)) [2, 3, 0, 1] rfl rfl
    cases hf
    exact mret_i hx hb hr hlocks hP hD hS dX11_toBorder_28 rfl trivial
theorem dX11_reports_0 : decode cX11_reports 0 = .ok (.aload_n 0, 1) := by decide +kernel
theorem dX11_reports_1 : decode cX11_reports 1 = .ok (.getfield 64, 3) := by decide +kernel
theorem dX11_reports_4 : decode cX11_reports 4 = .ok (.iload_n 1, 1) := by decide +kernel
theorem dX11_reports_5 : decode cX11_reports 5 = .ok (.invokevirtual 336, 3) := by decide +kernel
theorem dX11_reports_8 : decode cX11_reports 8 = .ok (.ireturn, 1) := by decide +kernel
def f_X11_reports (N : Nat) (n_rep : Int32) (n_unl : Int32) (n_ul : Nat → Int32) (p1 : Int32) : Option (Int32 × Int32 × Int32 × (Nat → Int32)) := ob4 (f_X4_tellReports N n_rep n_unl n_ul p1) fun r5 n_rep_5 n_unl_5 n_ul_5 => some (r5, n_rep_5, n_unl_5, n_ul_5)
set_option maxHeartbeats 4000000 in
set_option maxRecDepth 100000 in
theorem k_X11_reports (l : Launch) (N : Nat) (D : va_G) (cI cJ cZ cB cT : ClassId) (qn0 : Nat) (qn2 : Nat) (qX0 : Nat) (qn1 : Nat) (qn3 : Nat) (qn4 : Nat) (qn5 : Nat) (qn6 : Nat) (qr0 : Nat) (qk0 : Nat) (qT : Nat) (qb0 : Nat) (qe0 : Nat) (qL0 : Nat) (qf0 : Nat) (qd0 : Nat) (qz0 : Nat) (qD0 : Nat) (qh0 : Nat) (qD1 : Nat) (qv0 : Nat) (n_calls : Int32) (n_bord : Int32) (n_rep : Int32) (n_unl : Int32) (n_pay : Int32) (n_ul : Nat → Int32) (p1 : Int32) (o_r : Int32) (o_n_rep : Int32) (o_n_unl : Int32) (o_n_ul : Nat → Int32) (hf : f_X11_reports N n_rep n_unl n_ul p1 = some (o_r, o_n_rep, o_n_unl, o_n_ul)) : ∀ sz, Met l yX11_reports (mw yX11_reports cX11_reports 2 (some .boolean)) ({ frames := 1, cells := 0, slots := 0, locals := 22 } : Room) (mPre D (mT cI cJ cZ cB cT) (W_X_9_11_76 qn0 qn2 qX0 qn1 qn3 qn4 qn5 qn6 qr0 qk0 qT qb0 qe0 qL0 qf0 qd0 qz0 qD0 qh0 qD1 qv0 cI cJ cZ cB cT n_calls n_bord n_rep n_unl n_pay n_ul) sz [.ref qX0, .int p1]) ((mQi D (W_X_9_11_76 qn0 qn2 qX0 qn1 qn3 qn4 qn5 qn6 qr0 qk0 qT qb0 qe0 qL0 qf0 qd0 qz0 qD0 qh0 qD1 qv0 cI cJ cZ cB cT n_calls n_bord o_n_rep o_n_unl n_pay o_n_ul) o_r (mB o_r)) (va_A (W_X_9_11_76 qn0 qn2 qX0 qn1 qn3 qn4 qn5 qn6 qr0 qk0 qT qb0 qe0 qL0 qf0 qd0 qz0 qD0 qh0 qD1 qv0 cI cJ cZ cB cT n_calls n_bord n_rep n_unl n_pay n_ul) sz)) 0 0 (va_A (W_X_9_11_76 qn0 qn2 qX0 qn1 qn3 qn4 qn5 qn6 qr0 qk0 qT qb0 qe0 qL0 qf0 qd0 qz0 qD0 qh0 qD1 qv0 cI cJ cZ cB cT n_calls n_bord n_rep n_unl n_pay n_ul) sz) := by
  refine mMet (Qc := (mQi D (W_X_9_11_76 qn0 qn2 qX0 qn1 qn3 qn4 qn5 qn6 qr0 qk0 qT qb0 qe0 qL0 qf0 qd0 qz0 qD0 qh0 qD1 qv0 cI cJ cZ cB cT n_calls n_bord o_n_rep o_n_unl n_pay o_n_ul) o_r (mB o_r))) (by decide) (Nat.le_of_ble_eq_true rfl) (fun p e s m below meth c A ls hx hb hr hml hts hown hlocks hK hA hP hD hl => ?_)
  have hown : s.vm.findClass RX11 = some m.cls := hown
  have hl : lv_has ls 2 [(0, .ref qX0), (1, .int p1)] := hl
  have hS : va_S A s.heap s.heap [] := va_S.rf
  unfold f_X11_reports at hf
  refine lv_aload_n hx hb dX11_reports_0 rfl (lv_at hl 0 rfl) ?_
  refine gfX11_64 hx hb hts hown hK hP 2 rfl rfl dX11_reports_1 ?_
  refine lv_iload_n hx hb dX11_reports_4 rfl (lv_at hl 1 rfl) ?_
  obtain ⟨r5, n_rep_5, n_unl_5, n_ul_5, hg5, hf⟩ := ob4_some hf
  refine mcV_i (wr := [(qX0, .inr (11, [.ref qr0, .ref qk0, .ref qT, .ref qb0, .ref qe0, .ref qL0, .ref qf0, .ref qd0, .ref qn0, .ref qz0, .ref qD0, .ref qh0, .ref qD1, .ref qv0]))]) (As := [.int p1]) (rest := []) hx hb hml hown hts hK hP hD hS hA (k_X4_tellReports l N D cI cJ cZ cB cT qn0 qn2 qn1 qn3 qn4 qn5 qn6 n_calls n_bord n_rep n_unl n_pay n_ul p1 r5 n_rep_5 n_unl_5 n_ul_5 hg5) (kwX11_336 hts rfl rfl ⟨Nat.le_of_ble_eq_true rfl, Nat.le_of_ble_eq_true rfl⟩) [0, 1] [2] rfl rfl rfl (by decide) rfl 0 rfl rfl rfl rfl hl.1 rfl (Nat.le_of_ble_eq_true rfl) dX11_reports_5 ⟨Nat.zero_le _, Nat.zero_le _⟩ (fun hB5 H locs hP hD hS => ?_)
  have hP := mP_sub (wc := (W_X_9_11_76 qn0 qn2 qX0 qn1 qn3 qn4 qn5 qn6 qr0 qk0 qT qb0 qe0 qL0 qf0 qd0 qz0 qD0 qh0 qD1 qv0 cI cJ cZ cB cT n_calls n_bord n_rep_5 n_unl_5 n_pay n_ul_5)) hP [1, 2, 0] rfl
  have hD := hD.sub (ws' := (W_X_9_11_76 qn0 qn2 qX0 qn1 qn3 qn4 qn5 qn6 qr0 qk0 qT qb0 qe0 qL0 qf0 qd0 qz0 qD0 qh0 qD1 qv0 cI cJ cZ cB cT n_calls n_bord n_rep_5 n_unl_5 n_pay n_ul_5)) [1, 2, 0] rfl rfl
  cases hf
  exact mret_z hx hb hr hlocks hP hD hS dX11_reports_8 rfl hB5
theorem dX11_unlike_0 : decode cX11_unlike 0 = .ok (.aload_n 0, 1) := by decide +kernel
theorem dX11_unlike_1 : decode cX11_unlike 1 = .ok (.getfield 64, 3) := by decide +kernel
theorem dX11_unlike_4 : decode cX11_unlike 4 = .ok (.iload_n 1, 1) := by decide +kernel
theorem dX11_unlike_5 : decode cX11_unlike 5 = .ok (.iload_n 2, 1) := by decide +kernel
theorem dX11_unlike_6 : decode cX11_unlike 6 = .ok (.invokevirtual 339, 3) := by decide +kernel
theorem dX11_unlike_9 : decode cX11_unlike 9 = .ok (.ireturn, 1) := by decide +kernel
def f_X11_unlike (N : Nat) (n_rep : Int32) (n_unl : Int32) (n_ul : Nat → Int32) (p1 : Int32) (p2 : Int32) : Option (Int32 × Int32 × (Nat → Int32)) := ob3 (f_X4_tellUnlike N n_rep n_unl n_ul p1 p2) fun r6 n_unl_6 n_ul_6 => some (r6, n_unl_6, n_ul_6)
set_option maxHeartbeats 4000000 in
set_option maxRecDepth 100000 in
theorem k_X11_unlike (l : Launch) (N : Nat) (D : va_G) (cI cJ cZ cB cT : ClassId) (qn0 : Nat) (qn2 : Nat) (qX0 : Nat) (qn1 : Nat) (qn3 : Nat) (qn4 : Nat) (qn5 : Nat) (qn6 : Nat) (qr0 : Nat) (qk0 : Nat) (qT : Nat) (qb0 : Nat) (qe0 : Nat) (qL0 : Nat) (qf0 : Nat) (qd0 : Nat) (qz0 : Nat) (qD0 : Nat) (qh0 : Nat) (qD1 : Nat) (qv0 : Nat) (n_calls : Int32) (n_bord : Int32) (n_rep : Int32) (n_unl : Int32) (n_pay : Int32) (n_ul : Nat → Int32) (p1 : Int32) (p2 : Int32) (o_r : Int32) (o_n_unl : Int32) (o_n_ul : Nat → Int32) (hf : f_X11_unlike N n_rep n_unl n_ul p1 p2 = some (o_r, o_n_unl, o_n_ul)) : ∀ sz, Met l yX11_unlike (mw yX11_unlike cX11_unlike 3 (some .int)) ({ frames := 2, cells := 0, slots := 0, locals := 43 } : Room) (mPre D (mT cI cJ cZ cB cT) (W_X_9_11_76 qn0 qn2 qX0 qn1 qn3 qn4 qn5 qn6 qr0 qk0 qT qb0 qe0 qL0 qf0 qd0 qz0 qD0 qh0 qD1 qv0 cI cJ cZ cB cT n_calls n_bord n_rep n_unl n_pay n_ul) sz [.ref qX0, .int p1, .int p2]) ((mQi D (W_X_9_11_76 qn0 qn2 qX0 qn1 qn3 qn4 qn5 qn6 qr0 qk0 qT qb0 qe0 qL0 qf0 qd0 qz0 qD0 qh0 qD1 qv0 cI cJ cZ cB cT n_calls n_bord n_rep o_n_unl n_pay o_n_ul) o_r True) (va_A (W_X_9_11_76 qn0 qn2 qX0 qn1 qn3 qn4 qn5 qn6 qr0 qk0 qT qb0 qe0 qL0 qf0 qd0 qz0 qD0 qh0 qD1 qv0 cI cJ cZ cB cT n_calls n_bord n_rep n_unl n_pay n_ul) sz)) 0 0 (va_A (W_X_9_11_76 qn0 qn2 qX0 qn1 qn3 qn4 qn5 qn6 qr0 qk0 qT qb0 qe0 qL0 qf0 qd0 qz0 qD0 qh0 qD1 qv0 cI cJ cZ cB cT n_calls n_bord n_rep n_unl n_pay n_ul) sz) := by
  refine mMet (Qc := (mQi D (W_X_9_11_76 qn0 qn2 qX0 qn1 qn3 qn4 qn5 qn6 qr0 qk0 qT qb0 qe0 qL0 qf0 qd0 qz0 qD0 qh0 qD1 qv0 cI cJ cZ cB cT n_calls n_bord n_rep o_n_unl n_pay o_n_ul) o_r True)) (by decide) (Nat.le_of_ble_eq_true rfl) (fun p e s m below meth c A ls hx hb hr hml hts hown hlocks hK hA hP hD hl => ?_)
  have hown : s.vm.findClass RX11 = some m.cls := hown
  have hl : lv_has ls 3 [(0, .ref qX0), (1, .int p1), (2, .int p2)] := hl
  have hS : va_S A s.heap s.heap [] := va_S.rf
  unfold f_X11_unlike at hf
  refine lv_aload_n hx hb dX11_unlike_0 rfl (lv_at hl 0 rfl) ?_
  refine gfX11_64 hx hb hts hown hK hP 2 rfl rfl dX11_unlike_1 ?_
  refine lv_iload_n hx hb dX11_unlike_4 rfl (lv_at hl 1 rfl) ?_
  refine lv_iload_n hx hb dX11_unlike_5 rfl (lv_at hl 2 rfl) ?_
  obtain ⟨r6, n_unl_6, n_ul_6, hg6, hf⟩ := ob3_some hf
  refine mcV_i (wr := [(qX0, .inr (11, [.ref qr0, .ref qk0, .ref qT, .ref qb0, .ref qe0, .ref qL0, .ref qf0, .ref qd0, .ref qn0, .ref qz0, .ref qD0, .ref qh0, .ref qD1, .ref qv0]))]) (As := [.int p1, .int p2]) (rest := []) hx hb hml hown hts hK hP hD hS hA (k_X4_tellUnlike l N D cI cJ cZ cB cT qn0 qn2 qn1 qn3 qn4 qn5 qn6 n_calls n_bord n_rep n_unl n_pay n_ul p1 p2 r6 n_unl_6 n_ul_6 hg6) (kwX11_339 hts rfl rfl ⟨Nat.le_of_ble_eq_true rfl, Nat.le_of_ble_eq_true rfl⟩) [0, 1] [2] rfl rfl rfl (by decide) rfl 0 rfl rfl rfl rfl hl.1 rfl (Nat.le_of_ble_eq_true rfl) dX11_unlike_6 ⟨Nat.zero_le _, Nat.zero_le _⟩ (fun hB6 H locs hP hD hS => ?_)
  have hP := mP_sub (wc := (W_X_9_11_76 qn0 qn2 qX0 qn1 qn3 qn4 qn5 qn6 qr0 qk0 qT qb0 qe0 qL0 qf0 qd0 qz0 qD0 qh0 qD1 qv0 cI cJ cZ cB cT n_calls n_bord n_rep n_unl_6 n_pay n_ul_6)) hP [1, 2, 0] rfl
  have hD := hD.sub (ws' := (W_X_9_11_76 qn0 qn2 qX0 qn1 qn3 qn4 qn5 qn6 qr0 qk0 qT qb0 qe0 qL0 qf0 qd0 qz0 qD0 qh0 qD1 qv0 cI cJ cZ cB cT n_calls n_bord n_rep n_unl_6 n_pay n_ul_6)) [1, 2, 0] rfl rfl
  cases hf
  exact mret_i hx hb hr hlocks hP hD hS dX11_unlike_9 rfl trivial
theorem dX11_heads_0 : decode cX11_heads 0 = .ok (.iload_n 1, 1) := by decide +kernel
theorem dX11_heads_1 : decode cX11_heads 1 = .ok (.iconst (-1), 1) := by decide +kernel
theorem dX11_heads_2 : decode cX11_heads 2 = .ok (.if_icmp .eq 17, 3) := by decide +kernel
theorem dX11_heads_5 : decode cX11_heads 5 = .ok (.aload_n 0, 1) := by decide +kernel
theorem dX11_heads_6 : decode cX11_heads 6 = .ok (.getfield 64, 3) := by decide +kernel
theorem dX11_heads_9 : decode cX11_heads 9 = .ok (.iload_n 1, 1) := by decide +kernel
theorem dX11_heads_10 : decode cX11_heads 10 = .ok (.invokevirtual 342, 3) := by decide +kernel
theorem dX11_heads_13 : decode cX11_heads 13 = .ok (.ifCond .ne 6, 3) := by decide +kernel
theorem dX11_heads_16 : decode cX11_heads 16 = .ok (.bipush (-2), 2) := by decide +kernel
theorem dX11_heads_18 : decode cX11_heads 18 = .ok (.ireturn, 1) := by decide +kernel
theorem dX11_heads_19 : decode cX11_heads 19 = .ok (.aload_n 0, 1) := by decide +kernel
theorem dX11_heads_20 : decode cX11_heads 20 = .ok (.getfield 64, 3) := by decide +kernel
theorem dX11_heads_23 : decode cX11_heads 23 = .ok (.invokevirtual 345, 3) := by decide +kernel
theorem dX11_heads_26 : decode cX11_heads 26 = .ok (.istore_n 2, 1) := by decide +kernel
theorem dX11_heads_27 : decode cX11_heads 27 = .ok (.iload_n 1, 1) := by decide +kernel
theorem dX11_heads_28 : decode cX11_heads 28 = .ok (.iconst (-1), 1) := by decide +kernel
theorem dX11_heads_29 : decode cX11_heads 29 = .ok (.if_icmp .ne 7, 3) := by decide +kernel
theorem dX11_heads_32 : decode cX11_heads 32 = .ok (.iload_n 2, 1) := by decide +kernel
theorem dX11_heads_33 : decode cX11_heads 33 = .ok (.goto 11, 3) := by decide +kernel
theorem dX11_heads_36 : decode cX11_heads 36 = .ok (.aload_n 0, 1) := by decide +kernel
theorem dX11_heads_37 : decode cX11_heads 37 = .ok (.getfield 64, 3) := by decide +kernel
theorem dX11_heads_40 : decode cX11_heads 40 = .ok (.iload_n 1, 1) := by decide +kernel
theorem dX11_heads_41 : decode cX11_heads 41 = .ok (.invokevirtual 348, 3) := by decide +kernel
theorem dX11_heads_44 : decode cX11_heads 44 = .ok (.ireturn, 1) := by decide +kernel
def f_X11_heads_19 (N : Nat) (n_rep : Int32) (n_ul : Nat → Int32) (n_ow : Nat → Int32) (x1 : Int32) : Option (Int32 × (Nat → Int32)) := ob2 (f_X4_paintFewest N n_rep n_ul n_ow) fun r23 n_ow_23 => if x1 = (-1 : Int32) then (some (r23, n_ow_23)) else (ob1 (f_X4_headOf N n_rep n_ow_23 x1) fun r41 => some (r41, n_ow_23))
def f_X11_heads (N : Nat) (n_rep : Int32) (n_ul : Nat → Int32) (n_ow : Nat → Int32) (p1 : Int32) : Option (Int32 × (Nat → Int32)) := if p1 = (-1 : Int32) then (f_X11_heads_19 N n_rep n_ul n_ow p1) else (ob1 (f_X4_reported N n_rep p1) fun r10 => if r10 = 0 then (some ((-2 : Int32), n_ow)) else (f_X11_heads_19 N n_rep n_ul n_ow p1))
set_option maxHeartbeats 4000000 in
set_option maxRecDepth 100000 in
theorem k_X11_heads (l : Launch) (N : Nat) (D : va_G) (cI cJ cZ cB cT : ClassId) (qn0 : Nat) (qn2 : Nat) (qn3 : Nat) (qX0 : Nat) (qn1 : Nat) (qn4 : Nat) (qn5 : Nat) (qn6 : Nat) (qr0 : Nat) (qk0 : Nat) (qT : Nat) (qb0 : Nat) (qe0 : Nat) (qL0 : Nat) (qf0 : Nat) (qd0 : Nat) (qz0 : Nat) (qD0 : Nat) (qh0 : Nat) (qD1 : Nat) (qv0 : Nat) (n_calls : Int32) (n_bord : Int32) (n_rep : Int32) (n_unl : Int32) (n_pay : Int32) (n_ul : Nat → Int32) (n_ow : Nat → Int32) (p1 : Int32) (o_r : Int32) (o_n_ow : Nat → Int32) (hf : f_X11_heads N n_rep n_ul n_ow p1 = some (o_r, o_n_ow)) : ∀ sz, Met l yX11_heads (mw yX11_heads cX11_heads 3 (some .int)) ({ frames := 18, cells := 0, slots := 0, locals := 625 } : Room) (mPre D (mT cI cJ cZ cB cT) (W_X_9_11t12_76 qn0 qn2 qn3 qX0 qn1 qn4 qn5 qn6 qr0 qk0 qT qb0 qe0 qL0 qf0 qd0 qz0 qD0 qh0 qD1 qv0 cI cJ cZ cB cT n_calls n_bord n_rep n_unl n_pay n_ul n_ow) sz [.ref qX0, .int p1]) ((mQi D (W_X_9_11t12_76 qn0 qn2 qn3 qX0 qn1 qn4 qn5 qn6 qr0 qk0 qT qb0 qe0 qL0 qf0 qd0 qz0 qD0 qh0 qD1 qv0 cI cJ cZ cB cT n_calls n_bord n_rep n_unl n_pay n_ul o_n_ow) o_r True) (va_A (W_X_9_11t12_76 qn0 qn2 qn3 qX0 qn1 qn4 qn5 qn6 qr0 qk0 qT qb0 qe0 qL0 qf0 qd0 qz0 qD0 qh0 qD1 qv0 cI cJ cZ cB cT n_calls n_bord n_rep n_unl n_pay n_ul n_ow) sz)) 0 0 (va_A (W_X_9_11t12_76 qn0 qn2 qn3 qX0 qn1 qn4 qn5 qn6 qr0 qk0 qT qb0 qe0 qL0 qf0 qd0 qz0 qD0 qh0 qD1 qv0 cI cJ cZ cB cT n_calls n_bord n_rep n_unl n_pay n_ul n_ow) sz) := by
  refine mMet (Qc := (mQi D (W_X_9_11t12_76 qn0 qn2 qn3 qX0 qn1 qn4 qn5 qn6 qr0 qk0 qT qb0 qe0 qL0 qf0 qd0 qz0 qD0 qh0 qD1 qv0 cI cJ cZ cB cT n_calls n_bord n_rep n_unl n_pay n_ul o_n_ow) o_r True)) (by decide) (Nat.le_of_ble_eq_true rfl) (fun p e s m below meth c A ls hx hb hr hml hts hown hlocks hK hA hP hD hl => ?_)
  have hown : s.vm.findClass RX11 = some m.cls := hown
  have hl : lv_has ls 3 [(0, .ref qX0), (1, .int p1)] := hl
  have hS : va_S A s.heap s.heap [] := va_S.rf
  have b19 : ∀ (n_ow : Nat → Int32) (x1 : Int32) (H : Heap) (locs : List Loc) (ls : Array Slot), f_X11_heads_19 N n_rep n_ul n_ow x1 = some (o_r, o_n_ow) → va_P D vwCl (W_X_9_11t12_76 qn0 qn2 qn3 qX0 qn1 qn4 qn5 qn6 qr0 qk0 qT qb0 qe0 qL0 qf0 qd0 qz0 qD0 qh0 qD1 qv0 cI cJ cZ cB cT n_calls n_bord n_rep n_unl n_pay n_ul n_ow) H → va_D A (W_X_9_11t12_76 qn0 qn2 qn3 qX0 qn1 qn4 qn5 qn6 qr0 qk0 qT qb0 qe0 qL0 qf0 qd0 qz0 qD0 qh0 qD1 qv0 cI cJ cZ cB cT n_calls n_bord n_rep n_unl n_pay n_ul n_ow) → va_S A s.heap H locs → lv_has ls 3 [(0, .ref qX0), (1, .int x1)] → W p l e ({ frames := 18, cells := 0, slots := 0, locals := 625 } : Room) s m ([.ref qX0, .int p1] : List Value).toArray below meth c H locs 0 0 (MQ below ((mQi D (W_X_9_11t12_76 qn0 qn2 qn3 qX0 qn1 qn4 qn5 qn6 qr0 qk0 qT qb0 qe0 qL0 qf0 qd0 qz0 qD0 qh0 qD1 qv0 cI cJ cZ cB cT n_calls n_bord n_rep n_unl n_pay n_ul o_n_ow) o_r True) A) ([.ref qX0, .int p1] : List Value).toArray s 0 0 A) (F0 m 19 ls []) := by
    intro n_ow x1 H locs ls hf hP hD hS hl
    unfold f_X11_heads_19 at hf
    refine lv_aload_n hx hb dX11_heads_19 rfl (lv_at hl 0 rfl) ?_
    refine gfX11_64 hx hb hts hown hK hP 3 rfl rfl dX11_heads_20 ?_
    obtain ⟨r23, n_ow_23, hg23, hf⟩ := ob2_some hf
    refine mcV_i (wr := [(qX0, .inr (11, [.ref qr0, .ref qk0, .ref qT, .ref qb0, .ref qe0, .ref qL0, .ref qf0, .ref qd0, .ref qn0, .ref qz0, .ref qD0, .ref qh0, .ref qD1, .ref qv0]))]) (As := []) (rest := []) hx hb hml hown hts hK hP hD hS hA (k_X4_paintFewest l N D cI cJ cZ cB cT qn0 qn2 qn3 qn1 qn4 qn5 qn6 n_calls n_bord n_rep n_unl n_pay n_ul n_ow r23 n_ow_23 hg23) (kwX11_345 hts rfl rfl ⟨Nat.le_of_ble_eq_true rfl, Nat.le_of_ble_eq_true rfl⟩) [0, 1, 2] [3] rfl rfl rfl (by decide) rfl 0 rfl rfl rfl rfl hl.1 rfl (Nat.le_of_ble_eq_true rfl) dX11_heads_23 ⟨Nat.zero_le _, Nat.zero_le _⟩ (fun hB23 H locs hP hD hS => ?_)
    have hP := mP_sub (wc := (W_X_9_11t12_76 qn0 qn2 qn3 qX0 qn1 qn4 qn5 qn6 qr0 qk0 qT qb0 qe0 qL0 qf0 qd0 qz0 qD0 qh0 qD1 qv0 cI cJ cZ cB cT n_calls n_bord n_rep n_unl n_pay n_ul n_ow_23)) hP [1, 2, 3, 0] rfl
    have hD := hD.sub (ws' := (W_X_9_11t12_76 qn0 qn2 qn3 qX0 qn1 qn4 qn5 qn6 qr0 qk0 qT qb0 qe0 qL0 qf0 qd0 qz0 qD0 qh0 qD1 qv0 cI cJ cZ cB cT n_calls n_bord n_rep n_unl n_pay n_ul n_ow_23)) [1, 2, 3, 0] rfl rfl
    refine lv_istore_n (lv' := [(2, .int r23), (0, .ref qX0), (1, .int x1)]) hx hb dX11_heads_26 rfl hl (by decide) rfl (fun ls hl => ?_)
    refine lv_iload_n hx hb dX11_heads_27 rfl (lv_at hl 2 rfl) ?_
    refine lv_iconst (v := (-1 : Int32)) hx hb dX11_heads_28 (by decide) ?_
    refine xicmp_ne hx hb 36 dX11_heads_29 (by decide) hf (fun hf => ?_) (fun hf => ?_)
    · refine lv_iload_n hx hb dX11_heads_32 rfl (lv_at hl 0 rfl) ?_
      refine lv_goto (tgt := 44) hx hb dX11_heads_33 (by decide) ?_
      cases hf
      exact mret_i hx hb hr hlocks hP hD hS dX11_heads_44 rfl trivial
    · refine lv_aload_n hx hb dX11_heads_36 rfl (lv_at hl 1 rfl) ?_
      refine gfX11_64 hx hb hts hown hK hP 3 rfl rfl dX11_heads_37 ?_
      refine lv_iload_n hx hb dX11_heads_40 rfl (lv_at hl 2 rfl) ?_
      obtain ⟨r41, hg41, hf⟩ := ob1_some hf
      refine mcV_i (wr := [(qn2, .inl (cI, 8, .inl n_ul)), (qX0, .inr (11, [.ref qr0, .ref qk0, .ref qT, .ref qb0, .ref qe0, .ref qL0, .ref qf0, .ref qd0, .ref qn0, .ref qz0, .ref qD0, .ref qh0, .ref qD1, .ref qv0]))]) (As := [.int x1]) (rest := []) hx hb hml hown hts hK hP hD hS hA (k_X4_headOf l N D cI cJ cZ cB cT qn0 qn3 qn1 qn2 qn4 qn5 qn6 n_calls n_bord n_rep n_unl n_pay n_ow_23 x1 r41 hg41) (kwX11_348 hts rfl rfl ⟨Nat.le_of_ble_eq_true rfl, Nat.le_of_ble_eq_true rfl⟩) [0, 2] [1, 3] rfl rfl rfl (by decide) rfl 0 rfl rfl rfl rfl hl.1 rfl (Nat.le_of_ble_eq_true rfl) dX11_heads_41 ⟨Nat.zero_le _, Nat.zero_le _⟩ (fun hB41 H locs hP hD hS => ?_)
      have hP := mP_sub (wc := (W_X_9_11t12_76 qn0 qn2 qn3 qX0 qn1 qn4 qn5 qn6 qr0 qk0 qT qb0 qe0 qL0 qf0 qd0 qz0 qD0 qh0 qD1 qv0 cI cJ cZ cB cT n_calls n_bord n_rep n_unl n_pay n_ul n_ow_23)) hP [2, 0, 3, 1] rfl
      have hD := hD.sub (ws' := (W_X_9_11t12_76 qn0 qn2 qn3 qX0 qn1 qn4 qn5 qn6 qr0 qk0 qT qb0 qe0 qL0 qf0 qd0 qz0 qD0 qh0 qD1 qv0 cI cJ cZ cB cT n_calls n_bord n_rep n_unl n_pay n_ul n_ow_23)) [2, 0, 3, 1] rfl rfl
      cases hf
      exact mret_i hx hb hr hlocks hP hD hS dX11_heads_44 rfl trivial
  unfold f_X11_heads at hf
  refine lv_iload_n hx hb dX11_heads_0 rfl (lv_at hl 1 rfl) ?_
  refine lv_iconst (v := (-1 : Int32)) hx hb dX11_heads_1 (by decide) ?_
  refine xicmp_eq hx hb 19 dX11_heads_2 (by decide) hf (fun hf => ?_) (fun hf => ?_)
  · exact b19 n_ow p1 _ _ _ hf hP hD hS (lv_sub hl [0, 1] rfl)
  · refine lv_aload_n hx hb dX11_heads_5 rfl (lv_at hl 0 rfl) ?_
    refine gfX11_64 hx hb hts hown hK hP 3 rfl rfl dX11_heads_6 ?_
    refine lv_iload_n hx hb dX11_heads_9 rfl (lv_at hl 1 rfl) ?_
    obtain ⟨r10, hg10, hf⟩ := ob1_some hf
    refine mcV_i (wr := [(qn2, .inl (cI, 8, .inl n_ul)), (qn3, .inl (cI, 8, .inl n_ow)), (qX0, .inr (11, [.ref qr0, .ref qk0, .ref qT, .ref qb0, .ref qe0, .ref qL0, .ref qf0, .ref qd0, .ref qn0, .ref qz0, .ref qD0, .ref qh0, .ref qD1, .ref qv0]))]) (As := [.int p1]) (rest := []) hx hb hml hown hts hK hP hD hS hA (k_X4_reported l N D cI cJ cZ cB cT qn0 qn1 qn2 qn3 qn4 qn5 qn6 n_calls n_bord n_rep n_unl n_pay p1 r10 hg10) (kwX11_342 hts rfl rfl ⟨Nat.le_of_ble_eq_true rfl, Nat.le_of_ble_eq_true rfl⟩) [0] [1, 2, 3] rfl rfl rfl (by decide) rfl 0 rfl rfl rfl rfl hl.1 rfl (Nat.le_of_ble_eq_true rfl) dX11_heads_10 ⟨Nat.zero_le _, Nat.zero_le _⟩ (fun hB10 H locs hP hD hS => ?_)
    have hP := mP_sub (wc := (W_X_9_11t12_76 qn0 qn2 qn3 qX0 qn1 qn4 qn5 qn6 qr0 qk0 qT qb0 qe0 qL0 qf0 qd0 qz0 qD0 qh0 qD1 qv0 cI cJ cZ cB cT n_calls n_bord n_rep n_unl n_pay n_ul n_ow)) hP [3, 0, 1, 2] rfl
    have hD := hD.sub (ws' := (W_X_9_11t12_76 qn0 qn2 qn3 qX0 qn1 qn4 qn5 qn6 qr0 qk0 qT qb0 qe0 qL0 qf0 qd0 qz0 qD0 qh0 qD1 qv0 cI cJ cZ cB cT n_calls n_bord n_rep n_unl n_pay n_ul n_ow)) [3, 0, 1, 2] rfl rfl
    refine xif_ne hx hb 19 dX11_heads_13 (by decide) hf (fun hf => ?_) (fun hf => ?_)
    · refine lv_bipush (v := (-2 : Int32)) hx hb dX11_heads_16 (by decide) ?_
      cases hf
      exact mret_i hx hb hr hlocks hP hD hS dX11_heads_18 rfl trivial
    · exact b19 n_ow p1 _ _ _ hf hP hD hS (lv_sub hl [0, 1] rfl)
theorem dX11_has_0 : decode cX11_has 0 = .ok (.iload_n 2, 1) := by decide +kernel
theorem dX11_has_1 : decode cX11_has 1 = .ok (.ifCond .lt 17, 3) := by decide +kernel
theorem dX11_has_4 : decode cX11_has 4 = .ok (.iload_n 2, 1) := by decide +kernel
theorem dX11_has_5 : decode cX11_has 5 = .ok (.iconst 1, 1) := by decide +kernel
theorem dX11_has_6 : decode cX11_has 6 = .ok (.if_icmp .gt 12, 3) := by decide +kernel
theorem dX11_has_9 : decode cX11_has 9 = .ok (.iload_n 3, 1) := by decide +kernel
theorem dX11_has_10 : decode cX11_has 10 = .ok (.ifCond .lt 8, 3) := by decide +kernel
theorem dX11_has_13 : decode cX11_has 13 = .ok (.iload_n 3, 1) := by decide +kernel
theorem dX11_has_14 : decode cX11_has 14 = .ok (.iconst 1, 1) := by decide +kernel
theorem dX11_has_15 : decode cX11_has 15 = .ok (.if_icmp .le 5, 3) := by decide +kernel
theorem dX11_has_18 : decode cX11_has 18 = .ok (.iconst 0, 1) := by decide +kernel
theorem dX11_has_19 : decode cX11_has 19 = .ok (.ireturn, 1) := by decide +kernel
theorem dX11_has_20 : decode cX11_has 20 = .ok (.aload_n 0, 1) := by decide +kernel
theorem dX11_has_21 : decode cX11_has 21 = .ok (.getfield 64, 3) := by decide +kernel
theorem dX11_has_24 : decode cX11_has 24 = .ok (.iload_n 1, 1) := by decide +kernel
theorem dX11_has_25 : decode cX11_has 25 = .ok (.iload_n 2, 1) := by decide +kernel
theorem dX11_has_26 : decode cX11_has 26 = .ok (.iload_n 3, 1) := by decide +kernel
theorem dX11_has_27 : decode cX11_has 27 = .ok (.iload 4, 2) := by decide +kernel
theorem dX11_has_29 : decode cX11_has 29 = .ok (.invokevirtual 351, 3) := by decide +kernel
theorem dX11_has_32 : decode cX11_has 32 = .ok (.ireturn, 1) := by decide +kernel
def f_X11_has (N : Nat) (n_ga : Nat → Int32) (p1 : Int32) (p2 : Int32) (p3 : Int32) (p4 : Int32) : Option (Int32 × (Nat → Int32)) := if p2 < 0 then (some ((0 : Int32), n_ga)) else (if (1 : Int32) < p2 then (some ((0 : Int32), n_ga)) else (if p3 < 0 then (some ((0 : Int32), n_ga)) else (if p3 ≤ (1 : Int32) then (ob2 (f_X4_tellGain N n_ga p1 p2 p3 p4) fun r29 n_ga_29 => some (r29, n_ga_29)) else (some ((0 : Int32), n_ga)))))
set_option maxHeartbeats 4000000 in
set_option maxRecDepth 100000 in
theorem k_X11_has (l : Launch) (N : Nat) (D : va_G) (cI cJ cZ cB cT : ClassId) (qn0 : Nat) (qn4 : Nat) (qX0 : Nat) (qn1 : Nat) (qn2 : Nat) (qn3 : Nat) (qn5 : Nat) (qn6 : Nat) (qr0 : Nat) (qk0 : Nat) (qT : Nat) (qb0 : Nat) (qe0 : Nat) (qL0 : Nat) (qf0 : Nat) (qd0 : Nat) (qz0 : Nat) (qD0 : Nat) (qh0 : Nat) (qD1 : Nat) (qv0 : Nat) (n_calls : Int32) (n_bord : Int32) (n_rep : Int32) (n_unl : Int32) (n_pay : Int32) (n_ga : Nat → Int32) (p1 : Int32) (p2 : Int32) (p3 : Int32) (p4 : Int32) (o_r : Int32) (o_n_ga : Nat → Int32) (hf : f_X11_has N n_ga p1 p2 p3 p4 = some (o_r, o_n_ga)) : ∀ sz, Met l yX11_has (mw yX11_has cX11_has 5 (some .boolean)) ({ frames := 1, cells := 0, slots := 0, locals := 24 } : Room) (mPre D (mT cI cJ cZ cB cT) (W_X_9_13_76 qn0 qn4 qX0 qn1 qn2 qn3 qn5 qn6 qr0 qk0 qT qb0 qe0 qL0 qf0 qd0 qz0 qD0 qh0 qD1 qv0 cI cJ cZ cB cT n_calls n_bord n_rep n_unl n_pay n_ga) sz [.ref qX0, .int p1, .int p2, .int p3, .int p4]) ((mQi D (W_X_9_13_76 qn0 qn4 qX0 qn1 qn2 qn3 qn5 qn6 qr0 qk0 qT qb0 qe0 qL0 qf0 qd0 qz0 qD0 qh0 qD1 qv0 cI cJ cZ cB cT n_calls n_bord n_rep n_unl n_pay o_n_ga) o_r (mB o_r)) (va_A (W_X_9_13_76 qn0 qn4 qX0 qn1 qn2 qn3 qn5 qn6 qr0 qk0 qT qb0 qe0 qL0 qf0 qd0 qz0 qD0 qh0 qD1 qv0 cI cJ cZ cB cT n_calls n_bord n_rep n_unl n_pay n_ga) sz)) 0 0 (va_A (W_X_9_13_76 qn0 qn4 qX0 qn1 qn2 qn3 qn5 qn6 qr0 qk0 qT qb0 qe0 qL0 qf0 qd0 qz0 qD0 qh0 qD1 qv0 cI cJ cZ cB cT n_calls n_bord n_rep n_unl n_pay n_ga) sz) := by
  refine mMet (Qc := (mQi D (W_X_9_13_76 qn0 qn4 qX0 qn1 qn2 qn3 qn5 qn6 qr0 qk0 qT qb0 qe0 qL0 qf0 qd0 qz0 qD0 qh0 qD1 qv0 cI cJ cZ cB cT n_calls n_bord n_rep n_unl n_pay o_n_ga) o_r (mB o_r))) (by decide) (Nat.le_of_ble_eq_true rfl) (fun p e s m below meth c A ls hx hb hr hml hts hown hlocks hK hA hP hD hl => ?_)
  have hown : s.vm.findClass RX11 = some m.cls := hown
  have hl : lv_has ls 5 [(0, .ref qX0), (1, .int p1), (2, .int p2), (3, .int p3), (4, .int p4)] := hl
  have hS : va_S A s.heap s.heap [] := va_S.rf
  unfold f_X11_has at hf
  refine lv_iload_n hx hb dX11_has_0 rfl (lv_at hl 2 rfl) ?_
  refine xif_lt hx hb 18 dX11_has_1 (by decide) hf (fun hf => ?_) (fun hf => ?_)
  · refine lv_iconst (v := (0 : Int32)) hx hb dX11_has_18 (by decide) ?_
    cases hf
    exact mret_z hx hb hr hlocks hP hD hS dX11_has_19 rfl rfl
  · refine lv_iload_n hx hb dX11_has_4 rfl (lv_at hl 2 rfl) ?_
    refine lv_iconst (v := (1 : Int32)) hx hb dX11_has_5 (by decide) ?_
    refine xicmp_gt hx hb 18 dX11_has_6 (by decide) hf (fun hf => ?_) (fun hf => ?_)
    · refine lv_iconst (v := (0 : Int32)) hx hb dX11_has_18 (by decide) ?_
      cases hf
      exact mret_z hx hb hr hlocks hP hD hS dX11_has_19 rfl rfl
    · refine lv_iload_n hx hb dX11_has_9 rfl (lv_at hl 3 rfl) ?_
      refine xif_lt hx hb 18 dX11_has_10 (by decide) hf (fun hf => ?_) (fun hf => ?_)
      · refine lv_iconst (v := (0 : Int32)) hx hb dX11_has_18 (by decide) ?_
        cases hf
        exact mret_z hx hb hr hlocks hP hD hS dX11_has_19 rfl rfl
      · refine lv_iload_n hx hb dX11_has_13 rfl (lv_at hl 3 rfl) ?_
        refine lv_iconst (v := (1 : Int32)) hx hb dX11_has_14 (by decide) ?_
        refine xicmp_le hx hb 20 dX11_has_15 (by decide) hf (fun hf => ?_) (fun hf => ?_)
        · refine lv_aload_n hx hb dX11_has_20 rfl (lv_at hl 0 rfl) ?_
          refine gfX11_64 hx hb hts hown hK hP 2 rfl rfl dX11_has_21 ?_
          refine lv_iload_n hx hb dX11_has_24 rfl (lv_at hl 1 rfl) ?_
          refine lv_iload_n hx hb dX11_has_25 rfl (lv_at hl 2 rfl) ?_
          refine lv_iload_n hx hb dX11_has_26 rfl (lv_at hl 3 rfl) ?_
          refine lv_iload hx hb dX11_has_27 (lv_at hl 4 rfl) ?_
          obtain ⟨r29, n_ga_29, hg29, hf⟩ := ob2_some hf
          refine mcV_i (wr := [(qX0, .inr (11, [.ref qr0, .ref qk0, .ref qT, .ref qb0, .ref qe0, .ref qL0, .ref qf0, .ref qd0, .ref qn0, .ref qz0, .ref qD0, .ref qh0, .ref qD1, .ref qv0]))]) (As := [.int p1, .int p2, .int p3, .int p4]) (rest := []) hx hb hml hown hts hK hP hD hS hA (k_X4_tellGain l N D cI cJ cZ cB cT qn0 qn4 qn1 qn2 qn3 qn5 qn6 n_calls n_bord n_rep n_unl n_pay n_ga p1 p2 p3 p4 r29 n_ga_29 hg29) (kwX11_351 hts rfl rfl ⟨Nat.le_of_ble_eq_true rfl, Nat.le_of_ble_eq_true rfl⟩) [0, 1] [2] rfl rfl rfl (by decide) rfl 0 rfl rfl rfl rfl hl.1 rfl (Nat.le_of_ble_eq_true rfl) dX11_has_29 ⟨Nat.zero_le _, Nat.zero_le _⟩ (fun hB29 H locs hP hD hS => ?_)
          have hP := mP_sub (wc := (W_X_9_13_76 qn0 qn4 qX0 qn1 qn2 qn3 qn5 qn6 qr0 qk0 qT qb0 qe0 qL0 qf0 qd0 qz0 qD0 qh0 qD1 qv0 cI cJ cZ cB cT n_calls n_bord n_rep n_unl n_pay n_ga_29)) hP [1, 2, 0] rfl
          have hD := hD.sub (ws' := (W_X_9_13_76 qn0 qn4 qX0 qn1 qn2 qn3 qn5 qn6 qr0 qk0 qT qb0 qe0 qL0 qf0 qd0 qz0 qD0 qh0 qD1 qv0 cI cJ cZ cB cT n_calls n_bord n_rep n_unl n_pay n_ga_29)) [1, 2, 0] rfl rfl
          cases hf
          exact mret_z hx hb hr hlocks hP hD hS dX11_has_32 rfl hB29
        · refine lv_iconst (v := (0 : Int32)) hx hb dX11_has_18 (by decide) ?_
          cases hf
          exact mret_z hx hb hr hlocks hP hD hS dX11_has_19 rfl rfl
theorem dX11_rests_0 : decode cX11_rests 0 = .ok (.aload_n 0, 1) := by decide +kernel
theorem dX11_rests_1 : decode cX11_rests 1 = .ok (.getfield 64, 3) := by decide +kernel
theorem dX11_rests_4 : decode cX11_rests 4 = .ok (.invokevirtual 355, 3) := by decide +kernel
theorem dX11_rests_7 : decode cX11_rests 7 = .ok (.ireturn, 1) := by decide +kernel
def f_X11_rests (N : Nat) (n_ga : Nat → Int32) : Option (Int32) := ob1 (f_X4_calmPairs N n_ga) fun r4 => some r4
set_option maxHeartbeats 4000000 in
set_option maxRecDepth 100000 in
theorem k_X11_rests (l : Launch) (N : Nat) (D : va_G) (cI cJ cZ cB cT : ClassId) (qn0 : Nat) (qn4 : Nat) (qX0 : Nat) (qn1 : Nat) (qn2 : Nat) (qn3 : Nat) (qn5 : Nat) (qn6 : Nat) (qr0 : Nat) (qk0 : Nat) (qT : Nat) (qb0 : Nat) (qe0 : Nat) (qL0 : Nat) (qf0 : Nat) (qd0 : Nat) (qz0 : Nat) (qD0 : Nat) (qh0 : Nat) (qD1 : Nat) (qv0 : Nat) (n_calls : Int32) (n_bord : Int32) (n_rep : Int32) (n_unl : Int32) (n_pay : Int32) (n_ga : Nat → Int32) (o_r : Int32) (hf : f_X11_rests N n_ga = some o_r) : ∀ sz, Met l yX11_rests (mw yX11_rests cX11_rests 1 (some .int)) ({ frames := 2, cells := 0, slots := 0, locals := 49 } : Room) (mPre D (mT cI cJ cZ cB cT) (W_X_9_13_76 qn0 qn4 qX0 qn1 qn2 qn3 qn5 qn6 qr0 qk0 qT qb0 qe0 qL0 qf0 qd0 qz0 qD0 qh0 qD1 qv0 cI cJ cZ cB cT n_calls n_bord n_rep n_unl n_pay n_ga) sz [.ref qX0]) ((mQi D (W_X_9_13_76 qn0 qn4 qX0 qn1 qn2 qn3 qn5 qn6 qr0 qk0 qT qb0 qe0 qL0 qf0 qd0 qz0 qD0 qh0 qD1 qv0 cI cJ cZ cB cT n_calls n_bord n_rep n_unl n_pay n_ga) o_r True) (va_A (W_X_9_13_76 qn0 qn4 qX0 qn1 qn2 qn3 qn5 qn6 qr0 qk0 qT qb0 qe0 qL0 qf0 qd0 qz0 qD0 qh0 qD1 qv0 cI cJ cZ cB cT n_calls n_bord n_rep n_unl n_pay n_ga) sz)) 0 0 (va_A (W_X_9_13_76 qn0 qn4 qX0 qn1 qn2 qn3 qn5 qn6 qr0 qk0 qT qb0 qe0 qL0 qf0 qd0 qz0 qD0 qh0 qD1 qv0 cI cJ cZ cB cT n_calls n_bord n_rep n_unl n_pay n_ga) sz) := by
  refine mMet (Qc := (mQi D (W_X_9_13_76 qn0 qn4 qX0 qn1 qn2 qn3 qn5 qn6 qr0 qk0 qT qb0 qe0 qL0 qf0 qd0 qz0 qD0 qh0 qD1 qv0 cI cJ cZ cB cT n_calls n_bord n_rep n_unl n_pay n_ga) o_r True)) (by decide) (Nat.le_of_ble_eq_true rfl) (fun p e s m below meth c A ls hx hb hr hml hts hown hlocks hK hA hP hD hl => ?_)
  have hown : s.vm.findClass RX11 = some m.cls := hown
  have hl : lv_has ls 1 [(0, .ref qX0)] := hl
  have hS : va_S A s.heap s.heap [] := va_S.rf
  unfold f_X11_rests at hf
  refine lv_aload_n hx hb dX11_rests_0 rfl (lv_at hl 0 rfl) ?_
  refine gfX11_64 hx hb hts hown hK hP 2 rfl rfl dX11_rests_1 ?_
  obtain ⟨r4, hg4, hf⟩ := ob1_some hf
  refine mcV_i (wr := [(qX0, .inr (11, [.ref qr0, .ref qk0, .ref qT, .ref qb0, .ref qe0, .ref qL0, .ref qf0, .ref qd0, .ref qn0, .ref qz0, .ref qD0, .ref qh0, .ref qD1, .ref qv0]))]) (As := []) (rest := []) hx hb hml hown hts hK hP hD hS hA (k_X4_calmPairs l N D cI cJ cZ cB cT qn0 qn4 qn1 qn2 qn3 qn5 qn6 n_calls n_bord n_rep n_unl n_pay n_ga r4 hg4) (kwX11_355 hts rfl rfl ⟨Nat.le_of_ble_eq_true rfl, Nat.le_of_ble_eq_true rfl⟩) [0, 1] [2] rfl rfl rfl (by decide) rfl 0 rfl rfl rfl rfl hl.1 rfl (Nat.le_of_ble_eq_true rfl) dX11_rests_4 ⟨Nat.zero_le _, Nat.zero_le _⟩ (fun hB4 H locs hP hD hS => ?_)
  have hP := mP_sub (wc := (W_X_9_13_76 qn0 qn4 qX0 qn1 qn2 qn3 qn5 qn6 qr0 qk0 qT qb0 qe0 qL0 qf0 qd0 qz0 qD0 qh0 qD1 qv0 cI cJ cZ cB cT n_calls n_bord n_rep n_unl n_pay n_ga)) hP [1, 2, 0] rfl
  have hD := hD.sub (ws' := (W_X_9_13_76 qn0 qn4 qX0 qn1 qn2 qn3 qn5 qn6 qr0 qk0 qT qb0 qe0 qL0 qf0 qd0 qz0 qD0 qh0 qD1 qv0 cI cJ cZ cB cT n_calls n_bord n_rep n_unl n_pay n_ga)) [1, 2, 0] rfl rfl
  cases hf
  exact mret_i hx hb hr hlocks hP hD hS dX11_rests_7 rfl trivial
theorem dX11_mixed_0 : decode cX11_mixed 0 = .ok (.aload_n 0, 1) := by decide +kernel
theorem dX11_mixed_1 : decode cX11_mixed 1 = .ok (.getfield 64, 3) := by decide +kernel
theorem dX11_mixed_4 : decode cX11_mixed 4 = .ok (.iload_n 1, 1) := by decide +kernel
theorem dX11_mixed_5 : decode cX11_mixed 5 = .ok (.invokevirtual 358, 3) := by decide +kernel
theorem dX11_mixed_8 : decode cX11_mixed 8 = .ok (.ireturn, 1) := by decide +kernel
def f_X11_mixed (N : Nat) (n_ga : Nat → Int32) (p1 : Int32) : Option (Int32) := ob1 (f_X4_evenOdds N n_ga p1) fun r5 => some r5
set_option maxHeartbeats 4000000 in
set_option maxRecDepth 100000 in
theorem k_X11_mixed (l : Launch) (N : Nat) (D : va_G) (cI cJ cZ cB cT : ClassId) (qn0 : Nat) (qn4 : Nat) (qX0 : Nat) (qn1 : Nat) (qn2 : Nat) (qn3 : Nat) (qn5 : Nat) (qn6 : Nat) (qr0 : Nat) (qk0 : Nat) (qT : Nat) (qb0 : Nat) (qe0 : Nat) (qL0 : Nat) (qf0 : Nat) (qd0 : Nat) (qz0 : Nat) (qD0 : Nat) (qh0 : Nat) (qD1 : Nat) (qv0 : Nat) (n_calls : Int32) (n_bord : Int32) (n_rep : Int32) (n_unl : Int32) (n_pay : Int32) (n_ga : Nat → Int32) (p1 : Int32) (o_r : Int32) (hf : f_X11_mixed N n_ga p1 = some o_r) : ∀ sz, Met l yX11_mixed (mw yX11_mixed cX11_mixed 2 (some .int)) ({ frames := 3, cells := 0, slots := 0, locals := 91 } : Room) (mPreE D (mT cI cJ cZ cB cT) (W_X_9_13_76 qn0 qn4 qX0 qn1 qn2 qn3 qn5 qn6 qr0 qk0 qT qb0 qe0 qL0 qf0 qd0 qz0 qD0 qh0 qD1 qv0 cI cJ cZ cB cT n_calls n_bord n_rep n_unl n_pay n_ga) sz [.ref qX0, .int p1]) ((mQi D (W_X_9_13_76 qn0 qn4 qX0 qn1 qn2 qn3 qn5 qn6 qr0 qk0 qT qb0 qe0 qL0 qf0 qd0 qz0 qD0 qh0 qD1 qv0 cI cJ cZ cB cT n_calls n_bord n_rep n_unl n_pay n_ga) o_r True) (va_A (W_X_9_13_76 qn0 qn4 qX0 qn1 qn2 qn3 qn5 qn6 qr0 qk0 qT qb0 qe0 qL0 qf0 qd0 qz0 qD0 qh0 qD1 qv0 cI cJ cZ cB cT n_calls n_bord n_rep n_unl n_pay n_ga) sz)) 0 0 (va_A (W_X_9_13_76 qn0 qn4 qX0 qn1 qn2 qn3 qn5 qn6 qr0 qk0 qT qb0 qe0 qL0 qf0 qd0 qz0 qD0 qh0 qD1 qv0 cI cJ cZ cB cT n_calls n_bord n_rep n_unl n_pay n_ga) sz) := by
  refine mMetE (Qc := (mQi D (W_X_9_13_76 qn0 qn4 qX0 qn1 qn2 qn3 qn5 qn6 qr0 qk0 qT qb0 qe0 qL0 qf0 qd0 qz0 qD0 qh0 qD1 qv0 cI cJ cZ cB cT n_calls n_bord n_rep n_unl n_pay n_ga) o_r True)) (by decide) (Nat.le_of_ble_eq_true rfl) (fun p e s m below meth c A ls hx hb hr hml hts hown hlocks hK hA hP hD hl hE => ?_)
  have hown : s.vm.findClass RX11 = some m.cls := hown
  have hl : lv_has ls 2 [(0, .ref qX0), (1, .int p1)] := hl
  have hS : va_S A s.heap s.heap [] := va_S.rf
  obtain ⟨⟨tM, hZM, hTM⟩, ⟨tL, hZL, hTL⟩, ⟨hNX4, hNX10⟩, tS, tV, hRS, hZC, hZF, hKS⟩ := id hE
  unfold f_X11_mixed at hf
  refine lv_aload_n hx hb dX11_mixed_0 rfl (lv_at hl 0 rfl) ?_
  refine gfX11_64 hx hb hts hown hK hP 2 rfl rfl dX11_mixed_1 ?_
  refine lv_iload_n hx hb dX11_mixed_4 rfl (lv_at hl 1 rfl) ?_
  obtain ⟨r5, hg5, hf⟩ := ob1_some hf
  refine mcVE_i (wr := [(qX0, .inr (11, [.ref qr0, .ref qk0, .ref qT, .ref qb0, .ref qe0, .ref qL0, .ref qf0, .ref qd0, .ref qn0, .ref qz0, .ref qD0, .ref qh0, .ref qD1, .ref qv0]))]) (As := [.int p1]) (rest := []) hx hb hml hown hts hK hP hD hS hA hE (k_X4_evenOdds l N D cI cJ cZ cB cT qn0 qn4 qn1 qn2 qn3 qn5 qn6 n_calls n_bord n_rep n_unl n_pay n_ga p1 r5 hg5) (kwX11_358 hts rfl rfl ⟨Nat.le_of_ble_eq_true rfl, Nat.le_of_ble_eq_true rfl⟩) [0, 1] [2] rfl rfl rfl (by decide) rfl 0 rfl rfl rfl rfl hl.1 rfl (Nat.le_of_ble_eq_true rfl) dX11_mixed_5 ⟨Nat.zero_le _, Nat.zero_le _⟩ (fun hB5 H locs hP hD hS => ?_)
  have hP := mP_sub (wc := (W_X_9_13_76 qn0 qn4 qX0 qn1 qn2 qn3 qn5 qn6 qr0 qk0 qT qb0 qe0 qL0 qf0 qd0 qz0 qD0 qh0 qD1 qv0 cI cJ cZ cB cT n_calls n_bord n_rep n_unl n_pay n_ga)) hP [1, 2, 0] rfl
  have hD := hD.sub (ws' := (W_X_9_13_76 qn0 qn4 qX0 qn1 qn2 qn3 qn5 qn6 qr0 qk0 qT qb0 qe0 qL0 qf0 qd0 qz0 qD0 qh0 qD1 qv0 cI cJ cZ cB cT n_calls n_bord n_rep n_unl n_pay n_ga)) [1, 2, 0] rfl rfl
  cases hf
  exact mret_i hx hb hr hlocks hP hD hS dX11_mixed_8 rfl trivial
theorem dX11_befell_0 : decode cX11_befell 0 = .ok (.iload_n 2, 1) := by decide +kernel
theorem dX11_befell_1 : decode cX11_befell 1 = .ok (.ifCond .lt 25, 3) := by decide +kernel
theorem dX11_befell_4 : decode cX11_befell 4 = .ok (.iload_n 2, 1) := by decide +kernel
theorem dX11_befell_5 : decode cX11_befell 5 = .ok (.bipush 6, 2) := by decide +kernel
theorem dX11_befell_7 : decode cX11_befell 7 = .ok (.if_icmp .gt 19, 3) := by decide +kernel
theorem dX11_befell_10 : decode cX11_befell 10 = .ok (.iload_n 1, 1) := by decide +kernel
theorem dX11_befell_11 : decode cX11_befell 11 = .ok (.iconst (-1), 1) := by decide +kernel
theorem dX11_befell_12 : decode cX11_befell 12 = .ok (.if_icmp .eq 17, 3) := by decide +kernel
theorem dX11_befell_15 : decode cX11_befell 15 = .ok (.aload_n 0, 1) := by decide +kernel
theorem dX11_befell_16 : decode cX11_befell 16 = .ok (.getfield 54, 3) := by decide +kernel
theorem dX11_befell_19 : decode cX11_befell 19 = .ok (.iload_n 1, 1) := by decide +kernel
theorem dX11_befell_20 : decode cX11_befell 20 = .ok (.invokevirtual 238, 3) := by decide +kernel
theorem dX11_befell_23 : decode cX11_befell 23 = .ok (.ifCond .ne 6, 3) := by decide +kernel
theorem dX11_befell_26 : decode cX11_befell 26 = .ok (.bipush (-2), 2) := by decide +kernel
theorem dX11_befell_28 : decode cX11_befell 28 = .ok (.ireturn, 1) := by decide +kernel
theorem dX11_befell_29 : decode cX11_befell 29 = .ok (.iconst 0, 1) := by decide +kernel
theorem dX11_befell_30 : decode cX11_befell 30 = .ok (.istore_n 3, 1) := by decide +kernel
theorem dX11_befell_31 : decode cX11_befell 31 = .ok (.iconst 0, 1) := by decide +kernel
theorem dX11_befell_32 : decode cX11_befell 32 = .ok (.istore 4, 2) := by decide +kernel
theorem dX11_befell_34 : decode cX11_befell 34 = .ok (.iload 4, 2) := by decide +kernel
theorem dX11_befell_36 : decode cX11_befell 36 = .ok (.aload_n 0, 1) := by decide +kernel
theorem dX11_befell_37 : decode cX11_befell 37 = .ok (.getfield 54, 3) := by decide +kernel
theorem dX11_befell_40 : decode cX11_befell 40 = .ok (.invokevirtual 263, 3) := by decide +kernel
theorem dX11_befell_43 : decode cX11_befell 43 = .ok (.if_icmp .ge 55, 3) := by decide +kernel
theorem dX11_befell_46 : decode cX11_befell 46 = .ok (.iload_n 1, 1) := by decide +kernel
theorem dX11_befell_47 : decode cX11_befell 47 = .ok (.iconst (-1), 1) := by decide +kernel
theorem dX11_befell_48 : decode cX11_befell 48 = .ok (.if_icmp .eq 16, 3) := by decide +kernel
theorem dX11_befell_51 : decode cX11_befell 51 = .ok (.aload_n 0, 1) := by decide +kernel
theorem dX11_befell_52 : decode cX11_befell 52 = .ok (.getfield 54, 3) := by decide +kernel
theorem dX11_befell_55 : decode cX11_befell 55 = .ok (.iload 4, 2) := by decide +kernel
theorem dX11_befell_57 : decode cX11_befell 57 = .ok (.invokevirtual 269, 3) := by decide +kernel
theorem dX11_befell_60 : decode cX11_befell 60 = .ok (.iload_n 1, 1) := by decide +kernel
theorem dX11_befell_61 : decode cX11_befell 61 = .ok (.if_icmp .ne 7, 3) := by decide +kernel
theorem dX11_befell_64 : decode cX11_befell 64 = .ok (.iconst 1, 1) := by decide +kernel
theorem dX11_befell_65 : decode cX11_befell 65 = .ok (.goto 4, 3) := by decide +kernel
theorem dX11_befell_68 : decode cX11_befell 68 = .ok (.iconst 0, 1) := by decide +kernel
theorem dX11_befell_69 : decode cX11_befell 69 = .ok (.istore 5, 2) := by decide +kernel
theorem dX11_befell_71 : decode cX11_befell 71 = .ok (.iload 5, 2) := by decide +kernel
theorem dX11_befell_73 : decode cX11_befell 73 = .ok (.ifCond .eq 19, 3) := by decide +kernel
theorem dX11_befell_76 : decode cX11_befell 76 = .ok (.aload_n 0, 1) := by decide +kernel
theorem dX11_befell_77 : decode cX11_befell 77 = .ok (.getfield 54, 3) := by decide +kernel
theorem dX11_befell_80 : decode cX11_befell 80 = .ok (.iload 4, 2) := by decide +kernel
theorem dX11_befell_82 : decode cX11_befell 82 = .ok (.invokevirtual 272, 3) := by decide +kernel
theorem dX11_befell_85 : decode cX11_befell 85 = .ok (.iload_n 2, 1) := by decide +kernel
theorem dX11_befell_86 : decode cX11_befell 86 = .ok (.if_icmp .ne 6, 3) := by decide +kernel
theorem dX11_befell_89 : decode cX11_befell 89 = .ok (.iinc 3 1, 3) := by decide +kernel
theorem dX11_befell_92 : decode cX11_befell 92 = .ok (.iinc 4 1, 3) := by decide +kernel
theorem dX11_befell_95 : decode cX11_befell 95 = .ok (.goto (-61), 3) := by decide +kernel
theorem dX11_befell_98 : decode cX11_befell 98 = .ok (.iload_n 3, 1) := by decide +kernel
theorem dX11_befell_99 : decode cX11_befell 99 = .ok (.ireturn, 1) := by decide +kernel
def f_X11_befell_92 (N : Nat) (k_34 : (Nat → Int32) → Int32 → Int32 → Int32 → Int32 → Option (Int32)) (f_row : Nat → Int32) (x1 : Int32) (x2 : Int32) (x3 : Int32) (x4 : Int32) : Option (Int32) := k_34 f_row x1 x2 x3 (x4 + (1 : Int32))
def f_X11_befell_69 (N : Nat) (k_34 : (Nat → Int32) → Int32 → Int32 → Int32 → Int32 → Option (Int32)) (f_row : Nat → Int32) (x1 : Int32) (x2 : Int32) (x3 : Int32) (x4 : Int32) (s0 : Int32) : Option (Int32) := if s0 = 0 then (f_X11_befell_92 N k_34 f_row x1 x2 x3 x4) else (ob1 (f_X1_entryWhat N f_row x4) fun r82 => if r82 = x2 then (f_X11_befell_92 N k_34 f_row x1 x2 (x3 + (1 : Int32)) x4) else (f_X11_befell_92 N k_34 f_row x1 x2 x3 x4))
def f_X11_befell_64 (N : Nat) (k_34 : (Nat → Int32) → Int32 → Int32 → Int32 → Int32 → Option (Int32)) (f_row : Nat → Int32) (x1 : Int32) (x2 : Int32) (x3 : Int32) (x4 : Int32) : Option (Int32) := f_X11_befell_69 N k_34 f_row x1 x2 x3 x4 (1 : Int32)
def f_X11_befell_34 (N : Nat) : Nat → (Nat → Int32) → Int32 → Int32 → Int32 → Int32 → Option (Int32)
  | 0, _, _, _, _, _ => none
  | n + 1, f_row, x1, x2, x3, x4 => ob1 (f_X1_written N f_row) fun r40 => if r40 ≤ x4 then (some x3) else (if x1 = (-1 : Int32) then (f_X11_befell_64 N (f_X11_befell_34 N n) f_row x1 x2 x3 x4) else (ob1 (f_X1_entryPerson N f_row x4) fun r57 => if r57 = x1 then (f_X11_befell_64 N (f_X11_befell_34 N n) f_row x1 x2 x3 x4) else (f_X11_befell_69 N (f_X11_befell_34 N n) f_row x1 x2 x3 x4 (0 : Int32))))
def f_X11_befell_29 (N : Nat) (f_row : Nat → Int32) (x1 : Int32) (x2 : Int32) : Option (Int32) := f_X11_befell_34 N N f_row x1 x2 (0 : Int32) (0 : Int32)
def f_X11_befell (N : Nat) (f_row : Nat → Int32) (p1 : Int32) (p2 : Int32) : Option (Int32) := if p2 < 0 then (some (-2 : Int32)) else (if (6 : Int32) < p2 then (some (-2 : Int32)) else (if p1 = (-1 : Int32) then (f_X11_befell_29 N f_row p1 p2) else (ob1 (f_X1_told N f_row p1) fun r20 => if r20 = 0 then (some (-2 : Int32)) else (f_X11_befell_29 N f_row p1 p2))))
set_option maxHeartbeats 4000000 in
set_option maxRecDepth 100000 in
theorem k_X11_befell (l : Launch) (N : Nat) (D : va_G) (cI cJ cZ cB cT : ClassId) (qf0 : Nat) (qf1 : Nat) (qX0 : Nat) (qf2 : Nat) (qf3 : Nat) (qr0 : Nat) (qk0 : Nat) (qT : Nat) (qb0 : Nat) (qe0 : Nat) (qL0 : Nat) (qd0 : Nat) (qn0 : Nat) (qz0 : Nat) (qD0 : Nat) (qh0 : Nat) (qD1 : Nat) (qv0 : Nat) (f_row : Nat → Int32) (p1 : Int32) (p2 : Int32) (o_r : Int32) (hf : f_X11_befell N f_row p1 p2 = some o_r) : ∀ sz, Met l yX11_befell (mw yX11_befell cX11_befell 6 (some .int)) ({ frames := 2, cells := 0, slots := 0, locals := 42 } : Room) (mPre D (mT cI cJ cZ cB cT) (W_X_3t4_76 qf0 qf1 qX0 qf2 qf3 qr0 qk0 qT qb0 qe0 qL0 qd0 qn0 qz0 qD0 qh0 qD1 qv0 cI cJ cZ cB cT f_row) sz [.ref qX0, .int p1, .int p2]) ((mQi D (W_X_3t4_76 qf0 qf1 qX0 qf2 qf3 qr0 qk0 qT qb0 qe0 qL0 qd0 qn0 qz0 qD0 qh0 qD1 qv0 cI cJ cZ cB cT f_row) o_r True) (va_A (W_X_3t4_76 qf0 qf1 qX0 qf2 qf3 qr0 qk0 qT qb0 qe0 qL0 qd0 qn0 qz0 qD0 qh0 qD1 qv0 cI cJ cZ cB cT f_row) sz)) 0 0 (va_A (W_X_3t4_76 qf0 qf1 qX0 qf2 qf3 qr0 qk0 qT qb0 qe0 qL0 qd0 qn0 qz0 qD0 qh0 qD1 qv0 cI cJ cZ cB cT f_row) sz) := by
  refine mMet (Qc := (mQi D (W_X_3t4_76 qf0 qf1 qX0 qf2 qf3 qr0 qk0 qT qb0 qe0 qL0 qd0 qn0 qz0 qD0 qh0 qD1 qv0 cI cJ cZ cB cT f_row) o_r True)) (by decide) (Nat.le_of_ble_eq_true rfl) (fun p e s m below meth c A ls hx hb hr hml hts hown hlocks hK hA hP hD hl => ?_)
  have hown : s.vm.findClass RX11 = some m.cls := hown
  have hl : lv_has ls 6 [(0, .ref qX0), (1, .int p1), (2, .int p2)] := hl
  have hS : va_S A s.heap s.heap [] := va_S.rf
  have b34 : ∀ n34 : Nat, ∀ (x1 : Int32) (x2 : Int32) (x3 : Int32) (x4 : Int32) (H : Heap) (locs : List Loc) (ls : Array Slot), f_X11_befell_34 N n34 f_row x1 x2 x3 x4 = some o_r → va_P D vwCl (W_X_3t4_76 qf0 qf1 qX0 qf2 qf3 qr0 qk0 qT qb0 qe0 qL0 qd0 qn0 qz0 qD0 qh0 qD1 qv0 cI cJ cZ cB cT f_row) H → va_D A (W_X_3t4_76 qf0 qf1 qX0 qf2 qf3 qr0 qk0 qT qb0 qe0 qL0 qd0 qn0 qz0 qD0 qh0 qD1 qv0 cI cJ cZ cB cT f_row) → va_S A s.heap H locs → lv_has ls 6 [(0, .ref qX0), (1, .int x1), (2, .int x2), (3, .int x3), (4, .int x4)] → W p l e ({ frames := 2, cells := 0, slots := 0, locals := 42 } : Room) s m ([.ref qX0, .int p1, .int p2] : List Value).toArray below meth c H locs 0 0 (MQ below ((mQi D (W_X_3t4_76 qf0 qf1 qX0 qf2 qf3 qr0 qk0 qT qb0 qe0 qL0 qd0 qn0 qz0 qD0 qh0 qD1 qv0 cI cJ cZ cB cT f_row) o_r True) A) ([.ref qX0, .int p1, .int p2] : List Value).toArray s 0 0 A) (F0 m 34 ls []) := by
    intro n34
    induction n34 with
    | zero =>
      intro x1 x2 x3 x4 H locs ls hf hP hD hS hl
      simp [f_X11_befell_34] at hf
    | succ n34 ih34 =>
      have b92 : ∀ (x1 : Int32) (x2 : Int32) (x3 : Int32) (x4 : Int32) (H : Heap) (locs : List Loc) (ls : Array Slot), f_X11_befell_92 N (f_X11_befell_34 N n34) f_row x1 x2 x3 x4 = some o_r → va_P D vwCl (W_X_3t4_76 qf0 qf1 qX0 qf2 qf3 qr0 qk0 qT qb0 qe0 qL0 qd0 qn0 qz0 qD0 qh0 qD1 qv0 cI cJ cZ cB cT f_row) H → va_D A (W_X_3t4_76 qf0 qf1 qX0 qf2 qf3 qr0 qk0 qT qb0 qe0 qL0 qd0 qn0 qz0 qD0 qh0 qD1 qv0 cI cJ cZ cB cT f_row) → va_S A s.heap H locs → lv_has ls 6 [(0, .ref qX0), (1, .int x1), (2, .int x2), (3, .int x3), (4, .int x4)] → W p l e ({ frames := 2, cells := 0, slots := 0, locals := 42 } : Room) s m ([.ref qX0, .int p1, .int p2] : List Value).toArray below meth c H locs 0 0 (MQ below ((mQi D (W_X_3t4_76 qf0 qf1 qX0 qf2 qf3 qr0 qk0 qT qb0 qe0 qL0 qd0 qn0 qz0 qD0 qh0 qD1 qv0 cI cJ cZ cB cT f_row) o_r True) A) ([.ref qX0, .int p1, .int p2] : List Value).toArray s 0 0 A) (F0 m 92 ls []) := by
        intro x1 x2 x3 x4 H locs ls hf hP hD hS hl
        unfold f_X11_befell_92 at hf
        refine lv_iinc (v := (x4 + (1 : Int32))) (lv' := [(4, .int (x4 + (1 : Int32))), (0, .ref qX0), (1, .int x1), (2, .int x2), (3, .int x3)]) hx hb dX11_befell_92 hl (k := 4) rfl rfl (by decide) rfl (fun ls hl => ?_)
        refine lv_goto (tgt := 34) hx hb dX11_befell_95 (by decide) ?_
        exact ih34 x1 x2 x3 (x4 + (1 : Int32)) _ _ _ hf hP hD hS (lv_sub hl [1, 2, 3, 4, 0] rfl)
      have b69 : ∀ (x1 : Int32) (x2 : Int32) (x3 : Int32) (x4 : Int32) (s0 : Int32) (H : Heap) (locs : List Loc) (ls : Array Slot), f_X11_befell_69 N (f_X11_befell_34 N n34) f_row x1 x2 x3 x4 s0 = some o_r → va_P D vwCl (W_X_3t4_76 qf0 qf1 qX0 qf2 qf3 qr0 qk0 qT qb0 qe0 qL0 qd0 qn0 qz0 qD0 qh0 qD1 qv0 cI cJ cZ cB cT f_row) H → va_D A (W_X_3t4_76 qf0 qf1 qX0 qf2 qf3 qr0 qk0 qT qb0 qe0 qL0 qd0 qn0 qz0 qD0 qh0 qD1 qv0 cI cJ cZ cB cT f_row) → va_S A s.heap H locs → lv_has ls 6 [(0, .ref qX0), (1, .int x1), (2, .int x2), (3, .int x3), (4, .int x4)] → W p l e ({ frames := 2, cells := 0, slots := 0, locals := 42 } : Room) s m ([.ref qX0, .int p1, .int p2] : List Value).toArray below meth c H locs 0 0 (MQ below ((mQi D (W_X_3t4_76 qf0 qf1 qX0 qf2 qf3 qr0 qk0 qT qb0 qe0 qL0 qd0 qn0 qz0 qD0 qh0 qD1 qv0 cI cJ cZ cB cT f_row) o_r True) A) ([.ref qX0, .int p1, .int p2] : List Value).toArray s 0 0 A) (F0 m 69 ls [.int s0]) := by
        intro x1 x2 x3 x4 s0 H locs ls hf hP hD hS hl
        unfold f_X11_befell_69 at hf
        refine lv_istore (lv' := [(5, .int s0), (0, .ref qX0), (1, .int x1), (2, .int x2), (3, .int x3), (4, .int x4)]) hx hb dX11_befell_69 hl (by decide) rfl (fun ls hl => ?_)
        refine lv_iload hx hb dX11_befell_71 (lv_at hl 0 rfl) ?_
        refine xif_eq hx hb 92 dX11_befell_73 (by decide) hf (fun hf => ?_) (fun hf => ?_)
        · exact b92 x1 x2 x3 x4 _ _ _ hf hP hD hS (lv_sub hl [1, 2, 3, 4, 5] rfl)
        · refine lv_aload_n hx hb dX11_befell_76 rfl (lv_at hl 1 rfl) ?_
          refine gfX11_54 hx hb hts hown hK hP 2 rfl rfl dX11_befell_77 ?_
          refine lv_iload hx hb dX11_befell_80 (lv_at hl 5 rfl) ?_
          obtain ⟨r82, hg82, hf⟩ := ob1_some hf
          refine mcV_i (wr := [(qX0, .inr (11, [.ref qr0, .ref qk0, .ref qT, .ref qb0, .ref qe0, .ref qL0, .ref qf0, .ref qd0, .ref qn0, .ref qz0, .ref qD0, .ref qh0, .ref qD1, .ref qv0]))]) (As := [.int x4]) (rest := []) hx hb hml hown hts hK hP hD hS hA (k_X1_entryWhat l N D cI cJ cZ cB cT qf0 qf1 qf2 qf3 f_row x4 r82 hg82) (kwX11_272 hts rfl rfl ⟨Nat.le_of_ble_eq_true rfl, Nat.le_of_ble_eq_true rfl⟩) [0, 1] [2] rfl rfl rfl (by decide) rfl 0 rfl rfl rfl rfl hl.1 rfl (Nat.le_of_ble_eq_true rfl) dX11_befell_82 ⟨Nat.zero_le _, Nat.zero_le _⟩ (fun hB82 H locs hP hD hS => ?_)
          have hP := mP_sub (wc := (W_X_3t4_76 qf0 qf1 qX0 qf2 qf3 qr0 qk0 qT qb0 qe0 qL0 qd0 qn0 qz0 qD0 qh0 qD1 qv0 cI cJ cZ cB cT f_row)) hP [1, 2, 0] rfl
          have hD := hD.sub (ws' := (W_X_3t4_76 qf0 qf1 qX0 qf2 qf3 qr0 qk0 qT qb0 qe0 qL0 qd0 qn0 qz0 qD0 qh0 qD1 qv0 cI cJ cZ cB cT f_row)) [1, 2, 0] rfl rfl
          refine lv_iload_n hx hb dX11_befell_85 rfl (lv_at hl 3 rfl) ?_
          refine xicmp_ne hx hb 92 dX11_befell_86 (by decide) hf (fun hf => ?_) (fun hf => ?_)
          · refine lv_iinc (v := (x3 + (1 : Int32))) (lv' := [(3, .int (x3 + (1 : Int32))), (5, .int s0), (0, .ref qX0), (1, .int x1), (2, .int x2), (4, .int x4)]) hx hb dX11_befell_89 hl (k := 4) rfl rfl (by decide) rfl (fun ls hl => ?_)
            exact b92 x1 x2 (x3 + (1 : Int32)) x4 _ _ _ hf hP hD hS (lv_sub hl [2, 3, 4, 0, 5] rfl)
          · exact b92 x1 x2 x3 x4 _ _ _ hf hP hD hS (lv_sub hl [1, 2, 3, 4, 5] rfl)
      have b64 : ∀ (x1 : Int32) (x2 : Int32) (x3 : Int32) (x4 : Int32) (H : Heap) (locs : List Loc) (ls : Array Slot), f_X11_befell_64 N (f_X11_befell_34 N n34) f_row x1 x2 x3 x4 = some o_r → va_P D vwCl (W_X_3t4_76 qf0 qf1 qX0 qf2 qf3 qr0 qk0 qT qb0 qe0 qL0 qd0 qn0 qz0 qD0 qh0 qD1 qv0 cI cJ cZ cB cT f_row) H → va_D A (W_X_3t4_76 qf0 qf1 qX0 qf2 qf3 qr0 qk0 qT qb0 qe0 qL0 qd0 qn0 qz0 qD0 qh0 qD1 qv0 cI cJ cZ cB cT f_row) → va_S A s.heap H locs → lv_has ls 6 [(0, .ref qX0), (1, .int x1), (2, .int x2), (3, .int x3), (4, .int x4)] → W p l e ({ frames := 2, cells := 0, slots := 0, locals := 42 } : Room) s m ([.ref qX0, .int p1, .int p2] : List Value).toArray below meth c H locs 0 0 (MQ below ((mQi D (W_X_3t4_76 qf0 qf1 qX0 qf2 qf3 qr0 qk0 qT qb0 qe0 qL0 qd0 qn0 qz0 qD0 qh0 qD1 qv0 cI cJ cZ cB cT f_row) o_r True) A) ([.ref qX0, .int p1, .int p2] : List Value).toArray s 0 0 A) (F0 m 64 ls []) := by
        intro x1 x2 x3 x4 H locs ls hf hP hD hS hl
        unfold f_X11_befell_64 at hf
        refine lv_iconst (v := (1 : Int32)) hx hb dX11_befell_64 (by decide) ?_
        refine lv_goto (tgt := 69) hx hb dX11_befell_65 (by decide) ?_
        exact b69 x1 x2 x3 x4 (1 : Int32) _ _ _ hf hP hD hS (lv_sub hl [0, 1, 2, 3, 4] rfl)
      intro x1 x2 x3 x4 H locs ls hf hP hD hS hl
      rw [f_X11_befell_34.eq_2] at hf
      refine lv_iload hx hb dX11_befell_34 (lv_at hl 4 rfl) ?_
      refine lv_aload_n hx hb dX11_befell_36 rfl (lv_at hl 0 rfl) ?_
      refine gfX11_54 hx hb hts hown hK hP 2 rfl rfl dX11_befell_37 ?_
      obtain ⟨r40, hg40, hf⟩ := ob1_some hf
      refine mcV_i (wr := [(qX0, .inr (11, [.ref qr0, .ref qk0, .ref qT, .ref qb0, .ref qe0, .ref qL0, .ref qf0, .ref qd0, .ref qn0, .ref qz0, .ref qD0, .ref qh0, .ref qD1, .ref qv0]))]) (As := []) (rest := [.int x4]) hx hb hml hown hts hK hP hD hS hA (k_X1_written l N D cI cJ cZ cB cT qf0 qf1 qf2 qf3 f_row r40 hg40) (kwX11_263 hts rfl rfl ⟨Nat.le_of_ble_eq_true rfl, Nat.le_of_ble_eq_true rfl⟩) [0, 1] [2] rfl rfl rfl (by decide) rfl 0 rfl rfl rfl rfl hl.1 rfl (Nat.le_of_ble_eq_true rfl) dX11_befell_40 ⟨Nat.zero_le _, Nat.zero_le _⟩ (fun hB40 H locs hP hD hS => ?_)
      have hP := mP_sub (wc := (W_X_3t4_76 qf0 qf1 qX0 qf2 qf3 qr0 qk0 qT qb0 qe0 qL0 qd0 qn0 qz0 qD0 qh0 qD1 qv0 cI cJ cZ cB cT f_row)) hP [1, 2, 0] rfl
      have hD := hD.sub (ws' := (W_X_3t4_76 qf0 qf1 qX0 qf2 qf3 qr0 qk0 qT qb0 qe0 qL0 qd0 qn0 qz0 qD0 qh0 qD1 qv0 cI cJ cZ cB cT f_row)) [1, 2, 0] rfl rfl
      refine xicmp_ge hx hb 98 dX11_befell_43 (by decide) hf (fun hf => ?_) (fun hf => ?_)
      · refine lv_iload_n hx hb dX11_befell_98 rfl (lv_at hl 3 rfl) ?_
        cases hf
        exact mret_i hx hb hr hlocks hP hD hS dX11_befell_99 rfl trivial
      · refine lv_iload_n hx hb dX11_befell_46 rfl (lv_at hl 1 rfl) ?_
        refine lv_iconst (v := (-1 : Int32)) hx hb dX11_befell_47 (by decide) ?_
        refine xicmp_eq hx hb 64 dX11_befell_48 (by decide) hf (fun hf => ?_) (fun hf => ?_)
        · exact b64 x1 x2 x3 x4 _ _ _ hf hP hD hS (lv_sub hl [0, 1, 2, 3, 4] rfl)
        · refine lv_aload_n hx hb dX11_befell_51 rfl (lv_at hl 0 rfl) ?_
          refine gfX11_54 hx hb hts hown hK hP 2 rfl rfl dX11_befell_52 ?_
          refine lv_iload hx hb dX11_befell_55 (lv_at hl 4 rfl) ?_
          obtain ⟨r57, hg57, hf⟩ := ob1_some hf
          refine mcV_i (wr := [(qX0, .inr (11, [.ref qr0, .ref qk0, .ref qT, .ref qb0, .ref qe0, .ref qL0, .ref qf0, .ref qd0, .ref qn0, .ref qz0, .ref qD0, .ref qh0, .ref qD1, .ref qv0]))]) (As := [.int x4]) (rest := []) hx hb hml hown hts hK hP hD hS hA (k_X1_entryPerson l N D cI cJ cZ cB cT qf0 qf1 qf2 qf3 f_row x4 r57 hg57) (kwX11_269 hts rfl rfl ⟨Nat.le_of_ble_eq_true rfl, Nat.le_of_ble_eq_true rfl⟩) [0, 1] [2] rfl rfl rfl (by decide) rfl 0 rfl rfl rfl rfl hl.1 rfl (Nat.le_of_ble_eq_true rfl) dX11_befell_57 ⟨Nat.zero_le _, Nat.zero_le _⟩ (fun hB57 H locs hP hD hS => ?_)
          have hP := mP_sub (wc := (W_X_3t4_76 qf0 qf1 qX0 qf2 qf3 qr0 qk0 qT qb0 qe0 qL0 qd0 qn0 qz0 qD0 qh0 qD1 qv0 cI cJ cZ cB cT f_row)) hP [1, 2, 0] rfl
          have hD := hD.sub (ws' := (W_X_3t4_76 qf0 qf1 qX0 qf2 qf3 qr0 qk0 qT qb0 qe0 qL0 qd0 qn0 qz0 qD0 qh0 qD1 qv0 cI cJ cZ cB cT f_row)) [1, 2, 0] rfl rfl
          refine lv_iload_n hx hb dX11_befell_60 rfl (lv_at hl 1 rfl) ?_
          refine xicmp_ne hx hb 68 dX11_befell_61 (by decide) hf (fun hf => ?_) (fun hf => ?_)
          · exact b64 x1 x2 x3 x4 _ _ _ hf hP hD hS (lv_sub hl [0, 1, 2, 3, 4] rfl)
          · refine lv_iconst (v := (0 : Int32)) hx hb dX11_befell_68 (by decide) ?_
            exact b69 x1 x2 x3 x4 (0 : Int32) _ _ _ hf hP hD hS (lv_sub hl [0, 1, 2, 3, 4] rfl)
  have b29 : ∀ (x1 : Int32) (x2 : Int32) (H : Heap) (locs : List Loc) (ls : Array Slot), f_X11_befell_29 N f_row x1 x2 = some o_r → va_P D vwCl (W_X_3t4_76 qf0 qf1 qX0 qf2 qf3 qr0 qk0 qT qb0 qe0 qL0 qd0 qn0 qz0 qD0 qh0 qD1 qv0 cI cJ cZ cB cT f_row) H → va_D A (W_X_3t4_76 qf0 qf1 qX0 qf2 qf3 qr0 qk0 qT qb0 qe0 qL0 qd0 qn0 qz0 qD0 qh0 qD1 qv0 cI cJ cZ cB cT f_row) → va_S A s.heap H locs → lv_has ls 6 [(0, .ref qX0), (1, .int x1), (2, .int x2)] → W p l e ({ frames := 2, cells := 0, slots := 0, locals := 42 } : Room) s m ([.ref qX0, .int p1, .int p2] : List Value).toArray below meth c H locs 0 0 (MQ below ((mQi D (W_X_3t4_76 qf0 qf1 qX0 qf2 qf3 qr0 qk0 qT qb0 qe0 qL0 qd0 qn0 qz0 qD0 qh0 qD1 qv0 cI cJ cZ cB cT f_row) o_r True) A) ([.ref qX0, .int p1, .int p2] : List Value).toArray s 0 0 A) (F0 m 29 ls []) := by
    intro x1 x2 H locs ls hf hP hD hS hl
    unfold f_X11_befell_29 at hf
    refine lv_iconst (v := (0 : Int32)) hx hb dX11_befell_29 (by decide) ?_
    refine lv_istore_n (lv' := [(3, .int (0 : Int32)), (0, .ref qX0), (1, .int x1), (2, .int x2)]) hx hb dX11_befell_30 rfl hl (by decide) rfl (fun ls hl => ?_)
    refine lv_iconst (v := (0 : Int32)) hx hb dX11_befell_31 (by decide) ?_
    refine lv_istore (lv' := [(4, .int (0 : Int32)), (3, .int (0 : Int32)), (0, .ref qX0), (1, .int x1), (2, .int x2)]) hx hb dX11_befell_32 hl (by decide) rfl (fun ls hl => ?_)
    exact b34 N x1 x2 (0 : Int32) (0 : Int32) _ _ _ hf hP hD hS (lv_sub hl [2, 3, 4, 1, 0] rfl)
  unfold f_X11_befell at hf
  refine lv_iload_n hx hb dX11_befell_0 rfl (lv_at hl 2 rfl) ?_
  refine xif_lt hx hb 26 dX11_befell_1 (by decide) hf (fun hf => ?_) (fun hf => ?_)
  · refine lv_bipush (v := (-2 : Int32)) hx hb dX11_befell_26 (by decide) ?_
    cases hf
    exact mret_i hx hb hr hlocks hP hD hS dX11_befell_28 rfl trivial
  · refine lv_iload_n hx hb dX11_befell_4 rfl (lv_at hl 2 rfl) ?_
    refine lv_bipush (v := (6 : Int32)) hx hb dX11_befell_5 (by decide) ?_
    refine xicmp_gt hx hb 26 dX11_befell_7 (by decide) hf (fun hf => ?_) (fun hf => ?_)
    · refine lv_bipush (v := (-2 : Int32)) hx hb dX11_befell_26 (by decide) ?_
      cases hf
      exact mret_i hx hb hr hlocks hP hD hS dX11_befell_28 rfl trivial
    · refine lv_iload_n hx hb dX11_befell_10 rfl (lv_at hl 1 rfl) ?_
      refine lv_iconst (v := (-1 : Int32)) hx hb dX11_befell_11 (by decide) ?_
      refine xicmp_eq hx hb 29 dX11_befell_12 (by decide) hf (fun hf => ?_) (fun hf => ?_)
      · exact b29 p1 p2 _ _ _ hf hP hD hS (lv_sub hl [0, 1, 2] rfl)
      · refine lv_aload_n hx hb dX11_befell_15 rfl (lv_at hl 0 rfl) ?_
        refine gfX11_54 hx hb hts hown hK hP 2 rfl rfl dX11_befell_16 ?_
        refine lv_iload_n hx hb dX11_befell_19 rfl (lv_at hl 1 rfl) ?_
        obtain ⟨r20, hg20, hf⟩ := ob1_some hf
        refine mcV_i (wr := [(qX0, .inr (11, [.ref qr0, .ref qk0, .ref qT, .ref qb0, .ref qe0, .ref qL0, .ref qf0, .ref qd0, .ref qn0, .ref qz0, .ref qD0, .ref qh0, .ref qD1, .ref qv0]))]) (As := [.int p1]) (rest := []) hx hb hml hown hts hK hP hD hS hA (k_X1_told l N D cI cJ cZ cB cT qf0 qf1 qf2 qf3 f_row p1 r20 hg20) (kwX11_238 hts rfl rfl ⟨Nat.le_of_ble_eq_true rfl, Nat.le_of_ble_eq_true rfl⟩) [0, 1] [2] rfl rfl rfl (by decide) rfl 0 rfl rfl rfl rfl hl.1 rfl (Nat.le_of_ble_eq_true rfl) dX11_befell_20 ⟨Nat.zero_le _, Nat.zero_le _⟩ (fun hB20 H locs hP hD hS => ?_)
        have hP := mP_sub (wc := (W_X_3t4_76 qf0 qf1 qX0 qf2 qf3 qr0 qk0 qT qb0 qe0 qL0 qd0 qn0 qz0 qD0 qh0 qD1 qv0 cI cJ cZ cB cT f_row)) hP [1, 2, 0] rfl
        have hD := hD.sub (ws' := (W_X_3t4_76 qf0 qf1 qX0 qf2 qf3 qr0 qk0 qT qb0 qe0 qL0 qd0 qn0 qz0 qD0 qh0 qD1 qv0 cI cJ cZ cB cT f_row)) [1, 2, 0] rfl rfl
        refine xif_ne hx hb 29 dX11_befell_23 (by decide) hf (fun hf => ?_) (fun hf => ?_)
        · refine lv_bipush (v := (-2 : Int32)) hx hb dX11_befell_26 (by decide) ?_
          cases hf
          exact mret_i hx hb hr hlocks hP hD hS dX11_befell_28 rfl trivial
        · exact b29 p1 p2 _ _ _ hf hP hD hS (lv_sub hl [0, 1, 2] rfl)
