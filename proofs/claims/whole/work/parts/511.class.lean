theorem dX11_reigns_0 : decode cX11_reigns 0 = .ok (.iload_n 1, 1) := by decide +kernel
theorem dX11_reigns_1 : decode cX11_reigns 1 = .ok (.ifCond .lt 21, 3) := by decide +kernel
theorem dX11_reigns_4 : decode cX11_reigns 4 = .ok (.iload_n 1, 1) := by decide +kernel
theorem dX11_reigns_5 : decode cX11_reigns 5 = .ok (.sipush 9999, 3) := by decide +kernel
theorem dX11_reigns_8 : decode cX11_reigns 8 = .ok (.if_icmp .gt 14, 3) := by decide +kernel
theorem dX11_reigns_11 : decode cX11_reigns 11 = .ok (.iload_n 2, 1) := by decide +kernel
theorem dX11_reigns_12 : decode cX11_reigns 12 = .ok (.iconst 1, 1) := by decide +kernel
theorem dX11_reigns_13 : decode cX11_reigns 13 = .ok (.if_icmp .lt 9, 3) := by decide +kernel
theorem dX11_reigns_16 : decode cX11_reigns 16 = .ok (.iload_n 2, 1) := by decide +kernel
theorem dX11_reigns_17 : decode cX11_reigns 17 = .ok (.bipush 40, 2) := by decide +kernel
theorem dX11_reigns_19 : decode cX11_reigns 19 = .ok (.if_icmp .le 5, 3) := by decide +kernel
theorem dX11_reigns_22 : decode cX11_reigns 22 = .ok (.iconst (-1), 1) := by decide +kernel
theorem dX11_reigns_23 : decode cX11_reigns 23 = .ok (.ireturn, 1) := by decide +kernel
theorem dX11_reigns_24 : decode cX11_reigns 24 = .ok (.aload_n 0, 1) := by decide +kernel
theorem dX11_reigns_25 : decode cX11_reigns 25 = .ok (.getfield 54, 3) := by decide +kernel
theorem dX11_reigns_28 : decode cX11_reigns 28 = .ok (.invokevirtual 217, 3) := by decide +kernel
theorem dX11_reigns_31 : decode cX11_reigns 31 = .ok (.ifCond .eq 13, 3) := by decide +kernel
theorem dX11_reigns_34 : decode cX11_reigns 34 = .ok (.aload_n 0, 1) := by decide +kernel
theorem dX11_reigns_35 : decode cX11_reigns 35 = .ok (.getfield 59, 3) := by decide +kernel
theorem dX11_reigns_38 : decode cX11_reigns 38 = .ok (.getfield 220, 3) := by decide +kernel
theorem dX11_reigns_41 : decode cX11_reigns 41 = .ok (.ifCond .ne 5, 3) := by decide +kernel
theorem dX11_reigns_44 : decode cX11_reigns 44 = .ok (.iconst (-1), 1) := by decide +kernel
theorem dX11_reigns_45 : decode cX11_reigns 45 = .ok (.ireturn, 1) := by decide +kernel
theorem dX11_reigns_46 : decode cX11_reigns 46 = .ok (.aload_n 0, 1) := by decide +kernel
theorem dX11_reigns_47 : decode cX11_reigns 47 = .ok (.getfield 69, 3) := by decide +kernel
theorem dX11_reigns_50 : decode cX11_reigns 50 = .ok (.aload_n 0, 1) := by decide +kernel
theorem dX11_reigns_51 : decode cX11_reigns 51 = .ok (.getfield 54, 3) := by decide +kernel
theorem dX11_reigns_54 : decode cX11_reigns 54 = .ok (.invokevirtual 143, 3) := by decide +kernel
theorem dX11_reigns_57 : decode cX11_reigns 57 = .ok (.aload_n 0, 1) := by decide +kernel
theorem dX11_reigns_58 : decode cX11_reigns 58 = .ok (.getfield 54, 3) := by decide +kernel
theorem dX11_reigns_61 : decode cX11_reigns 61 = .ok (.iload_n 1, 1) := by decide +kernel
theorem dX11_reigns_62 : decode cX11_reigns 62 = .ok (.iconst 2, 1) := by decide +kernel
theorem dX11_reigns_63 : decode cX11_reigns 63 = .ok (.imul, 1) := by decide +kernel
theorem dX11_reigns_64 : decode cX11_reigns 64 = .ok (.sipush 149, 3) := by decide +kernel
theorem dX11_reigns_67 : decode cX11_reigns 67 = .ok (.iadd, 1) := by decide +kernel
theorem dX11_reigns_68 : decode cX11_reigns 68 = .ok (.invokevirtual 222, 3) := by decide +kernel
theorem dX11_reigns_71 : decode cX11_reigns 71 = .ok (.iconst 0, 1) := by decide +kernel
theorem dX11_reigns_72 : decode cX11_reigns 72 = .ok (.istore_n 3, 1) := by decide +kernel
theorem dX11_reigns_73 : decode cX11_reigns 73 = .ok (.iload_n 3, 1) := by decide +kernel
theorem dX11_reigns_74 : decode cX11_reigns 74 = .ok (.iload_n 2, 1) := by decide +kernel
theorem dX11_reigns_75 : decode cX11_reigns 75 = .ok (.if_icmp .ge 13, 3) := by decide +kernel
theorem dX11_reigns_78 : decode cX11_reigns 78 = .ok (.aload_n 0, 1) := by decide +kernel
theorem dX11_reigns_79 : decode cX11_reigns 79 = .ok (.invokevirtual 225, 3) := by decide +kernel
theorem dX11_reigns_82 : decode cX11_reigns 82 = .ok (.iinc 3 1, 3) := by decide +kernel
theorem dX11_reigns_85 : decode cX11_reigns 85 = .ok (.goto (-12), 3) := by decide +kernel
theorem dX11_reigns_88 : decode cX11_reigns 88 = .ok (.aload_n 0, 1) := by decide +kernel
theorem dX11_reigns_89 : decode cX11_reigns 89 = .ok (.getfield 69, 3) := by decide +kernel
theorem dX11_reigns_92 : decode cX11_reigns 92 = .ok (.invokevirtual 153, 3) := by decide +kernel
theorem dX11_reigns_95 : decode cX11_reigns 95 = .ok (.aload_n 0, 1) := by decide +kernel
theorem dX11_reigns_96 : decode cX11_reigns 96 = .ok (.getfield 54, 3) := by decide +kernel
theorem dX11_reigns_99 : decode cX11_reigns 99 = .ok (.invokevirtual 168, 3) := by decide +kernel
theorem dX11_reigns_102 : decode cX11_reigns 102 = .ok (.ireturn, 1) := by decide +kernel
def f_X11_reigns_73 (N : Nat) : Nat → Int32 → (Nat → Int32) → (Nat → Int32) → (Nat → Int32) → (Nat → Int32) → Int32 → Int32 → (Nat → Int32) → Int32 → Int32 → (Nat → Int32) → (Nat → Int32) → (Nat → Int32) → (Nat → Int32) → (Nat → Int32) → (Nat → Int32) → (Nat → Int32) → (Nat → Int32) → (Nat → Int32) → (Nat → Int32) → (Nat → Int32) → (Nat → Int32) → (Nat → Int32) → (Nat → Int32) → Int32 → Int32 → Option (Int32 × (Nat → Int32) × Int32 × Int32 × (Nat → Int32) × (Nat → Int32) × (Nat → Int32))
  | 0, _, _, _, _, _, _, _, _, _, _, _, _, _, _, _, _, _, _, _, _, _, _, _, _, _, _ => none
  | n + 1, d_n, d_for, d_road, f_row, f_fears, z_cnt, z_next, z_store, r_tx, r_rul, t_code, t_st, t_en, u_code, u_st, u_en, w_code, w_st, w_en, x_code, x_st, x_en, l_names, l_stack, x2, x3 => if x2 ≤ x3 then (ob2 (f_X7_keep N z_cnt z_next) fun z_cnt_92 z_next_92 => ob1 (f_X1_monthNow N f_row) fun r99 => some (r99, f_row, z_cnt_92, z_next_92, z_store, l_names, l_stack)) else (ob3 (f_X11_reignOnce N d_n d_for d_road f_row f_fears r_tx r_rul t_code t_st t_en u_code u_st u_en w_code w_st w_en x_code x_st x_en l_names l_stack) fun f_row_79 l_names_79 l_stack_79 => (f_X11_reigns_73 N n) d_n d_for d_road f_row_79 f_fears z_cnt z_next z_store r_tx r_rul t_code t_st t_en u_code u_st u_en w_code w_st w_en x_code x_st x_en l_names_79 l_stack_79 x2 (x3 + (1 : Int32)))
def f_X11_reigns (N : Nat) (d_n : Int32) (d_for : Nat → Int32) (d_road : Nat → Int32) (f_row : Nat → Int32) (f_fears : Nat → Int32) (z_cnt : Int32) (z_next : Int32) (z_store : Nat → Int32) (r_tx : Int32) (r_rul : Int32) (t_code : Nat → Int32) (t_st : Nat → Int32) (t_en : Nat → Int32) (u_code : Nat → Int32) (u_st : Nat → Int32) (u_en : Nat → Int32) (w_code : Nat → Int32) (w_st : Nat → Int32) (w_en : Nat → Int32) (x_code : Nat → Int32) (x_st : Nat → Int32) (x_en : Nat → Int32) (l_names : Nat → Int32) (l_stack : Nat → Int32) (p1 : Int32) (p2 : Int32) : Option (Int32 × (Nat → Int32) × Int32 × Int32 × (Nat → Int32) × (Nat → Int32) × (Nat → Int32)) := if p1 < 0 then (some ((-1 : Int32), f_row, z_cnt, z_next, z_store, l_names, l_stack)) else (if (9999 : Int32) < p1 then (some ((-1 : Int32), f_row, z_cnt, z_next, z_store, l_names, l_stack)) else (if p2 < (1 : Int32) then (some ((-1 : Int32), f_row, z_cnt, z_next, z_store, l_names, l_stack)) else (if p2 ≤ (40 : Int32) then (ob1 (f_X1_count N f_row) fun r28 => if r28 = 0 then (some ((-1 : Int32), f_row, z_cnt, z_next, z_store, l_names, l_stack)) else (if d_n = 0 then (some ((-1 : Int32), f_row, z_cnt, z_next, z_store, l_names, l_stack)) else (ob1 (f_X7_ahead N z_next z_store f_row) fun z_store_54 => ob1 (f_X1_setX N f_row ((p1 * (2 : Int32)) + (149 : Int32))) fun f_row_68 => f_X11_reigns_73 N N d_n d_for d_road f_row_68 f_fears z_cnt z_next z_store_54 r_tx r_rul t_code t_st t_en u_code u_st u_en w_code w_st w_en x_code x_st x_en l_names l_stack p2 (0 : Int32)))) else (some ((-1 : Int32), f_row, z_cnt, z_next, z_store, l_names, l_stack)))))
set_option maxHeartbeats 4000000 in
set_option maxRecDepth 100000 in
theorem k_X11_reigns (l : Launch) (N : Nat) (D : va_G) (cI cJ cZ cB cT : ClassId) (qd0 : Nat) (qd1 : Nat) (qd2 : Nat) (qf0 : Nat) (qf1 : Nat) (qf2 : Nat) (qz0 : Nat) (qz1 : Nat) (qr0 : Nat) (qt0 : Nat) (qt1 : Nat) (qt2 : Nat) (qt3 : Nat) (qu0 : Nat) (qu1 : Nat) (qu2 : Nat) (qu3 : Nat) (qw0 : Nat) (qw1 : Nat) (qw2 : Nat) (qw3 : Nat) (qx0 : Nat) (qx1 : Nat) (qx2 : Nat) (qx3 : Nat) (qT : Nat) (qL1 : Nat) (qL2 : Nat) (qL0 : Nat) (qD0 : Nat) (qX0 : Nat) (qf3 : Nat) (qn0 : Nat) (qt4 : Nat) (qu4 : Nat) (qw4 : Nat) (qx4 : Nat) (qk0 : Nat) (qb0 : Nat) (qe0 : Nat) (qh0 : Nat) (qD1 : Nat) (qv0 : Nat) (d_n : Int32) (d_for : Nat → Int32) (d_road : Nat → Int32) (f_row : Nat → Int32) (f_fears : Nat → Int32) (z_cnt : Int32) (z_next : Int32) (z_store : Nat → Int32) (r_tx : Int32) (r_rul : Int32) (t_cl : Int32) (t_ln : Int32) (t_pt : Int32) (t_code : Nat → Int32) (t_st : Nat → Int32) (t_en : Nat → Int32) (u_cl : Int32) (u_ln : Int32) (u_pt : Int32) (u_code : Nat → Int32) (u_st : Nat → Int32) (u_en : Nat → Int32) (w_cl : Int32) (w_ln : Int32) (w_pt : Int32) (w_code : Nat → Int32) (w_st : Nat → Int32) (w_en : Nat → Int32) (x_cl : Int32) (x_ln : Int32) (x_pt : Int32) (x_code : Nat → Int32) (x_st : Nat → Int32) (x_en : Nat → Int32) (l_names : Nat → Int32) (l_stack : Nat → Int32) (p1 : Int32) (p2 : Int32) (o_r : Int32) (o_f_row : Nat → Int32) (o_z_cnt : Int32) (o_z_next : Int32) (o_z_store : Nat → Int32) (o_l_names : Nat → Int32) (o_l_stack : Nat → Int32) (hf : f_X11_reigns N d_n d_for d_road f_row f_fears z_cnt z_next z_store r_tx r_rul t_code t_st t_en u_code u_st u_en w_code w_st w_en x_code x_st x_en l_names l_stack p1 p2 = some (o_r, o_f_row, o_z_cnt, o_z_next, o_z_store, o_l_names, o_l_stack)) : ∀ sz, Met l yX11_reigns (mw yX11_reigns cX11_reigns 4 (some .int)) ({ frames := 6, cells := 0, slots := 0, locals := 172 } : Room) (mPreE D (mT cI cJ cZ cB cT) (W_X_0t5_7t8_16_34t37_39t42_44t47_49t52_54_61t64_76 qd0 qd1 qd2 qf0 qf1 qf2 qz0 qz1 qr0 qt0 qt1 qt2 qt3 qu0 qu1 qu2 qu3 qw0 qw1 qw2 qw3 qx0 qx1 qx2 qx3 qT qL1 qL2 qL0 qD0 qX0 qf3 qn0 qt4 qu4 qw4 qx4 qk0 qb0 qe0 qh0 qD1 qv0 cI cJ cZ cB cT d_n d_for d_road f_row f_fears z_cnt z_next z_store r_tx r_rul t_cl t_ln t_pt t_code t_st t_en u_cl u_ln u_pt u_code u_st u_en w_cl w_ln w_pt w_code w_st w_en x_cl x_ln x_pt x_code x_st x_en l_names l_stack) sz [.ref qX0, .int p1, .int p2]) ((mQi D (W_X_0t5_7t8_16_34t37_39t42_44t47_49t52_54_61t64_76 qd0 qd1 qd2 qf0 qf1 qf2 qz0 qz1 qr0 qt0 qt1 qt2 qt3 qu0 qu1 qu2 qu3 qw0 qw1 qw2 qw3 qx0 qx1 qx2 qx3 qT qL1 qL2 qL0 qD0 qX0 qf3 qn0 qt4 qu4 qw4 qx4 qk0 qb0 qe0 qh0 qD1 qv0 cI cJ cZ cB cT d_n d_for d_road o_f_row f_fears o_z_cnt o_z_next o_z_store r_tx r_rul t_cl t_ln t_pt t_code t_st t_en u_cl u_ln u_pt u_code u_st u_en w_cl w_ln w_pt w_code w_st w_en x_cl x_ln x_pt x_code x_st x_en o_l_names o_l_stack) o_r True) (va_A (W_X_0t5_7t8_16_34t37_39t42_44t47_49t52_54_61t64_76 qd0 qd1 qd2 qf0 qf1 qf2 qz0 qz1 qr0 qt0 qt1 qt2 qt3 qu0 qu1 qu2 qu3 qw0 qw1 qw2 qw3 qx0 qx1 qx2 qx3 qT qL1 qL2 qL0 qD0 qX0 qf3 qn0 qt4 qu4 qw4 qx4 qk0 qb0 qe0 qh0 qD1 qv0 cI cJ cZ cB cT d_n d_for d_road f_row f_fears z_cnt z_next z_store r_tx r_rul t_cl t_ln t_pt t_code t_st t_en u_cl u_ln u_pt u_code u_st u_en w_cl w_ln w_pt w_code w_st w_en x_cl x_ln x_pt x_code x_st x_en l_names l_stack) sz)) 0 0 (va_A (W_X_0t5_7t8_16_34t37_39t42_44t47_49t52_54_61t64_76 qd0 qd1 qd2 qf0 qf1 qf2 qz0 qz1 qr0 qt0 qt1 qt2 qt3 qu0 qu1 qu2 qu3 qw0 qw1 qw2 qw3 qx0 qx1 qx2 qx3 qT qL1 qL2 qL0 qD0 qX0 qf3 qn0 qt4 qu4 qw4 qx4 qk0 qb0 qe0 qh0 qD1 qv0 cI cJ cZ cB cT d_n d_for d_road f_row f_fears z_cnt z_next z_store r_tx r_rul t_cl t_ln t_pt t_code t_st t_en u_cl u_ln u_pt u_code u_st u_en w_cl w_ln w_pt w_code w_st w_en x_cl x_ln x_pt x_code x_st x_en l_names l_stack) sz) := by
  refine mMetE (Qc := (mQi D (W_X_0t5_7t8_16_34t37_39t42_44t47_49t52_54_61t64_76 qd0 qd1 qd2 qf0 qf1 qf2 qz0 qz1 qr0 qt0 qt1 qt2 qt3 qu0 qu1 qu2 qu3 qw0 qw1 qw2 qw3 qx0 qx1 qx2 qx3 qT qL1 qL2 qL0 qD0 qX0 qf3 qn0 qt4 qu4 qw4 qx4 qk0 qb0 qe0 qh0 qD1 qv0 cI cJ cZ cB cT d_n d_for d_road o_f_row f_fears o_z_cnt o_z_next o_z_store r_tx r_rul t_cl t_ln t_pt t_code t_st t_en u_cl u_ln u_pt u_code u_st u_en w_cl w_ln w_pt w_code w_st w_en x_cl x_ln x_pt x_code x_st x_en o_l_names o_l_stack) o_r True)) (by decide) (Nat.le_of_ble_eq_true rfl) (fun p e s m below meth c A ls hx hb hr hml hts hown hlocks hK hA hP hD hl hE => ?_)
  have hown : s.vm.findClass RX11 = some m.cls := hown
  have hl : lv_has ls 4 [(0, .ref qX0), (1, .int p1), (2, .int p2)] := hl
  have hS : va_S A s.heap s.heap [] := va_S.rf
  obtain ⟨⟨tM, hZM, hTM⟩, ⟨tL, hZL, hTL⟩, ⟨hNX4, hNX10⟩, tS, tV, hRS, hZC, hZF, hKS⟩ := id hE
  have b73 : ∀ n73 : Nat, ∀ (f_row : Nat → Int32) (z_cnt : Int32) (z_next : Int32) (z_store : Nat → Int32) (l_names : Nat → Int32) (l_stack : Nat → Int32) (x2 : Int32) (x3 : Int32) (H : Heap) (locs : List Loc) (ls : Array Slot), f_X11_reigns_73 N n73 d_n d_for d_road f_row f_fears z_cnt z_next z_store r_tx r_rul t_code t_st t_en u_code u_st u_en w_code w_st w_en x_code x_st x_en l_names l_stack x2 x3 = some (o_r, o_f_row, o_z_cnt, o_z_next, o_z_store, o_l_names, o_l_stack) → va_P D vwCl (W_X_0t5_7t8_16_34t37_39t42_44t47_49t52_54_61t64_76 qd0 qd1 qd2 qf0 qf1 qf2 qz0 qz1 qr0 qt0 qt1 qt2 qt3 qu0 qu1 qu2 qu3 qw0 qw1 qw2 qw3 qx0 qx1 qx2 qx3 qT qL1 qL2 qL0 qD0 qX0 qf3 qn0 qt4 qu4 qw4 qx4 qk0 qb0 qe0 qh0 qD1 qv0 cI cJ cZ cB cT d_n d_for d_road f_row f_fears z_cnt z_next z_store r_tx r_rul t_cl t_ln t_pt t_code t_st t_en u_cl u_ln u_pt u_code u_st u_en w_cl w_ln w_pt w_code w_st w_en x_cl x_ln x_pt x_code x_st x_en l_names l_stack) H → va_D A (W_X_0t5_7t8_16_34t37_39t42_44t47_49t52_54_61t64_76 qd0 qd1 qd2 qf0 qf1 qf2 qz0 qz1 qr0 qt0 qt1 qt2 qt3 qu0 qu1 qu2 qu3 qw0 qw1 qw2 qw3 qx0 qx1 qx2 qx3 qT qL1 qL2 qL0 qD0 qX0 qf3 qn0 qt4 qu4 qw4 qx4 qk0 qb0 qe0 qh0 qD1 qv0 cI cJ cZ cB cT d_n d_for d_road f_row f_fears z_cnt z_next z_store r_tx r_rul t_cl t_ln t_pt t_code t_st t_en u_cl u_ln u_pt u_code u_st u_en w_cl w_ln w_pt w_code w_st w_en x_cl x_ln x_pt x_code x_st x_en l_names l_stack) → va_S A s.heap H locs → lv_has ls 4 [(0, .ref qX0), (2, .int x2), (3, .int x3)] → W p l e ({ frames := 6, cells := 0, slots := 0, locals := 172 } : Room) s m ([.ref qX0, .int p1, .int p2] : List Value).toArray below meth c H locs 0 0 (MQ below ((mQi D (W_X_0t5_7t8_16_34t37_39t42_44t47_49t52_54_61t64_76 qd0 qd1 qd2 qf0 qf1 qf2 qz0 qz1 qr0 qt0 qt1 qt2 qt3 qu0 qu1 qu2 qu3 qw0 qw1 qw2 qw3 qx0 qx1 qx2 qx3 qT qL1 qL2 qL0 qD0 qX0 qf3 qn0 qt4 qu4 qw4 qx4 qk0 qb0 qe0 qh0 qD1 qv0 cI cJ cZ cB cT d_n d_for d_road o_f_row f_fears o_z_cnt o_z_next o_z_store r_tx r_rul t_cl t_ln t_pt t_code t_st t_en u_cl u_ln u_pt u_code u_st u_en w_cl w_ln w_pt w_code w_st w_en x_cl x_ln x_pt x_code x_st x_en o_l_names o_l_stack) o_r True) A) ([.ref qX0, .int p1, .int p2] : List Value).toArray s 0 0 A) (F0 m 73 ls []) := by
    intro n73
    induction n73 with
    | zero =>
      intro f_row z_cnt z_next z_store l_names l_stack x2 x3 H locs ls hf hP hD hS hl
      simp [f_X11_reigns_73] at hf
    | succ n73 ih73 =>
      intro f_row z_cnt z_next z_store l_names l_stack x2 x3 H locs ls hf hP hD hS hl
      rw [f_X11_reigns_73.eq_2] at hf
      refine lv_iload_n hx hb dX11_reigns_73 rfl (lv_at hl 2 rfl) ?_
      refine lv_iload_n hx hb dX11_reigns_74 rfl (lv_at hl 1 rfl) ?_
      refine xicmp_ge hx hb 88 dX11_reigns_75 (by decide) hf (fun hf => ?_) (fun hf => ?_)
      · refine lv_aload_n hx hb dX11_reigns_88 rfl (lv_at hl 0 rfl) ?_
        refine gfX11_69 hx hb hts hown hK hP 30 rfl rfl dX11_reigns_89 ?_
        obtain ⟨z_cnt_92, z_next_92, hg92, hf⟩ := ob2_some hf
        refine mcV_v (wr := [(qd0, .inr (2, [.int d_n, .ref qd1, .ref qd2])), (qd1, .inl (cI, 8, .inl d_for)), (qd2, .inl (cI, 8, .inl d_road)), (qf0, .inr (1, [.ref qf1, .ref qf2, .ref qf3])), (qf1, .inl (cI, 76, .inl f_row)), (qf2, .inl (cI, 6, .inl f_fears)), (qz1, .inl (cI, 2356, .inl z_store)), (qr0, .inr (6, [.ref qd0, .ref qf0, .ref qz0, .ref qn0, .int r_tx, .int r_rul])), (qt0, .inr (9, [.int t_cl, .int t_ln, .int t_pt, .ref qt1, .ref qt2, .ref qt3, .ref qt4])), (qt1, .inl (cI, 301, .inl t_code)), (qt2, .inl (cI, 4, .inl t_st)), (qt3, .inl (cI, 4, .inl t_en)), (qu0, .inr (9, [.int u_cl, .int u_ln, .int u_pt, .ref qu1, .ref qu2, .ref qu3, .ref qu4])), (qu1, .inl (cI, 301, .inl u_code)), (qu2, .inl (cI, 4, .inl u_st)), (qu3, .inl (cI, 4, .inl u_en)), (qw0, .inr (9, [.int w_cl, .int w_ln, .int w_pt, .ref qw1, .ref qw2, .ref qw3, .ref qw4])), (qw1, .inl (cI, 301, .inl w_code)), (qw2, .inl (cI, 4, .inl w_st)), (qw3, .inl (cI, 4, .inl w_en)), (qx0, .inr (9, [.int x_cl, .int x_ln, .int x_pt, .ref qx1, .ref qx2, .ref qx3, .ref qx4])), (qx1, .inl (cI, 301, .inl x_code)), (qx2, .inl (cI, 4, .inl x_st)), (qx3, .inl (cI, 4, .inl x_en)), (qT, .inl (cT, 4, .inr (.inr (.inr (.inr (fT qt0 qu0 qw0 qx0)))))), (qL1, .inl (cI, 10, .inl l_names)), (qL2, .inl (cI, 64, .inl l_stack)), (qL0, .inr (3, [.ref qr0, .ref qT, .ref qL1, .ref qL2])), (qD0, .inr (0, [.ref qr0, .ref qf0, .ref qL0])), (qX0, .inr (11, [.ref qr0, .ref qk0, .ref qT, .ref qb0, .ref qe0, .ref qL0, .ref qf0, .ref qd0, .ref qn0, .ref qz0, .ref qD0, .ref qh0, .ref qD1, .ref qv0]))]) (As := []) (rest := []) hx hb hml hown hts hK hP hD hS hA (k_X7_keep l N D cI cJ cZ cB cT qz0 qz1 z_cnt z_next z_cnt_92 z_next_92 hg92) (kwX11_153 hts rfl rfl ⟨Nat.le_of_ble_eq_true rfl, Nat.le_of_ble_eq_true rfl⟩) [6] [0, 1, 2, 3, 4, 5, 7, 8, 9, 10, 11, 12, 13, 14, 15, 16, 17, 18, 19, 20, 21, 22, 23, 24, 25, 26, 27, 28, 29, 30] rfl rfl rfl (by decide) rfl 0 rfl rfl rfl rfl hl.1 rfl (Nat.le_of_ble_eq_true rfl) dX11_reigns_92 ⟨Nat.zero_le _, Nat.zero_le _⟩ (fun H locs hP hD hS => ?_)
        have hP := mP_sub (wc := (W_X_0t5_7t8_16_34t37_39t42_44t47_49t52_54_61t64_76 qd0 qd1 qd2 qf0 qf1 qf2 qz0 qz1 qr0 qt0 qt1 qt2 qt3 qu0 qu1 qu2 qu3 qw0 qw1 qw2 qw3 qx0 qx1 qx2 qx3 qT qL1 qL2 qL0 qD0 qX0 qf3 qn0 qt4 qu4 qw4 qx4 qk0 qb0 qe0 qh0 qD1 qv0 cI cJ cZ cB cT d_n d_for d_road f_row f_fears z_cnt_92 z_next_92 z_store r_tx r_rul t_cl t_ln t_pt t_code t_st t_en u_cl u_ln u_pt u_code u_st u_en w_cl w_ln w_pt w_code w_st w_en x_cl x_ln x_pt x_code x_st x_en l_names l_stack)) hP [0, 1, 2, 3, 4, 5, 30, 6, 7, 8, 9, 10, 11, 12, 13, 14, 15, 16, 17, 18, 19, 20, 21, 22, 23, 24, 25, 26, 27, 28, 29] rfl
        have hD := hD.sub (ws' := (W_X_0t5_7t8_16_34t37_39t42_44t47_49t52_54_61t64_76 qd0 qd1 qd2 qf0 qf1 qf2 qz0 qz1 qr0 qt0 qt1 qt2 qt3 qu0 qu1 qu2 qu3 qw0 qw1 qw2 qw3 qx0 qx1 qx2 qx3 qT qL1 qL2 qL0 qD0 qX0 qf3 qn0 qt4 qu4 qw4 qx4 qk0 qb0 qe0 qh0 qD1 qv0 cI cJ cZ cB cT d_n d_for d_road f_row f_fears z_cnt_92 z_next_92 z_store r_tx r_rul t_cl t_ln t_pt t_code t_st t_en u_cl u_ln u_pt u_code u_st u_en w_cl w_ln w_pt w_code w_st w_en x_cl x_ln x_pt x_code x_st x_en l_names l_stack)) [0, 1, 2, 3, 4, 5, 30, 6, 7, 8, 9, 10, 11, 12, 13, 14, 15, 16, 17, 18, 19, 20, 21, 22, 23, 24, 25, 26, 27, 28, 29] rfl rfl
        refine lv_aload_n hx hb dX11_reigns_95 rfl (lv_at hl 0 rfl) ?_
        refine gfX11_54 hx hb hts hown hK hP 30 rfl rfl dX11_reigns_96 ?_
        obtain ⟨r99, hg99, hf⟩ := ob1_some hf
        refine mcV_i (wr := [(qd0, .inr (2, [.int d_n, .ref qd1, .ref qd2])), (qd1, .inl (cI, 8, .inl d_for)), (qd2, .inl (cI, 8, .inl d_road)), (qf2, .inl (cI, 6, .inl f_fears)), (qz0, .inr (7, [.int z_cnt_92, .int z_next_92, .ref qz1])), (qz1, .inl (cI, 2356, .inl z_store)), (qr0, .inr (6, [.ref qd0, .ref qf0, .ref qz0, .ref qn0, .int r_tx, .int r_rul])), (qt0, .inr (9, [.int t_cl, .int t_ln, .int t_pt, .ref qt1, .ref qt2, .ref qt3, .ref qt4])), (qt1, .inl (cI, 301, .inl t_code)), (qt2, .inl (cI, 4, .inl t_st)), (qt3, .inl (cI, 4, .inl t_en)), (qu0, .inr (9, [.int u_cl, .int u_ln, .int u_pt, .ref qu1, .ref qu2, .ref qu3, .ref qu4])), (qu1, .inl (cI, 301, .inl u_code)), (qu2, .inl (cI, 4, .inl u_st)), (qu3, .inl (cI, 4, .inl u_en)), (qw0, .inr (9, [.int w_cl, .int w_ln, .int w_pt, .ref qw1, .ref qw2, .ref qw3, .ref qw4])), (qw1, .inl (cI, 301, .inl w_code)), (qw2, .inl (cI, 4, .inl w_st)), (qw3, .inl (cI, 4, .inl w_en)), (qx0, .inr (9, [.int x_cl, .int x_ln, .int x_pt, .ref qx1, .ref qx2, .ref qx3, .ref qx4])), (qx1, .inl (cI, 301, .inl x_code)), (qx2, .inl (cI, 4, .inl x_st)), (qx3, .inl (cI, 4, .inl x_en)), (qT, .inl (cT, 4, .inr (.inr (.inr (.inr (fT qt0 qu0 qw0 qx0)))))), (qL1, .inl (cI, 10, .inl l_names)), (qL2, .inl (cI, 64, .inl l_stack)), (qL0, .inr (3, [.ref qr0, .ref qT, .ref qL1, .ref qL2])), (qD0, .inr (0, [.ref qr0, .ref qf0, .ref qL0])), (qX0, .inr (11, [.ref qr0, .ref qk0, .ref qT, .ref qb0, .ref qe0, .ref qL0, .ref qf0, .ref qd0, .ref qn0, .ref qz0, .ref qD0, .ref qh0, .ref qD1, .ref qv0]))]) (As := []) (rest := []) hx hb hml hown hts hK hP hD hS hA (k_X1_monthNow l N D cI cJ cZ cB cT qf0 qf1 qf2 qf3 f_row r99 hg99) (kwX11_168 hts rfl rfl ⟨Nat.le_of_ble_eq_true rfl, Nat.le_of_ble_eq_true rfl⟩) [3, 4] [0, 1, 2, 5, 6, 7, 8, 9, 10, 11, 12, 13, 14, 15, 16, 17, 18, 19, 20, 21, 22, 23, 24, 25, 26, 27, 28, 29, 30] rfl rfl rfl (by decide) rfl 0 rfl rfl rfl rfl hl.1 rfl (Nat.le_of_ble_eq_true rfl) dX11_reigns_99 ⟨Nat.zero_le _, Nat.zero_le _⟩ (fun hB99 H locs hP hD hS => ?_)
        have hP := mP_sub (wc := (W_X_0t5_7t8_16_34t37_39t42_44t47_49t52_54_61t64_76 qd0 qd1 qd2 qf0 qf1 qf2 qz0 qz1 qr0 qt0 qt1 qt2 qt3 qu0 qu1 qu2 qu3 qw0 qw1 qw2 qw3 qx0 qx1 qx2 qx3 qT qL1 qL2 qL0 qD0 qX0 qf3 qn0 qt4 qu4 qw4 qx4 qk0 qb0 qe0 qh0 qD1 qv0 cI cJ cZ cB cT d_n d_for d_road f_row f_fears z_cnt_92 z_next_92 z_store r_tx r_rul t_cl t_ln t_pt t_code t_st t_en u_cl u_ln u_pt u_code u_st u_en w_cl w_ln w_pt w_code w_st w_en x_cl x_ln x_pt x_code x_st x_en l_names l_stack)) hP [0, 1, 2, 29, 30, 3, 4, 5, 6, 7, 8, 9, 10, 11, 12, 13, 14, 15, 16, 17, 18, 19, 20, 21, 22, 23, 24, 25, 26, 27, 28] rfl
        have hD := hD.sub (ws' := (W_X_0t5_7t8_16_34t37_39t42_44t47_49t52_54_61t64_76 qd0 qd1 qd2 qf0 qf1 qf2 qz0 qz1 qr0 qt0 qt1 qt2 qt3 qu0 qu1 qu2 qu3 qw0 qw1 qw2 qw3 qx0 qx1 qx2 qx3 qT qL1 qL2 qL0 qD0 qX0 qf3 qn0 qt4 qu4 qw4 qx4 qk0 qb0 qe0 qh0 qD1 qv0 cI cJ cZ cB cT d_n d_for d_road f_row f_fears z_cnt_92 z_next_92 z_store r_tx r_rul t_cl t_ln t_pt t_code t_st t_en u_cl u_ln u_pt u_code u_st u_en w_cl w_ln w_pt w_code w_st w_en x_cl x_ln x_pt x_code x_st x_en l_names l_stack)) [0, 1, 2, 29, 30, 3, 4, 5, 6, 7, 8, 9, 10, 11, 12, 13, 14, 15, 16, 17, 18, 19, 20, 21, 22, 23, 24, 25, 26, 27, 28] rfl rfl
        cases hf
        exact mret_i hx hb hr hlocks hP hD hS dX11_reigns_102 rfl trivial
      · refine lv_aload_n hx hb dX11_reigns_78 rfl (lv_at hl 0 rfl) ?_
        obtain ⟨f_row_79, l_names_79, l_stack_79, hg79, hf⟩ := ob3_some hf
        refine mcVE_v (wr := [(qz0, .inr (7, [.int z_cnt, .int z_next, .ref qz1])), (qz1, .inl (cI, 2356, .inl z_store))]) (As := []) (rest := []) hx hb hml hown hts hK hP hD hS hA hE (k_X11_reignOnce l N D cI cJ cZ cB cT qd0 qd1 qd2 qf0 qf1 qf2 qr0 qt0 qt1 qt2 qt3 qu0 qu1 qu2 qu3 qw0 qw1 qw2 qw3 qx0 qx1 qx2 qx3 qT qL1 qL2 qL0 qD0 qX0 qf3 qz0 qn0 qt4 qu4 qw4 qx4 qk0 qb0 qe0 qh0 qD1 qv0 d_n d_for d_road f_row f_fears r_tx r_rul t_cl t_ln t_pt t_code t_st t_en u_cl u_ln u_pt u_code u_st u_en w_cl w_ln w_pt w_code w_st w_en x_cl x_ln x_pt x_code x_st x_en l_names l_stack f_row_79 l_names_79 l_stack_79 hg79) (kwX11_225 hts rfl rfl ⟨Nat.le_of_ble_eq_true rfl, Nat.le_of_ble_eq_true rfl⟩) [0, 1, 2, 3, 4, 5, 8, 9, 10, 11, 12, 13, 14, 15, 16, 17, 18, 19, 20, 21, 22, 23, 24, 25, 26, 27, 28, 29, 30] [6, 7] rfl rfl rfl (by decide) rfl 28 rfl rfl rfl rfl hl.1 rfl (Nat.le_of_ble_eq_true rfl) dX11_reigns_79 ⟨Nat.zero_le _, Nat.zero_le _⟩ (fun H locs hP hD hS => ?_)
        have hP := mP_sub (wc := (W_X_0t5_7t8_16_34t37_39t42_44t47_49t52_54_61t64_76 qd0 qd1 qd2 qf0 qf1 qf2 qz0 qz1 qr0 qt0 qt1 qt2 qt3 qu0 qu1 qu2 qu3 qw0 qw1 qw2 qw3 qx0 qx1 qx2 qx3 qT qL1 qL2 qL0 qD0 qX0 qf3 qn0 qt4 qu4 qw4 qx4 qk0 qb0 qe0 qh0 qD1 qv0 cI cJ cZ cB cT d_n d_for d_road f_row_79 f_fears z_cnt z_next z_store r_tx r_rul t_cl t_ln t_pt t_code t_st t_en u_cl u_ln u_pt u_code u_st u_en w_cl w_ln w_pt w_code w_st w_en x_cl x_ln x_pt x_code x_st x_en l_names_79 l_stack_79)) hP [2, 3, 4, 5, 6, 7, 0, 1, 8, 9, 10, 11, 12, 13, 14, 15, 16, 17, 18, 19, 20, 21, 22, 23, 24, 25, 26, 27, 28, 29, 30] rfl
        have hD := hD.sub (ws' := (W_X_0t5_7t8_16_34t37_39t42_44t47_49t52_54_61t64_76 qd0 qd1 qd2 qf0 qf1 qf2 qz0 qz1 qr0 qt0 qt1 qt2 qt3 qu0 qu1 qu2 qu3 qw0 qw1 qw2 qw3 qx0 qx1 qx2 qx3 qT qL1 qL2 qL0 qD0 qX0 qf3 qn0 qt4 qu4 qw4 qx4 qk0 qb0 qe0 qh0 qD1 qv0 cI cJ cZ cB cT d_n d_for d_road f_row_79 f_fears z_cnt z_next z_store r_tx r_rul t_cl t_ln t_pt t_code t_st t_en u_cl u_ln u_pt u_code u_st u_en w_cl w_ln w_pt w_code w_st w_en x_cl x_ln x_pt x_code x_st x_en l_names_79 l_stack_79)) [2, 3, 4, 5, 6, 7, 0, 1, 8, 9, 10, 11, 12, 13, 14, 15, 16, 17, 18, 19, 20, 21, 22, 23, 24, 25, 26, 27, 28, 29, 30] rfl rfl
        refine lv_iinc (v := (x3 + (1 : Int32))) (lv' := [(3, .int (x3 + (1 : Int32))), (0, .ref qX0), (2, .int x2)]) hx hb dX11_reigns_82 hl (k := 2) rfl rfl (by decide) rfl (fun ls hl => ?_)
        refine lv_goto (tgt := 73) hx hb dX11_reigns_85 (by decide) ?_
        exact ih73 f_row_79 z_cnt z_next z_store l_names_79 l_stack_79 x2 (x3 + (1 : Int32)) _ _ _ hf hP hD hS (lv_sub hl [1, 2, 0] rfl)
  unfold f_X11_reigns at hf
  refine lv_iload_n hx hb dX11_reigns_0 rfl (lv_at hl 1 rfl) ?_
  refine xif_lt hx hb 22 dX11_reigns_1 (by decide) hf (fun hf => ?_) (fun hf => ?_)
  · refine lv_iconst (v := (-1 : Int32)) hx hb dX11_reigns_22 (by decide) ?_
    cases hf
    exact mret_i hx hb hr hlocks hP hD hS dX11_reigns_23 rfl trivial
  · refine lv_iload_n hx hb dX11_reigns_4 rfl (lv_at hl 1 rfl) ?_
    refine lv_sipush (v := (9999 : Int32)) hx hb dX11_reigns_5 (by decide) ?_
    refine xicmp_gt hx hb 22 dX11_reigns_8 (by decide) hf (fun hf => ?_) (fun hf => ?_)
    · refine lv_iconst (v := (-1 : Int32)) hx hb dX11_reigns_22 (by decide) ?_
      cases hf
      exact mret_i hx hb hr hlocks hP hD hS dX11_reigns_23 rfl trivial
    · refine lv_iload_n hx hb dX11_reigns_11 rfl (lv_at hl 2 rfl) ?_
      refine lv_iconst (v := (1 : Int32)) hx hb dX11_reigns_12 (by decide) ?_
      refine xicmp_lt hx hb 22 dX11_reigns_13 (by decide) hf (fun hf => ?_) (fun hf => ?_)
      · refine lv_iconst (v := (-1 : Int32)) hx hb dX11_reigns_22 (by decide) ?_
        cases hf
        exact mret_i hx hb hr hlocks hP hD hS dX11_reigns_23 rfl trivial
      · refine lv_iload_n hx hb dX11_reigns_16 rfl (lv_at hl 2 rfl) ?_
        refine lv_bipush (v := (40 : Int32)) hx hb dX11_reigns_17 (by decide) ?_
        refine xicmp_le hx hb 24 dX11_reigns_19 (by decide) hf (fun hf => ?_) (fun hf => ?_)
        · refine lv_aload_n hx hb dX11_reigns_24 rfl (lv_at hl 0 rfl) ?_
          refine gfX11_54 hx hb hts hown hK hP 30 rfl rfl dX11_reigns_25 ?_
          obtain ⟨r28, hg28, hf⟩ := ob1_some hf
          refine mcV_i (wr := [(qd0, .inr (2, [.int d_n, .ref qd1, .ref qd2])), (qd1, .inl (cI, 8, .inl d_for)), (qd2, .inl (cI, 8, .inl d_road)), (qf2, .inl (cI, 6, .inl f_fears)), (qz0, .inr (7, [.int z_cnt, .int z_next, .ref qz1])), (qz1, .inl (cI, 2356, .inl z_store)), (qr0, .inr (6, [.ref qd0, .ref qf0, .ref qz0, .ref qn0, .int r_tx, .int r_rul])), (qt0, .inr (9, [.int t_cl, .int t_ln, .int t_pt, .ref qt1, .ref qt2, .ref qt3, .ref qt4])), (qt1, .inl (cI, 301, .inl t_code)), (qt2, .inl (cI, 4, .inl t_st)), (qt3, .inl (cI, 4, .inl t_en)), (qu0, .inr (9, [.int u_cl, .int u_ln, .int u_pt, .ref qu1, .ref qu2, .ref qu3, .ref qu4])), (qu1, .inl (cI, 301, .inl u_code)), (qu2, .inl (cI, 4, .inl u_st)), (qu3, .inl (cI, 4, .inl u_en)), (qw0, .inr (9, [.int w_cl, .int w_ln, .int w_pt, .ref qw1, .ref qw2, .ref qw3, .ref qw4])), (qw1, .inl (cI, 301, .inl w_code)), (qw2, .inl (cI, 4, .inl w_st)), (qw3, .inl (cI, 4, .inl w_en)), (qx0, .inr (9, [.int x_cl, .int x_ln, .int x_pt, .ref qx1, .ref qx2, .ref qx3, .ref qx4])), (qx1, .inl (cI, 301, .inl x_code)), (qx2, .inl (cI, 4, .inl x_st)), (qx3, .inl (cI, 4, .inl x_en)), (qT, .inl (cT, 4, .inr (.inr (.inr (.inr (fT qt0 qu0 qw0 qx0)))))), (qL1, .inl (cI, 10, .inl l_names)), (qL2, .inl (cI, 64, .inl l_stack)), (qL0, .inr (3, [.ref qr0, .ref qT, .ref qL1, .ref qL2])), (qD0, .inr (0, [.ref qr0, .ref qf0, .ref qL0])), (qX0, .inr (11, [.ref qr0, .ref qk0, .ref qT, .ref qb0, .ref qe0, .ref qL0, .ref qf0, .ref qd0, .ref qn0, .ref qz0, .ref qD0, .ref qh0, .ref qD1, .ref qv0]))]) (As := []) (rest := []) hx hb hml hown hts hK hP hD hS hA (k_X1_count l N D cI cJ cZ cB cT qf0 qf1 qf2 qf3 f_row r28 hg28) (kwX11_217 hts rfl rfl ⟨Nat.le_of_ble_eq_true rfl, Nat.le_of_ble_eq_true rfl⟩) [3, 4] [0, 1, 2, 5, 6, 7, 8, 9, 10, 11, 12, 13, 14, 15, 16, 17, 18, 19, 20, 21, 22, 23, 24, 25, 26, 27, 28, 29, 30] rfl rfl rfl (by decide) rfl 0 rfl rfl rfl rfl hl.1 rfl (Nat.le_of_ble_eq_true rfl) dX11_reigns_28 ⟨Nat.zero_le _, Nat.zero_le _⟩ (fun hB28 H locs hP hD hS => ?_)
          have hP := mP_sub (wc := (W_X_0t5_7t8_16_34t37_39t42_44t47_49t52_54_61t64_76 qd0 qd1 qd2 qf0 qf1 qf2 qz0 qz1 qr0 qt0 qt1 qt2 qt3 qu0 qu1 qu2 qu3 qw0 qw1 qw2 qw3 qx0 qx1 qx2 qx3 qT qL1 qL2 qL0 qD0 qX0 qf3 qn0 qt4 qu4 qw4 qx4 qk0 qb0 qe0 qh0 qD1 qv0 cI cJ cZ cB cT d_n d_for d_road f_row f_fears z_cnt z_next z_store r_tx r_rul t_cl t_ln t_pt t_code t_st t_en u_cl u_ln u_pt u_code u_st u_en w_cl w_ln w_pt w_code w_st w_en x_cl x_ln x_pt x_code x_st x_en l_names l_stack)) hP [0, 1, 2, 29, 30, 3, 4, 5, 6, 7, 8, 9, 10, 11, 12, 13, 14, 15, 16, 17, 18, 19, 20, 21, 22, 23, 24, 25, 26, 27, 28] rfl
          have hD := hD.sub (ws' := (W_X_0t5_7t8_16_34t37_39t42_44t47_49t52_54_61t64_76 qd0 qd1 qd2 qf0 qf1 qf2 qz0 qz1 qr0 qt0 qt1 qt2 qt3 qu0 qu1 qu2 qu3 qw0 qw1 qw2 qw3 qx0 qx1 qx2 qx3 qT qL1 qL2 qL0 qD0 qX0 qf3 qn0 qt4 qu4 qw4 qx4 qk0 qb0 qe0 qh0 qD1 qv0 cI cJ cZ cB cT d_n d_for d_road f_row f_fears z_cnt z_next z_store r_tx r_rul t_cl t_ln t_pt t_code t_st t_en u_cl u_ln u_pt u_code u_st u_en w_cl w_ln w_pt w_code w_st w_en x_cl x_ln x_pt x_code x_st x_en l_names l_stack)) [0, 1, 2, 29, 30, 3, 4, 5, 6, 7, 8, 9, 10, 11, 12, 13, 14, 15, 16, 17, 18, 19, 20, 21, 22, 23, 24, 25, 26, 27, 28] rfl rfl
          refine xif_eq hx hb 44 dX11_reigns_31 (by decide) hf (fun hf => ?_) (fun hf => ?_)
          · refine lv_iconst (v := (-1 : Int32)) hx hb dX11_reigns_44 (by decide) ?_
            cases hf
            exact mret_i hx hb hr hlocks hP hD hS dX11_reigns_45 rfl trivial
          · refine lv_aload_n hx hb dX11_reigns_34 rfl (lv_at hl 0 rfl) ?_
            refine gfX11_59 hx hb hts hown hK hP 30 rfl rfl dX11_reigns_35 ?_
            refine gfX11_220 hx hb hts hown hK hP 0 rfl rfl dX11_reigns_38 ?_
            refine xif_ne hx hb 46 dX11_reigns_41 (by decide) hf (fun hf => ?_) (fun hf => ?_)
            · refine lv_iconst (v := (-1 : Int32)) hx hb dX11_reigns_44 (by decide) ?_
              cases hf
              exact mret_i hx hb hr hlocks hP hD hS dX11_reigns_45 rfl trivial
            · refine lv_aload_n hx hb dX11_reigns_46 rfl (lv_at hl 0 rfl) ?_
              refine gfX11_69 hx hb hts hown hK hP 30 rfl rfl dX11_reigns_47 ?_
              refine lv_aload_n hx hb dX11_reigns_50 rfl (lv_at hl 0 rfl) ?_
              refine gfX11_54 hx hb hts hown hK hP 30 rfl rfl dX11_reigns_51 ?_
              obtain ⟨z_store_54, hg54, hf⟩ := ob1_some hf
              refine mcV_v (wr := [(qd0, .inr (2, [.int d_n, .ref qd1, .ref qd2])), (qd1, .inl (cI, 8, .inl d_for)), (qd2, .inl (cI, 8, .inl d_road)), (qf2, .inl (cI, 6, .inl f_fears)), (qr0, .inr (6, [.ref qd0, .ref qf0, .ref qz0, .ref qn0, .int r_tx, .int r_rul])), (qt0, .inr (9, [.int t_cl, .int t_ln, .int t_pt, .ref qt1, .ref qt2, .ref qt3, .ref qt4])), (qt1, .inl (cI, 301, .inl t_code)), (qt2, .inl (cI, 4, .inl t_st)), (qt3, .inl (cI, 4, .inl t_en)), (qu0, .inr (9, [.int u_cl, .int u_ln, .int u_pt, .ref qu1, .ref qu2, .ref qu3, .ref qu4])), (qu1, .inl (cI, 301, .inl u_code)), (qu2, .inl (cI, 4, .inl u_st)), (qu3, .inl (cI, 4, .inl u_en)), (qw0, .inr (9, [.int w_cl, .int w_ln, .int w_pt, .ref qw1, .ref qw2, .ref qw3, .ref qw4])), (qw1, .inl (cI, 301, .inl w_code)), (qw2, .inl (cI, 4, .inl w_st)), (qw3, .inl (cI, 4, .inl w_en)), (qx0, .inr (9, [.int x_cl, .int x_ln, .int x_pt, .ref qx1, .ref qx2, .ref qx3, .ref qx4])), (qx1, .inl (cI, 301, .inl x_code)), (qx2, .inl (cI, 4, .inl x_st)), (qx3, .inl (cI, 4, .inl x_en)), (qT, .inl (cT, 4, .inr (.inr (.inr (.inr (fT qt0 qu0 qw0 qx0)))))), (qL1, .inl (cI, 10, .inl l_names)), (qL2, .inl (cI, 64, .inl l_stack)), (qL0, .inr (3, [.ref qr0, .ref qT, .ref qL1, .ref qL2])), (qD0, .inr (0, [.ref qr0, .ref qf0, .ref qL0])), (qX0, .inr (11, [.ref qr0, .ref qk0, .ref qT, .ref qb0, .ref qe0, .ref qL0, .ref qf0, .ref qd0, .ref qn0, .ref qz0, .ref qD0, .ref qh0, .ref qD1, .ref qv0]))]) (As := [.ref qf0]) (rest := []) hx hb hml hown hts hK hP hD hS hA (k_X7_ahead l N D cI cJ cZ cB cT qz0 qz1 qf0 qf1 qf2 qf3 z_cnt z_next z_store f_row z_store_54 hg54) (kwX11_143 hts rfl rfl ⟨Nat.le_of_ble_eq_true rfl, Nat.le_of_ble_eq_true rfl⟩) [6, 7, 3, 4] [0, 1, 2, 5, 8, 9, 10, 11, 12, 13, 14, 15, 16, 17, 18, 19, 20, 21, 22, 23, 24, 25, 26, 27, 28, 29, 30] rfl rfl rfl (by decide) rfl 0 rfl rfl rfl rfl hl.1 rfl (Nat.le_of_ble_eq_true rfl) dX11_reigns_54 ⟨Nat.zero_le _, Nat.zero_le _⟩ (fun H locs hP hD hS => ?_)
              have hP := mP_sub (wc := (W_X_0t5_7t8_16_34t37_39t42_44t47_49t52_54_61t64_76 qd0 qd1 qd2 qf0 qf1 qf2 qz0 qz1 qr0 qt0 qt1 qt2 qt3 qu0 qu1 qu2 qu3 qw0 qw1 qw2 qw3 qx0 qx1 qx2 qx3 qT qL1 qL2 qL0 qD0 qX0 qf3 qn0 qt4 qu4 qw4 qx4 qk0 qb0 qe0 qh0 qD1 qv0 cI cJ cZ cB cT d_n d_for d_road f_row f_fears z_cnt z_next z_store_54 r_tx r_rul t_cl t_ln t_pt t_code t_st t_en u_cl u_ln u_pt u_code u_st u_en w_cl w_ln w_pt w_code w_st w_en x_cl x_ln x_pt x_code x_st x_en l_names l_stack)) hP [0, 1, 2, 29, 30, 3, 27, 28, 4, 5, 6, 7, 8, 9, 10, 11, 12, 13, 14, 15, 16, 17, 18, 19, 20, 21, 22, 23, 24, 25, 26] rfl
              have hD := hD.sub (ws' := (W_X_0t5_7t8_16_34t37_39t42_44t47_49t52_54_61t64_76 qd0 qd1 qd2 qf0 qf1 qf2 qz0 qz1 qr0 qt0 qt1 qt2 qt3 qu0 qu1 qu2 qu3 qw0 qw1 qw2 qw3 qx0 qx1 qx2 qx3 qT qL1 qL2 qL0 qD0 qX0 qf3 qn0 qt4 qu4 qw4 qx4 qk0 qb0 qe0 qh0 qD1 qv0 cI cJ cZ cB cT d_n d_for d_road f_row f_fears z_cnt z_next z_store_54 r_tx r_rul t_cl t_ln t_pt t_code t_st t_en u_cl u_ln u_pt u_code u_st u_en w_cl w_ln w_pt w_code w_st w_en x_cl x_ln x_pt x_code x_st x_en l_names l_stack)) [0, 1, 2, 29, 30, 3, 27, 28, 4, 5, 6, 7, 8, 9, 10, 11, 12, 13, 14, 15, 16, 17, 18, 19, 20, 21, 22, 23, 24, 25, 26] rfl rfl
              refine lv_aload_n hx hb dX11_reigns_57 rfl (lv_at hl 0 rfl) ?_
              refine gfX11_54 hx hb hts hown hK hP 30 rfl rfl dX11_reigns_58 ?_
              refine lv_iload_n hx hb dX11_reigns_61 rfl (lv_at hl 1 rfl) ?_
              refine lv_iconst (v := (2 : Int32)) hx hb dX11_reigns_62 (by decide) ?_
              refine lv_imul hx hb dX11_reigns_63 ?_
              refine lv_sipush (v := (149 : Int32)) hx hb dX11_reigns_64 (by decide) ?_
              refine lv_iadd hx hb dX11_reigns_67 ?_
              obtain ⟨f_row_68, hg68, hf⟩ := ob1_some hf
              refine mcV_v (wr := [(qd0, .inr (2, [.int d_n, .ref qd1, .ref qd2])), (qd1, .inl (cI, 8, .inl d_for)), (qd2, .inl (cI, 8, .inl d_road)), (qf2, .inl (cI, 6, .inl f_fears)), (qz0, .inr (7, [.int z_cnt, .int z_next, .ref qz1])), (qz1, .inl (cI, 2356, .inl z_store_54)), (qr0, .inr (6, [.ref qd0, .ref qf0, .ref qz0, .ref qn0, .int r_tx, .int r_rul])), (qt0, .inr (9, [.int t_cl, .int t_ln, .int t_pt, .ref qt1, .ref qt2, .ref qt3, .ref qt4])), (qt1, .inl (cI, 301, .inl t_code)), (qt2, .inl (cI, 4, .inl t_st)), (qt3, .inl (cI, 4, .inl t_en)), (qu0, .inr (9, [.int u_cl, .int u_ln, .int u_pt, .ref qu1, .ref qu2, .ref qu3, .ref qu4])), (qu1, .inl (cI, 301, .inl u_code)), (qu2, .inl (cI, 4, .inl u_st)), (qu3, .inl (cI, 4, .inl u_en)), (qw0, .inr (9, [.int w_cl, .int w_ln, .int w_pt, .ref qw1, .ref qw2, .ref qw3, .ref qw4])), (qw1, .inl (cI, 301, .inl w_code)), (qw2, .inl (cI, 4, .inl w_st)), (qw3, .inl (cI, 4, .inl w_en)), (qx0, .inr (9, [.int x_cl, .int x_ln, .int x_pt, .ref qx1, .ref qx2, .ref qx3, .ref qx4])), (qx1, .inl (cI, 301, .inl x_code)), (qx2, .inl (cI, 4, .inl x_st)), (qx3, .inl (cI, 4, .inl x_en)), (qT, .inl (cT, 4, .inr (.inr (.inr (.inr (fT qt0 qu0 qw0 qx0)))))), (qL1, .inl (cI, 10, .inl l_names)), (qL2, .inl (cI, 64, .inl l_stack)), (qL0, .inr (3, [.ref qr0, .ref qT, .ref qL1, .ref qL2])), (qD0, .inr (0, [.ref qr0, .ref qf0, .ref qL0])), (qX0, .inr (11, [.ref qr0, .ref qk0, .ref qT, .ref qb0, .ref qe0, .ref qL0, .ref qf0, .ref qd0, .ref qn0, .ref qz0, .ref qD0, .ref qh0, .ref qD1, .ref qv0]))]) (As := [.int ((p1 * (2 : Int32)) + (149 : Int32))]) (rest := []) hx hb hml hown hts hK hP hD hS hA (k_X1_setX l N D cI cJ cZ cB cT qf0 qf1 qf2 qf3 f_row ((p1 * (2 : Int32)) + (149 : Int32)) f_row_68 hg68) (kwX11_222 hts rfl rfl ⟨Nat.le_of_ble_eq_true rfl, Nat.le_of_ble_eq_true rfl⟩) [3, 4] [0, 1, 2, 5, 6, 7, 8, 9, 10, 11, 12, 13, 14, 15, 16, 17, 18, 19, 20, 21, 22, 23, 24, 25, 26, 27, 28, 29, 30] rfl rfl rfl (by decide) rfl 0 rfl rfl rfl rfl hl.1 rfl (Nat.le_of_ble_eq_true rfl) dX11_reigns_68 ⟨Nat.zero_le _, Nat.zero_le _⟩ (fun H locs hP hD hS => ?_)
              have hP := mP_sub (wc := (W_X_0t5_7t8_16_34t37_39t42_44t47_49t52_54_61t64_76 qd0 qd1 qd2 qf0 qf1 qf2 qz0 qz1 qr0 qt0 qt1 qt2 qt3 qu0 qu1 qu2 qu3 qw0 qw1 qw2 qw3 qx0 qx1 qx2 qx3 qT qL1 qL2 qL0 qD0 qX0 qf3 qn0 qt4 qu4 qw4 qx4 qk0 qb0 qe0 qh0 qD1 qv0 cI cJ cZ cB cT d_n d_for d_road f_row_68 f_fears z_cnt z_next z_store_54 r_tx r_rul t_cl t_ln t_pt t_code t_st t_en u_cl u_ln u_pt u_code u_st u_en w_cl w_ln w_pt w_code w_st w_en x_cl x_ln x_pt x_code x_st x_en l_names l_stack)) hP [0, 1, 2, 29, 30, 3, 4, 5, 6, 7, 8, 9, 10, 11, 12, 13, 14, 15, 16, 17, 18, 19, 20, 21, 22, 23, 24, 25, 26, 27, 28] rfl
              have hD := hD.sub (ws' := (W_X_0t5_7t8_16_34t37_39t42_44t47_49t52_54_61t64_76 qd0 qd1 qd2 qf0 qf1 qf2 qz0 qz1 qr0 qt0 qt1 qt2 qt3 qu0 qu1 qu2 qu3 qw0 qw1 qw2 qw3 qx0 qx1 qx2 qx3 qT qL1 qL2 qL0 qD0 qX0 qf3 qn0 qt4 qu4 qw4 qx4 qk0 qb0 qe0 qh0 qD1 qv0 cI cJ cZ cB cT d_n d_for d_road f_row_68 f_fears z_cnt z_next z_store_54 r_tx r_rul t_cl t_ln t_pt t_code t_st t_en u_cl u_ln u_pt u_code u_st u_en w_cl w_ln w_pt w_code w_st w_en x_cl x_ln x_pt x_code x_st x_en l_names l_stack)) [0, 1, 2, 29, 30, 3, 4, 5, 6, 7, 8, 9, 10, 11, 12, 13, 14, 15, 16, 17, 18, 19, 20, 21, 22, 23, 24, 25, 26, 27, 28] rfl rfl
              refine lv_iconst (v := (0 : Int32)) hx hb dX11_reigns_71 (by decide) ?_
              refine lv_istore_n (lv' := [(3, .int (0 : Int32)), (0, .ref qX0), (1, .int p1), (2, .int p2)]) hx hb dX11_reigns_72 rfl hl (by decide) rfl (fun ls hl => ?_)
              exact b73 N f_row_68 z_cnt z_next z_store_54 l_names l_stack p2 (0 : Int32) _ _ _ hf hP hD hS (lv_sub hl [1, 3, 0] rfl)
        · refine lv_iconst (v := (-1 : Int32)) hx hb dX11_reigns_22 (by decide) ?_
          cases hf
          exact mret_i hx hb hr hlocks hP hD hS dX11_reigns_23 rfl trivial
theorem dX11_undo_0 : decode cX11_undo 0 = .ok (.aload_n 0, 1) := by decide +kernel
theorem dX11_undo_1 : decode cX11_undo 1 = .ok (.getfield 69, 3) := by decide +kernel
theorem dX11_undo_4 : decode cX11_undo 4 = .ok (.aload_n 0, 1) := by decide +kernel
theorem dX11_undo_5 : decode cX11_undo 5 = .ok (.getfield 54, 3) := by decide +kernel
theorem dX11_undo_8 : decode cX11_undo 8 = .ok (.invokevirtual 234, 3) := by decide +kernel
theorem dX11_undo_11 : decode cX11_undo 11 = .ok (.ireturn, 1) := by decide +kernel
def f_X11_undo (N : Nat) (f_row : Nat → Int32) (f_told : Nat → Int32) (z_cnt : Int32) (z_next : Int32) (z_store : Nat → Int32) : Option (Int32 × (Nat → Int32) × Int32 × Int32) := ob4 (f_X7_takeBack N z_cnt z_next z_store f_row f_told) fun r8 z_cnt_8 z_next_8 f_row_8 => some (r8, f_row_8, z_cnt_8, z_next_8)
set_option maxHeartbeats 4000000 in
set_option maxRecDepth 100000 in
theorem k_X11_undo (l : Launch) (N : Nat) (D : va_G) (cI cJ cZ cB cT : ClassId) (qf0 : Nat) (qf1 : Nat) (qf3 : Nat) (qz0 : Nat) (qz1 : Nat) (qX0 : Nat) (qf2 : Nat) (qr0 : Nat) (qk0 : Nat) (qT : Nat) (qb0 : Nat) (qe0 : Nat) (qL0 : Nat) (qd0 : Nat) (qn0 : Nat) (qD0 : Nat) (qh0 : Nat) (qD1 : Nat) (qv0 : Nat) (f_row : Nat → Int32) (f_told : Nat → Int32) (z_cnt : Int32) (z_next : Int32) (z_store : Nat → Int32) (o_r : Int32) (o_f_row : Nat → Int32) (o_z_cnt : Int32) (o_z_next : Int32) (hf : f_X11_undo N f_row f_told z_cnt z_next z_store = some (o_r, o_f_row, o_z_cnt, o_z_next)) : ∀ sz, Met l yX11_undo (mw yX11_undo cX11_undo 1 (some .int)) ({ frames := 5, cells := 0, slots := 0, locals := 111 } : Room) (mPre D (mT cI cJ cZ cB cT) (W_X_3t4_6t8_76 qf0 qf1 qf3 qz0 qz1 qX0 qf2 qr0 qk0 qT qb0 qe0 qL0 qd0 qn0 qD0 qh0 qD1 qv0 cI cJ cZ cB cT f_row f_told z_cnt z_next z_store) sz [.ref qX0]) ((mQi D (W_X_3t4_6t8_76 qf0 qf1 qf3 qz0 qz1 qX0 qf2 qr0 qk0 qT qb0 qe0 qL0 qd0 qn0 qD0 qh0 qD1 qv0 cI cJ cZ cB cT o_f_row f_told o_z_cnt o_z_next z_store) o_r True) (va_A (W_X_3t4_6t8_76 qf0 qf1 qf3 qz0 qz1 qX0 qf2 qr0 qk0 qT qb0 qe0 qL0 qd0 qn0 qD0 qh0 qD1 qv0 cI cJ cZ cB cT f_row f_told z_cnt z_next z_store) sz)) 0 0 (va_A (W_X_3t4_6t8_76 qf0 qf1 qf3 qz0 qz1 qX0 qf2 qr0 qk0 qT qb0 qe0 qL0 qd0 qn0 qD0 qh0 qD1 qv0 cI cJ cZ cB cT f_row f_told z_cnt z_next z_store) sz) := by
  refine mMet (Qc := (mQi D (W_X_3t4_6t8_76 qf0 qf1 qf3 qz0 qz1 qX0 qf2 qr0 qk0 qT qb0 qe0 qL0 qd0 qn0 qD0 qh0 qD1 qv0 cI cJ cZ cB cT o_f_row f_told o_z_cnt o_z_next z_store) o_r True)) (by decide) (Nat.le_of_ble_eq_true rfl) (fun p e s m below meth c A ls hx hb hr hml hts hown hlocks hK hA hP hD hl => ?_)
  have hown : s.vm.findClass RX11 = some m.cls := hown
  have hl : lv_has ls 1 [(0, .ref qX0)] := hl
  have hS : va_S A s.heap s.heap [] := va_S.rf
  unfold f_X11_undo at hf
  refine lv_aload_n hx hb dX11_undo_0 rfl (lv_at hl 0 rfl) ?_
  refine gfX11_69 hx hb hts hown hK hP 5 rfl rfl dX11_undo_1 ?_
  refine lv_aload_n hx hb dX11_undo_4 rfl (lv_at hl 0 rfl) ?_
  refine gfX11_54 hx hb hts hown hK hP 5 rfl rfl dX11_undo_5 ?_
  obtain ⟨r8, z_cnt_8, z_next_8, f_row_8, hg8, hf⟩ := ob4_some hf
  refine mcV_i (wr := [(qX0, .inr (11, [.ref qr0, .ref qk0, .ref qT, .ref qb0, .ref qe0, .ref qL0, .ref qf0, .ref qd0, .ref qn0, .ref qz0, .ref qD0, .ref qh0, .ref qD1, .ref qv0]))]) (As := [.ref qf0]) (rest := []) hx hb hml hown hts hK hP hD hS hA (k_X7_takeBack l N D cI cJ cZ cB cT qz0 qz1 qf0 qf1 qf3 qf2 z_cnt z_next z_store f_row f_told r8 z_cnt_8 z_next_8 f_row_8 hg8) (kwX11_234 hts rfl rfl ⟨Nat.le_of_ble_eq_true rfl, Nat.le_of_ble_eq_true rfl⟩) [3, 4, 0, 1, 2] [5] rfl rfl rfl (by decide) rfl 0 rfl rfl rfl rfl hl.1 rfl (Nat.le_of_ble_eq_true rfl) dX11_undo_8 ⟨Nat.zero_le _, Nat.zero_le _⟩ (fun hB8 H locs hP hD hS => ?_)
  have hP := mP_sub (wc := (W_X_3t4_6t8_76 qf0 qf1 qf3 qz0 qz1 qX0 qf2 qr0 qk0 qT qb0 qe0 qL0 qd0 qn0 qD0 qh0 qD1 qv0 cI cJ cZ cB cT f_row_8 f_told z_cnt_8 z_next_8 z_store)) hP [3, 4, 5, 1, 2, 0] rfl
  have hD := hD.sub (ws' := (W_X_3t4_6t8_76 qf0 qf1 qf3 qz0 qz1 qX0 qf2 qr0 qk0 qT qb0 qe0 qL0 qd0 qn0 qD0 qh0 qD1 qv0 cI cJ cZ cB cT f_row_8 f_told z_cnt_8 z_next_8 z_store)) [3, 4, 5, 1, 2, 0] rfl rfl
  cases hf
  exact mret_i hx hb hr hlocks hP hD hS dX11_undo_11 rfl trivial
theorem dX11_of_0 : decode cX11_of 0 = .ok (.aload_n 0, 1) := by decide +kernel
theorem dX11_of_1 : decode cX11_of 1 = .ok (.getfield 54, 3) := by decide +kernel
theorem dX11_of_4 : decode cX11_of 4 = .ok (.iload_n 1, 1) := by decide +kernel
theorem dX11_of_5 : decode cX11_of 5 = .ok (.invokevirtual 238, 3) := by decide +kernel
theorem dX11_of_8 : decode cX11_of 8 = .ok (.ifCond .ne 5, 3) := by decide +kernel
theorem dX11_of_11 : decode cX11_of 11 = .ok (.iconst (-1), 1) := by decide +kernel
theorem dX11_of_12 : decode cX11_of 12 = .ok (.ireturn, 1) := by decide +kernel
theorem dX11_of_13 : decode cX11_of 13 = .ok (.aload_n 0, 1) := by decide +kernel
theorem dX11_of_14 : decode cX11_of 14 = .ok (.getfield 54, 3) := by decide +kernel
theorem dX11_of_17 : decode cX11_of 17 = .ok (.iload_n 1, 1) := by decide +kernel
theorem dX11_of_18 : decode cX11_of 18 = .ok (.iconst 0, 1) := by decide +kernel
theorem dX11_of_19 : decode cX11_of 19 = .ok (.invokevirtual 239, 3) := by decide +kernel
theorem dX11_of_22 : decode cX11_of 22 = .ok (.istore_n 3, 1) := by decide +kernel
theorem dX11_of_23 : decode cX11_of 23 = .ok (.iload_n 2, 1) := by decide +kernel
theorem dX11_of_24 : decode cX11_of 24 = .ok (.tableswitch 241 0 12 #[68, 70, 79, 89, 99, 109, 119, 129, 140, 162, 184, 206, 228], 68) := by decide +kernel
theorem dX11_of_92 : decode cX11_of 92 = .ok (.iload_n 3, 1) := by decide +kernel
theorem dX11_of_93 : decode cX11_of 93 = .ok (.ireturn, 1) := by decide +kernel
theorem dX11_of_94 : decode cX11_of 94 = .ok (.aload_n 0, 1) := by decide +kernel
theorem dX11_of_95 : decode cX11_of 95 = .ok (.getfield 54, 3) := by decide +kernel
theorem dX11_of_98 : decode cX11_of 98 = .ok (.iload_n 1, 1) := by decide +kernel
theorem dX11_of_99 : decode cX11_of 99 = .ok (.invokevirtual 242, 3) := by decide +kernel
theorem dX11_of_102 : decode cX11_of 102 = .ok (.ireturn, 1) := by decide +kernel
theorem dX11_of_103 : decode cX11_of 103 = .ok (.aload_n 0, 1) := by decide +kernel
theorem dX11_of_104 : decode cX11_of 104 = .ok (.getfield 54, 3) := by decide +kernel
theorem dX11_of_107 : decode cX11_of 107 = .ok (.iload_n 1, 1) := by decide +kernel
theorem dX11_of_108 : decode cX11_of 108 = .ok (.iconst 1, 1) := by decide +kernel
theorem dX11_of_109 : decode cX11_of 109 = .ok (.invokevirtual 239, 3) := by decide +kernel
theorem dX11_of_112 : decode cX11_of 112 = .ok (.ireturn, 1) := by decide +kernel
theorem dX11_of_113 : decode cX11_of 113 = .ok (.aload_n 0, 1) := by decide +kernel
theorem dX11_of_114 : decode cX11_of 114 = .ok (.getfield 54, 3) := by decide +kernel
theorem dX11_of_117 : decode cX11_of 117 = .ok (.iload_n 1, 1) := by decide +kernel
theorem dX11_of_118 : decode cX11_of 118 = .ok (.iconst 2, 1) := by decide +kernel
theorem dX11_of_119 : decode cX11_of 119 = .ok (.invokevirtual 239, 3) := by decide +kernel
theorem dX11_of_122 : decode cX11_of 122 = .ok (.ireturn, 1) := by decide +kernel
theorem dX11_of_123 : decode cX11_of 123 = .ok (.aload_n 0, 1) := by decide +kernel
theorem dX11_of_124 : decode cX11_of 124 = .ok (.getfield 54, 3) := by decide +kernel
theorem dX11_of_127 : decode cX11_of 127 = .ok (.iload_n 1, 1) := by decide +kernel
theorem dX11_of_128 : decode cX11_of 128 = .ok (.iconst 3, 1) := by decide +kernel
theorem dX11_of_129 : decode cX11_of 129 = .ok (.invokevirtual 239, 3) := by decide +kernel
theorem dX11_of_132 : decode cX11_of 132 = .ok (.ireturn, 1) := by decide +kernel
theorem dX11_of_133 : decode cX11_of 133 = .ok (.aload_n 0, 1) := by decide +kernel
theorem dX11_of_134 : decode cX11_of 134 = .ok (.getfield 54, 3) := by decide +kernel
theorem dX11_of_137 : decode cX11_of 137 = .ok (.iload_n 1, 1) := by decide +kernel
theorem dX11_of_138 : decode cX11_of 138 = .ok (.iconst 4, 1) := by decide +kernel
theorem dX11_of_139 : decode cX11_of 139 = .ok (.invokevirtual 239, 3) := by decide +kernel
theorem dX11_of_142 : decode cX11_of 142 = .ok (.ireturn, 1) := by decide +kernel
theorem dX11_of_143 : decode cX11_of 143 = .ok (.aload_n 0, 1) := by decide +kernel
theorem dX11_of_144 : decode cX11_of 144 = .ok (.getfield 54, 3) := by decide +kernel
theorem dX11_of_147 : decode cX11_of 147 = .ok (.iload_n 1, 1) := by decide +kernel
theorem dX11_of_148 : decode cX11_of 148 = .ok (.iconst 5, 1) := by decide +kernel
theorem dX11_of_149 : decode cX11_of 149 = .ok (.invokevirtual 239, 3) := by decide +kernel
theorem dX11_of_152 : decode cX11_of 152 = .ok (.ireturn, 1) := by decide +kernel
theorem dX11_of_153 : decode cX11_of 153 = .ok (.aload_n 0, 1) := by decide +kernel
theorem dX11_of_154 : decode cX11_of 154 = .ok (.getfield 54, 3) := by decide +kernel
theorem dX11_of_157 : decode cX11_of 157 = .ok (.iload_n 1, 1) := by decide +kernel
theorem dX11_of_158 : decode cX11_of 158 = .ok (.bipush 6, 2) := by decide +kernel
theorem dX11_of_160 : decode cX11_of 160 = .ok (.invokevirtual 239, 3) := by decide +kernel
theorem dX11_of_163 : decode cX11_of 163 = .ok (.ireturn, 1) := by decide +kernel
theorem dX11_of_164 : decode cX11_of 164 = .ok (.aload_n 0, 1) := by decide +kernel
theorem dX11_of_165 : decode cX11_of 165 = .ok (.getfield 46, 3) := by decide +kernel
theorem dX11_of_168 : decode cX11_of 168 = .ok (.aload_n 0, 1) := by decide +kernel
theorem dX11_of_169 : decode cX11_of 169 = .ok (.getfield 10, 3) := by decide +kernel
theorem dX11_of_172 : decode cX11_of 172 = .ok (.getfield 140, 3) := by decide +kernel
theorem dX11_of_175 : decode cX11_of 175 = .ok (.iconst 0, 1) := by decide +kernel
theorem dX11_of_176 : decode cX11_of 176 = .ok (.aload_n 0, 1) := by decide +kernel
theorem dX11_of_177 : decode cX11_of 177 = .ok (.getfield 54, 3) := by decide +kernel
theorem dX11_of_180 : decode cX11_of 180 = .ok (.iload_n 1, 1) := by decide +kernel
theorem dX11_of_181 : decode cX11_of 181 = .ok (.iload_n 3, 1) := by decide +kernel
theorem dX11_of_182 : decode cX11_of 182 = .ok (.invokevirtual 245, 3) := by decide +kernel
theorem dX11_of_185 : decode cX11_of 185 = .ok (.ireturn, 1) := by decide +kernel
theorem dX11_of_186 : decode cX11_of 186 = .ok (.aload_n 0, 1) := by decide +kernel
theorem dX11_of_187 : decode cX11_of 187 = .ok (.getfield 46, 3) := by decide +kernel
theorem dX11_of_190 : decode cX11_of 190 = .ok (.aload_n 0, 1) := by decide +kernel
theorem dX11_of_191 : decode cX11_of 191 = .ok (.getfield 10, 3) := by decide +kernel
theorem dX11_of_194 : decode cX11_of 194 = .ok (.getfield 140, 3) := by decide +kernel
theorem dX11_of_197 : decode cX11_of 197 = .ok (.iconst 1, 1) := by decide +kernel
theorem dX11_of_198 : decode cX11_of 198 = .ok (.aload_n 0, 1) := by decide +kernel
theorem dX11_of_199 : decode cX11_of 199 = .ok (.getfield 54, 3) := by decide +kernel
theorem dX11_of_202 : decode cX11_of 202 = .ok (.iload_n 1, 1) := by decide +kernel
theorem dX11_of_203 : decode cX11_of 203 = .ok (.iload_n 3, 1) := by decide +kernel
theorem dX11_of_204 : decode cX11_of 204 = .ok (.invokevirtual 245, 3) := by decide +kernel
theorem dX11_of_207 : decode cX11_of 207 = .ok (.ireturn, 1) := by decide +kernel
theorem dX11_of_208 : decode cX11_of 208 = .ok (.aload_n 0, 1) := by decide +kernel
theorem dX11_of_209 : decode cX11_of 209 = .ok (.getfield 46, 3) := by decide +kernel
theorem dX11_of_212 : decode cX11_of 212 = .ok (.aload_n 0, 1) := by decide +kernel
theorem dX11_of_213 : decode cX11_of 213 = .ok (.getfield 10, 3) := by decide +kernel
theorem dX11_of_216 : decode cX11_of 216 = .ok (.getfield 140, 3) := by decide +kernel
theorem dX11_of_219 : decode cX11_of 219 = .ok (.iconst 2, 1) := by decide +kernel
theorem dX11_of_220 : decode cX11_of 220 = .ok (.aload_n 0, 1) := by decide +kernel
theorem dX11_of_221 : decode cX11_of 221 = .ok (.getfield 54, 3) := by decide +kernel
theorem dX11_of_224 : decode cX11_of 224 = .ok (.iload_n 1, 1) := by decide +kernel
theorem dX11_of_225 : decode cX11_of 225 = .ok (.iload_n 3, 1) := by decide +kernel
theorem dX11_of_226 : decode cX11_of 226 = .ok (.invokevirtual 245, 3) := by decide +kernel
theorem dX11_of_229 : decode cX11_of 229 = .ok (.ireturn, 1) := by decide +kernel
theorem dX11_of_230 : decode cX11_of 230 = .ok (.aload_n 0, 1) := by decide +kernel
theorem dX11_of_231 : decode cX11_of 231 = .ok (.getfield 46, 3) := by decide +kernel
theorem dX11_of_234 : decode cX11_of 234 = .ok (.aload_n 0, 1) := by decide +kernel
theorem dX11_of_235 : decode cX11_of 235 = .ok (.getfield 10, 3) := by decide +kernel
theorem dX11_of_238 : decode cX11_of 238 = .ok (.getfield 140, 3) := by decide +kernel
theorem dX11_of_241 : decode cX11_of 241 = .ok (.iconst 3, 1) := by decide +kernel
theorem dX11_of_242 : decode cX11_of 242 = .ok (.aload_n 0, 1) := by decide +kernel
theorem dX11_of_243 : decode cX11_of 243 = .ok (.getfield 54, 3) := by decide +kernel
theorem dX11_of_246 : decode cX11_of 246 = .ok (.iload_n 1, 1) := by decide +kernel
theorem dX11_of_247 : decode cX11_of 247 = .ok (.iload_n 3, 1) := by decide +kernel
theorem dX11_of_248 : decode cX11_of 248 = .ok (.invokevirtual 245, 3) := by decide +kernel
theorem dX11_of_251 : decode cX11_of 251 = .ok (.ireturn, 1) := by decide +kernel
theorem dX11_of_252 : decode cX11_of 252 = .ok (.aload_n 0, 1) := by decide +kernel
theorem dX11_of_253 : decode cX11_of 253 = .ok (.getfield 54, 3) := by decide +kernel
theorem dX11_of_256 : decode cX11_of 256 = .ok (.iload_n 3, 1) := by decide +kernel
theorem dX11_of_257 : decode cX11_of 257 = .ok (.iload_n 1, 1) := by decide +kernel
theorem dX11_of_258 : decode cX11_of 258 = .ok (.invokevirtual 249, 3) := by decide +kernel
theorem dX11_of_261 : decode cX11_of 261 = .ok (.invokestatic 252, 3) := by decide +kernel
theorem dX11_of_264 : decode cX11_of 264 = .ok (.ireturn, 1) := by decide +kernel
theorem dX11_of_265 : decode cX11_of 265 = .ok (.iconst (-1), 1) := by decide +kernel
theorem dX11_of_266 : decode cX11_of 266 = .ok (.ireturn, 1) := by decide +kernel
def f_X11_of (N : Nat) (d_n : Int32) (d_for : Nat → Int32) (f_row : Nat → Int32) (f_fears : Nat → Int32) (r_tx : Int32) (r_rul : Int32) (t_code : Nat → Int32) (t_st : Nat → Int32) (t_en : Nat → Int32) (u_code : Nat → Int32) (u_st : Nat → Int32) (u_en : Nat → Int32) (w_code : Nat → Int32) (w_st : Nat → Int32) (w_en : Nat → Int32) (x_code : Nat → Int32) (x_st : Nat → Int32) (x_en : Nat → Int32) (l_names : Nat → Int32) (l_stack : Nat → Int32) (p1 : Int32) (p2 : Int32) : Option (Int32 × (Nat → Int32) × (Nat → Int32)) := ob1 (f_X1_told N f_row p1) fun r5 => if r5 = 0 then (some ((-1 : Int32), l_names, l_stack)) else (ob1 (f_X1_get N f_row p1 (0 : Int32)) fun r19 => if p2 = (0 : Int32) then (some (r19, l_names, l_stack)) else if p2 = (1 : Int32) then (ob1 (f_X1_fearOf N f_row f_fears p1) fun r99 => some (r99, l_names, l_stack)) else if p2 = (2 : Int32) then (ob1 (f_X1_get N f_row p1 (1 : Int32)) fun r109 => some (r109, l_names, l_stack)) else if p2 = (3 : Int32) then (ob1 (f_X1_get N f_row p1 (2 : Int32)) fun r119 => some (r119, l_names, l_stack)) else if p2 = (4 : Int32) then (ob1 (f_X1_get N f_row p1 (3 : Int32)) fun r129 => some (r129, l_names, l_stack)) else if p2 = (5 : Int32) then (ob1 (f_X1_get N f_row p1 (4 : Int32)) fun r139 => some (r139, l_names, l_stack)) else if p2 = (6 : Int32) then (ob1 (f_X1_get N f_row p1 (5 : Int32)) fun r149 => some (r149, l_names, l_stack)) else if p2 = (7 : Int32) then (ob1 (f_X1_get N f_row p1 (6 : Int32)) fun r160 => some (r160, l_names, l_stack)) else if p2 = (8 : Int32) then (ob3 (f_X3_rule N d_n d_for t_code t_st t_en u_code u_st u_en w_code w_st w_en x_code x_st x_en f_row f_fears r_tx l_names l_stack r_rul (0 : Int32) p1 r19) fun r182 l_names_182 l_stack_182 => some (r182, l_names_182, l_stack_182)) else if p2 = (9 : Int32) then (ob3 (f_X3_rule N d_n d_for t_code t_st t_en u_code u_st u_en w_code w_st w_en x_code x_st x_en f_row f_fears r_tx l_names l_stack r_rul (1 : Int32) p1 r19) fun r204 l_names_204 l_stack_204 => some (r204, l_names_204, l_stack_204)) else if p2 = (10 : Int32) then (ob3 (f_X3_rule N d_n d_for t_code t_st t_en u_code u_st u_en w_code w_st w_en x_code x_st x_en f_row f_fears r_tx l_names l_stack r_rul (2 : Int32) p1 r19) fun r226 l_names_226 l_stack_226 => some (r226, l_names_226, l_stack_226)) else if p2 = (11 : Int32) then (ob3 (f_X3_rule N d_n d_for t_code t_st t_en u_code u_st u_en w_code w_st w_en x_code x_st x_en f_row f_fears r_tx l_names l_stack r_rul (3 : Int32) p1 r19) fun r248 l_names_248 l_stack_248 => some (r248, l_names_248, l_stack_248)) else if p2 = (12 : Int32) then (ob1 (f_X1_othersIn N f_row r19 p1) fun r258 => ob1 (f_J6_bitCount_0f7a4 N r258) fun r261 => some (r261, l_names, l_stack)) else (some ((-1 : Int32), l_names, l_stack)))
set_option maxHeartbeats 4000000 in
set_option maxRecDepth 100000 in
theorem k_X11_of (l : Launch) (N : Nat) (D : va_G) (cI cJ cZ cB cT : ClassId) (qd0 : Nat) (qd1 : Nat) (qf0 : Nat) (qf1 : Nat) (qf2 : Nat) (qr0 : Nat) (qt0 : Nat) (qt1 : Nat) (qt2 : Nat) (qt3 : Nat) (qu0 : Nat) (qu1 : Nat) (qu2 : Nat) (qu3 : Nat) (qw0 : Nat) (qw1 : Nat) (qw2 : Nat) (qw3 : Nat) (qx0 : Nat) (qx1 : Nat) (qx2 : Nat) (qx3 : Nat) (qT : Nat) (qL1 : Nat) (qL2 : Nat) (qL0 : Nat) (qX0 : Nat) (qd2 : Nat) (qf3 : Nat) (qz0 : Nat) (qn0 : Nat) (qt4 : Nat) (qu4 : Nat) (qw4 : Nat) (qx4 : Nat) (qk0 : Nat) (qb0 : Nat) (qe0 : Nat) (qD0 : Nat) (qh0 : Nat) (qD1 : Nat) (qv0 : Nat) (d_n : Int32) (d_for : Nat → Int32) (f_row : Nat → Int32) (f_fears : Nat → Int32) (r_tx : Int32) (r_rul : Int32) (t_cl : Int32) (t_ln : Int32) (t_pt : Int32) (t_code : Nat → Int32) (t_st : Nat → Int32) (t_en : Nat → Int32) (u_cl : Int32) (u_ln : Int32) (u_pt : Int32) (u_code : Nat → Int32) (u_st : Nat → Int32) (u_en : Nat → Int32) (w_cl : Int32) (w_ln : Int32) (w_pt : Int32) (w_code : Nat → Int32) (w_st : Nat → Int32) (w_en : Nat → Int32) (x_cl : Int32) (x_ln : Int32) (x_pt : Int32) (x_code : Nat → Int32) (x_st : Nat → Int32) (x_en : Nat → Int32) (l_names : Nat → Int32) (l_stack : Nat → Int32) (p1 : Int32) (p2 : Int32) (o_r : Int32) (o_l_names : Nat → Int32) (o_l_stack : Nat → Int32) (hf : f_X11_of N d_n d_for f_row f_fears r_tx r_rul t_code t_st t_en u_code u_st u_en w_code w_st w_en x_code x_st x_en l_names l_stack p1 p2 = some (o_r, o_l_names, o_l_stack)) : ∀ sz, Met l yX11_of (mw yX11_of cX11_of 4 (some .int)) ({ frames := 3, cells := 0, slots := 0, locals := 100 } : Room) (mPreE D (mT cI cJ cZ cB cT) (W_X_0t1_3t5_16_34t37_39t42_44t47_49t52_54_61t63_76 qd0 qd1 qf0 qf1 qf2 qr0 qt0 qt1 qt2 qt3 qu0 qu1 qu2 qu3 qw0 qw1 qw2 qw3 qx0 qx1 qx2 qx3 qT qL1 qL2 qL0 qX0 qd2 qf3 qz0 qn0 qt4 qu4 qw4 qx4 qk0 qb0 qe0 qD0 qh0 qD1 qv0 cI cJ cZ cB cT d_n d_for f_row f_fears r_tx r_rul t_cl t_ln t_pt t_code t_st t_en u_cl u_ln u_pt u_code u_st u_en w_cl w_ln w_pt w_code w_st w_en x_cl x_ln x_pt x_code x_st x_en l_names l_stack) sz [.ref qX0, .int p1, .int p2]) ((mQi D (W_X_0t1_3t5_16_34t37_39t42_44t47_49t52_54_61t63_76 qd0 qd1 qf0 qf1 qf2 qr0 qt0 qt1 qt2 qt3 qu0 qu1 qu2 qu3 qw0 qw1 qw2 qw3 qx0 qx1 qx2 qx3 qT qL1 qL2 qL0 qX0 qd2 qf3 qz0 qn0 qt4 qu4 qw4 qx4 qk0 qb0 qe0 qD0 qh0 qD1 qv0 cI cJ cZ cB cT d_n d_for f_row f_fears r_tx r_rul t_cl t_ln t_pt t_code t_st t_en u_cl u_ln u_pt u_code u_st u_en w_cl w_ln w_pt w_code w_st w_en x_cl x_ln x_pt x_code x_st x_en o_l_names o_l_stack) o_r True) (va_A (W_X_0t1_3t5_16_34t37_39t42_44t47_49t52_54_61t63_76 qd0 qd1 qf0 qf1 qf2 qr0 qt0 qt1 qt2 qt3 qu0 qu1 qu2 qu3 qw0 qw1 qw2 qw3 qx0 qx1 qx2 qx3 qT qL1 qL2 qL0 qX0 qd2 qf3 qz0 qn0 qt4 qu4 qw4 qx4 qk0 qb0 qe0 qD0 qh0 qD1 qv0 cI cJ cZ cB cT d_n d_for f_row f_fears r_tx r_rul t_cl t_ln t_pt t_code t_st t_en u_cl u_ln u_pt u_code u_st u_en w_cl w_ln w_pt w_code w_st w_en x_cl x_ln x_pt x_code x_st x_en l_names l_stack) sz)) 0 0 (va_A (W_X_0t1_3t5_16_34t37_39t42_44t47_49t52_54_61t63_76 qd0 qd1 qf0 qf1 qf2 qr0 qt0 qt1 qt2 qt3 qu0 qu1 qu2 qu3 qw0 qw1 qw2 qw3 qx0 qx1 qx2 qx3 qT qL1 qL2 qL0 qX0 qd2 qf3 qz0 qn0 qt4 qu4 qw4 qx4 qk0 qb0 qe0 qD0 qh0 qD1 qv0 cI cJ cZ cB cT d_n d_for f_row f_fears r_tx r_rul t_cl t_ln t_pt t_code t_st t_en u_cl u_ln u_pt u_code u_st u_en w_cl w_ln w_pt w_code w_st w_en x_cl x_ln x_pt x_code x_st x_en l_names l_stack) sz) := by
  refine mMetE (Qc := (mQi D (W_X_0t1_3t5_16_34t37_39t42_44t47_49t52_54_61t63_76 qd0 qd1 qf0 qf1 qf2 qr0 qt0 qt1 qt2 qt3 qu0 qu1 qu2 qu3 qw0 qw1 qw2 qw3 qx0 qx1 qx2 qx3 qT qL1 qL2 qL0 qX0 qd2 qf3 qz0 qn0 qt4 qu4 qw4 qx4 qk0 qb0 qe0 qD0 qh0 qD1 qv0 cI cJ cZ cB cT d_n d_for f_row f_fears r_tx r_rul t_cl t_ln t_pt t_code t_st t_en u_cl u_ln u_pt u_code u_st u_en w_cl w_ln w_pt w_code w_st w_en x_cl x_ln x_pt x_code x_st x_en o_l_names o_l_stack) o_r True)) (by decide) (Nat.le_of_ble_eq_true rfl) (fun p e s m below meth c A ls hx hb hr hml hts hown hlocks hK hA hP hD hl hE => ?_)
  have hown : s.vm.findClass RX11 = some m.cls := hown
  have hl : lv_has ls 4 [(0, .ref qX0), (1, .int p1), (2, .int p2)] := hl
  have hS : va_S A s.heap s.heap [] := va_S.rf
  obtain ⟨⟨tM, hZM, hTM⟩, ⟨tL, hZL, hTL⟩, ⟨hNX4, hNX10⟩, tS, tV, hRS, hZC, hZF, hKS⟩ := id hE
  unfold f_X11_of at hf
  refine lv_aload_n hx hb dX11_of_0 rfl (lv_at hl 0 rfl) ?_
  refine gfX11_54 hx hb hts hown hK hP 26 rfl rfl dX11_of_1 ?_
  refine lv_iload_n hx hb dX11_of_4 rfl (lv_at hl 1 rfl) ?_
  obtain ⟨r5, hg5, hf⟩ := ob1_some hf
  refine mcV_i (wr := [(qd0, .inr (2, [.int d_n, .ref qd1, .ref qd2])), (qd1, .inl (cI, 8, .inl d_for)), (qf2, .inl (cI, 6, .inl f_fears)), (qr0, .inr (6, [.ref qd0, .ref qf0, .ref qz0, .ref qn0, .int r_tx, .int r_rul])), (qt0, .inr (9, [.int t_cl, .int t_ln, .int t_pt, .ref qt1, .ref qt2, .ref qt3, .ref qt4])), (qt1, .inl (cI, 301, .inl t_code)), (qt2, .inl (cI, 4, .inl t_st)), (qt3, .inl (cI, 4, .inl t_en)), (qu0, .inr (9, [.int u_cl, .int u_ln, .int u_pt, .ref qu1, .ref qu2, .ref qu3, .ref qu4])), (qu1, .inl (cI, 301, .inl u_code)), (qu2, .inl (cI, 4, .inl u_st)), (qu3, .inl (cI, 4, .inl u_en)), (qw0, .inr (9, [.int w_cl, .int w_ln, .int w_pt, .ref qw1, .ref qw2, .ref qw3, .ref qw4])), (qw1, .inl (cI, 301, .inl w_code)), (qw2, .inl (cI, 4, .inl w_st)), (qw3, .inl (cI, 4, .inl w_en)), (qx0, .inr (9, [.int x_cl, .int x_ln, .int x_pt, .ref qx1, .ref qx2, .ref qx3, .ref qx4])), (qx1, .inl (cI, 301, .inl x_code)), (qx2, .inl (cI, 4, .inl x_st)), (qx3, .inl (cI, 4, .inl x_en)), (qT, .inl (cT, 4, .inr (.inr (.inr (.inr (fT qt0 qu0 qw0 qx0)))))), (qL1, .inl (cI, 10, .inl l_names)), (qL2, .inl (cI, 64, .inl l_stack)), (qL0, .inr (3, [.ref qr0, .ref qT, .ref qL1, .ref qL2])), (qX0, .inr (11, [.ref qr0, .ref qk0, .ref qT, .ref qb0, .ref qe0, .ref qL0, .ref qf0, .ref qd0, .ref qn0, .ref qz0, .ref qD0, .ref qh0, .ref qD1, .ref qv0]))]) (As := [.int p1]) (rest := []) hx hb hml hown hts hK hP hD hS hA (k_X1_told l N D cI cJ cZ cB cT qf0 qf1 qf2 qf3 f_row p1 r5 hg5) (kwX11_238 hts rfl rfl ⟨Nat.le_of_ble_eq_true rfl, Nat.le_of_ble_eq_true rfl⟩) [2, 3] [0, 1, 4, 5, 6, 7, 8, 9, 10, 11, 12, 13, 14, 15, 16, 17, 18, 19, 20, 21, 22, 23, 24, 25, 26] rfl rfl rfl (by decide) rfl 0 rfl rfl rfl rfl hl.1 rfl (Nat.le_of_ble_eq_true rfl) dX11_of_5 ⟨Nat.zero_le _, Nat.zero_le _⟩ (fun hB5 H locs hP hD hS => ?_)
  have hP := mP_sub (wc := (W_X_0t1_3t5_16_34t37_39t42_44t47_49t52_54_61t63_76 qd0 qd1 qf0 qf1 qf2 qr0 qt0 qt1 qt2 qt3 qu0 qu1 qu2 qu3 qw0 qw1 qw2 qw3 qx0 qx1 qx2 qx3 qT qL1 qL2 qL0 qX0 qd2 qf3 qz0 qn0 qt4 qu4 qw4 qx4 qk0 qb0 qe0 qD0 qh0 qD1 qv0 cI cJ cZ cB cT d_n d_for f_row f_fears r_tx r_rul t_cl t_ln t_pt t_code t_st t_en u_cl u_ln u_pt u_code u_st u_en w_cl w_ln w_pt w_code w_st w_en x_cl x_ln x_pt x_code x_st x_en l_names l_stack)) hP [0, 1, 25, 26, 2, 3, 4, 5, 6, 7, 8, 9, 10, 11, 12, 13, 14, 15, 16, 17, 18, 19, 20, 21, 22, 23, 24] rfl
  have hD := hD.sub (ws' := (W_X_0t1_3t5_16_34t37_39t42_44t47_49t52_54_61t63_76 qd0 qd1 qf0 qf1 qf2 qr0 qt0 qt1 qt2 qt3 qu0 qu1 qu2 qu3 qw0 qw1 qw2 qw3 qx0 qx1 qx2 qx3 qT qL1 qL2 qL0 qX0 qd2 qf3 qz0 qn0 qt4 qu4 qw4 qx4 qk0 qb0 qe0 qD0 qh0 qD1 qv0 cI cJ cZ cB cT d_n d_for f_row f_fears r_tx r_rul t_cl t_ln t_pt t_code t_st t_en u_cl u_ln u_pt u_code u_st u_en w_cl w_ln w_pt w_code w_st w_en x_cl x_ln x_pt x_code x_st x_en l_names l_stack)) [0, 1, 25, 26, 2, 3, 4, 5, 6, 7, 8, 9, 10, 11, 12, 13, 14, 15, 16, 17, 18, 19, 20, 21, 22, 23, 24] rfl rfl
  refine xif_ne hx hb 13 dX11_of_8 (by decide) hf (fun hf => ?_) (fun hf => ?_)
  · refine lv_iconst (v := (-1 : Int32)) hx hb dX11_of_11 (by decide) ?_
    cases hf
    exact mret_i hx hb hr hlocks hP hD hS dX11_of_12 rfl trivial
  · refine lv_aload_n hx hb dX11_of_13 rfl (lv_at hl 0 rfl) ?_
    refine gfX11_54 hx hb hts hown hK hP 26 rfl rfl dX11_of_14 ?_
    refine lv_iload_n hx hb dX11_of_17 rfl (lv_at hl 1 rfl) ?_
    refine lv_iconst (v := (0 : Int32)) hx hb dX11_of_18 (by decide) ?_
    obtain ⟨r19, hg19, hf⟩ := ob1_some hf
    refine mcV_i (wr := [(qd0, .inr (2, [.int d_n, .ref qd1, .ref qd2])), (qd1, .inl (cI, 8, .inl d_for)), (qf2, .inl (cI, 6, .inl f_fears)), (qr0, .inr (6, [.ref qd0, .ref qf0, .ref qz0, .ref qn0, .int r_tx, .int r_rul])), (qt0, .inr (9, [.int t_cl, .int t_ln, .int t_pt, .ref qt1, .ref qt2, .ref qt3, .ref qt4])), (qt1, .inl (cI, 301, .inl t_code)), (qt2, .inl (cI, 4, .inl t_st)), (qt3, .inl (cI, 4, .inl t_en)), (qu0, .inr (9, [.int u_cl, .int u_ln, .int u_pt, .ref qu1, .ref qu2, .ref qu3, .ref qu4])), (qu1, .inl (cI, 301, .inl u_code)), (qu2, .inl (cI, 4, .inl u_st)), (qu3, .inl (cI, 4, .inl u_en)), (qw0, .inr (9, [.int w_cl, .int w_ln, .int w_pt, .ref qw1, .ref qw2, .ref qw3, .ref qw4])), (qw1, .inl (cI, 301, .inl w_code)), (qw2, .inl (cI, 4, .inl w_st)), (qw3, .inl (cI, 4, .inl w_en)), (qx0, .inr (9, [.int x_cl, .int x_ln, .int x_pt, .ref qx1, .ref qx2, .ref qx3, .ref qx4])), (qx1, .inl (cI, 301, .inl x_code)), (qx2, .inl (cI, 4, .inl x_st)), (qx3, .inl (cI, 4, .inl x_en)), (qT, .inl (cT, 4, .inr (.inr (.inr (.inr (fT qt0 qu0 qw0 qx0)))))), (qL1, .inl (cI, 10, .inl l_names)), (qL2, .inl (cI, 64, .inl l_stack)), (qL0, .inr (3, [.ref qr0, .ref qT, .ref qL1, .ref qL2])), (qX0, .inr (11, [.ref qr0, .ref qk0, .ref qT, .ref qb0, .ref qe0, .ref qL0, .ref qf0, .ref qd0, .ref qn0, .ref qz0, .ref qD0, .ref qh0, .ref qD1, .ref qv0]))]) (As := [.int p1, .int (0 : Int32)]) (rest := []) hx hb hml hown hts hK hP hD hS hA (k_X1_get l N D cI cJ cZ cB cT qf0 qf1 qf2 qf3 f_row p1 (0 : Int32) r19 hg19) (kwX11_239 hts rfl rfl ⟨Nat.le_of_ble_eq_true rfl, Nat.le_of_ble_eq_true rfl⟩) [2, 3] [0, 1, 4, 5, 6, 7, 8, 9, 10, 11, 12, 13, 14, 15, 16, 17, 18, 19, 20, 21, 22, 23, 24, 25, 26] rfl rfl rfl (by decide) rfl 0 rfl rfl rfl rfl hl.1 rfl (Nat.le_of_ble_eq_true rfl) dX11_of_19 ⟨Nat.zero_le _, Nat.zero_le _⟩ (fun hB19 H locs hP hD hS => ?_)
    have hP := mP_sub (wc := (W_X_0t1_3t5_16_34t37_39t42_44t47_49t52_54_61t63_76 qd0 qd1 qf0 qf1 qf2 qr0 qt0 qt1 qt2 qt3 qu0 qu1 qu2 qu3 qw0 qw1 qw2 qw3 qx0 qx1 qx2 qx3 qT qL1 qL2 qL0 qX0 qd2 qf3 qz0 qn0 qt4 qu4 qw4 qx4 qk0 qb0 qe0 qD0 qh0 qD1 qv0 cI cJ cZ cB cT d_n d_for f_row f_fears r_tx r_rul t_cl t_ln t_pt t_code t_st t_en u_cl u_ln u_pt u_code u_st u_en w_cl w_ln w_pt w_code w_st w_en x_cl x_ln x_pt x_code x_st x_en l_names l_stack)) hP [0, 1, 25, 26, 2, 3, 4, 5, 6, 7, 8, 9, 10, 11, 12, 13, 14, 15, 16, 17, 18, 19, 20, 21, 22, 23, 24] rfl
    have hD := hD.sub (ws' := (W_X_0t1_3t5_16_34t37_39t42_44t47_49t52_54_61t63_76 qd0 qd1 qf0 qf1 qf2 qr0 qt0 qt1 qt2 qt3 qu0 qu1 qu2 qu3 qw0 qw1 qw2 qw3 qx0 qx1 qx2 qx3 qT qL1 qL2 qL0 qX0 qd2 qf3 qz0 qn0 qt4 qu4 qw4 qx4 qk0 qb0 qe0 qD0 qh0 qD1 qv0 cI cJ cZ cB cT d_n d_for f_row f_fears r_tx r_rul t_cl t_ln t_pt t_code t_st t_en u_cl u_ln u_pt u_code u_st u_en w_cl w_ln w_pt w_code w_st w_en x_cl x_ln x_pt x_code x_st x_en l_names l_stack)) [0, 1, 25, 26, 2, 3, 4, 5, 6, 7, 8, 9, 10, 11, 12, 13, 14, 15, 16, 17, 18, 19, 20, 21, 22, 23, 24] rfl rfl
    refine lv_istore_n (lv' := [(3, .int r19), (0, .ref qX0), (1, .int p1), (2, .int p2)]) hx hb dX11_of_22 rfl hl (by decide) rfl (fun ls hl => ?_)
    refine lv_iload_n hx hb dX11_of_23 rfl (lv_at hl 3 rfl) ?_
    by_cases e24_0 : p2 = (0 : Int32)
    · replace hf := (if_pos e24_0).symm.trans hf
      refine lv_tableIn (off := 68) (tgt := 92) hx hb dX11_of_24 (by rw [e24_0]; decide) (by rw [e24_0]; decide) (by rw [e24_0]; rfl) (by decide) ?_
      refine lv_iload_n hx hb dX11_of_92 rfl (lv_at hl 0 rfl) ?_
      cases hf
      exact mret_i hx hb hr hlocks hP hD hS dX11_of_93 rfl trivial
    replace hf := (if_neg e24_0).symm.trans hf
    by_cases e24_1 : p2 = (1 : Int32)
    · replace hf := (if_pos e24_1).symm.trans hf
      refine lv_tableIn (off := 70) (tgt := 94) hx hb dX11_of_24 (by rw [e24_1]; decide) (by rw [e24_1]; decide) (by rw [e24_1]; rfl) (by decide) ?_
      refine lv_aload_n hx hb dX11_of_94 rfl (lv_at hl 1 rfl) ?_
      refine gfX11_54 hx hb hts hown hK hP 26 rfl rfl dX11_of_95 ?_
      refine lv_iload_n hx hb dX11_of_98 rfl (lv_at hl 2 rfl) ?_
      obtain ⟨r99, hg99, hf⟩ := ob1_some hf
      refine mcV_i (wr := [(qd0, .inr (2, [.int d_n, .ref qd1, .ref qd2])), (qd1, .inl (cI, 8, .inl d_for)), (qr0, .inr (6, [.ref qd0, .ref qf0, .ref qz0, .ref qn0, .int r_tx, .int r_rul])), (qt0, .inr (9, [.int t_cl, .int t_ln, .int t_pt, .ref qt1, .ref qt2, .ref qt3, .ref qt4])), (qt1, .inl (cI, 301, .inl t_code)), (qt2, .inl (cI, 4, .inl t_st)), (qt3, .inl (cI, 4, .inl t_en)), (qu0, .inr (9, [.int u_cl, .int u_ln, .int u_pt, .ref qu1, .ref qu2, .ref qu3, .ref qu4])), (qu1, .inl (cI, 301, .inl u_code)), (qu2, .inl (cI, 4, .inl u_st)), (qu3, .inl (cI, 4, .inl u_en)), (qw0, .inr (9, [.int w_cl, .int w_ln, .int w_pt, .ref qw1, .ref qw2, .ref qw3, .ref qw4])), (qw1, .inl (cI, 301, .inl w_code)), (qw2, .inl (cI, 4, .inl w_st)), (qw3, .inl (cI, 4, .inl w_en)), (qx0, .inr (9, [.int x_cl, .int x_ln, .int x_pt, .ref qx1, .ref qx2, .ref qx3, .ref qx4])), (qx1, .inl (cI, 301, .inl x_code)), (qx2, .inl (cI, 4, .inl x_st)), (qx3, .inl (cI, 4, .inl x_en)), (qT, .inl (cT, 4, .inr (.inr (.inr (.inr (fT qt0 qu0 qw0 qx0)))))), (qL1, .inl (cI, 10, .inl l_names)), (qL2, .inl (cI, 64, .inl l_stack)), (qL0, .inr (3, [.ref qr0, .ref qT, .ref qL1, .ref qL2])), (qX0, .inr (11, [.ref qr0, .ref qk0, .ref qT, .ref qb0, .ref qe0, .ref qL0, .ref qf0, .ref qd0, .ref qn0, .ref qz0, .ref qD0, .ref qh0, .ref qD1, .ref qv0]))]) (As := [.int p1]) (rest := []) hx hb hml hown hts hK hP hD hS hA (k_X1_fearOf l N D cI cJ cZ cB cT qf0 qf1 qf2 qf3 f_row f_fears p1 r99 hg99) (kwX11_242 hts rfl rfl ⟨Nat.le_of_ble_eq_true rfl, Nat.le_of_ble_eq_true rfl⟩) [2, 3, 4] [0, 1, 5, 6, 7, 8, 9, 10, 11, 12, 13, 14, 15, 16, 17, 18, 19, 20, 21, 22, 23, 24, 25, 26] rfl rfl rfl (by decide) rfl 0 rfl rfl rfl rfl hl.1 rfl (Nat.le_of_ble_eq_true rfl) dX11_of_99 ⟨Nat.zero_le _, Nat.zero_le _⟩ (fun hB99 H locs hP hD hS => ?_)
      have hP := mP_sub (wc := (W_X_0t1_3t5_16_34t37_39t42_44t47_49t52_54_61t63_76 qd0 qd1 qf0 qf1 qf2 qr0 qt0 qt1 qt2 qt3 qu0 qu1 qu2 qu3 qw0 qw1 qw2 qw3 qx0 qx1 qx2 qx3 qT qL1 qL2 qL0 qX0 qd2 qf3 qz0 qn0 qt4 qu4 qw4 qx4 qk0 qb0 qe0 qD0 qh0 qD1 qv0 cI cJ cZ cB cT d_n d_for f_row f_fears r_tx r_rul t_cl t_ln t_pt t_code t_st t_en u_cl u_ln u_pt u_code u_st u_en w_cl w_ln w_pt w_code w_st w_en x_cl x_ln x_pt x_code x_st x_en l_names l_stack)) hP [0, 1, 24, 25, 26, 2, 3, 4, 5, 6, 7, 8, 9, 10, 11, 12, 13, 14, 15, 16, 17, 18, 19, 20, 21, 22, 23] rfl
      have hD := hD.sub (ws' := (W_X_0t1_3t5_16_34t37_39t42_44t47_49t52_54_61t63_76 qd0 qd1 qf0 qf1 qf2 qr0 qt0 qt1 qt2 qt3 qu0 qu1 qu2 qu3 qw0 qw1 qw2 qw3 qx0 qx1 qx2 qx3 qT qL1 qL2 qL0 qX0 qd2 qf3 qz0 qn0 qt4 qu4 qw4 qx4 qk0 qb0 qe0 qD0 qh0 qD1 qv0 cI cJ cZ cB cT d_n d_for f_row f_fears r_tx r_rul t_cl t_ln t_pt t_code t_st t_en u_cl u_ln u_pt u_code u_st u_en w_cl w_ln w_pt w_code w_st w_en x_cl x_ln x_pt x_code x_st x_en l_names l_stack)) [0, 1, 24, 25, 26, 2, 3, 4, 5, 6, 7, 8, 9, 10, 11, 12, 13, 14, 15, 16, 17, 18, 19, 20, 21, 22, 23] rfl rfl
      cases hf
      exact mret_i hx hb hr hlocks hP hD hS dX11_of_102 rfl trivial
    replace hf := (if_neg e24_1).symm.trans hf
    by_cases e24_2 : p2 = (2 : Int32)
    · replace hf := (if_pos e24_2).symm.trans hf
      refine lv_tableIn (off := 79) (tgt := 103) hx hb dX11_of_24 (by rw [e24_2]; decide) (by rw [e24_2]; decide) (by rw [e24_2]; rfl) (by decide) ?_
      refine lv_aload_n hx hb dX11_of_103 rfl (lv_at hl 1 rfl) ?_
      refine gfX11_54 hx hb hts hown hK hP 26 rfl rfl dX11_of_104 ?_
      refine lv_iload_n hx hb dX11_of_107 rfl (lv_at hl 2 rfl) ?_
      refine lv_iconst (v := (1 : Int32)) hx hb dX11_of_108 (by decide) ?_
      obtain ⟨r109, hg109, hf⟩ := ob1_some hf
      refine mcV_i (wr := [(qd0, .inr (2, [.int d_n, .ref qd1, .ref qd2])), (qd1, .inl (cI, 8, .inl d_for)), (qf2, .inl (cI, 6, .inl f_fears)), (qr0, .inr (6, [.ref qd0, .ref qf0, .ref qz0, .ref qn0, .int r_tx, .int r_rul])), (qt0, .inr (9, [.int t_cl, .int t_ln, .int t_pt, .ref qt1, .ref qt2, .ref qt3, .ref qt4])), (qt1, .inl (cI, 301, .inl t_code)), (qt2, .inl (cI, 4, .inl t_st)), (qt3, .inl (cI, 4, .inl t_en)), (qu0, .inr (9, [.int u_cl, .int u_ln, .int u_pt, .ref qu1, .ref qu2, .ref qu3, .ref qu4])), (qu1, .inl (cI, 301, .inl u_code)), (qu2, .inl (cI, 4, .inl u_st)), (qu3, .inl (cI, 4, .inl u_en)), (qw0, .inr (9, [.int w_cl, .int w_ln, .int w_pt, .ref qw1, .ref qw2, .ref qw3, .ref qw4])), (qw1, .inl (cI, 301, .inl w_code)), (qw2, .inl (cI, 4, .inl w_st)), (qw3, .inl (cI, 4, .inl w_en)), (qx0, .inr (9, [.int x_cl, .int x_ln, .int x_pt, .ref qx1, .ref qx2, .ref qx3, .ref qx4])), (qx1, .inl (cI, 301, .inl x_code)), (qx2, .inl (cI, 4, .inl x_st)), (qx3, .inl (cI, 4, .inl x_en)), (qT, .inl (cT, 4, .inr (.inr (.inr (.inr (fT qt0 qu0 qw0 qx0)))))), (qL1, .inl (cI, 10, .inl l_names)), (qL2, .inl (cI, 64, .inl l_stack)), (qL0, .inr (3, [.ref qr0, .ref qT, .ref qL1, .ref qL2])), (qX0, .inr (11, [.ref qr0, .ref qk0, .ref qT, .ref qb0, .ref qe0, .ref qL0, .ref qf0, .ref qd0, .ref qn0, .ref qz0, .ref qD0, .ref qh0, .ref qD1, .ref qv0]))]) (As := [.int p1, .int (1 : Int32)]) (rest := []) hx hb hml hown hts hK hP hD hS hA (k_X1_get l N D cI cJ cZ cB cT qf0 qf1 qf2 qf3 f_row p1 (1 : Int32) r109 hg109) (kwX11_239 hts rfl rfl ⟨Nat.le_of_ble_eq_true rfl, Nat.le_of_ble_eq_true rfl⟩) [2, 3] [0, 1, 4, 5, 6, 7, 8, 9, 10, 11, 12, 13, 14, 15, 16, 17, 18, 19, 20, 21, 22, 23, 24, 25, 26] rfl rfl rfl (by decide) rfl 0 rfl rfl rfl rfl hl.1 rfl (Nat.le_of_ble_eq_true rfl) dX11_of_109 ⟨Nat.zero_le _, Nat.zero_le _⟩ (fun hB109 H locs hP hD hS => ?_)
      have hP := mP_sub (wc := (W_X_0t1_3t5_16_34t37_39t42_44t47_49t52_54_61t63_76 qd0 qd1 qf0 qf1 qf2 qr0 qt0 qt1 qt2 qt3 qu0 qu1 qu2 qu3 qw0 qw1 qw2 qw3 qx0 qx1 qx2 qx3 qT qL1 qL2 qL0 qX0 qd2 qf3 qz0 qn0 qt4 qu4 qw4 qx4 qk0 qb0 qe0 qD0 qh0 qD1 qv0 cI cJ cZ cB cT d_n d_for f_row f_fears r_tx r_rul t_cl t_ln t_pt t_code t_st t_en u_cl u_ln u_pt u_code u_st u_en w_cl w_ln w_pt w_code w_st w_en x_cl x_ln x_pt x_code x_st x_en l_names l_stack)) hP [0, 1, 25, 26, 2, 3, 4, 5, 6, 7, 8, 9, 10, 11, 12, 13, 14, 15, 16, 17, 18, 19, 20, 21, 22, 23, 24] rfl
      have hD := hD.sub (ws' := (W_X_0t1_3t5_16_34t37_39t42_44t47_49t52_54_61t63_76 qd0 qd1 qf0 qf1 qf2 qr0 qt0 qt1 qt2 qt3 qu0 qu1 qu2 qu3 qw0 qw1 qw2 qw3 qx0 qx1 qx2 qx3 qT qL1 qL2 qL0 qX0 qd2 qf3 qz0 qn0 qt4 qu4 qw4 qx4 qk0 qb0 qe0 qD0 qh0 qD1 qv0 cI cJ cZ cB cT d_n d_for f_row f_fears r_tx r_rul t_cl t_ln t_pt t_code t_st t_en u_cl u_ln u_pt u_code u_st u_en w_cl w_ln w_pt w_code w_st w_en x_cl x_ln x_pt x_code x_st x_en l_names l_stack)) [0, 1, 25, 26, 2, 3, 4, 5, 6, 7, 8, 9, 10, 11, 12, 13, 14, 15, 16, 17, 18, 19, 20, 21, 22, 23, 24] rfl rfl
      cases hf
      exact mret_i hx hb hr hlocks hP hD hS dX11_of_112 rfl trivial
    replace hf := (if_neg e24_2).symm.trans hf
    by_cases e24_3 : p2 = (3 : Int32)
    · replace hf := (if_pos e24_3).symm.trans hf
      refine lv_tableIn (off := 89) (tgt := 113) hx hb dX11_of_24 (by rw [e24_3]; decide) (by rw [e24_3]; decide) (by rw [e24_3]; rfl) (by decide) ?_
      refine lv_aload_n hx hb dX11_of_113 rfl (lv_at hl 1 rfl) ?_
      refine gfX11_54 hx hb hts hown hK hP 26 rfl rfl dX11_of_114 ?_
      refine lv_iload_n hx hb dX11_of_117 rfl (lv_at hl 2 rfl) ?_
      refine lv_iconst (v := (2 : Int32)) hx hb dX11_of_118 (by decide) ?_
      obtain ⟨r119, hg119, hf⟩ := ob1_some hf
      refine mcV_i (wr := [(qd0, .inr (2, [.int d_n, .ref qd1, .ref qd2])), (qd1, .inl (cI, 8, .inl d_for)), (qf2, .inl (cI, 6, .inl f_fears)), (qr0, .inr (6, [.ref qd0, .ref qf0, .ref qz0, .ref qn0, .int r_tx, .int r_rul])), (qt0, .inr (9, [.int t_cl, .int t_ln, .int t_pt, .ref qt1, .ref qt2, .ref qt3, .ref qt4])), (qt1, .inl (cI, 301, .inl t_code)), (qt2, .inl (cI, 4, .inl t_st)), (qt3, .inl (cI, 4, .inl t_en)), (qu0, .inr (9, [.int u_cl, .int u_ln, .int u_pt, .ref qu1, .ref qu2, .ref qu3, .ref qu4])), (qu1, .inl (cI, 301, .inl u_code)), (qu2, .inl (cI, 4, .inl u_st)), (qu3, .inl (cI, 4, .inl u_en)), (qw0, .inr (9, [.int w_cl, .int w_ln, .int w_pt, .ref qw1, .ref qw2, .ref qw3, .ref qw4])), (qw1, .inl (cI, 301, .inl w_code)), (qw2, .inl (cI, 4, .inl w_st)), (qw3, .inl (cI, 4, .inl w_en)), (qx0, .inr (9, [.int x_cl, .int x_ln, .int x_pt, .ref qx1, .ref qx2, .ref qx3, .ref qx4])), (qx1, .inl (cI, 301, .inl x_code)), (qx2, .inl (cI, 4, .inl x_st)), (qx3, .inl (cI, 4, .inl x_en)), (qT, .inl (cT, 4, .inr (.inr (.inr (.inr (fT qt0 qu0 qw0 qx0)))))), (qL1, .inl (cI, 10, .inl l_names)), (qL2, .inl (cI, 64, .inl l_stack)), (qL0, .inr (3, [.ref qr0, .ref qT, .ref qL1, .ref qL2])), (qX0, .inr (11, [.ref qr0, .ref qk0, .ref qT, .ref qb0, .ref qe0, .ref qL0, .ref qf0, .ref qd0, .ref qn0, .ref qz0, .ref qD0, .ref qh0, .ref qD1, .ref qv0]))]) (As := [.int p1, .int (2 : Int32)]) (rest := []) hx hb hml hown hts hK hP hD hS hA (k_X1_get l N D cI cJ cZ cB cT qf0 qf1 qf2 qf3 f_row p1 (2 : Int32) r119 hg119) (kwX11_239 hts rfl rfl ⟨Nat.le_of_ble_eq_true rfl, Nat.le_of_ble_eq_true rfl⟩) [2, 3] [0, 1, 4, 5, 6, 7, 8, 9, 10, 11, 12, 13, 14, 15, 16, 17, 18, 19, 20, 21, 22, 23, 24, 25, 26] rfl rfl rfl (by decide) rfl 0 rfl rfl rfl rfl hl.1 rfl (Nat.le_of_ble_eq_true rfl) dX11_of_119 ⟨Nat.zero_le _, Nat.zero_le _⟩ (fun hB119 H locs hP hD hS => ?_)
      have hP := mP_sub (wc := (W_X_0t1_3t5_16_34t37_39t42_44t47_49t52_54_61t63_76 qd0 qd1 qf0 qf1 qf2 qr0 qt0 qt1 qt2 qt3 qu0 qu1 qu2 qu3 qw0 qw1 qw2 qw3 qx0 qx1 qx2 qx3 qT qL1 qL2 qL0 qX0 qd2 qf3 qz0 qn0 qt4 qu4 qw4 qx4 qk0 qb0 qe0 qD0 qh0 qD1 qv0 cI cJ cZ cB cT d_n d_for f_row f_fears r_tx r_rul t_cl t_ln t_pt t_code t_st t_en u_cl u_ln u_pt u_code u_st u_en w_cl w_ln w_pt w_code w_st w_en x_cl x_ln x_pt x_code x_st x_en l_names l_stack)) hP [0, 1, 25, 26, 2, 3, 4, 5, 6, 7, 8, 9, 10, 11, 12, 13, 14, 15, 16, 17, 18, 19, 20, 21, 22, 23, 24] rfl
      have hD := hD.sub (ws' := (W_X_0t1_3t5_16_34t37_39t42_44t47_49t52_54_61t63_76 qd0 qd1 qf0 qf1 qf2 qr0 qt0 qt1 qt2 qt3 qu0 qu1 qu2 qu3 qw0 qw1 qw2 qw3 qx0 qx1 qx2 qx3 qT qL1 qL2 qL0 qX0 qd2 qf3 qz0 qn0 qt4 qu4 qw4 qx4 qk0 qb0 qe0 qD0 qh0 qD1 qv0 cI cJ cZ cB cT d_n d_for f_row f_fears r_tx r_rul t_cl t_ln t_pt t_code t_st t_en u_cl u_ln u_pt u_code u_st u_en w_cl w_ln w_pt w_code w_st w_en x_cl x_ln x_pt x_code x_st x_en l_names l_stack)) [0, 1, 25, 26, 2, 3, 4, 5, 6, 7, 8, 9, 10, 11, 12, 13, 14, 15, 16, 17, 18, 19, 20, 21, 22, 23, 24] rfl rfl
      cases hf
      exact mret_i hx hb hr hlocks hP hD hS dX11_of_122 rfl trivial
    replace hf := (if_neg e24_3).symm.trans hf
    by_cases e24_4 : p2 = (4 : Int32)
    · replace hf := (if_pos e24_4).symm.trans hf
      refine lv_tableIn (off := 99) (tgt := 123) hx hb dX11_of_24 (by rw [e24_4]; decide) (by rw [e24_4]; decide) (by rw [e24_4]; rfl) (by decide) ?_
      refine lv_aload_n hx hb dX11_of_123 rfl (lv_at hl 1 rfl) ?_
      refine gfX11_54 hx hb hts hown hK hP 26 rfl rfl dX11_of_124 ?_
      refine lv_iload_n hx hb dX11_of_127 rfl (lv_at hl 2 rfl) ?_
      refine lv_iconst (v := (3 : Int32)) hx hb dX11_of_128 (by decide) ?_
      obtain ⟨r129, hg129, hf⟩ := ob1_some hf
      refine mcV_i (wr := [(qd0, .inr (2, [.int d_n, .ref qd1, .ref qd2])), (qd1, .inl (cI, 8, .inl d_for)), (qf2, .inl (cI, 6, .inl f_fears)), (qr0, .inr (6, [.ref qd0, .ref qf0, .ref qz0, .ref qn0, .int r_tx, .int r_rul])), (qt0, .inr (9, [.int t_cl, .int t_ln, .int t_pt, .ref qt1, .ref qt2, .ref qt3, .ref qt4])), (qt1, .inl (cI, 301, .inl t_code)), (qt2, .inl (cI, 4, .inl t_st)), (qt3, .inl (cI, 4, .inl t_en)), (qu0, .inr (9, [.int u_cl, .int u_ln, .int u_pt, .ref qu1, .ref qu2, .ref qu3, .ref qu4])), (qu1, .inl (cI, 301, .inl u_code)), (qu2, .inl (cI, 4, .inl u_st)), (qu3, .inl (cI, 4, .inl u_en)), (qw0, .inr (9, [.int w_cl, .int w_ln, .int w_pt, .ref qw1, .ref qw2, .ref qw3, .ref qw4])), (qw1, .inl (cI, 301, .inl w_code)), (qw2, .inl (cI, 4, .inl w_st)), (qw3, .inl (cI, 4, .inl w_en)), (qx0, .inr (9, [.int x_cl, .int x_ln, .int x_pt, .ref qx1, .ref qx2, .ref qx3, .ref qx4])), (qx1, .inl (cI, 301, .inl x_code)), (qx2, .inl (cI, 4, .inl x_st)), (qx3, .inl (cI, 4, .inl x_en)), (qT, .inl (cT, 4, .inr (.inr (.inr (.inr (fT qt0 qu0 qw0 qx0)))))), (qL1, .inl (cI, 10, .inl l_names)), (qL2, .inl (cI, 64, .inl l_stack)), (qL0, .inr (3, [.ref qr0, .ref qT, .ref qL1, .ref qL2])), (qX0, .inr (11, [.ref qr0, .ref qk0, .ref qT, .ref qb0, .ref qe0, .ref qL0, .ref qf0, .ref qd0, .ref qn0, .ref qz0, .ref qD0, .ref qh0, .ref qD1, .ref qv0]))]) (As := [.int p1, .int (3 : Int32)]) (rest := []) hx hb hml hown hts hK hP hD hS hA (k_X1_get l N D cI cJ cZ cB cT qf0 qf1 qf2 qf3 f_row p1 (3 : Int32) r129 hg129) (kwX11_239 hts rfl rfl ⟨Nat.le_of_ble_eq_true rfl, Nat.le_of_ble_eq_true rfl⟩) [2, 3] [0, 1, 4, 5, 6, 7, 8, 9, 10, 11, 12, 13, 14, 15, 16, 17, 18, 19, 20, 21, 22, 23, 24, 25, 26] rfl rfl rfl (by decide) rfl 0 rfl rfl rfl rfl hl.1 rfl (Nat.le_of_ble_eq_true rfl) dX11_of_129 ⟨Nat.zero_le _, Nat.zero_le _⟩ (fun hB129 H locs hP hD hS => ?_)
      have hP := mP_sub (wc := (W_X_0t1_3t5_16_34t37_39t42_44t47_49t52_54_61t63_76 qd0 qd1 qf0 qf1 qf2 qr0 qt0 qt1 qt2 qt3 qu0 qu1 qu2 qu3 qw0 qw1 qw2 qw3 qx0 qx1 qx2 qx3 qT qL1 qL2 qL0 qX0 qd2 qf3 qz0 qn0 qt4 qu4 qw4 qx4 qk0 qb0 qe0 qD0 qh0 qD1 qv0 cI cJ cZ cB cT d_n d_for f_row f_fears r_tx r_rul t_cl t_ln t_pt t_code t_st t_en u_cl u_ln u_pt u_code u_st u_en w_cl w_ln w_pt w_code w_st w_en x_cl x_ln x_pt x_code x_st x_en l_names l_stack)) hP [0, 1, 25, 26, 2, 3, 4, 5, 6, 7, 8, 9, 10, 11, 12, 13, 14, 15, 16, 17, 18, 19, 20, 21, 22, 23, 24] rfl
      have hD := hD.sub (ws' := (W_X_0t1_3t5_16_34t37_39t42_44t47_49t52_54_61t63_76 qd0 qd1 qf0 qf1 qf2 qr0 qt0 qt1 qt2 qt3 qu0 qu1 qu2 qu3 qw0 qw1 qw2 qw3 qx0 qx1 qx2 qx3 qT qL1 qL2 qL0 qX0 qd2 qf3 qz0 qn0 qt4 qu4 qw4 qx4 qk0 qb0 qe0 qD0 qh0 qD1 qv0 cI cJ cZ cB cT d_n d_for f_row f_fears r_tx r_rul t_cl t_ln t_pt t_code t_st t_en u_cl u_ln u_pt u_code u_st u_en w_cl w_ln w_pt w_code w_st w_en x_cl x_ln x_pt x_code x_st x_en l_names l_stack)) [0, 1, 25, 26, 2, 3, 4, 5, 6, 7, 8, 9, 10, 11, 12, 13, 14, 15, 16, 17, 18, 19, 20, 21, 22, 23, 24] rfl rfl
      cases hf
      exact mret_i hx hb hr hlocks hP hD hS dX11_of_132 rfl trivial
    replace hf := (if_neg e24_4).symm.trans hf
    by_cases e24_5 : p2 = (5 : Int32)
    · replace hf := (if_pos e24_5).symm.trans hf
      refine lv_tableIn (off := 109) (tgt := 133) hx hb dX11_of_24 (by rw [e24_5]; decide) (by rw [e24_5]; decide) (by rw [e24_5]; rfl) (by decide) ?_
      refine lv_aload_n hx hb dX11_of_133 rfl (lv_at hl 1 rfl) ?_
      refine gfX11_54 hx hb hts hown hK hP 26 rfl rfl dX11_of_134 ?_
      refine lv_iload_n hx hb dX11_of_137 rfl (lv_at hl 2 rfl) ?_
      refine lv_iconst (v := (4 : Int32)) hx hb dX11_of_138 (by decide) ?_
      obtain ⟨r139, hg139, hf⟩ := ob1_some hf
      refine mcV_i (wr := [(qd0, .inr (2, [.int d_n, .ref qd1, .ref qd2])), (qd1, .inl (cI, 8, .inl d_for)), (qf2, .inl (cI, 6, .inl f_fears)), (qr0, .inr (6, [.ref qd0, .ref qf0, .ref qz0, .ref qn0, .int r_tx, .int r_rul])), (qt0, .inr (9, [.int t_cl, .int t_ln, .int t_pt, .ref qt1, .ref qt2, .ref qt3, .ref qt4])), (qt1, .inl (cI, 301, .inl t_code)), (qt2, .inl (cI, 4, .inl t_st)), (qt3, .inl (cI, 4, .inl t_en)), (qu0, .inr (9, [.int u_cl, .int u_ln, .int u_pt, .ref qu1, .ref qu2, .ref qu3, .ref qu4])), (qu1, .inl (cI, 301, .inl u_code)), (qu2, .inl (cI, 4, .inl u_st)), (qu3, .inl (cI, 4, .inl u_en)), (qw0, .inr (9, [.int w_cl, .int w_ln, .int w_pt, .ref qw1, .ref qw2, .ref qw3, .ref qw4])), (qw1, .inl (cI, 301, .inl w_code)), (qw2, .inl (cI, 4, .inl w_st)), (qw3, .inl (cI, 4, .inl w_en)), (qx0, .inr (9, [.int x_cl, .int x_ln, .int x_pt, .ref qx1, .ref qx2, .ref qx3, .ref qx4])), (qx1, .inl (cI, 301, .inl x_code)), (qx2, .inl (cI, 4, .inl x_st)), (qx3, .inl (cI, 4, .inl x_en)), (qT, .inl (cT, 4, .inr (.inr (.inr (.inr (fT qt0 qu0 qw0 qx0)))))), (qL1, .inl (cI, 10, .inl l_names)), (qL2, .inl (cI, 64, .inl l_stack)), (qL0, .inr (3, [.ref qr0, .ref qT, .ref qL1, .ref qL2])), (qX0, .inr (11, [.ref qr0, .ref qk0, .ref qT, .ref qb0, .ref qe0, .ref qL0, .ref qf0, .ref qd0, .ref qn0, .ref qz0, .ref qD0, .ref qh0, .ref qD1, .ref qv0]))]) (As := [.int p1, .int (4 : Int32)]) (rest := []) hx hb hml hown hts hK hP hD hS hA (k_X1_get l N D cI cJ cZ cB cT qf0 qf1 qf2 qf3 f_row p1 (4 : Int32) r139 hg139) (kwX11_239 hts rfl rfl ⟨Nat.le_of_ble_eq_true rfl, Nat.le_of_ble_eq_true rfl⟩) [2, 3] [0, 1, 4, 5, 6, 7, 8, 9, 10, 11, 12, 13, 14, 15, 16, 17, 18, 19, 20, 21, 22, 23, 24, 25, 26] rfl rfl rfl (by decide) rfl 0 rfl rfl rfl rfl hl.1 rfl (Nat.le_of_ble_eq_true rfl) dX11_of_139 ⟨Nat.zero_le _, Nat.zero_le _⟩ (fun hB139 H locs hP hD hS => ?_)
      have hP := mP_sub (wc := (W_X_0t1_3t5_16_34t37_39t42_44t47_49t52_54_61t63_76 qd0 qd1 qf0 qf1 qf2 qr0 qt0 qt1 qt2 qt3 qu0 qu1 qu2 qu3 qw0 qw1 qw2 qw3 qx0 qx1 qx2 qx3 qT qL1 qL2 qL0 qX0 qd2 qf3 qz0 qn0 qt4 qu4 qw4 qx4 qk0 qb0 qe0 qD0 qh0 qD1 qv0 cI cJ cZ cB cT d_n d_for f_row f_fears r_tx r_rul t_cl t_ln t_pt t_code t_st t_en u_cl u_ln u_pt u_code u_st u_en w_cl w_ln w_pt w_code w_st w_en x_cl x_ln x_pt x_code x_st x_en l_names l_stack)) hP [0, 1, 25, 26, 2, 3, 4, 5, 6, 7, 8, 9, 10, 11, 12, 13, 14, 15, 16, 17, 18, 19, 20, 21, 22, 23, 24] rfl
      have hD := hD.sub (ws' := (W_X_0t1_3t5_16_34t37_39t42_44t47_49t52_54_61t63_76 qd0 qd1 qf0 qf1 qf2 qr0 qt0 qt1 qt2 qt3 qu0 qu1 qu2 qu3 qw0 qw1 qw2 qw3 qx0 qx1 qx2 qx3 qT qL1 qL2 qL0 qX0 qd2 qf3 qz0 qn0 qt4 qu4 qw4 qx4 qk0 qb0 qe0 qD0 qh0 qD1 qv0 cI cJ cZ cB cT d_n d_for f_row f_fears r_tx r_rul t_cl t_ln t_pt t_code t_st t_en u_cl u_ln u_pt u_code u_st u_en w_cl w_ln w_pt w_code w_st w_en x_cl x_ln x_pt x_code x_st x_en l_names l_stack)) [0, 1, 25, 26, 2, 3, 4, 5, 6, 7, 8, 9, 10, 11, 12, 13, 14, 15, 16, 17, 18, 19, 20, 21, 22, 23, 24] rfl rfl
      cases hf
      exact mret_i hx hb hr hlocks hP hD hS dX11_of_142 rfl trivial
    replace hf := (if_neg e24_5).symm.trans hf
    by_cases e24_6 : p2 = (6 : Int32)
    · replace hf := (if_pos e24_6).symm.trans hf
      refine lv_tableIn (off := 119) (tgt := 143) hx hb dX11_of_24 (by rw [e24_6]; decide) (by rw [e24_6]; decide) (by rw [e24_6]; rfl) (by decide) ?_
      refine lv_aload_n hx hb dX11_of_143 rfl (lv_at hl 1 rfl) ?_
      refine gfX11_54 hx hb hts hown hK hP 26 rfl rfl dX11_of_144 ?_
      refine lv_iload_n hx hb dX11_of_147 rfl (lv_at hl 2 rfl) ?_
      refine lv_iconst (v := (5 : Int32)) hx hb dX11_of_148 (by decide) ?_
      obtain ⟨r149, hg149, hf⟩ := ob1_some hf
      refine mcV_i (wr := [(qd0, .inr (2, [.int d_n, .ref qd1, .ref qd2])), (qd1, .inl (cI, 8, .inl d_for)), (qf2, .inl (cI, 6, .inl f_fears)), (qr0, .inr (6, [.ref qd0, .ref qf0, .ref qz0, .ref qn0, .int r_tx, .int r_rul])), (qt0, .inr (9, [.int t_cl, .int t_ln, .int t_pt, .ref qt1, .ref qt2, .ref qt3, .ref qt4])), (qt1, .inl (cI, 301, .inl t_code)), (qt2, .inl (cI, 4, .inl t_st)), (qt3, .inl (cI, 4, .inl t_en)), (qu0, .inr (9, [.int u_cl, .int u_ln, .int u_pt, .ref qu1, .ref qu2, .ref qu3, .ref qu4])), (qu1, .inl (cI, 301, .inl u_code)), (qu2, .inl (cI, 4, .inl u_st)), (qu3, .inl (cI, 4, .inl u_en)), (qw0, .inr (9, [.int w_cl, .int w_ln, .int w_pt, .ref qw1, .ref qw2, .ref qw3, .ref qw4])), (qw1, .inl (cI, 301, .inl w_code)), (qw2, .inl (cI, 4, .inl w_st)), (qw3, .inl (cI, 4, .inl w_en)), (qx0, .inr (9, [.int x_cl, .int x_ln, .int x_pt, .ref qx1, .ref qx2, .ref qx3, .ref qx4])), (qx1, .inl (cI, 301, .inl x_code)), (qx2, .inl (cI, 4, .inl x_st)), (qx3, .inl (cI, 4, .inl x_en)), (qT, .inl (cT, 4, .inr (.inr (.inr (.inr (fT qt0 qu0 qw0 qx0)))))), (qL1, .inl (cI, 10, .inl l_names)), (qL2, .inl (cI, 64, .inl l_stack)), (qL0, .inr (3, [.ref qr0, .ref qT, .ref qL1, .ref qL2])), (qX0, .inr (11, [.ref qr0, .ref qk0, .ref qT, .ref qb0, .ref qe0, .ref qL0, .ref qf0, .ref qd0, .ref qn0, .ref qz0, .ref qD0, .ref qh0, .ref qD1, .ref qv0]))]) (As := [.int p1, .int (5 : Int32)]) (rest := []) hx hb hml hown hts hK hP hD hS hA (k_X1_get l N D cI cJ cZ cB cT qf0 qf1 qf2 qf3 f_row p1 (5 : Int32) r149 hg149) (kwX11_239 hts rfl rfl ⟨Nat.le_of_ble_eq_true rfl, Nat.le_of_ble_eq_true rfl⟩) [2, 3] [0, 1, 4, 5, 6, 7, 8, 9, 10, 11, 12, 13, 14, 15, 16, 17, 18, 19, 20, 21, 22, 23, 24, 25, 26] rfl rfl rfl (by decide) rfl 0 rfl rfl rfl rfl hl.1 rfl (Nat.le_of_ble_eq_true rfl) dX11_of_149 ⟨Nat.zero_le _, Nat.zero_le _⟩ (fun hB149 H locs hP hD hS => ?_)
      have hP := mP_sub (wc := (W_X_0t1_3t5_16_34t37_39t42_44t47_49t52_54_61t63_76 qd0 qd1 qf0 qf1 qf2 qr0 qt0 qt1 qt2 qt3 qu0 qu1 qu2 qu3 qw0 qw1 qw2 qw3 qx0 qx1 qx2 qx3 qT qL1 qL2 qL0 qX0 qd2 qf3 qz0 qn0 qt4 qu4 qw4 qx4 qk0 qb0 qe0 qD0 qh0 qD1 qv0 cI cJ cZ cB cT d_n d_for f_row f_fears r_tx r_rul t_cl t_ln t_pt t_code t_st t_en u_cl u_ln u_pt u_code u_st u_en w_cl w_ln w_pt w_code w_st w_en x_cl x_ln x_pt x_code x_st x_en l_names l_stack)) hP [0, 1, 25, 26, 2, 3, 4, 5, 6, 7, 8, 9, 10, 11, 12, 13, 14, 15, 16, 17, 18, 19, 20, 21, 22, 23, 24] rfl
      have hD := hD.sub (ws' := (W_X_0t1_3t5_16_34t37_39t42_44t47_49t52_54_61t63_76 qd0 qd1 qf0 qf1 qf2 qr0 qt0 qt1 qt2 qt3 qu0 qu1 qu2 qu3 qw0 qw1 qw2 qw3 qx0 qx1 qx2 qx3 qT qL1 qL2 qL0 qX0 qd2 qf3 qz0 qn0 qt4 qu4 qw4 qx4 qk0 qb0 qe0 qD0 qh0 qD1 qv0 cI cJ cZ cB cT d_n d_for f_row f_fears r_tx r_rul t_cl t_ln t_pt t_code t_st t_en u_cl u_ln u_pt u_code u_st u_en w_cl w_ln w_pt w_code w_st w_en x_cl x_ln x_pt x_code x_st x_en l_names l_stack)) [0, 1, 25, 26, 2, 3, 4, 5, 6, 7, 8, 9, 10, 11, 12, 13, 14, 15, 16, 17, 18, 19, 20, 21, 22, 23, 24] rfl rfl
      cases hf
      exact mret_i hx hb hr hlocks hP hD hS dX11_of_152 rfl trivial
    replace hf := (if_neg e24_6).symm.trans hf
    by_cases e24_7 : p2 = (7 : Int32)
    · replace hf := (if_pos e24_7).symm.trans hf
      refine lv_tableIn (off := 129) (tgt := 153) hx hb dX11_of_24 (by rw [e24_7]; decide) (by rw [e24_7]; decide) (by rw [e24_7]; rfl) (by decide) ?_
      refine lv_aload_n hx hb dX11_of_153 rfl (lv_at hl 1 rfl) ?_
      refine gfX11_54 hx hb hts hown hK hP 26 rfl rfl dX11_of_154 ?_
      refine lv_iload_n hx hb dX11_of_157 rfl (lv_at hl 2 rfl) ?_
      refine lv_bipush (v := (6 : Int32)) hx hb dX11_of_158 (by decide) ?_
      obtain ⟨r160, hg160, hf⟩ := ob1_some hf
      refine mcV_i (wr := [(qd0, .inr (2, [.int d_n, .ref qd1, .ref qd2])), (qd1, .inl (cI, 8, .inl d_for)), (qf2, .inl (cI, 6, .inl f_fears)), (qr0, .inr (6, [.ref qd0, .ref qf0, .ref qz0, .ref qn0, .int r_tx, .int r_rul])), (qt0, .inr (9, [.int t_cl, .int t_ln, .int t_pt, .ref qt1, .ref qt2, .ref qt3, .ref qt4])), (qt1, .inl (cI, 301, .inl t_code)), (qt2, .inl (cI, 4, .inl t_st)), (qt3, .inl (cI, 4, .inl t_en)), (qu0, .inr (9, [.int u_cl, .int u_ln, .int u_pt, .ref qu1, .ref qu2, .ref qu3, .ref qu4])), (qu1, .inl (cI, 301, .inl u_code)), (qu2, .inl (cI, 4, .inl u_st)), (qu3, .inl (cI, 4, .inl u_en)), (qw0, .inr (9, [.int w_cl, .int w_ln, .int w_pt, .ref qw1, .ref qw2, .ref qw3, .ref qw4])), (qw1, .inl (cI, 301, .inl w_code)), (qw2, .inl (cI, 4, .inl w_st)), (qw3, .inl (cI, 4, .inl w_en)), (qx0, .inr (9, [.int x_cl, .int x_ln, .int x_pt, .ref qx1, .ref qx2, .ref qx3, .ref qx4])), (qx1, .inl (cI, 301, .inl x_code)), (qx2, .inl (cI, 4, .inl x_st)), (qx3, .inl (cI, 4, .inl x_en)), (qT, .inl (cT, 4, .inr (.inr (.inr (.inr (fT qt0 qu0 qw0 qx0)))))), (qL1, .inl (cI, 10, .inl l_names)), (qL2, .inl (cI, 64, .inl l_stack)), (qL0, .inr (3, [.ref qr0, .ref qT, .ref qL1, .ref qL2])), (qX0, .inr (11, [.ref qr0, .ref qk0, .ref qT, .ref qb0, .ref qe0, .ref qL0, .ref qf0, .ref qd0, .ref qn0, .ref qz0, .ref qD0, .ref qh0, .ref qD1, .ref qv0]))]) (As := [.int p1, .int (6 : Int32)]) (rest := []) hx hb hml hown hts hK hP hD hS hA (k_X1_get l N D cI cJ cZ cB cT qf0 qf1 qf2 qf3 f_row p1 (6 : Int32) r160 hg160) (kwX11_239 hts rfl rfl ⟨Nat.le_of_ble_eq_true rfl, Nat.le_of_ble_eq_true rfl⟩) [2, 3] [0, 1, 4, 5, 6, 7, 8, 9, 10, 11, 12, 13, 14, 15, 16, 17, 18, 19, 20, 21, 22, 23, 24, 25, 26] rfl rfl rfl (by decide) rfl 0 rfl rfl rfl rfl hl.1 rfl (Nat.le_of_ble_eq_true rfl) dX11_of_160 ⟨Nat.zero_le _, Nat.zero_le _⟩ (fun hB160 H locs hP hD hS => ?_)
      have hP := mP_sub (wc := (W_X_0t1_3t5_16_34t37_39t42_44t47_49t52_54_61t63_76 qd0 qd1 qf0 qf1 qf2 qr0 qt0 qt1 qt2 qt3 qu0 qu1 qu2 qu3 qw0 qw1 qw2 qw3 qx0 qx1 qx2 qx3 qT qL1 qL2 qL0 qX0 qd2 qf3 qz0 qn0 qt4 qu4 qw4 qx4 qk0 qb0 qe0 qD0 qh0 qD1 qv0 cI cJ cZ cB cT d_n d_for f_row f_fears r_tx r_rul t_cl t_ln t_pt t_code t_st t_en u_cl u_ln u_pt u_code u_st u_en w_cl w_ln w_pt w_code w_st w_en x_cl x_ln x_pt x_code x_st x_en l_names l_stack)) hP [0, 1, 25, 26, 2, 3, 4, 5, 6, 7, 8, 9, 10, 11, 12, 13, 14, 15, 16, 17, 18, 19, 20, 21, 22, 23, 24] rfl
      have hD := hD.sub (ws' := (W_X_0t1_3t5_16_34t37_39t42_44t47_49t52_54_61t63_76 qd0 qd1 qf0 qf1 qf2 qr0 qt0 qt1 qt2 qt3 qu0 qu1 qu2 qu3 qw0 qw1 qw2 qw3 qx0 qx1 qx2 qx3 qT qL1 qL2 qL0 qX0 qd2 qf3 qz0 qn0 qt4 qu4 qw4 qx4 qk0 qb0 qe0 qD0 qh0 qD1 qv0 cI cJ cZ cB cT d_n d_for f_row f_fears r_tx r_rul t_cl t_ln t_pt t_code t_st t_en u_cl u_ln u_pt u_code u_st u_en w_cl w_ln w_pt w_code w_st w_en x_cl x_ln x_pt x_code x_st x_en l_names l_stack)) [0, 1, 25, 26, 2, 3, 4, 5, 6, 7, 8, 9, 10, 11, 12, 13, 14, 15, 16, 17, 18, 19, 20, 21, 22, 23, 24] rfl rfl
      cases hf
      exact mret_i hx hb hr hlocks hP hD hS dX11_of_163 rfl trivial
    replace hf := (if_neg e24_7).symm.trans hf
    by_cases e24_8 : p2 = (8 : Int32)
    · replace hf := (if_pos e24_8).symm.trans hf
      refine lv_tableIn (off := 140) (tgt := 164) hx hb dX11_of_24 (by rw [e24_8]; decide) (by rw [e24_8]; decide) (by rw [e24_8]; rfl) (by decide) ?_
      refine lv_aload_n hx hb dX11_of_164 rfl (lv_at hl 1 rfl) ?_
      refine gfX11_46 hx hb hts hown hK hP 26 rfl rfl dX11_of_165 ?_
      refine lv_aload_n hx hb dX11_of_168 rfl (lv_at hl 1 rfl) ?_
      refine gfX11_10 hx hb hts hown hK hP 26 rfl rfl dX11_of_169 ?_
      refine gfX11_140 hx hb hts hown hK hP 5 rfl rfl dX11_of_172 ?_
      refine lv_iconst (v := (0 : Int32)) hx hb dX11_of_175 (by decide) ?_
      refine lv_aload_n hx hb dX11_of_176 rfl (lv_at hl 1 rfl) ?_
      refine gfX11_54 hx hb hts hown hK hP 26 rfl rfl dX11_of_177 ?_
      refine lv_iload_n hx hb dX11_of_180 rfl (lv_at hl 2 rfl) ?_
      refine lv_iload_n hx hb dX11_of_181 rfl (lv_at hl 0 rfl) ?_
      obtain ⟨r182, l_names_182, l_stack_182, hg182, hf⟩ := ob3_some hf
      refine mcVE_i (wr := [(qX0, .inr (11, [.ref qr0, .ref qk0, .ref qT, .ref qb0, .ref qe0, .ref qL0, .ref qf0, .ref qd0, .ref qn0, .ref qz0, .ref qD0, .ref qh0, .ref qD1, .ref qv0]))]) (As := [.int r_rul, .int (0 : Int32), .ref qf0, .int p1, .int r19]) (rest := []) hx hb hml hown hts hK hP hD hS hA hE (k_X3_rule l N D cI cJ cZ cB cT qd0 qd1 qt0 qt1 qt2 qt3 qu0 qu1 qu2 qu3 qw0 qw1 qw2 qw3 qx0 qx1 qx2 qx3 qT qf0 qf1 qf2 qr0 qL1 qL2 qL0 qd2 qt4 qu4 qw4 qx4 qf3 qf0 qz0 qn0 d_n d_for t_cl t_ln t_pt t_code t_st t_en u_cl u_ln u_pt u_code u_st u_en w_cl w_ln w_pt w_code w_st w_en x_cl x_ln x_pt x_code x_st x_en f_row f_fears r_tx r_rul l_names l_stack r_rul (0 : Int32) p1 r19 r182 l_names_182 l_stack_182 hg182) (kwX11_245 hts rfl rfl ⟨Nat.le_of_ble_eq_true rfl, Nat.le_of_ble_eq_true rfl⟩) [0, 1, 6, 7, 8, 9, 10, 11, 12, 13, 14, 15, 16, 17, 18, 19, 20, 21, 22, 2, 3, 4, 5, 23, 24, 25] [26] rfl rfl rfl (by decide) rfl 25 rfl rfl rfl rfl hl.1 rfl (Nat.le_of_ble_eq_true rfl) dX11_of_182 ⟨Nat.zero_le _, Nat.zero_le _⟩ (fun hB182 H locs hP hD hS => ?_)
      have hP := mP_sub (wc := (W_X_0t1_3t5_16_34t37_39t42_44t47_49t52_54_61t63_76 qd0 qd1 qf0 qf1 qf2 qr0 qt0 qt1 qt2 qt3 qu0 qu1 qu2 qu3 qw0 qw1 qw2 qw3 qx0 qx1 qx2 qx3 qT qL1 qL2 qL0 qX0 qd2 qf3 qz0 qn0 qt4 qu4 qw4 qx4 qk0 qb0 qe0 qD0 qh0 qD1 qv0 cI cJ cZ cB cT d_n d_for f_row f_fears r_tx r_rul t_cl t_ln t_pt t_code t_st t_en u_cl u_ln u_pt u_code u_st u_en w_cl w_ln w_pt w_code w_st w_en x_cl x_ln x_pt x_code x_st x_en l_names_182 l_stack_182)) hP [1, 2, 20, 21, 22, 23, 3, 4, 5, 6, 7, 8, 9, 10, 11, 12, 13, 14, 15, 16, 17, 18, 19, 24, 25, 26, 0] rfl
      have hD := hD.sub (ws' := (W_X_0t1_3t5_16_34t37_39t42_44t47_49t52_54_61t63_76 qd0 qd1 qf0 qf1 qf2 qr0 qt0 qt1 qt2 qt3 qu0 qu1 qu2 qu3 qw0 qw1 qw2 qw3 qx0 qx1 qx2 qx3 qT qL1 qL2 qL0 qX0 qd2 qf3 qz0 qn0 qt4 qu4 qw4 qx4 qk0 qb0 qe0 qD0 qh0 qD1 qv0 cI cJ cZ cB cT d_n d_for f_row f_fears r_tx r_rul t_cl t_ln t_pt t_code t_st t_en u_cl u_ln u_pt u_code u_st u_en w_cl w_ln w_pt w_code w_st w_en x_cl x_ln x_pt x_code x_st x_en l_names_182 l_stack_182)) [1, 2, 20, 21, 22, 23, 3, 4, 5, 6, 7, 8, 9, 10, 11, 12, 13, 14, 15, 16, 17, 18, 19, 24, 25, 26, 0] rfl rfl
      cases hf
      exact mret_i hx hb hr hlocks hP hD hS dX11_of_185 rfl trivial
    replace hf := (if_neg e24_8).symm.trans hf
    by_cases e24_9 : p2 = (9 : Int32)
    · replace hf := (if_pos e24_9).symm.trans hf
      refine lv_tableIn (off := 162) (tgt := 186) hx hb dX11_of_24 (by rw [e24_9]; decide) (by rw [e24_9]; decide) (by rw [e24_9]; rfl) (by decide) ?_
      refine lv_aload_n hx hb dX11_of_186 rfl (lv_at hl 1 rfl) ?_
      refine gfX11_46 hx hb hts hown hK hP 26 rfl rfl dX11_of_187 ?_
      refine lv_aload_n hx hb dX11_of_190 rfl (lv_at hl 1 rfl) ?_
      refine gfX11_10 hx hb hts hown hK hP 26 rfl rfl dX11_of_191 ?_
      refine gfX11_140 hx hb hts hown hK hP 5 rfl rfl dX11_of_194 ?_
      refine lv_iconst (v := (1 : Int32)) hx hb dX11_of_197 (by decide) ?_
      refine lv_aload_n hx hb dX11_of_198 rfl (lv_at hl 1 rfl) ?_
      refine gfX11_54 hx hb hts hown hK hP 26 rfl rfl dX11_of_199 ?_
      refine lv_iload_n hx hb dX11_of_202 rfl (lv_at hl 2 rfl) ?_
      refine lv_iload_n hx hb dX11_of_203 rfl (lv_at hl 0 rfl) ?_
      obtain ⟨r204, l_names_204, l_stack_204, hg204, hf⟩ := ob3_some hf
      refine mcVE_i (wr := [(qX0, .inr (11, [.ref qr0, .ref qk0, .ref qT, .ref qb0, .ref qe0, .ref qL0, .ref qf0, .ref qd0, .ref qn0, .ref qz0, .ref qD0, .ref qh0, .ref qD1, .ref qv0]))]) (As := [.int r_rul, .int (1 : Int32), .ref qf0, .int p1, .int r19]) (rest := []) hx hb hml hown hts hK hP hD hS hA hE (k_X3_rule l N D cI cJ cZ cB cT qd0 qd1 qt0 qt1 qt2 qt3 qu0 qu1 qu2 qu3 qw0 qw1 qw2 qw3 qx0 qx1 qx2 qx3 qT qf0 qf1 qf2 qr0 qL1 qL2 qL0 qd2 qt4 qu4 qw4 qx4 qf3 qf0 qz0 qn0 d_n d_for t_cl t_ln t_pt t_code t_st t_en u_cl u_ln u_pt u_code u_st u_en w_cl w_ln w_pt w_code w_st w_en x_cl x_ln x_pt x_code x_st x_en f_row f_fears r_tx r_rul l_names l_stack r_rul (1 : Int32) p1 r19 r204 l_names_204 l_stack_204 hg204) (kwX11_245 hts rfl rfl ⟨Nat.le_of_ble_eq_true rfl, Nat.le_of_ble_eq_true rfl⟩) [0, 1, 6, 7, 8, 9, 10, 11, 12, 13, 14, 15, 16, 17, 18, 19, 20, 21, 22, 2, 3, 4, 5, 23, 24, 25] [26] rfl rfl rfl (by decide) rfl 25 rfl rfl rfl rfl hl.1 rfl (Nat.le_of_ble_eq_true rfl) dX11_of_204 ⟨Nat.zero_le _, Nat.zero_le _⟩ (fun hB204 H locs hP hD hS => ?_)
      have hP := mP_sub (wc := (W_X_0t1_3t5_16_34t37_39t42_44t47_49t52_54_61t63_76 qd0 qd1 qf0 qf1 qf2 qr0 qt0 qt1 qt2 qt3 qu0 qu1 qu2 qu3 qw0 qw1 qw2 qw3 qx0 qx1 qx2 qx3 qT qL1 qL2 qL0 qX0 qd2 qf3 qz0 qn0 qt4 qu4 qw4 qx4 qk0 qb0 qe0 qD0 qh0 qD1 qv0 cI cJ cZ cB cT d_n d_for f_row f_fears r_tx r_rul t_cl t_ln t_pt t_code t_st t_en u_cl u_ln u_pt u_code u_st u_en w_cl w_ln w_pt w_code w_st w_en x_cl x_ln x_pt x_code x_st x_en l_names_204 l_stack_204)) hP [1, 2, 20, 21, 22, 23, 3, 4, 5, 6, 7, 8, 9, 10, 11, 12, 13, 14, 15, 16, 17, 18, 19, 24, 25, 26, 0] rfl
      have hD := hD.sub (ws' := (W_X_0t1_3t5_16_34t37_39t42_44t47_49t52_54_61t63_76 qd0 qd1 qf0 qf1 qf2 qr0 qt0 qt1 qt2 qt3 qu0 qu1 qu2 qu3 qw0 qw1 qw2 qw3 qx0 qx1 qx2 qx3 qT qL1 qL2 qL0 qX0 qd2 qf3 qz0 qn0 qt4 qu4 qw4 qx4 qk0 qb0 qe0 qD0 qh0 qD1 qv0 cI cJ cZ cB cT d_n d_for f_row f_fears r_tx r_rul t_cl t_ln t_pt t_code t_st t_en u_cl u_ln u_pt u_code u_st u_en w_cl w_ln w_pt w_code w_st w_en x_cl x_ln x_pt x_code x_st x_en l_names_204 l_stack_204)) [1, 2, 20, 21, 22, 23, 3, 4, 5, 6, 7, 8, 9, 10, 11, 12, 13, 14, 15, 16, 17, 18, 19, 24, 25, 26, 0] rfl rfl
      cases hf
      exact mret_i hx hb hr hlocks hP hD hS dX11_of_207 rfl trivial
    replace hf := (if_neg e24_9).symm.trans hf
    by_cases e24_10 : p2 = (10 : Int32)
    · replace hf := (if_pos e24_10).symm.trans hf
      refine lv_tableIn (off := 184) (tgt := 208) hx hb dX11_of_24 (by rw [e24_10]; decide) (by rw [e24_10]; decide) (by rw [e24_10]; rfl) (by decide) ?_
      refine lv_aload_n hx hb dX11_of_208 rfl (lv_at hl 1 rfl) ?_
      refine gfX11_46 hx hb hts hown hK hP 26 rfl rfl dX11_of_209 ?_
      refine lv_aload_n hx hb dX11_of_212 rfl (lv_at hl 1 rfl) ?_
      refine gfX11_10 hx hb hts hown hK hP 26 rfl rfl dX11_of_213 ?_
      refine gfX11_140 hx hb hts hown hK hP 5 rfl rfl dX11_of_216 ?_
      refine lv_iconst (v := (2 : Int32)) hx hb dX11_of_219 (by decide) ?_
      refine lv_aload_n hx hb dX11_of_220 rfl (lv_at hl 1 rfl) ?_
      refine gfX11_54 hx hb hts hown hK hP 26 rfl rfl dX11_of_221 ?_
      refine lv_iload_n hx hb dX11_of_224 rfl (lv_at hl 2 rfl) ?_
      refine lv_iload_n hx hb dX11_of_225 rfl (lv_at hl 0 rfl) ?_
      obtain ⟨r226, l_names_226, l_stack_226, hg226, hf⟩ := ob3_some hf
      refine mcVE_i (wr := [(qX0, .inr (11, [.ref qr0, .ref qk0, .ref qT, .ref qb0, .ref qe0, .ref qL0, .ref qf0, .ref qd0, .ref qn0, .ref qz0, .ref qD0, .ref qh0, .ref qD1, .ref qv0]))]) (As := [.int r_rul, .int (2 : Int32), .ref qf0, .int p1, .int r19]) (rest := []) hx hb hml hown hts hK hP hD hS hA hE (k_X3_rule l N D cI cJ cZ cB cT qd0 qd1 qt0 qt1 qt2 qt3 qu0 qu1 qu2 qu3 qw0 qw1 qw2 qw3 qx0 qx1 qx2 qx3 qT qf0 qf1 qf2 qr0 qL1 qL2 qL0 qd2 qt4 qu4 qw4 qx4 qf3 qf0 qz0 qn0 d_n d_for t_cl t_ln t_pt t_code t_st t_en u_cl u_ln u_pt u_code u_st u_en w_cl w_ln w_pt w_code w_st w_en x_cl x_ln x_pt x_code x_st x_en f_row f_fears r_tx r_rul l_names l_stack r_rul (2 : Int32) p1 r19 r226 l_names_226 l_stack_226 hg226) (kwX11_245 hts rfl rfl ⟨Nat.le_of_ble_eq_true rfl, Nat.le_of_ble_eq_true rfl⟩) [0, 1, 6, 7, 8, 9, 10, 11, 12, 13, 14, 15, 16, 17, 18, 19, 20, 21, 22, 2, 3, 4, 5, 23, 24, 25] [26] rfl rfl rfl (by decide) rfl 25 rfl rfl rfl rfl hl.1 rfl (Nat.le_of_ble_eq_true rfl) dX11_of_226 ⟨Nat.zero_le _, Nat.zero_le _⟩ (fun hB226 H locs hP hD hS => ?_)
      have hP := mP_sub (wc := (W_X_0t1_3t5_16_34t37_39t42_44t47_49t52_54_61t63_76 qd0 qd1 qf0 qf1 qf2 qr0 qt0 qt1 qt2 qt3 qu0 qu1 qu2 qu3 qw0 qw1 qw2 qw3 qx0 qx1 qx2 qx3 qT qL1 qL2 qL0 qX0 qd2 qf3 qz0 qn0 qt4 qu4 qw4 qx4 qk0 qb0 qe0 qD0 qh0 qD1 qv0 cI cJ cZ cB cT d_n d_for f_row f_fears r_tx r_rul t_cl t_ln t_pt t_code t_st t_en u_cl u_ln u_pt u_code u_st u_en w_cl w_ln w_pt w_code w_st w_en x_cl x_ln x_pt x_code x_st x_en l_names_226 l_stack_226)) hP [1, 2, 20, 21, 22, 23, 3, 4, 5, 6, 7, 8, 9, 10, 11, 12, 13, 14, 15, 16, 17, 18, 19, 24, 25, 26, 0] rfl
      have hD := hD.sub (ws' := (W_X_0t1_3t5_16_34t37_39t42_44t47_49t52_54_61t63_76 qd0 qd1 qf0 qf1 qf2 qr0 qt0 qt1 qt2 qt3 qu0 qu1 qu2 qu3 qw0 qw1 qw2 qw3 qx0 qx1 qx2 qx3 qT qL1 qL2 qL0 qX0 qd2 qf3 qz0 qn0 qt4 qu4 qw4 qx4 qk0 qb0 qe0 qD0 qh0 qD1 qv0 cI cJ cZ cB cT d_n d_for f_row f_fears r_tx r_rul t_cl t_ln t_pt t_code t_st t_en u_cl u_ln u_pt u_code u_st u_en w_cl w_ln w_pt w_code w_st w_en x_cl x_ln x_pt x_code x_st x_en l_names_226 l_stack_226)) [1, 2, 20, 21, 22, 23, 3, 4, 5, 6, 7, 8, 9, 10, 11, 12, 13, 14, 15, 16, 17, 18, 19, 24, 25, 26, 0] rfl rfl
      cases hf
      exact mret_i hx hb hr hlocks hP hD hS dX11_of_229 rfl trivial
    replace hf := (if_neg e24_10).symm.trans hf
    by_cases e24_11 : p2 = (11 : Int32)
    · replace hf := (if_pos e24_11).symm.trans hf
      refine lv_tableIn (off := 206) (tgt := 230) hx hb dX11_of_24 (by rw [e24_11]; decide) (by rw [e24_11]; decide) (by rw [e24_11]; rfl) (by decide) ?_
      refine lv_aload_n hx hb dX11_of_230 rfl (lv_at hl 1 rfl) ?_
      refine gfX11_46 hx hb hts hown hK hP 26 rfl rfl dX11_of_231 ?_
      refine lv_aload_n hx hb dX11_of_234 rfl (lv_at hl 1 rfl) ?_
      refine gfX11_10 hx hb hts hown hK hP 26 rfl rfl dX11_of_235 ?_
      refine gfX11_140 hx hb hts hown hK hP 5 rfl rfl dX11_of_238 ?_
      refine lv_iconst (v := (3 : Int32)) hx hb dX11_of_241 (by decide) ?_
      refine lv_aload_n hx hb dX11_of_242 rfl (lv_at hl 1 rfl) ?_
      refine gfX11_54 hx hb hts hown hK hP 26 rfl rfl dX11_of_243 ?_
      refine lv_iload_n hx hb dX11_of_246 rfl (lv_at hl 2 rfl) ?_
      refine lv_iload_n hx hb dX11_of_247 rfl (lv_at hl 0 rfl) ?_
      obtain ⟨r248, l_names_248, l_stack_248, hg248, hf⟩ := ob3_some hf
      refine mcVE_i (wr := [(qX0, .inr (11, [.ref qr0, .ref qk0, .ref qT, .ref qb0, .ref qe0, .ref qL0, .ref qf0, .ref qd0, .ref qn0, .ref qz0, .ref qD0, .ref qh0, .ref qD1, .ref qv0]))]) (As := [.int r_rul, .int (3 : Int32), .ref qf0, .int p1, .int r19]) (rest := []) hx hb hml hown hts hK hP hD hS hA hE (k_X3_rule l N D cI cJ cZ cB cT qd0 qd1 qt0 qt1 qt2 qt3 qu0 qu1 qu2 qu3 qw0 qw1 qw2 qw3 qx0 qx1 qx2 qx3 qT qf0 qf1 qf2 qr0 qL1 qL2 qL0 qd2 qt4 qu4 qw4 qx4 qf3 qf0 qz0 qn0 d_n d_for t_cl t_ln t_pt t_code t_st t_en u_cl u_ln u_pt u_code u_st u_en w_cl w_ln w_pt w_code w_st w_en x_cl x_ln x_pt x_code x_st x_en f_row f_fears r_tx r_rul l_names l_stack r_rul (3 : Int32) p1 r19 r248 l_names_248 l_stack_248 hg248) (kwX11_245 hts rfl rfl ⟨Nat.le_of_ble_eq_true rfl, Nat.le_of_ble_eq_true rfl⟩) [0, 1, 6, 7, 8, 9, 10, 11, 12, 13, 14, 15, 16, 17, 18, 19, 20, 21, 22, 2, 3, 4, 5, 23, 24, 25] [26] rfl rfl rfl (by decide) rfl 25 rfl rfl rfl rfl hl.1 rfl (Nat.le_of_ble_eq_true rfl) dX11_of_248 ⟨Nat.zero_le _, Nat.zero_le _⟩ (fun hB248 H locs hP hD hS => ?_)
      have hP := mP_sub (wc := (W_X_0t1_3t5_16_34t37_39t42_44t47_49t52_54_61t63_76 qd0 qd1 qf0 qf1 qf2 qr0 qt0 qt1 qt2 qt3 qu0 qu1 qu2 qu3 qw0 qw1 qw2 qw3 qx0 qx1 qx2 qx3 qT qL1 qL2 qL0 qX0 qd2 qf3 qz0 qn0 qt4 qu4 qw4 qx4 qk0 qb0 qe0 qD0 qh0 qD1 qv0 cI cJ cZ cB cT d_n d_for f_row f_fears r_tx r_rul t_cl t_ln t_pt t_code t_st t_en u_cl u_ln u_pt u_code u_st u_en w_cl w_ln w_pt w_code w_st w_en x_cl x_ln x_pt x_code x_st x_en l_names_248 l_stack_248)) hP [1, 2, 20, 21, 22, 23, 3, 4, 5, 6, 7, 8, 9, 10, 11, 12, 13, 14, 15, 16, 17, 18, 19, 24, 25, 26, 0] rfl
      have hD := hD.sub (ws' := (W_X_0t1_3t5_16_34t37_39t42_44t47_49t52_54_61t63_76 qd0 qd1 qf0 qf1 qf2 qr0 qt0 qt1 qt2 qt3 qu0 qu1 qu2 qu3 qw0 qw1 qw2 qw3 qx0 qx1 qx2 qx3 qT qL1 qL2 qL0 qX0 qd2 qf3 qz0 qn0 qt4 qu4 qw4 qx4 qk0 qb0 qe0 qD0 qh0 qD1 qv0 cI cJ cZ cB cT d_n d_for f_row f_fears r_tx r_rul t_cl t_ln t_pt t_code t_st t_en u_cl u_ln u_pt u_code u_st u_en w_cl w_ln w_pt w_code w_st w_en x_cl x_ln x_pt x_code x_st x_en l_names_248 l_stack_248)) [1, 2, 20, 21, 22, 23, 3, 4, 5, 6, 7, 8, 9, 10, 11, 12, 13, 14, 15, 16, 17, 18, 19, 24, 25, 26, 0] rfl rfl
      cases hf
      exact mret_i hx hb hr hlocks hP hD hS dX11_of_251 rfl trivial
    replace hf := (if_neg e24_11).symm.trans hf
    by_cases e24_12 : p2 = (12 : Int32)
    · replace hf := (if_pos e24_12).symm.trans hf
      refine lv_tableIn (off := 228) (tgt := 252) hx hb dX11_of_24 (by rw [e24_12]; decide) (by rw [e24_12]; decide) (by rw [e24_12]; rfl) (by decide) ?_
      refine lv_aload_n hx hb dX11_of_252 rfl (lv_at hl 1 rfl) ?_
      refine gfX11_54 hx hb hts hown hK hP 26 rfl rfl dX11_of_253 ?_
      refine lv_iload_n hx hb dX11_of_256 rfl (lv_at hl 0 rfl) ?_
      refine lv_iload_n hx hb dX11_of_257 rfl (lv_at hl 2 rfl) ?_
      obtain ⟨r258, hg258, hf⟩ := ob1_some hf
      refine mcV_i (wr := [(qd0, .inr (2, [.int d_n, .ref qd1, .ref qd2])), (qd1, .inl (cI, 8, .inl d_for)), (qf2, .inl (cI, 6, .inl f_fears)), (qr0, .inr (6, [.ref qd0, .ref qf0, .ref qz0, .ref qn0, .int r_tx, .int r_rul])), (qt0, .inr (9, [.int t_cl, .int t_ln, .int t_pt, .ref qt1, .ref qt2, .ref qt3, .ref qt4])), (qt1, .inl (cI, 301, .inl t_code)), (qt2, .inl (cI, 4, .inl t_st)), (qt3, .inl (cI, 4, .inl t_en)), (qu0, .inr (9, [.int u_cl, .int u_ln, .int u_pt, .ref qu1, .ref qu2, .ref qu3, .ref qu4])), (qu1, .inl (cI, 301, .inl u_code)), (qu2, .inl (cI, 4, .inl u_st)), (qu3, .inl (cI, 4, .inl u_en)), (qw0, .inr (9, [.int w_cl, .int w_ln, .int w_pt, .ref qw1, .ref qw2, .ref qw3, .ref qw4])), (qw1, .inl (cI, 301, .inl w_code)), (qw2, .inl (cI, 4, .inl w_st)), (qw3, .inl (cI, 4, .inl w_en)), (qx0, .inr (9, [.int x_cl, .int x_ln, .int x_pt, .ref qx1, .ref qx2, .ref qx3, .ref qx4])), (qx1, .inl (cI, 301, .inl x_code)), (qx2, .inl (cI, 4, .inl x_st)), (qx3, .inl (cI, 4, .inl x_en)), (qT, .inl (cT, 4, .inr (.inr (.inr (.inr (fT qt0 qu0 qw0 qx0)))))), (qL1, .inl (cI, 10, .inl l_names)), (qL2, .inl (cI, 64, .inl l_stack)), (qL0, .inr (3, [.ref qr0, .ref qT, .ref qL1, .ref qL2])), (qX0, .inr (11, [.ref qr0, .ref qk0, .ref qT, .ref qb0, .ref qe0, .ref qL0, .ref qf0, .ref qd0, .ref qn0, .ref qz0, .ref qD0, .ref qh0, .ref qD1, .ref qv0]))]) (As := [.int r19, .int p1]) (rest := []) hx hb hml hown hts hK hP hD hS hA (k_X1_othersIn l N D cI cJ cZ cB cT qf0 qf1 qf2 qf3 f_row r19 p1 r258 hg258) (kwX11_249 hts rfl rfl ⟨Nat.le_of_ble_eq_true rfl, Nat.le_of_ble_eq_true rfl⟩) [2, 3] [0, 1, 4, 5, 6, 7, 8, 9, 10, 11, 12, 13, 14, 15, 16, 17, 18, 19, 20, 21, 22, 23, 24, 25, 26] rfl rfl rfl (by decide) rfl 0 rfl rfl rfl rfl hl.1 rfl (Nat.le_of_ble_eq_true rfl) dX11_of_258 ⟨Nat.zero_le _, Nat.zero_le _⟩ (fun hB258 H locs hP hD hS => ?_)
      have hP := mP_sub (wc := (W_X_0t1_3t5_16_34t37_39t42_44t47_49t52_54_61t63_76 qd0 qd1 qf0 qf1 qf2 qr0 qt0 qt1 qt2 qt3 qu0 qu1 qu2 qu3 qw0 qw1 qw2 qw3 qx0 qx1 qx2 qx3 qT qL1 qL2 qL0 qX0 qd2 qf3 qz0 qn0 qt4 qu4 qw4 qx4 qk0 qb0 qe0 qD0 qh0 qD1 qv0 cI cJ cZ cB cT d_n d_for f_row f_fears r_tx r_rul t_cl t_ln t_pt t_code t_st t_en u_cl u_ln u_pt u_code u_st u_en w_cl w_ln w_pt w_code w_st w_en x_cl x_ln x_pt x_code x_st x_en l_names l_stack)) hP [0, 1, 25, 26, 2, 3, 4, 5, 6, 7, 8, 9, 10, 11, 12, 13, 14, 15, 16, 17, 18, 19, 20, 21, 22, 23, 24] rfl
      have hD := hD.sub (ws' := (W_X_0t1_3t5_16_34t37_39t42_44t47_49t52_54_61t63_76 qd0 qd1 qf0 qf1 qf2 qr0 qt0 qt1 qt2 qt3 qu0 qu1 qu2 qu3 qw0 qw1 qw2 qw3 qx0 qx1 qx2 qx3 qT qL1 qL2 qL0 qX0 qd2 qf3 qz0 qn0 qt4 qu4 qw4 qx4 qk0 qb0 qe0 qD0 qh0 qD1 qv0 cI cJ cZ cB cT d_n d_for f_row f_fears r_tx r_rul t_cl t_ln t_pt t_code t_st t_en u_cl u_ln u_pt u_code u_st u_en w_cl w_ln w_pt w_code w_st w_en x_cl x_ln x_pt x_code x_st x_en l_names l_stack)) [0, 1, 25, 26, 2, 3, 4, 5, 6, 7, 8, 9, 10, 11, 12, 13, 14, 15, 16, 17, 18, 19, 20, 21, 22, 23, 24] rfl rfl
      obtain ⟨r261, hg261, hf⟩ := ob1_some hf
      refine mcS0_i (As := [.int r258]) (rest := []) hx hb hml hown hts hK hP hD hS hA (k_J6_bitCount_0f7a4 l N D cI cJ cZ cB cT r258 r261 hg261) (kwX11_252 hts rfl rfl ⟨Nat.le_of_ble_eq_true rfl, Nat.le_of_ble_eq_true rfl⟩) rfl hl.1 rfl (Nat.le_of_ble_eq_true rfl) dX11_of_261 ⟨Nat.zero_le _, Nat.zero_le _⟩ (fun hB261 H locs hP hD hS => ?_)
      cases hf
      exact mret_i hx hb hr hlocks hP hD hS dX11_of_264 rfl trivial
    replace hf := (if_neg e24_12).symm.trans hf
    have ne24_0 : p2.toInt ≠ (0 : Int) := sw_ne e24_0
    have ne24_1 : p2.toInt ≠ (1 : Int) := sw_ne e24_1
    have ne24_2 : p2.toInt ≠ (2 : Int) := sw_ne e24_2
    have ne24_3 : p2.toInt ≠ (3 : Int) := sw_ne e24_3
    have ne24_4 : p2.toInt ≠ (4 : Int) := sw_ne e24_4
    have ne24_5 : p2.toInt ≠ (5 : Int) := sw_ne e24_5
    have ne24_6 : p2.toInt ≠ (6 : Int) := sw_ne e24_6
    have ne24_7 : p2.toInt ≠ (7 : Int) := sw_ne e24_7
    have ne24_8 : p2.toInt ≠ (8 : Int) := sw_ne e24_8
    have ne24_9 : p2.toInt ≠ (9 : Int) := sw_ne e24_9
    have ne24_10 : p2.toInt ≠ (10 : Int) := sw_ne e24_10
    have ne24_11 : p2.toInt ≠ (11 : Int) := sw_ne e24_11
    have ne24_12 : p2.toInt ≠ (12 : Int) := sw_ne e24_12
    refine lv_tableOut (tgt := 265) hx hb dX11_of_24 (by omega) (by decide) ?_
    refine lv_iconst (v := (-1 : Int32)) hx hb dX11_of_265 (by decide) ?_
    cases hf
    exact mret_i hx hb hr hlocks hP hD hS dX11_of_266 rfl trivial
theorem dX11_ofLand_0 : decode cX11_ofLand 0 = .ok (.aload_n 0, 1) := by decide +kernel
theorem dX11_ofLand_1 : decode cX11_ofLand 1 = .ok (.getfield 59, 3) := by decide +kernel
theorem dX11_ofLand_4 : decode cX11_ofLand 4 = .ok (.iload_n 1, 1) := by decide +kernel
theorem dX11_ofLand_5 : decode cX11_ofLand 5 = .ok (.invokevirtual 106, 3) := by decide +kernel
theorem dX11_ofLand_8 : decode cX11_ofLand 8 = .ok (.ifCond .ne 5, 3) := by decide +kernel
theorem dX11_ofLand_11 : decode cX11_ofLand 11 = .ok (.iconst (-1), 1) := by decide +kernel
theorem dX11_ofLand_12 : decode cX11_ofLand 12 = .ok (.ireturn, 1) := by decide +kernel
theorem dX11_ofLand_13 : decode cX11_ofLand 13 = .ok (.iload_n 2, 1) := by decide +kernel
theorem dX11_ofLand_14 : decode cX11_ofLand 14 = .ok (.tableswitch 54 0 2 #[26, 35, 44], 26) := by decide +kernel
theorem dX11_ofLand_40 : decode cX11_ofLand 40 = .ok (.aload_n 0, 1) := by decide +kernel
theorem dX11_ofLand_41 : decode cX11_ofLand 41 = .ok (.getfield 59, 3) := by decide +kernel
theorem dX11_ofLand_44 : decode cX11_ofLand 44 = .ok (.iload_n 1, 1) := by decide +kernel
theorem dX11_ofLand_45 : decode cX11_ofLand 45 = .ok (.invokevirtual 257, 3) := by decide +kernel
theorem dX11_ofLand_48 : decode cX11_ofLand 48 = .ok (.ireturn, 1) := by decide +kernel
theorem dX11_ofLand_49 : decode cX11_ofLand 49 = .ok (.aload_n 0, 1) := by decide +kernel
theorem dX11_ofLand_50 : decode cX11_ofLand 50 = .ok (.getfield 59, 3) := by decide +kernel
theorem dX11_ofLand_53 : decode cX11_ofLand 53 = .ok (.iload_n 1, 1) := by decide +kernel
theorem dX11_ofLand_54 : decode cX11_ofLand 54 = .ok (.invokevirtual 260, 3) := by decide +kernel
theorem dX11_ofLand_57 : decode cX11_ofLand 57 = .ok (.ireturn, 1) := by decide +kernel
theorem dX11_ofLand_58 : decode cX11_ofLand 58 = .ok (.aload_n 0, 1) := by decide +kernel
theorem dX11_ofLand_59 : decode cX11_ofLand 59 = .ok (.getfield 54, 3) := by decide +kernel
theorem dX11_ofLand_62 : decode cX11_ofLand 62 = .ok (.iload_n 1, 1) := by decide +kernel
theorem dX11_ofLand_63 : decode cX11_ofLand 63 = .ok (.iconst (-1), 1) := by decide +kernel
theorem dX11_ofLand_64 : decode cX11_ofLand 64 = .ok (.invokevirtual 249, 3) := by decide +kernel
theorem dX11_ofLand_67 : decode cX11_ofLand 67 = .ok (.ireturn, 1) := by decide +kernel
theorem dX11_ofLand_68 : decode cX11_ofLand 68 = .ok (.iconst (-1), 1) := by decide +kernel
theorem dX11_ofLand_69 : decode cX11_ofLand 69 = .ok (.ireturn, 1) := by decide +kernel
def f_X11_ofLand (N : Nat) (d_n : Int32) (d_for : Nat → Int32) (d_road : Nat → Int32) (f_row : Nat → Int32) (p1 : Int32) (p2 : Int32) : Option (Int32) := ob1 (f_X2_told N d_n p1) fun r5 => if r5 = 0 then (some (-1 : Int32)) else (if p2 = (0 : Int32) then (ob1 (f_X2_forestOf N d_n d_for p1) fun r45 => some r45) else if p2 = (1 : Int32) then (ob1 (f_X2_near N d_n d_road p1) fun r54 => some r54) else if p2 = (2 : Int32) then (ob1 (f_X1_othersIn N f_row p1 (-1 : Int32)) fun r64 => some r64) else (some (-1 : Int32)))
set_option maxHeartbeats 4000000 in
set_option maxRecDepth 100000 in
theorem k_X11_ofLand (l : Launch) (N : Nat) (D : va_G) (cI cJ cZ cB cT : ClassId) (qd0 : Nat) (qd1 : Nat) (qd2 : Nat) (qf0 : Nat) (qf1 : Nat) (qX0 : Nat) (qf2 : Nat) (qf3 : Nat) (qr0 : Nat) (qk0 : Nat) (qT : Nat) (qb0 : Nat) (qe0 : Nat) (qL0 : Nat) (qn0 : Nat) (qz0 : Nat) (qD0 : Nat) (qh0 : Nat) (qD1 : Nat) (qv0 : Nat) (d_n : Int32) (d_for : Nat → Int32) (d_road : Nat → Int32) (f_row : Nat → Int32) (p1 : Int32) (p2 : Int32) (o_r : Int32) (hf : f_X11_ofLand N d_n d_for d_road f_row p1 p2 = some o_r) : ∀ sz, Met l yX11_ofLand (mw yX11_ofLand cX11_ofLand 3 (some .int)) ({ frames := 1, cells := 0, slots := 0, locals := 25 } : Room) (mPre D (mT cI cJ cZ cB cT) (W_X_0t4_76 qd0 qd1 qd2 qf0 qf1 qX0 qf2 qf3 qr0 qk0 qT qb0 qe0 qL0 qn0 qz0 qD0 qh0 qD1 qv0 cI cJ cZ cB cT d_n d_for d_road f_row) sz [.ref qX0, .int p1, .int p2]) ((mQi D (W_X_0t4_76 qd0 qd1 qd2 qf0 qf1 qX0 qf2 qf3 qr0 qk0 qT qb0 qe0 qL0 qn0 qz0 qD0 qh0 qD1 qv0 cI cJ cZ cB cT d_n d_for d_road f_row) o_r True) (va_A (W_X_0t4_76 qd0 qd1 qd2 qf0 qf1 qX0 qf2 qf3 qr0 qk0 qT qb0 qe0 qL0 qn0 qz0 qD0 qh0 qD1 qv0 cI cJ cZ cB cT d_n d_for d_road f_row) sz)) 0 0 (va_A (W_X_0t4_76 qd0 qd1 qd2 qf0 qf1 qX0 qf2 qf3 qr0 qk0 qT qb0 qe0 qL0 qn0 qz0 qD0 qh0 qD1 qv0 cI cJ cZ cB cT d_n d_for d_road f_row) sz) := by
  refine mMet (Qc := (mQi D (W_X_0t4_76 qd0 qd1 qd2 qf0 qf1 qX0 qf2 qf3 qr0 qk0 qT qb0 qe0 qL0 qn0 qz0 qD0 qh0 qD1 qv0 cI cJ cZ cB cT d_n d_for d_road f_row) o_r True)) (by decide) (Nat.le_of_ble_eq_true rfl) (fun p e s m below meth c A ls hx hb hr hml hts hown hlocks hK hA hP hD hl => ?_)
  have hown : s.vm.findClass RX11 = some m.cls := hown
  have hl : lv_has ls 3 [(0, .ref qX0), (1, .int p1), (2, .int p2)] := hl
  have hS : va_S A s.heap s.heap [] := va_S.rf
  unfold f_X11_ofLand at hf
  refine lv_aload_n hx hb dX11_ofLand_0 rfl (lv_at hl 0 rfl) ?_
  refine gfX11_59 hx hb hts hown hK hP 5 rfl rfl dX11_ofLand_1 ?_
  refine lv_iload_n hx hb dX11_ofLand_4 rfl (lv_at hl 1 rfl) ?_
  obtain ⟨r5, hg5, hf⟩ := ob1_some hf
  refine mcV_i (wr := [(qd1, .inl (cI, 8, .inl d_for)), (qd2, .inl (cI, 8, .inl d_road)), (qf0, .inr (1, [.ref qf1, .ref qf2, .ref qf3])), (qf1, .inl (cI, 76, .inl f_row)), (qX0, .inr (11, [.ref qr0, .ref qk0, .ref qT, .ref qb0, .ref qe0, .ref qL0, .ref qf0, .ref qd0, .ref qn0, .ref qz0, .ref qD0, .ref qh0, .ref qD1, .ref qv0]))]) (As := [.int p1]) (rest := []) hx hb hml hown hts hK hP hD hS hA (k_X2_told l N D cI cJ cZ cB cT qd0 qd1 qd2 d_n p1 r5 hg5) (kwX11_106 hts rfl rfl ⟨Nat.le_of_ble_eq_true rfl, Nat.le_of_ble_eq_true rfl⟩) [0] [1, 2, 3, 4, 5] rfl rfl rfl (by decide) rfl 0 rfl rfl rfl rfl hl.1 rfl (Nat.le_of_ble_eq_true rfl) dX11_ofLand_5 ⟨Nat.zero_le _, Nat.zero_le _⟩ (fun hB5 H locs hP hD hS => ?_)
  have hP := mP_sub (wc := (W_X_0t4_76 qd0 qd1 qd2 qf0 qf1 qX0 qf2 qf3 qr0 qk0 qT qb0 qe0 qL0 qn0 qz0 qD0 qh0 qD1 qv0 cI cJ cZ cB cT d_n d_for d_road f_row)) hP [5, 0, 1, 2, 3, 4] rfl
  have hD := hD.sub (ws' := (W_X_0t4_76 qd0 qd1 qd2 qf0 qf1 qX0 qf2 qf3 qr0 qk0 qT qb0 qe0 qL0 qn0 qz0 qD0 qh0 qD1 qv0 cI cJ cZ cB cT d_n d_for d_road f_row)) [5, 0, 1, 2, 3, 4] rfl rfl
  refine xif_ne hx hb 13 dX11_ofLand_8 (by decide) hf (fun hf => ?_) (fun hf => ?_)
  · refine lv_iconst (v := (-1 : Int32)) hx hb dX11_ofLand_11 (by decide) ?_
    cases hf
    exact mret_i hx hb hr hlocks hP hD hS dX11_ofLand_12 rfl trivial
  · refine lv_iload_n hx hb dX11_ofLand_13 rfl (lv_at hl 2 rfl) ?_
    by_cases e14_0 : p2 = (0 : Int32)
    · replace hf := (if_pos e14_0).symm.trans hf
      refine lv_tableIn (off := 26) (tgt := 40) hx hb dX11_ofLand_14 (by rw [e14_0]; decide) (by rw [e14_0]; decide) (by rw [e14_0]; rfl) (by decide) ?_
      refine lv_aload_n hx hb dX11_ofLand_40 rfl (lv_at hl 0 rfl) ?_
      refine gfX11_59 hx hb hts hown hK hP 5 rfl rfl dX11_ofLand_41 ?_
      refine lv_iload_n hx hb dX11_ofLand_44 rfl (lv_at hl 1 rfl) ?_
      obtain ⟨r45, hg45, hf⟩ := ob1_some hf
      refine mcV_i (wr := [(qd2, .inl (cI, 8, .inl d_road)), (qf0, .inr (1, [.ref qf1, .ref qf2, .ref qf3])), (qf1, .inl (cI, 76, .inl f_row)), (qX0, .inr (11, [.ref qr0, .ref qk0, .ref qT, .ref qb0, .ref qe0, .ref qL0, .ref qf0, .ref qd0, .ref qn0, .ref qz0, .ref qD0, .ref qh0, .ref qD1, .ref qv0]))]) (As := [.int p1]) (rest := []) hx hb hml hown hts hK hP hD hS hA (k_X2_forestOf l N D cI cJ cZ cB cT qd0 qd1 qd2 d_n d_for p1 r45 hg45) (kwX11_257 hts rfl rfl ⟨Nat.le_of_ble_eq_true rfl, Nat.le_of_ble_eq_true rfl⟩) [0, 1] [2, 3, 4, 5] rfl rfl rfl (by decide) rfl 0 rfl rfl rfl rfl hl.1 rfl (Nat.le_of_ble_eq_true rfl) dX11_ofLand_45 ⟨Nat.zero_le _, Nat.zero_le _⟩ (fun hB45 H locs hP hD hS => ?_)
      have hP := mP_sub (wc := (W_X_0t4_76 qd0 qd1 qd2 qf0 qf1 qX0 qf2 qf3 qr0 qk0 qT qb0 qe0 qL0 qn0 qz0 qD0 qh0 qD1 qv0 cI cJ cZ cB cT d_n d_for d_road f_row)) hP [4, 5, 0, 1, 2, 3] rfl
      have hD := hD.sub (ws' := (W_X_0t4_76 qd0 qd1 qd2 qf0 qf1 qX0 qf2 qf3 qr0 qk0 qT qb0 qe0 qL0 qn0 qz0 qD0 qh0 qD1 qv0 cI cJ cZ cB cT d_n d_for d_road f_row)) [4, 5, 0, 1, 2, 3] rfl rfl
      cases hf
      exact mret_i hx hb hr hlocks hP hD hS dX11_ofLand_48 rfl trivial
    replace hf := (if_neg e14_0).symm.trans hf
    by_cases e14_1 : p2 = (1 : Int32)
    · replace hf := (if_pos e14_1).symm.trans hf
      refine lv_tableIn (off := 35) (tgt := 49) hx hb dX11_ofLand_14 (by rw [e14_1]; decide) (by rw [e14_1]; decide) (by rw [e14_1]; rfl) (by decide) ?_
      refine lv_aload_n hx hb dX11_ofLand_49 rfl (lv_at hl 0 rfl) ?_
      refine gfX11_59 hx hb hts hown hK hP 5 rfl rfl dX11_ofLand_50 ?_
      refine lv_iload_n hx hb dX11_ofLand_53 rfl (lv_at hl 1 rfl) ?_
      obtain ⟨r54, hg54, hf⟩ := ob1_some hf
      refine mcV_i (wr := [(qd1, .inl (cI, 8, .inl d_for)), (qf0, .inr (1, [.ref qf1, .ref qf2, .ref qf3])), (qf1, .inl (cI, 76, .inl f_row)), (qX0, .inr (11, [.ref qr0, .ref qk0, .ref qT, .ref qb0, .ref qe0, .ref qL0, .ref qf0, .ref qd0, .ref qn0, .ref qz0, .ref qD0, .ref qh0, .ref qD1, .ref qv0]))]) (As := [.int p1]) (rest := []) hx hb hml hown hts hK hP hD hS hA (k_X2_near l N D cI cJ cZ cB cT qd0 qd2 qd1 d_n d_road p1 r54 hg54) (kwX11_260 hts rfl rfl ⟨Nat.le_of_ble_eq_true rfl, Nat.le_of_ble_eq_true rfl⟩) [0, 2] [1, 3, 4, 5] rfl rfl rfl (by decide) rfl 0 rfl rfl rfl rfl hl.1 rfl (Nat.le_of_ble_eq_true rfl) dX11_ofLand_54 ⟨Nat.zero_le _, Nat.zero_le _⟩ (fun hB54 H locs hP hD hS => ?_)
      have hP := mP_sub (wc := (W_X_0t4_76 qd0 qd1 qd2 qf0 qf1 qX0 qf2 qf3 qr0 qk0 qT qb0 qe0 qL0 qn0 qz0 qD0 qh0 qD1 qv0 cI cJ cZ cB cT d_n d_for d_road f_row)) hP [4, 0, 5, 1, 2, 3] rfl
      have hD := hD.sub (ws' := (W_X_0t4_76 qd0 qd1 qd2 qf0 qf1 qX0 qf2 qf3 qr0 qk0 qT qb0 qe0 qL0 qn0 qz0 qD0 qh0 qD1 qv0 cI cJ cZ cB cT d_n d_for d_road f_row)) [4, 0, 5, 1, 2, 3] rfl rfl
      cases hf
      exact mret_i hx hb hr hlocks hP hD hS dX11_ofLand_57 rfl trivial
    replace hf := (if_neg e14_1).symm.trans hf
    by_cases e14_2 : p2 = (2 : Int32)
    · replace hf := (if_pos e14_2).symm.trans hf
      refine lv_tableIn (off := 44) (tgt := 58) hx hb dX11_ofLand_14 (by rw [e14_2]; decide) (by rw [e14_2]; decide) (by rw [e14_2]; rfl) (by decide) ?_
      refine lv_aload_n hx hb dX11_ofLand_58 rfl (lv_at hl 0 rfl) ?_
      refine gfX11_54 hx hb hts hown hK hP 5 rfl rfl dX11_ofLand_59 ?_
      refine lv_iload_n hx hb dX11_ofLand_62 rfl (lv_at hl 1 rfl) ?_
      refine lv_iconst (v := (-1 : Int32)) hx hb dX11_ofLand_63 (by decide) ?_
      obtain ⟨r64, hg64, hf⟩ := ob1_some hf
      refine mcV_i (wr := [(qd0, .inr (2, [.int d_n, .ref qd1, .ref qd2])), (qd1, .inl (cI, 8, .inl d_for)), (qd2, .inl (cI, 8, .inl d_road)), (qX0, .inr (11, [.ref qr0, .ref qk0, .ref qT, .ref qb0, .ref qe0, .ref qL0, .ref qf0, .ref qd0, .ref qn0, .ref qz0, .ref qD0, .ref qh0, .ref qD1, .ref qv0]))]) (As := [.int p1, .int (-1 : Int32)]) (rest := []) hx hb hml hown hts hK hP hD hS hA (k_X1_othersIn l N D cI cJ cZ cB cT qf0 qf1 qf2 qf3 f_row p1 (-1 : Int32) r64 hg64) (kwX11_249 hts rfl rfl ⟨Nat.le_of_ble_eq_true rfl, Nat.le_of_ble_eq_true rfl⟩) [3, 4] [0, 1, 2, 5] rfl rfl rfl (by decide) rfl 0 rfl rfl rfl rfl hl.1 rfl (Nat.le_of_ble_eq_true rfl) dX11_ofLand_64 ⟨Nat.zero_le _, Nat.zero_le _⟩ (fun hB64 H locs hP hD hS => ?_)
      have hP := mP_sub (wc := (W_X_0t4_76 qd0 qd1 qd2 qf0 qf1 qX0 qf2 qf3 qr0 qk0 qT qb0 qe0 qL0 qn0 qz0 qD0 qh0 qD1 qv0 cI cJ cZ cB cT d_n d_for d_road f_row)) hP [0, 1, 2, 4, 5, 3] rfl
      have hD := hD.sub (ws' := (W_X_0t4_76 qd0 qd1 qd2 qf0 qf1 qX0 qf2 qf3 qr0 qk0 qT qb0 qe0 qL0 qn0 qz0 qD0 qh0 qD1 qv0 cI cJ cZ cB cT d_n d_for d_road f_row)) [0, 1, 2, 4, 5, 3] rfl rfl
      cases hf
      exact mret_i hx hb hr hlocks hP hD hS dX11_ofLand_67 rfl trivial
    replace hf := (if_neg e14_2).symm.trans hf
    have ne14_0 : p2.toInt ≠ (0 : Int) := sw_ne e14_0
    have ne14_1 : p2.toInt ≠ (1 : Int) := sw_ne e14_1
    have ne14_2 : p2.toInt ≠ (2 : Int) := sw_ne e14_2
    refine lv_tableOut (tgt := 68) hx hb dX11_ofLand_14 (by omega) (by decide) ?_
    refine lv_iconst (v := (-1 : Int32)) hx hb dX11_ofLand_68 (by decide) ?_
    cases hf
    exact mret_i hx hb hr hlocks hP hD hS dX11_ofLand_69 rfl trivial
theorem dX11_is_0 : decode cX11_is 0 = .ok (.iload_n 1, 1) := by decide +kernel
theorem dX11_is_1 : decode cX11_is 1 = .ok (.ifCond .ne 11, 3) := by decide +kernel
theorem dX11_is_4 : decode cX11_is 4 = .ok (.aload_n 0, 1) := by decide +kernel
theorem dX11_is_5 : decode cX11_is 5 = .ok (.getfield 54, 3) := by decide +kernel
theorem dX11_is_8 : decode cX11_is 8 = .ok (.invokevirtual 168, 3) := by decide +kernel
theorem dX11_is_11 : decode cX11_is 11 = .ok (.ireturn, 1) := by decide +kernel
theorem dX11_is_12 : decode cX11_is 12 = .ok (.iload_n 1, 1) := by decide +kernel
theorem dX11_is_13 : decode cX11_is 13 = .ok (.iconst 1, 1) := by decide +kernel
theorem dX11_is_14 : decode cX11_is 14 = .ok (.if_icmp .ne 13, 3) := by decide +kernel
theorem dX11_is_17 : decode cX11_is 17 = .ok (.aload_n 0, 1) := by decide +kernel
theorem dX11_is_18 : decode cX11_is 18 = .ok (.getfield 54, 3) := by decide +kernel
theorem dX11_is_21 : decode cX11_is 21 = .ok (.invokevirtual 228, 3) := by decide +kernel
theorem dX11_is_24 : decode cX11_is 24 = .ok (.goto 5, 3) := by decide +kernel
theorem dX11_is_27 : decode cX11_is 27 = .ok (.bipush (-2), 2) := by decide +kernel
theorem dX11_is_29 : decode cX11_is 29 = .ok (.ireturn, 1) := by decide +kernel
def f_X11_is (N : Nat) (f_row : Nat → Int32) (p1 : Int32) : Option (Int32) := if p1 = 0 then (ob1 (f_X1_monthNow N f_row) fun r8 => some r8) else (if p1 = (1 : Int32) then (ob1 (f_X1_x N f_row) fun r21 => some r21) else (some (-2 : Int32)))
set_option maxHeartbeats 4000000 in
set_option maxRecDepth 100000 in
theorem k_X11_is (l : Launch) (N : Nat) (D : va_G) (cI cJ cZ cB cT : ClassId) (qf0 : Nat) (qf1 : Nat) (qX0 : Nat) (qf2 : Nat) (qf3 : Nat) (qr0 : Nat) (qk0 : Nat) (qT : Nat) (qb0 : Nat) (qe0 : Nat) (qL0 : Nat) (qd0 : Nat) (qn0 : Nat) (qz0 : Nat) (qD0 : Nat) (qh0 : Nat) (qD1 : Nat) (qv0 : Nat) (f_row : Nat → Int32) (p1 : Int32) (o_r : Int32) (hf : f_X11_is N f_row p1 = some o_r) : ∀ sz, Met l yX11_is (mw yX11_is cX11_is 2 (some .int)) ({ frames := 1, cells := 0, slots := 0, locals := 20 } : Room) (mPre D (mT cI cJ cZ cB cT) (W_X_3t4_76 qf0 qf1 qX0 qf2 qf3 qr0 qk0 qT qb0 qe0 qL0 qd0 qn0 qz0 qD0 qh0 qD1 qv0 cI cJ cZ cB cT f_row) sz [.ref qX0, .int p1]) ((mQi D (W_X_3t4_76 qf0 qf1 qX0 qf2 qf3 qr0 qk0 qT qb0 qe0 qL0 qd0 qn0 qz0 qD0 qh0 qD1 qv0 cI cJ cZ cB cT f_row) o_r True) (va_A (W_X_3t4_76 qf0 qf1 qX0 qf2 qf3 qr0 qk0 qT qb0 qe0 qL0 qd0 qn0 qz0 qD0 qh0 qD1 qv0 cI cJ cZ cB cT f_row) sz)) 0 0 (va_A (W_X_3t4_76 qf0 qf1 qX0 qf2 qf3 qr0 qk0 qT qb0 qe0 qL0 qd0 qn0 qz0 qD0 qh0 qD1 qv0 cI cJ cZ cB cT f_row) sz) := by
  refine mMet (Qc := (mQi D (W_X_3t4_76 qf0 qf1 qX0 qf2 qf3 qr0 qk0 qT qb0 qe0 qL0 qd0 qn0 qz0 qD0 qh0 qD1 qv0 cI cJ cZ cB cT f_row) o_r True)) (by decide) (Nat.le_of_ble_eq_true rfl) (fun p e s m below meth c A ls hx hb hr hml hts hown hlocks hK hA hP hD hl => ?_)
  have hown : s.vm.findClass RX11 = some m.cls := hown
  have hl : lv_has ls 2 [(0, .ref qX0), (1, .int p1)] := hl
  have hS : va_S A s.heap s.heap [] := va_S.rf
  unfold f_X11_is at hf
  refine lv_iload_n hx hb dX11_is_0 rfl (lv_at hl 1 rfl) ?_
  refine xif_ne hx hb 12 dX11_is_1 (by decide) hf (fun hf => ?_) (fun hf => ?_)
  · refine lv_aload_n hx hb dX11_is_4 rfl (lv_at hl 0 rfl) ?_
    refine gfX11_54 hx hb hts hown hK hP 2 rfl rfl dX11_is_5 ?_
    obtain ⟨r8, hg8, hf⟩ := ob1_some hf
    refine mcV_i (wr := [(qX0, .inr (11, [.ref qr0, .ref qk0, .ref qT, .ref qb0, .ref qe0, .ref qL0, .ref qf0, .ref qd0, .ref qn0, .ref qz0, .ref qD0, .ref qh0, .ref qD1, .ref qv0]))]) (As := []) (rest := []) hx hb hml hown hts hK hP hD hS hA (k_X1_monthNow l N D cI cJ cZ cB cT qf0 qf1 qf2 qf3 f_row r8 hg8) (kwX11_168 hts rfl rfl ⟨Nat.le_of_ble_eq_true rfl, Nat.le_of_ble_eq_true rfl⟩) [0, 1] [2] rfl rfl rfl (by decide) rfl 0 rfl rfl rfl rfl hl.1 rfl (Nat.le_of_ble_eq_true rfl) dX11_is_8 ⟨Nat.zero_le _, Nat.zero_le _⟩ (fun hB8 H locs hP hD hS => ?_)
    have hP := mP_sub (wc := (W_X_3t4_76 qf0 qf1 qX0 qf2 qf3 qr0 qk0 qT qb0 qe0 qL0 qd0 qn0 qz0 qD0 qh0 qD1 qv0 cI cJ cZ cB cT f_row)) hP [1, 2, 0] rfl
    have hD := hD.sub (ws' := (W_X_3t4_76 qf0 qf1 qX0 qf2 qf3 qr0 qk0 qT qb0 qe0 qL0 qd0 qn0 qz0 qD0 qh0 qD1 qv0 cI cJ cZ cB cT f_row)) [1, 2, 0] rfl rfl
    cases hf
    exact mret_i hx hb hr hlocks hP hD hS dX11_is_11 rfl trivial
  · refine lv_iload_n hx hb dX11_is_12 rfl (lv_at hl 1 rfl) ?_
    refine lv_iconst (v := (1 : Int32)) hx hb dX11_is_13 (by decide) ?_
    refine xicmp_ne hx hb 27 dX11_is_14 (by decide) hf (fun hf => ?_) (fun hf => ?_)
    · refine lv_aload_n hx hb dX11_is_17 rfl (lv_at hl 0 rfl) ?_
      refine gfX11_54 hx hb hts hown hK hP 2 rfl rfl dX11_is_18 ?_
      obtain ⟨r21, hg21, hf⟩ := ob1_some hf
      refine mcV_i (wr := [(qX0, .inr (11, [.ref qr0, .ref qk0, .ref qT, .ref qb0, .ref qe0, .ref qL0, .ref qf0, .ref qd0, .ref qn0, .ref qz0, .ref qD0, .ref qh0, .ref qD1, .ref qv0]))]) (As := []) (rest := []) hx hb hml hown hts hK hP hD hS hA (k_X1_x l N D cI cJ cZ cB cT qf0 qf1 qf2 qf3 f_row r21 hg21) (kwX11_228 hts rfl rfl ⟨Nat.le_of_ble_eq_true rfl, Nat.le_of_ble_eq_true rfl⟩) [0, 1] [2] rfl rfl rfl (by decide) rfl 0 rfl rfl rfl rfl hl.1 rfl (Nat.le_of_ble_eq_true rfl) dX11_is_21 ⟨Nat.zero_le _, Nat.zero_le _⟩ (fun hB21 H locs hP hD hS => ?_)
      have hP := mP_sub (wc := (W_X_3t4_76 qf0 qf1 qX0 qf2 qf3 qr0 qk0 qT qb0 qe0 qL0 qd0 qn0 qz0 qD0 qh0 qD1 qv0 cI cJ cZ cB cT f_row)) hP [1, 2, 0] rfl
      have hD := hD.sub (ws' := (W_X_3t4_76 qf0 qf1 qX0 qf2 qf3 qr0 qk0 qT qb0 qe0 qL0 qd0 qn0 qz0 qD0 qh0 qD1 qv0 cI cJ cZ cB cT f_row)) [1, 2, 0] rfl rfl
      refine lv_goto (tgt := 29) hx hb dX11_is_24 (by decide) ?_
      cases hf
      exact mret_i hx hb hr hlocks hP hD hS dX11_is_29 rfl trivial
    · refine lv_bipush (v := (-2 : Int32)) hx hb dX11_is_27 (by decide) ?_
      cases hf
      exact mret_i hx hb hr hlocks hP hD hS dX11_is_29 rfl trivial
theorem dX11_book_0 : decode cX11_book 0 = .ok (.iload_n 1, 1) := by decide +kernel
theorem dX11_book_1 : decode cX11_book 1 = .ok (.iconst (-1), 1) := by decide +kernel
theorem dX11_book_2 : decode cX11_book 2 = .ok (.if_icmp .ne 11, 3) := by decide +kernel
theorem dX11_book_5 : decode cX11_book 5 = .ok (.aload_n 0, 1) := by decide +kernel
theorem dX11_book_6 : decode cX11_book 6 = .ok (.getfield 54, 3) := by decide +kernel
theorem dX11_book_9 : decode cX11_book 9 = .ok (.invokevirtual 263, 3) := by decide +kernel
theorem dX11_book_12 : decode cX11_book 12 = .ok (.ireturn, 1) := by decide +kernel
theorem dX11_book_13 : decode cX11_book 13 = .ok (.iload_n 1, 1) := by decide +kernel
theorem dX11_book_14 : decode cX11_book 14 = .ok (.ifCond .lt 14, 3) := by decide +kernel
theorem dX11_book_17 : decode cX11_book 17 = .ok (.iload_n 1, 1) := by decide +kernel
theorem dX11_book_18 : decode cX11_book 18 = .ok (.aload_n 0, 1) := by decide +kernel
theorem dX11_book_19 : decode cX11_book 19 = .ok (.getfield 54, 3) := by decide +kernel
theorem dX11_book_22 : decode cX11_book 22 = .ok (.invokevirtual 263, 3) := by decide +kernel
theorem dX11_book_25 : decode cX11_book 25 = .ok (.if_icmp .lt 6, 3) := by decide +kernel
theorem dX11_book_28 : decode cX11_book 28 = .ok (.bipush (-2), 2) := by decide +kernel
theorem dX11_book_30 : decode cX11_book 30 = .ok (.ireturn, 1) := by decide +kernel
theorem dX11_book_31 : decode cX11_book 31 = .ok (.iload_n 2, 1) := by decide +kernel
theorem dX11_book_32 : decode cX11_book 32 = .ok (.tableswitch 55 0 2 #[28, 37, 46], 28) := by decide +kernel
theorem dX11_book_60 : decode cX11_book 60 = .ok (.aload_n 0, 1) := by decide +kernel
theorem dX11_book_61 : decode cX11_book 61 = .ok (.getfield 54, 3) := by decide +kernel
theorem dX11_book_64 : decode cX11_book 64 = .ok (.iload_n 1, 1) := by decide +kernel
theorem dX11_book_65 : decode cX11_book 65 = .ok (.invokevirtual 266, 3) := by decide +kernel
theorem dX11_book_68 : decode cX11_book 68 = .ok (.ireturn, 1) := by decide +kernel
theorem dX11_book_69 : decode cX11_book 69 = .ok (.aload_n 0, 1) := by decide +kernel
theorem dX11_book_70 : decode cX11_book 70 = .ok (.getfield 54, 3) := by decide +kernel
theorem dX11_book_73 : decode cX11_book 73 = .ok (.iload_n 1, 1) := by decide +kernel
theorem dX11_book_74 : decode cX11_book 74 = .ok (.invokevirtual 269, 3) := by decide +kernel
theorem dX11_book_77 : decode cX11_book 77 = .ok (.ireturn, 1) := by decide +kernel
theorem dX11_book_78 : decode cX11_book 78 = .ok (.aload_n 0, 1) := by decide +kernel
theorem dX11_book_79 : decode cX11_book 79 = .ok (.getfield 54, 3) := by decide +kernel
theorem dX11_book_82 : decode cX11_book 82 = .ok (.iload_n 1, 1) := by decide +kernel
theorem dX11_book_83 : decode cX11_book 83 = .ok (.invokevirtual 272, 3) := by decide +kernel
theorem dX11_book_86 : decode cX11_book 86 = .ok (.ireturn, 1) := by decide +kernel
theorem dX11_book_87 : decode cX11_book 87 = .ok (.bipush (-2), 2) := by decide +kernel
theorem dX11_book_89 : decode cX11_book 89 = .ok (.ireturn, 1) := by decide +kernel
def f_X11_book (N : Nat) (f_row : Nat → Int32) (p1 : Int32) (p2 : Int32) : Option (Int32) := if p1 = (-1 : Int32) then (ob1 (f_X1_written N f_row) fun r9 => some r9) else (if p1 < 0 then (some (-2 : Int32)) else (ob1 (f_X1_written N f_row) fun r22 => if p1 < r22 then (if p2 = (0 : Int32) then (ob1 (f_X1_entryMonth N f_row p1) fun r65 => some r65) else if p2 = (1 : Int32) then (ob1 (f_X1_entryPerson N f_row p1) fun r74 => some r74) else if p2 = (2 : Int32) then (ob1 (f_X1_entryWhat N f_row p1) fun r83 => some r83) else (some (-2 : Int32))) else (some (-2 : Int32))))
set_option maxHeartbeats 4000000 in
set_option maxRecDepth 100000 in
theorem k_X11_book (l : Launch) (N : Nat) (D : va_G) (cI cJ cZ cB cT : ClassId) (qf0 : Nat) (qf1 : Nat) (qX0 : Nat) (qf2 : Nat) (qf3 : Nat) (qr0 : Nat) (qk0 : Nat) (qT : Nat) (qb0 : Nat) (qe0 : Nat) (qL0 : Nat) (qd0 : Nat) (qn0 : Nat) (qz0 : Nat) (qD0 : Nat) (qh0 : Nat) (qD1 : Nat) (qv0 : Nat) (f_row : Nat → Int32) (p1 : Int32) (p2 : Int32) (o_r : Int32) (hf : f_X11_book N f_row p1 p2 = some o_r) : ∀ sz, Met l yX11_book (mw yX11_book cX11_book 3 (some .int)) ({ frames := 2, cells := 0, slots := 0, locals := 42 } : Room) (mPre D (mT cI cJ cZ cB cT) (W_X_3t4_76 qf0 qf1 qX0 qf2 qf3 qr0 qk0 qT qb0 qe0 qL0 qd0 qn0 qz0 qD0 qh0 qD1 qv0 cI cJ cZ cB cT f_row) sz [.ref qX0, .int p1, .int p2]) ((mQi D (W_X_3t4_76 qf0 qf1 qX0 qf2 qf3 qr0 qk0 qT qb0 qe0 qL0 qd0 qn0 qz0 qD0 qh0 qD1 qv0 cI cJ cZ cB cT f_row) o_r True) (va_A (W_X_3t4_76 qf0 qf1 qX0 qf2 qf3 qr0 qk0 qT qb0 qe0 qL0 qd0 qn0 qz0 qD0 qh0 qD1 qv0 cI cJ cZ cB cT f_row) sz)) 0 0 (va_A (W_X_3t4_76 qf0 qf1 qX0 qf2 qf3 qr0 qk0 qT qb0 qe0 qL0 qd0 qn0 qz0 qD0 qh0 qD1 qv0 cI cJ cZ cB cT f_row) sz) := by
  refine mMet (Qc := (mQi D (W_X_3t4_76 qf0 qf1 qX0 qf2 qf3 qr0 qk0 qT qb0 qe0 qL0 qd0 qn0 qz0 qD0 qh0 qD1 qv0 cI cJ cZ cB cT f_row) o_r True)) (by decide) (Nat.le_of_ble_eq_true rfl) (fun p e s m below meth c A ls hx hb hr hml hts hown hlocks hK hA hP hD hl => ?_)
  have hown : s.vm.findClass RX11 = some m.cls := hown
  have hl : lv_has ls 3 [(0, .ref qX0), (1, .int p1), (2, .int p2)] := hl
  have hS : va_S A s.heap s.heap [] := va_S.rf
  unfold f_X11_book at hf
  refine lv_iload_n hx hb dX11_book_0 rfl (lv_at hl 1 rfl) ?_
  refine lv_iconst (v := (-1 : Int32)) hx hb dX11_book_1 (by decide) ?_
  refine xicmp_ne hx hb 13 dX11_book_2 (by decide) hf (fun hf => ?_) (fun hf => ?_)
  · refine lv_aload_n hx hb dX11_book_5 rfl (lv_at hl 0 rfl) ?_
    refine gfX11_54 hx hb hts hown hK hP 2 rfl rfl dX11_book_6 ?_
    obtain ⟨r9, hg9, hf⟩ := ob1_some hf
    refine mcV_i (wr := [(qX0, .inr (11, [.ref qr0, .ref qk0, .ref qT, .ref qb0, .ref qe0, .ref qL0, .ref qf0, .ref qd0, .ref qn0, .ref qz0, .ref qD0, .ref qh0, .ref qD1, .ref qv0]))]) (As := []) (rest := []) hx hb hml hown hts hK hP hD hS hA (k_X1_written l N D cI cJ cZ cB cT qf0 qf1 qf2 qf3 f_row r9 hg9) (kwX11_263 hts rfl rfl ⟨Nat.le_of_ble_eq_true rfl, Nat.le_of_ble_eq_true rfl⟩) [0, 1] [2] rfl rfl rfl (by decide) rfl 0 rfl rfl rfl rfl hl.1 rfl (Nat.le_of_ble_eq_true rfl) dX11_book_9 ⟨Nat.zero_le _, Nat.zero_le _⟩ (fun hB9 H locs hP hD hS => ?_)
    have hP := mP_sub (wc := (W_X_3t4_76 qf0 qf1 qX0 qf2 qf3 qr0 qk0 qT qb0 qe0 qL0 qd0 qn0 qz0 qD0 qh0 qD1 qv0 cI cJ cZ cB cT f_row)) hP [1, 2, 0] rfl
    have hD := hD.sub (ws' := (W_X_3t4_76 qf0 qf1 qX0 qf2 qf3 qr0 qk0 qT qb0 qe0 qL0 qd0 qn0 qz0 qD0 qh0 qD1 qv0 cI cJ cZ cB cT f_row)) [1, 2, 0] rfl rfl
    cases hf
    exact mret_i hx hb hr hlocks hP hD hS dX11_book_12 rfl trivial
  · refine lv_iload_n hx hb dX11_book_13 rfl (lv_at hl 1 rfl) ?_
    refine xif_lt hx hb 28 dX11_book_14 (by decide) hf (fun hf => ?_) (fun hf => ?_)
    · refine lv_bipush (v := (-2 : Int32)) hx hb dX11_book_28 (by decide) ?_
      cases hf
      exact mret_i hx hb hr hlocks hP hD hS dX11_book_30 rfl trivial
    · refine lv_iload_n hx hb dX11_book_17 rfl (lv_at hl 1 rfl) ?_
      refine lv_aload_n hx hb dX11_book_18 rfl (lv_at hl 0 rfl) ?_
      refine gfX11_54 hx hb hts hown hK hP 2 rfl rfl dX11_book_19 ?_
      obtain ⟨r22, hg22, hf⟩ := ob1_some hf
      refine mcV_i (wr := [(qX0, .inr (11, [.ref qr0, .ref qk0, .ref qT, .ref qb0, .ref qe0, .ref qL0, .ref qf0, .ref qd0, .ref qn0, .ref qz0, .ref qD0, .ref qh0, .ref qD1, .ref qv0]))]) (As := []) (rest := [.int p1]) hx hb hml hown hts hK hP hD hS hA (k_X1_written l N D cI cJ cZ cB cT qf0 qf1 qf2 qf3 f_row r22 hg22) (kwX11_263 hts rfl rfl ⟨Nat.le_of_ble_eq_true rfl, Nat.le_of_ble_eq_true rfl⟩) [0, 1] [2] rfl rfl rfl (by decide) rfl 0 rfl rfl rfl rfl hl.1 rfl (Nat.le_of_ble_eq_true rfl) dX11_book_22 ⟨Nat.zero_le _, Nat.zero_le _⟩ (fun hB22 H locs hP hD hS => ?_)
      have hP := mP_sub (wc := (W_X_3t4_76 qf0 qf1 qX0 qf2 qf3 qr0 qk0 qT qb0 qe0 qL0 qd0 qn0 qz0 qD0 qh0 qD1 qv0 cI cJ cZ cB cT f_row)) hP [1, 2, 0] rfl
      have hD := hD.sub (ws' := (W_X_3t4_76 qf0 qf1 qX0 qf2 qf3 qr0 qk0 qT qb0 qe0 qL0 qd0 qn0 qz0 qD0 qh0 qD1 qv0 cI cJ cZ cB cT f_row)) [1, 2, 0] rfl rfl
      refine xicmp_lt hx hb 31 dX11_book_25 (by decide) hf (fun hf => ?_) (fun hf => ?_)
      · refine lv_iload_n hx hb dX11_book_31 rfl (lv_at hl 2 rfl) ?_
        by_cases e32_0 : p2 = (0 : Int32)
        · replace hf := (if_pos e32_0).symm.trans hf
          refine lv_tableIn (off := 28) (tgt := 60) hx hb dX11_book_32 (by rw [e32_0]; decide) (by rw [e32_0]; decide) (by rw [e32_0]; rfl) (by decide) ?_
          refine lv_aload_n hx hb dX11_book_60 rfl (lv_at hl 0 rfl) ?_
          refine gfX11_54 hx hb hts hown hK hP 2 rfl rfl dX11_book_61 ?_
          refine lv_iload_n hx hb dX11_book_64 rfl (lv_at hl 1 rfl) ?_
          obtain ⟨r65, hg65, hf⟩ := ob1_some hf
          refine mcV_i (wr := [(qX0, .inr (11, [.ref qr0, .ref qk0, .ref qT, .ref qb0, .ref qe0, .ref qL0, .ref qf0, .ref qd0, .ref qn0, .ref qz0, .ref qD0, .ref qh0, .ref qD1, .ref qv0]))]) (As := [.int p1]) (rest := []) hx hb hml hown hts hK hP hD hS hA (k_X1_entryMonth l N D cI cJ cZ cB cT qf0 qf1 qf2 qf3 f_row p1 r65 hg65) (kwX11_266 hts rfl rfl ⟨Nat.le_of_ble_eq_true rfl, Nat.le_of_ble_eq_true rfl⟩) [0, 1] [2] rfl rfl rfl (by decide) rfl 0 rfl rfl rfl rfl hl.1 rfl (Nat.le_of_ble_eq_true rfl) dX11_book_65 ⟨Nat.zero_le _, Nat.zero_le _⟩ (fun hB65 H locs hP hD hS => ?_)
          have hP := mP_sub (wc := (W_X_3t4_76 qf0 qf1 qX0 qf2 qf3 qr0 qk0 qT qb0 qe0 qL0 qd0 qn0 qz0 qD0 qh0 qD1 qv0 cI cJ cZ cB cT f_row)) hP [1, 2, 0] rfl
          have hD := hD.sub (ws' := (W_X_3t4_76 qf0 qf1 qX0 qf2 qf3 qr0 qk0 qT qb0 qe0 qL0 qd0 qn0 qz0 qD0 qh0 qD1 qv0 cI cJ cZ cB cT f_row)) [1, 2, 0] rfl rfl
          cases hf
          exact mret_i hx hb hr hlocks hP hD hS dX11_book_68 rfl trivial
        replace hf := (if_neg e32_0).symm.trans hf
        by_cases e32_1 : p2 = (1 : Int32)
        · replace hf := (if_pos e32_1).symm.trans hf
          refine lv_tableIn (off := 37) (tgt := 69) hx hb dX11_book_32 (by rw [e32_1]; decide) (by rw [e32_1]; decide) (by rw [e32_1]; rfl) (by decide) ?_
          refine lv_aload_n hx hb dX11_book_69 rfl (lv_at hl 0 rfl) ?_
          refine gfX11_54 hx hb hts hown hK hP 2 rfl rfl dX11_book_70 ?_
          refine lv_iload_n hx hb dX11_book_73 rfl (lv_at hl 1 rfl) ?_
          obtain ⟨r74, hg74, hf⟩ := ob1_some hf
          refine mcV_i (wr := [(qX0, .inr (11, [.ref qr0, .ref qk0, .ref qT, .ref qb0, .ref qe0, .ref qL0, .ref qf0, .ref qd0, .ref qn0, .ref qz0, .ref qD0, .ref qh0, .ref qD1, .ref qv0]))]) (As := [.int p1]) (rest := []) hx hb hml hown hts hK hP hD hS hA (k_X1_entryPerson l N D cI cJ cZ cB cT qf0 qf1 qf2 qf3 f_row p1 r74 hg74) (kwX11_269 hts rfl rfl ⟨Nat.le_of_ble_eq_true rfl, Nat.le_of_ble_eq_true rfl⟩) [0, 1] [2] rfl rfl rfl (by decide) rfl 0 rfl rfl rfl rfl hl.1 rfl (Nat.le_of_ble_eq_true rfl) dX11_book_74 ⟨Nat.zero_le _, Nat.zero_le _⟩ (fun hB74 H locs hP hD hS => ?_)
          have hP := mP_sub (wc := (W_X_3t4_76 qf0 qf1 qX0 qf2 qf3 qr0 qk0 qT qb0 qe0 qL0 qd0 qn0 qz0 qD0 qh0 qD1 qv0 cI cJ cZ cB cT f_row)) hP [1, 2, 0] rfl
          have hD := hD.sub (ws' := (W_X_3t4_76 qf0 qf1 qX0 qf2 qf3 qr0 qk0 qT qb0 qe0 qL0 qd0 qn0 qz0 qD0 qh0 qD1 qv0 cI cJ cZ cB cT f_row)) [1, 2, 0] rfl rfl
          cases hf
          exact mret_i hx hb hr hlocks hP hD hS dX11_book_77 rfl trivial
        replace hf := (if_neg e32_1).symm.trans hf
        by_cases e32_2 : p2 = (2 : Int32)
        · replace hf := (if_pos e32_2).symm.trans hf
          refine lv_tableIn (off := 46) (tgt := 78) hx hb dX11_book_32 (by rw [e32_2]; decide) (by rw [e32_2]; decide) (by rw [e32_2]; rfl) (by decide) ?_
          refine lv_aload_n hx hb dX11_book_78 rfl (lv_at hl 0 rfl) ?_
          refine gfX11_54 hx hb hts hown hK hP 2 rfl rfl dX11_book_79 ?_
          refine lv_iload_n hx hb dX11_book_82 rfl (lv_at hl 1 rfl) ?_
          obtain ⟨r83, hg83, hf⟩ := ob1_some hf
          refine mcV_i (wr := [(qX0, .inr (11, [.ref qr0, .ref qk0, .ref qT, .ref qb0, .ref qe0, .ref qL0, .ref qf0, .ref qd0, .ref qn0, .ref qz0, .ref qD0, .ref qh0, .ref qD1, .ref qv0]))]) (As := [.int p1]) (rest := []) hx hb hml hown hts hK hP hD hS hA (k_X1_entryWhat l N D cI cJ cZ cB cT qf0 qf1 qf2 qf3 f_row p1 r83 hg83) (kwX11_272 hts rfl rfl ⟨Nat.le_of_ble_eq_true rfl, Nat.le_of_ble_eq_true rfl⟩) [0, 1] [2] rfl rfl rfl (by decide) rfl 0 rfl rfl rfl rfl hl.1 rfl (Nat.le_of_ble_eq_true rfl) dX11_book_83 ⟨Nat.zero_le _, Nat.zero_le _⟩ (fun hB83 H locs hP hD hS => ?_)
          have hP := mP_sub (wc := (W_X_3t4_76 qf0 qf1 qX0 qf2 qf3 qr0 qk0 qT qb0 qe0 qL0 qd0 qn0 qz0 qD0 qh0 qD1 qv0 cI cJ cZ cB cT f_row)) hP [1, 2, 0] rfl
          have hD := hD.sub (ws' := (W_X_3t4_76 qf0 qf1 qX0 qf2 qf3 qr0 qk0 qT qb0 qe0 qL0 qd0 qn0 qz0 qD0 qh0 qD1 qv0 cI cJ cZ cB cT f_row)) [1, 2, 0] rfl rfl
          cases hf
          exact mret_i hx hb hr hlocks hP hD hS dX11_book_86 rfl trivial
        replace hf := (if_neg e32_2).symm.trans hf
        have ne32_0 : p2.toInt ≠ (0 : Int) := sw_ne e32_0
        have ne32_1 : p2.toInt ≠ (1 : Int) := sw_ne e32_1
        have ne32_2 : p2.toInt ≠ (2 : Int) := sw_ne e32_2
        refine lv_tableOut (tgt := 87) hx hb dX11_book_32 (by omega) (by decide) ?_
        refine lv_bipush (v := (-2 : Int32)) hx hb dX11_book_87 (by decide) ?_
        cases hf
        exact mret_i hx hb hr hlocks hP hD hS dX11_book_89 rfl trivial
      · refine lv_bipush (v := (-2 : Int32)) hx hb dX11_book_28 (by decide) ?_
        cases hf
        exact mret_i hx hb hr hlocks hP hD hS dX11_book_30 rfl trivial
theorem dX11_foretold_0 : decode cX11_foretold 0 = .ok (.iload_n 1, 1) := by decide +kernel
theorem dX11_foretold_1 : decode cX11_foretold 1 = .ok (.iconst 1, 1) := by decide +kernel
theorem dX11_foretold_2 : decode cX11_foretold 2 = .ok (.if_icmp .lt 20, 3) := by decide +kernel
theorem dX11_foretold_5 : decode cX11_foretold 5 = .ok (.iload_n 1, 1) := by decide +kernel
theorem dX11_foretold_6 : decode cX11_foretold 6 = .ok (.bipush 60, 2) := by decide +kernel
theorem dX11_foretold_8 : decode cX11_foretold 8 = .ok (.if_icmp .gt 14, 3) := by decide +kernel
theorem dX11_foretold_11 : decode cX11_foretold 11 = .ok (.aload_n 0, 1) := by decide +kernel
theorem dX11_foretold_12 : decode cX11_foretold 12 = .ok (.getfield 54, 3) := by decide +kernel
theorem dX11_foretold_15 : decode cX11_foretold 15 = .ok (.iload_n 2, 1) := by decide +kernel
theorem dX11_foretold_16 : decode cX11_foretold 16 = .ok (.invokevirtual 238, 3) := by decide +kernel
theorem dX11_foretold_19 : decode cX11_foretold 19 = .ok (.ifCond .ne 5, 3) := by decide +kernel
theorem dX11_foretold_22 : decode cX11_foretold 22 = .ok (.iconst (-1), 1) := by decide +kernel
theorem dX11_foretold_23 : decode cX11_foretold 23 = .ok (.ireturn, 1) := by decide +kernel
theorem dX11_foretold_24 : decode cX11_foretold 24 = .ok (.aload_n 0, 1) := by decide +kernel
theorem dX11_foretold_25 : decode cX11_foretold 25 = .ok (.getfield 82, 3) := by decide +kernel
theorem dX11_foretold_28 : decode cX11_foretold 28 = .ok (.aload_n 0, 1) := by decide +kernel
theorem dX11_foretold_29 : decode cX11_foretold 29 = .ok (.getfield 54, 3) := by decide +kernel
theorem dX11_foretold_32 : decode cX11_foretold 32 = .ok (.invokevirtual 275, 3) := by decide +kernel
theorem dX11_foretold_35 : decode cX11_foretold 35 = .ok (.iconst 0, 1) := by decide +kernel
theorem dX11_foretold_36 : decode cX11_foretold 36 = .ok (.istore 4, 2) := by decide +kernel
theorem dX11_foretold_38 : decode cX11_foretold 38 = .ok (.iload 4, 2) := by decide +kernel
theorem dX11_foretold_40 : decode cX11_foretold 40 = .ok (.iload_n 1, 1) := by decide +kernel
theorem dX11_foretold_41 : decode cX11_foretold 41 = .ok (.if_icmp .ge 17, 3) := by decide +kernel
theorem dX11_foretold_44 : decode cX11_foretold 44 = .ok (.aload_n 0, 1) := by decide +kernel
theorem dX11_foretold_45 : decode cX11_foretold 45 = .ok (.getfield 85, 3) := by decide +kernel
theorem dX11_foretold_48 : decode cX11_foretold 48 = .ok (.invokevirtual 172, 3) := by decide +kernel
theorem dX11_foretold_51 : decode cX11_foretold 51 = .ok (.pop, 1) := by decide +kernel
theorem dX11_foretold_52 : decode cX11_foretold 52 = .ok (.iinc 4 1, 3) := by decide +kernel
theorem dX11_foretold_55 : decode cX11_foretold 55 = .ok (.goto (-17), 3) := by decide +kernel
theorem dX11_foretold_58 : decode cX11_foretold 58 = .ok (.aload_n 0, 1) := by decide +kernel
theorem dX11_foretold_59 : decode cX11_foretold 59 = .ok (.getfield 82, 3) := by decide +kernel
theorem dX11_foretold_62 : decode cX11_foretold 62 = .ok (.iload_n 2, 1) := by decide +kernel
theorem dX11_foretold_63 : decode cX11_foretold 63 = .ok (.iload_n 3, 1) := by decide +kernel
theorem dX11_foretold_64 : decode cX11_foretold 64 = .ok (.ifCond .eq 7, 3) := by decide +kernel
theorem dX11_foretold_67 : decode cX11_foretold 67 = .ok (.iconst 1, 1) := by decide +kernel
theorem dX11_foretold_68 : decode cX11_foretold 68 = .ok (.goto 5, 3) := by decide +kernel
theorem dX11_foretold_71 : decode cX11_foretold 71 = .ok (.bipush 6, 2) := by decide +kernel
theorem dX11_foretold_73 : decode cX11_foretold 73 = .ok (.invokevirtual 239, 3) := by decide +kernel
theorem dX11_foretold_76 : decode cX11_foretold 76 = .ok (.ireturn, 1) := by decide +kernel
def f_X11_foretold_73 (N : Nat) (d_n : Int32) (d_for : Nat → Int32) (f_row : Nat → Int32) (f_fears : Nat → Int32) (f_told : Nat → Int32) (r_tx : Int32) (r_rul : Int32) (t_code : Nat → Int32) (t_st : Nat → Int32) (t_en : Nat → Int32) (u_code : Nat → Int32) (u_st : Nat → Int32) (u_en : Nat → Int32) (w_code : Nat → Int32) (w_st : Nat → Int32) (w_en : Nat → Int32) (x_code : Nat → Int32) (x_st : Nat → Int32) (x_en : Nat → Int32) (l_names : Nat → Int32) (l_stack : Nat → Int32) (h_row : Nat → Int32) (h_fears : Nat → Int32) (h_told : Nat → Int32) (s1 : Int32) (s2 : Int32) : Option (Int32 × (Nat → Int32) × (Nat → Int32) × (Nat → Int32) × (Nat → Int32) × (Nat → Int32)) := ob1 (f_X1_get N h_row s1 s2) fun r73 => some (r73, l_names, l_stack, h_row, h_fears, h_told)
def f_X11_foretold_38 (N : Nat) : Nat → Int32 → (Nat → Int32) → (Nat → Int32) → (Nat → Int32) → (Nat → Int32) → Int32 → Int32 → (Nat → Int32) → (Nat → Int32) → (Nat → Int32) → (Nat → Int32) → (Nat → Int32) → (Nat → Int32) → (Nat → Int32) → (Nat → Int32) → (Nat → Int32) → (Nat → Int32) → (Nat → Int32) → (Nat → Int32) → (Nat → Int32) → (Nat → Int32) → (Nat → Int32) → (Nat → Int32) → (Nat → Int32) → Int32 → Int32 → Int32 → Int32 → Option (Int32 × (Nat → Int32) × (Nat → Int32) × (Nat → Int32) × (Nat → Int32) × (Nat → Int32))
  | 0, _, _, _, _, _, _, _, _, _, _, _, _, _, _, _, _, _, _, _, _, _, _, _, _, _, _, _, _ => none
  | n + 1, d_n, d_for, f_row, f_fears, f_told, r_tx, r_rul, t_code, t_st, t_en, u_code, u_st, u_en, w_code, w_st, w_en, x_code, x_st, x_en, l_names, l_stack, h_row, h_fears, h_told, x1, x2, x3, x4 => if x1 ≤ x4 then (if x3 = 0 then (f_X11_foretold_73 N d_n d_for f_row f_fears f_told r_tx r_rul t_code t_st t_en u_code u_st u_en w_code w_st w_en x_code x_st x_en l_names l_stack h_row h_fears h_told x2 (6 : Int32)) else (f_X11_foretold_73 N d_n d_for f_row f_fears f_told r_tx r_rul t_code t_st t_en u_code u_st u_en w_code w_st w_en x_code x_st x_en l_names l_stack h_row h_fears h_told x2 (1 : Int32))) else (ob4 (f_X0_passMonth N d_n d_for t_code t_st t_en u_code u_st u_en w_code w_st w_en x_code x_st x_en h_row h_fears r_tx r_rul l_names l_stack) fun r48 h_row_48 l_names_48 l_stack_48 => (f_X11_foretold_38 N n) d_n d_for f_row f_fears f_told r_tx r_rul t_code t_st t_en u_code u_st u_en w_code w_st w_en x_code x_st x_en l_names_48 l_stack_48 h_row_48 h_fears h_told x1 x2 x3 (x4 + (1 : Int32)))
def f_X11_foretold (N : Nat) (d_n : Int32) (d_for : Nat → Int32) (f_row : Nat → Int32) (f_fears : Nat → Int32) (f_told : Nat → Int32) (r_tx : Int32) (r_rul : Int32) (t_code : Nat → Int32) (t_st : Nat → Int32) (t_en : Nat → Int32) (u_code : Nat → Int32) (u_st : Nat → Int32) (u_en : Nat → Int32) (w_code : Nat → Int32) (w_st : Nat → Int32) (w_en : Nat → Int32) (x_code : Nat → Int32) (x_st : Nat → Int32) (x_en : Nat → Int32) (l_names : Nat → Int32) (l_stack : Nat → Int32) (h_row : Nat → Int32) (h_fears : Nat → Int32) (h_told : Nat → Int32) (p1 : Int32) (p2 : Int32) (p3 : Int32) : Option (Int32 × (Nat → Int32) × (Nat → Int32) × (Nat → Int32) × (Nat → Int32) × (Nat → Int32)) := if p1 < (1 : Int32) then (some ((-1 : Int32), l_names, l_stack, h_row, h_fears, h_told)) else (if (60 : Int32) < p1 then (some ((-1 : Int32), l_names, l_stack, h_row, h_fears, h_told)) else (ob1 (f_X1_told N f_row p2) fun r16 => if r16 = 0 then (some ((-1 : Int32), l_names, l_stack, h_row, h_fears, h_told)) else (ob3 (f_X1_become N h_row h_fears h_told f_row f_fears f_told) fun h_row_32 h_fears_32 h_told_32 => f_X11_foretold_38 N N d_n d_for f_row f_fears f_told r_tx r_rul t_code t_st t_en u_code u_st u_en w_code w_st w_en x_code x_st x_en l_names l_stack h_row_32 h_fears_32 h_told_32 p1 p2 p3 (0 : Int32))))
set_option maxHeartbeats 4000000 in
set_option maxRecDepth 100000 in
theorem k_X11_foretold (l : Launch) (N : Nat) (D : va_G) (cI cJ cZ cB cT : ClassId) (qd0 : Nat) (qd1 : Nat) (qf0 : Nat) (qf1 : Nat) (qf2 : Nat) (qf3 : Nat) (qr0 : Nat) (qt0 : Nat) (qt1 : Nat) (qt2 : Nat) (qt3 : Nat) (qu0 : Nat) (qu1 : Nat) (qu2 : Nat) (qu3 : Nat) (qw0 : Nat) (qw1 : Nat) (qw2 : Nat) (qw3 : Nat) (qx0 : Nat) (qx1 : Nat) (qx2 : Nat) (qx3 : Nat) (qT : Nat) (qL1 : Nat) (qL2 : Nat) (qL0 : Nat) (qh0 : Nat) (qh1 : Nat) (qh2 : Nat) (qh3 : Nat) (qD1 : Nat) (qX0 : Nat) (qd2 : Nat) (qz0 : Nat) (qn0 : Nat) (qt4 : Nat) (qu4 : Nat) (qw4 : Nat) (qx4 : Nat) (qk0 : Nat) (qb0 : Nat) (qe0 : Nat) (qD0 : Nat) (qv0 : Nat) (d_n : Int32) (d_for : Nat → Int32) (f_row : Nat → Int32) (f_fears : Nat → Int32) (f_told : Nat → Int32) (r_tx : Int32) (r_rul : Int32) (t_cl : Int32) (t_ln : Int32) (t_pt : Int32) (t_code : Nat → Int32) (t_st : Nat → Int32) (t_en : Nat → Int32) (u_cl : Int32) (u_ln : Int32) (u_pt : Int32) (u_code : Nat → Int32) (u_st : Nat → Int32) (u_en : Nat → Int32) (w_cl : Int32) (w_ln : Int32) (w_pt : Int32) (w_code : Nat → Int32) (w_st : Nat → Int32) (w_en : Nat → Int32) (x_cl : Int32) (x_ln : Int32) (x_pt : Int32) (x_code : Nat → Int32) (x_st : Nat → Int32) (x_en : Nat → Int32) (l_names : Nat → Int32) (l_stack : Nat → Int32) (h_row : Nat → Int32) (h_fears : Nat → Int32) (h_told : Nat → Int32) (p1 : Int32) (p2 : Int32) (p3 : Int32) (o_r : Int32) (o_l_names : Nat → Int32) (o_l_stack : Nat → Int32) (o_h_row : Nat → Int32) (o_h_fears : Nat → Int32) (o_h_told : Nat → Int32) (hf : f_X11_foretold N d_n d_for f_row f_fears f_told r_tx r_rul t_code t_st t_en u_code u_st u_en w_code w_st w_en x_code x_st x_en l_names l_stack h_row h_fears h_told p1 p2 p3 = some (o_r, o_l_names, o_l_stack, o_h_row, o_h_fears, o_h_told)) : ∀ sz, Met l yX11_foretold (mw yX11_foretold cX11_foretold 5 (some .int)) ({ frames := 5, cells := 0, slots := 0, locals := 147 } : Room) (mPreE D (mT cI cJ cZ cB cT) (W_X_0t1_3t6_16_34t37_39t42_44t47_49t52_54_61t63_65t69_76 qd0 qd1 qf0 qf1 qf2 qf3 qr0 qt0 qt1 qt2 qt3 qu0 qu1 qu2 qu3 qw0 qw1 qw2 qw3 qx0 qx1 qx2 qx3 qT qL1 qL2 qL0 qh0 qh1 qh2 qh3 qD1 qX0 qd2 qz0 qn0 qt4 qu4 qw4 qx4 qk0 qb0 qe0 qD0 qv0 cI cJ cZ cB cT d_n d_for f_row f_fears f_told r_tx r_rul t_cl t_ln t_pt t_code t_st t_en u_cl u_ln u_pt u_code u_st u_en w_cl w_ln w_pt w_code w_st w_en x_cl x_ln x_pt x_code x_st x_en l_names l_stack h_row h_fears h_told) sz [.ref qX0, .int p1, .int p2, .int p3]) ((mQi D (W_X_0t1_3t6_16_34t37_39t42_44t47_49t52_54_61t63_65t69_76 qd0 qd1 qf0 qf1 qf2 qf3 qr0 qt0 qt1 qt2 qt3 qu0 qu1 qu2 qu3 qw0 qw1 qw2 qw3 qx0 qx1 qx2 qx3 qT qL1 qL2 qL0 qh0 qh1 qh2 qh3 qD1 qX0 qd2 qz0 qn0 qt4 qu4 qw4 qx4 qk0 qb0 qe0 qD0 qv0 cI cJ cZ cB cT d_n d_for f_row f_fears f_told r_tx r_rul t_cl t_ln t_pt t_code t_st t_en u_cl u_ln u_pt u_code u_st u_en w_cl w_ln w_pt w_code w_st w_en x_cl x_ln x_pt x_code x_st x_en o_l_names o_l_stack o_h_row o_h_fears o_h_told) o_r True) (va_A (W_X_0t1_3t6_16_34t37_39t42_44t47_49t52_54_61t63_65t69_76 qd0 qd1 qf0 qf1 qf2 qf3 qr0 qt0 qt1 qt2 qt3 qu0 qu1 qu2 qu3 qw0 qw1 qw2 qw3 qx0 qx1 qx2 qx3 qT qL1 qL2 qL0 qh0 qh1 qh2 qh3 qD1 qX0 qd2 qz0 qn0 qt4 qu4 qw4 qx4 qk0 qb0 qe0 qD0 qv0 cI cJ cZ cB cT d_n d_for f_row f_fears f_told r_tx r_rul t_cl t_ln t_pt t_code t_st t_en u_cl u_ln u_pt u_code u_st u_en w_cl w_ln w_pt w_code w_st w_en x_cl x_ln x_pt x_code x_st x_en l_names l_stack h_row h_fears h_told) sz)) 0 0 (va_A (W_X_0t1_3t6_16_34t37_39t42_44t47_49t52_54_61t63_65t69_76 qd0 qd1 qf0 qf1 qf2 qf3 qr0 qt0 qt1 qt2 qt3 qu0 qu1 qu2 qu3 qw0 qw1 qw2 qw3 qx0 qx1 qx2 qx3 qT qL1 qL2 qL0 qh0 qh1 qh2 qh3 qD1 qX0 qd2 qz0 qn0 qt4 qu4 qw4 qx4 qk0 qb0 qe0 qD0 qv0 cI cJ cZ cB cT d_n d_for f_row f_fears f_told r_tx r_rul t_cl t_ln t_pt t_code t_st t_en u_cl u_ln u_pt u_code u_st u_en w_cl w_ln w_pt w_code w_st w_en x_cl x_ln x_pt x_code x_st x_en l_names l_stack h_row h_fears h_told) sz) := by
  refine mMetE (Qc := (mQi D (W_X_0t1_3t6_16_34t37_39t42_44t47_49t52_54_61t63_65t69_76 qd0 qd1 qf0 qf1 qf2 qf3 qr0 qt0 qt1 qt2 qt3 qu0 qu1 qu2 qu3 qw0 qw1 qw2 qw3 qx0 qx1 qx2 qx3 qT qL1 qL2 qL0 qh0 qh1 qh2 qh3 qD1 qX0 qd2 qz0 qn0 qt4 qu4 qw4 qx4 qk0 qb0 qe0 qD0 qv0 cI cJ cZ cB cT d_n d_for f_row f_fears f_told r_tx r_rul t_cl t_ln t_pt t_code t_st t_en u_cl u_ln u_pt u_code u_st u_en w_cl w_ln w_pt w_code w_st w_en x_cl x_ln x_pt x_code x_st x_en o_l_names o_l_stack o_h_row o_h_fears o_h_told) o_r True)) (by decide) (Nat.le_of_ble_eq_true rfl) (fun p e s m below meth c A ls hx hb hr hml hts hown hlocks hK hA hP hD hl hE => ?_)
  have hown : s.vm.findClass RX11 = some m.cls := hown
  have hl : lv_has ls 5 [(0, .ref qX0), (1, .int p1), (2, .int p2), (3, .int p3)] := hl
  have hS : va_S A s.heap s.heap [] := va_S.rf
  obtain ⟨⟨tM, hZM, hTM⟩, ⟨tL, hZL, hTL⟩, ⟨hNX4, hNX10⟩, tS, tV, hRS, hZC, hZF, hKS⟩ := id hE
  have b73 : ∀ (l_names : Nat → Int32) (l_stack : Nat → Int32) (h_row : Nat → Int32) (h_fears : Nat → Int32) (h_told : Nat → Int32) (s1 : Int32) (s2 : Int32) (H : Heap) (locs : List Loc) (ls : Array Slot), f_X11_foretold_73 N d_n d_for f_row f_fears f_told r_tx r_rul t_code t_st t_en u_code u_st u_en w_code w_st w_en x_code x_st x_en l_names l_stack h_row h_fears h_told s1 s2 = some (o_r, o_l_names, o_l_stack, o_h_row, o_h_fears, o_h_told) → va_P D vwCl (W_X_0t1_3t6_16_34t37_39t42_44t47_49t52_54_61t63_65t69_76 qd0 qd1 qf0 qf1 qf2 qf3 qr0 qt0 qt1 qt2 qt3 qu0 qu1 qu2 qu3 qw0 qw1 qw2 qw3 qx0 qx1 qx2 qx3 qT qL1 qL2 qL0 qh0 qh1 qh2 qh3 qD1 qX0 qd2 qz0 qn0 qt4 qu4 qw4 qx4 qk0 qb0 qe0 qD0 qv0 cI cJ cZ cB cT d_n d_for f_row f_fears f_told r_tx r_rul t_cl t_ln t_pt t_code t_st t_en u_cl u_ln u_pt u_code u_st u_en w_cl w_ln w_pt w_code w_st w_en x_cl x_ln x_pt x_code x_st x_en l_names l_stack h_row h_fears h_told) H → va_D A (W_X_0t1_3t6_16_34t37_39t42_44t47_49t52_54_61t63_65t69_76 qd0 qd1 qf0 qf1 qf2 qf3 qr0 qt0 qt1 qt2 qt3 qu0 qu1 qu2 qu3 qw0 qw1 qw2 qw3 qx0 qx1 qx2 qx3 qT qL1 qL2 qL0 qh0 qh1 qh2 qh3 qD1 qX0 qd2 qz0 qn0 qt4 qu4 qw4 qx4 qk0 qb0 qe0 qD0 qv0 cI cJ cZ cB cT d_n d_for f_row f_fears f_told r_tx r_rul t_cl t_ln t_pt t_code t_st t_en u_cl u_ln u_pt u_code u_st u_en w_cl w_ln w_pt w_code w_st w_en x_cl x_ln x_pt x_code x_st x_en l_names l_stack h_row h_fears h_told) → va_S A s.heap H locs → lv_has ls 5 [] → W p l e ({ frames := 5, cells := 0, slots := 0, locals := 147 } : Room) s m ([.ref qX0, .int p1, .int p2, .int p3] : List Value).toArray below meth c H locs 0 0 (MQ below ((mQi D (W_X_0t1_3t6_16_34t37_39t42_44t47_49t52_54_61t63_65t69_76 qd0 qd1 qf0 qf1 qf2 qf3 qr0 qt0 qt1 qt2 qt3 qu0 qu1 qu2 qu3 qw0 qw1 qw2 qw3 qx0 qx1 qx2 qx3 qT qL1 qL2 qL0 qh0 qh1 qh2 qh3 qD1 qX0 qd2 qz0 qn0 qt4 qu4 qw4 qx4 qk0 qb0 qe0 qD0 qv0 cI cJ cZ cB cT d_n d_for f_row f_fears f_told r_tx r_rul t_cl t_ln t_pt t_code t_st t_en u_cl u_ln u_pt u_code u_st u_en w_cl w_ln w_pt w_code w_st w_en x_cl x_ln x_pt x_code x_st x_en o_l_names o_l_stack o_h_row o_h_fears o_h_told) o_r True) A) ([.ref qX0, .int p1, .int p2, .int p3] : List Value).toArray s 0 0 A) (F0 m 73 ls [.int s2, .int s1, .ref qh0]) := by
    intro l_names l_stack h_row h_fears h_told s1 s2 H locs ls hf hP hD hS hl
    unfold f_X11_foretold_73 at hf
    obtain ⟨r73, hg73, hf⟩ := ob1_some hf
    refine mcV_i (wr := [(qd0, .inr (2, [.int d_n, .ref qd1, .ref qd2])), (qd1, .inl (cI, 8, .inl d_for)), (qf0, .inr (1, [.ref qf1, .ref qf2, .ref qf3])), (qf1, .inl (cI, 76, .inl f_row)), (qf2, .inl (cI, 6, .inl f_fears)), (qf3, .inl (cI, 18, .inl f_told)), (qr0, .inr (6, [.ref qd0, .ref qf0, .ref qz0, .ref qn0, .int r_tx, .int r_rul])), (qt0, .inr (9, [.int t_cl, .int t_ln, .int t_pt, .ref qt1, .ref qt2, .ref qt3, .ref qt4])), (qt1, .inl (cI, 301, .inl t_code)), (qt2, .inl (cI, 4, .inl t_st)), (qt3, .inl (cI, 4, .inl t_en)), (qu0, .inr (9, [.int u_cl, .int u_ln, .int u_pt, .ref qu1, .ref qu2, .ref qu3, .ref qu4])), (qu1, .inl (cI, 301, .inl u_code)), (qu2, .inl (cI, 4, .inl u_st)), (qu3, .inl (cI, 4, .inl u_en)), (qw0, .inr (9, [.int w_cl, .int w_ln, .int w_pt, .ref qw1, .ref qw2, .ref qw3, .ref qw4])), (qw1, .inl (cI, 301, .inl w_code)), (qw2, .inl (cI, 4, .inl w_st)), (qw3, .inl (cI, 4, .inl w_en)), (qx0, .inr (9, [.int x_cl, .int x_ln, .int x_pt, .ref qx1, .ref qx2, .ref qx3, .ref qx4])), (qx1, .inl (cI, 301, .inl x_code)), (qx2, .inl (cI, 4, .inl x_st)), (qx3, .inl (cI, 4, .inl x_en)), (qT, .inl (cT, 4, .inr (.inr (.inr (.inr (fT qt0 qu0 qw0 qx0)))))), (qL1, .inl (cI, 10, .inl l_names)), (qL2, .inl (cI, 64, .inl l_stack)), (qL0, .inr (3, [.ref qr0, .ref qT, .ref qL1, .ref qL2])), (qh2, .inl (cI, 6, .inl h_fears)), (qh3, .inl (cI, 18, .inl h_told)), (qD1, .inr (0, [.ref qr0, .ref qh0, .ref qL0])), (qX0, .inr (11, [.ref qr0, .ref qk0, .ref qT, .ref qb0, .ref qe0, .ref qL0, .ref qf0, .ref qd0, .ref qn0, .ref qz0, .ref qD0, .ref qh0, .ref qD1, .ref qv0]))]) (As := [.int s1, .int s2]) (rest := []) hx hb hml hown hts hK hP hD hS hA (k_X1_get l N D cI cJ cZ cB cT qh0 qh1 qh2 qh3 h_row s1 s2 r73 hg73) (kwX11_239 hts rfl rfl ⟨Nat.le_of_ble_eq_true rfl, Nat.le_of_ble_eq_true rfl⟩) [27, 28] [0, 1, 2, 3, 4, 5, 6, 7, 8, 9, 10, 11, 12, 13, 14, 15, 16, 17, 18, 19, 20, 21, 22, 23, 24, 25, 26, 29, 30, 31, 32] rfl rfl rfl (by decide) rfl 0 rfl rfl rfl rfl hl.1 rfl (Nat.le_of_ble_eq_true rfl) dX11_foretold_73 ⟨Nat.zero_le _, Nat.zero_le _⟩ (fun hB73 H locs hP hD hS => ?_)
    have hP := mP_sub (wc := (W_X_0t1_3t6_16_34t37_39t42_44t47_49t52_54_61t63_65t69_76 qd0 qd1 qf0 qf1 qf2 qf3 qr0 qt0 qt1 qt2 qt3 qu0 qu1 qu2 qu3 qw0 qw1 qw2 qw3 qx0 qx1 qx2 qx3 qT qL1 qL2 qL0 qh0 qh1 qh2 qh3 qD1 qX0 qd2 qz0 qn0 qt4 qu4 qw4 qx4 qk0 qb0 qe0 qD0 qv0 cI cJ cZ cB cT d_n d_for f_row f_fears f_told r_tx r_rul t_cl t_ln t_pt t_code t_st t_en u_cl u_ln u_pt u_code u_st u_en w_cl w_ln w_pt w_code w_st w_en x_cl x_ln x_pt x_code x_st x_en l_names l_stack h_row h_fears h_told)) hP [0, 1, 2, 3, 4, 5, 6, 7, 8, 9, 10, 11, 12, 13, 14, 15, 16, 17, 18, 19, 20, 21, 22, 23, 24, 25, 26, 31, 32, 27, 28, 29, 30] rfl
    have hD := hD.sub (ws' := (W_X_0t1_3t6_16_34t37_39t42_44t47_49t52_54_61t63_65t69_76 qd0 qd1 qf0 qf1 qf2 qf3 qr0 qt0 qt1 qt2 qt3 qu0 qu1 qu2 qu3 qw0 qw1 qw2 qw3 qx0 qx1 qx2 qx3 qT qL1 qL2 qL0 qh0 qh1 qh2 qh3 qD1 qX0 qd2 qz0 qn0 qt4 qu4 qw4 qx4 qk0 qb0 qe0 qD0 qv0 cI cJ cZ cB cT d_n d_for f_row f_fears f_told r_tx r_rul t_cl t_ln t_pt t_code t_st t_en u_cl u_ln u_pt u_code u_st u_en w_cl w_ln w_pt w_code w_st w_en x_cl x_ln x_pt x_code x_st x_en l_names l_stack h_row h_fears h_told)) [0, 1, 2, 3, 4, 5, 6, 7, 8, 9, 10, 11, 12, 13, 14, 15, 16, 17, 18, 19, 20, 21, 22, 23, 24, 25, 26, 31, 32, 27, 28, 29, 30] rfl rfl
    cases hf
    exact mret_i hx hb hr hlocks hP hD hS dX11_foretold_76 rfl trivial
  have b38 : ∀ n38 : Nat, ∀ (l_names : Nat → Int32) (l_stack : Nat → Int32) (h_row : Nat → Int32) (h_fears : Nat → Int32) (h_told : Nat → Int32) (x1 : Int32) (x2 : Int32) (x3 : Int32) (x4 : Int32) (H : Heap) (locs : List Loc) (ls : Array Slot), f_X11_foretold_38 N n38 d_n d_for f_row f_fears f_told r_tx r_rul t_code t_st t_en u_code u_st u_en w_code w_st w_en x_code x_st x_en l_names l_stack h_row h_fears h_told x1 x2 x3 x4 = some (o_r, o_l_names, o_l_stack, o_h_row, o_h_fears, o_h_told) → va_P D vwCl (W_X_0t1_3t6_16_34t37_39t42_44t47_49t52_54_61t63_65t69_76 qd0 qd1 qf0 qf1 qf2 qf3 qr0 qt0 qt1 qt2 qt3 qu0 qu1 qu2 qu3 qw0 qw1 qw2 qw3 qx0 qx1 qx2 qx3 qT qL1 qL2 qL0 qh0 qh1 qh2 qh3 qD1 qX0 qd2 qz0 qn0 qt4 qu4 qw4 qx4 qk0 qb0 qe0 qD0 qv0 cI cJ cZ cB cT d_n d_for f_row f_fears f_told r_tx r_rul t_cl t_ln t_pt t_code t_st t_en u_cl u_ln u_pt u_code u_st u_en w_cl w_ln w_pt w_code w_st w_en x_cl x_ln x_pt x_code x_st x_en l_names l_stack h_row h_fears h_told) H → va_D A (W_X_0t1_3t6_16_34t37_39t42_44t47_49t52_54_61t63_65t69_76 qd0 qd1 qf0 qf1 qf2 qf3 qr0 qt0 qt1 qt2 qt3 qu0 qu1 qu2 qu3 qw0 qw1 qw2 qw3 qx0 qx1 qx2 qx3 qT qL1 qL2 qL0 qh0 qh1 qh2 qh3 qD1 qX0 qd2 qz0 qn0 qt4 qu4 qw4 qx4 qk0 qb0 qe0 qD0 qv0 cI cJ cZ cB cT d_n d_for f_row f_fears f_told r_tx r_rul t_cl t_ln t_pt t_code t_st t_en u_cl u_ln u_pt u_code u_st u_en w_cl w_ln w_pt w_code w_st w_en x_cl x_ln x_pt x_code x_st x_en l_names l_stack h_row h_fears h_told) → va_S A s.heap H locs → lv_has ls 5 [(0, .ref qX0), (1, .int x1), (2, .int x2), (3, .int x3), (4, .int x4)] → W p l e ({ frames := 5, cells := 0, slots := 0, locals := 147 } : Room) s m ([.ref qX0, .int p1, .int p2, .int p3] : List Value).toArray below meth c H locs 0 0 (MQ below ((mQi D (W_X_0t1_3t6_16_34t37_39t42_44t47_49t52_54_61t63_65t69_76 qd0 qd1 qf0 qf1 qf2 qf3 qr0 qt0 qt1 qt2 qt3 qu0 qu1 qu2 qu3 qw0 qw1 qw2 qw3 qx0 qx1 qx2 qx3 qT qL1 qL2 qL0 qh0 qh1 qh2 qh3 qD1 qX0 qd2 qz0 qn0 qt4 qu4 qw4 qx4 qk0 qb0 qe0 qD0 qv0 cI cJ cZ cB cT d_n d_for f_row f_fears f_told r_tx r_rul t_cl t_ln t_pt t_code t_st t_en u_cl u_ln u_pt u_code u_st u_en w_cl w_ln w_pt w_code w_st w_en x_cl x_ln x_pt x_code x_st x_en o_l_names o_l_stack o_h_row o_h_fears o_h_told) o_r True) A) ([.ref qX0, .int p1, .int p2, .int p3] : List Value).toArray s 0 0 A) (F0 m 38 ls []) := by
    intro n38
    induction n38 with
    | zero =>
      intro l_names l_stack h_row h_fears h_told x1 x2 x3 x4 H locs ls hf hP hD hS hl
      simp [f_X11_foretold_38] at hf
    | succ n38 ih38 =>
      intro l_names l_stack h_row h_fears h_told x1 x2 x3 x4 H locs ls hf hP hD hS hl
      rw [f_X11_foretold_38.eq_2] at hf
      refine lv_iload hx hb dX11_foretold_38 (lv_at hl 4 rfl) ?_
      refine lv_iload_n hx hb dX11_foretold_40 rfl (lv_at hl 1 rfl) ?_
      refine xicmp_ge hx hb 58 dX11_foretold_41 (by decide) hf (fun hf => ?_) (fun hf => ?_)
      · refine lv_aload_n hx hb dX11_foretold_58 rfl (lv_at hl 0 rfl) ?_
        refine gfX11_82 hx hb hts hown hK hP 32 rfl rfl dX11_foretold_59 ?_
        refine lv_iload_n hx hb dX11_foretold_62 rfl (lv_at hl 2 rfl) ?_
        refine lv_iload_n hx hb dX11_foretold_63 rfl (lv_at hl 3 rfl) ?_
        refine xif_eq hx hb 71 dX11_foretold_64 (by decide) hf (fun hf => ?_) (fun hf => ?_)
        · refine lv_bipush (v := (6 : Int32)) hx hb dX11_foretold_71 (by decide) ?_
          exact b73 l_names l_stack h_row h_fears h_told x2 (6 : Int32) _ _ _ hf hP hD hS (lv_sub hl [] rfl)
        · refine lv_iconst (v := (1 : Int32)) hx hb dX11_foretold_67 (by decide) ?_
          refine lv_goto (tgt := 73) hx hb dX11_foretold_68 (by decide) ?_
          exact b73 l_names l_stack h_row h_fears h_told x2 (1 : Int32) _ _ _ hf hP hD hS (lv_sub hl [] rfl)
      · refine lv_aload_n hx hb dX11_foretold_44 rfl (lv_at hl 0 rfl) ?_
        refine gfX11_85 hx hb hts hown hK hP 32 rfl rfl dX11_foretold_45 ?_
        obtain ⟨r48, h_row_48, l_names_48, l_stack_48, hg48, hf⟩ := ob4_some hf
        refine mcVE_i (wr := [(qf0, .inr (1, [.ref qf1, .ref qf2, .ref qf3])), (qf1, .inl (cI, 76, .inl f_row)), (qf2, .inl (cI, 6, .inl f_fears)), (qf3, .inl (cI, 18, .inl f_told)), (qh3, .inl (cI, 18, .inl h_told)), (qX0, .inr (11, [.ref qr0, .ref qk0, .ref qT, .ref qb0, .ref qe0, .ref qL0, .ref qf0, .ref qd0, .ref qn0, .ref qz0, .ref qD0, .ref qh0, .ref qD1, .ref qv0]))]) (As := []) (rest := []) hx hb hml hown hts hK hP hD hS hA hE (k_X0_passMonth l N D cI cJ cZ cB cT qd0 qd1 qt0 qt1 qt2 qt3 qu0 qu1 qu2 qu3 qw0 qw1 qw2 qw3 qx0 qx1 qx2 qx3 qT qh0 qh1 qh2 qr0 qL1 qL2 qL0 qD1 qd2 qt4 qu4 qw4 qx4 qh3 qf0 qz0 qn0 d_n d_for t_cl t_ln t_pt t_code t_st t_en u_cl u_ln u_pt u_code u_st u_en w_cl w_ln w_pt w_code w_st w_en x_cl x_ln x_pt x_code x_st x_en h_row h_fears r_tx r_rul l_names l_stack r48 h_row_48 l_names_48 l_stack_48 hg48) (kwX11_172 hts rfl rfl ⟨Nat.le_of_ble_eq_true rfl, Nat.le_of_ble_eq_true rfl⟩) [0, 1, 7, 8, 9, 10, 11, 12, 13, 14, 15, 16, 17, 18, 19, 20, 21, 22, 23, 27, 28, 29, 6, 24, 25, 26, 31] [2, 3, 4, 5, 30, 32] rfl rfl rfl (by decide) rfl 26 rfl rfl rfl rfl hl.1 rfl (Nat.le_of_ble_eq_true rfl) dX11_foretold_48 ⟨Nat.zero_le _, Nat.zero_le _⟩ (fun hB48 H locs hP hD hS => ?_)
        have hP := mP_sub (wc := (W_X_0t1_3t6_16_34t37_39t42_44t47_49t52_54_61t63_65t69_76 qd0 qd1 qf0 qf1 qf2 qf3 qr0 qt0 qt1 qt2 qt3 qu0 qu1 qu2 qu3 qw0 qw1 qw2 qw3 qx0 qx1 qx2 qx3 qT qL1 qL2 qL0 qh0 qh1 qh2 qh3 qD1 qX0 qd2 qz0 qn0 qt4 qu4 qw4 qx4 qk0 qb0 qe0 qD0 qv0 cI cJ cZ cB cT d_n d_for f_row f_fears f_told r_tx r_rul t_cl t_ln t_pt t_code t_st t_en u_cl u_ln u_pt u_code u_st u_en w_cl w_ln w_pt w_code w_st w_en x_cl x_ln x_pt x_code x_st x_en l_names_48 l_stack_48 h_row_48 h_fears h_told)) hP [6, 7, 0, 1, 2, 3, 28, 8, 9, 10, 11, 12, 13, 14, 15, 16, 17, 18, 19, 20, 21, 22, 23, 24, 29, 30, 31, 25, 26, 27, 4, 32, 5] rfl
        have hD := hD.sub (ws' := (W_X_0t1_3t6_16_34t37_39t42_44t47_49t52_54_61t63_65t69_76 qd0 qd1 qf0 qf1 qf2 qf3 qr0 qt0 qt1 qt2 qt3 qu0 qu1 qu2 qu3 qw0 qw1 qw2 qw3 qx0 qx1 qx2 qx3 qT qL1 qL2 qL0 qh0 qh1 qh2 qh3 qD1 qX0 qd2 qz0 qn0 qt4 qu4 qw4 qx4 qk0 qb0 qe0 qD0 qv0 cI cJ cZ cB cT d_n d_for f_row f_fears f_told r_tx r_rul t_cl t_ln t_pt t_code t_st t_en u_cl u_ln u_pt u_code u_st u_en w_cl w_ln w_pt w_code w_st w_en x_cl x_ln x_pt x_code x_st x_en l_names_48 l_stack_48 h_row_48 h_fears h_told)) [6, 7, 0, 1, 2, 3, 28, 8, 9, 10, 11, 12, 13, 14, 15, 16, 17, 18, 19, 20, 21, 22, 23, 24, 29, 30, 31, 25, 26, 27, 4, 32, 5] rfl rfl
        refine lv_pop hx hb dX11_foretold_51 rfl ?_
        refine lv_iinc (v := (x4 + (1 : Int32))) (lv' := [(4, .int (x4 + (1 : Int32))), (0, .ref qX0), (1, .int x1), (2, .int x2), (3, .int x3)]) hx hb dX11_foretold_52 hl (k := 4) rfl rfl (by decide) rfl (fun ls hl => ?_)
        refine lv_goto (tgt := 38) hx hb dX11_foretold_55 (by decide) ?_
        exact ih38 l_names_48 l_stack_48 h_row_48 h_fears h_told x1 x2 x3 (x4 + (1 : Int32)) _ _ _ hf hP hD hS (lv_sub hl [1, 2, 3, 4, 0] rfl)
  unfold f_X11_foretold at hf
  refine lv_iload_n hx hb dX11_foretold_0 rfl (lv_at hl 1 rfl) ?_
  refine lv_iconst (v := (1 : Int32)) hx hb dX11_foretold_1 (by decide) ?_
  refine xicmp_lt hx hb 22 dX11_foretold_2 (by decide) hf (fun hf => ?_) (fun hf => ?_)
  · refine lv_iconst (v := (-1 : Int32)) hx hb dX11_foretold_22 (by decide) ?_
    cases hf
    exact mret_i hx hb hr hlocks hP hD hS dX11_foretold_23 rfl trivial
  · refine lv_iload_n hx hb dX11_foretold_5 rfl (lv_at hl 1 rfl) ?_
    refine lv_bipush (v := (60 : Int32)) hx hb dX11_foretold_6 (by decide) ?_
    refine xicmp_gt hx hb 22 dX11_foretold_8 (by decide) hf (fun hf => ?_) (fun hf => ?_)
    · refine lv_iconst (v := (-1 : Int32)) hx hb dX11_foretold_22 (by decide) ?_
      cases hf
      exact mret_i hx hb hr hlocks hP hD hS dX11_foretold_23 rfl trivial
    · refine lv_aload_n hx hb dX11_foretold_11 rfl (lv_at hl 0 rfl) ?_
      refine gfX11_54 hx hb hts hown hK hP 32 rfl rfl dX11_foretold_12 ?_
      refine lv_iload_n hx hb dX11_foretold_15 rfl (lv_at hl 2 rfl) ?_
      obtain ⟨r16, hg16, hf⟩ := ob1_some hf
      refine mcV_i (wr := [(qd0, .inr (2, [.int d_n, .ref qd1, .ref qd2])), (qd1, .inl (cI, 8, .inl d_for)), (qf2, .inl (cI, 6, .inl f_fears)), (qf3, .inl (cI, 18, .inl f_told)), (qr0, .inr (6, [.ref qd0, .ref qf0, .ref qz0, .ref qn0, .int r_tx, .int r_rul])), (qt0, .inr (9, [.int t_cl, .int t_ln, .int t_pt, .ref qt1, .ref qt2, .ref qt3, .ref qt4])), (qt1, .inl (cI, 301, .inl t_code)), (qt2, .inl (cI, 4, .inl t_st)), (qt3, .inl (cI, 4, .inl t_en)), (qu0, .inr (9, [.int u_cl, .int u_ln, .int u_pt, .ref qu1, .ref qu2, .ref qu3, .ref qu4])), (qu1, .inl (cI, 301, .inl u_code)), (qu2, .inl (cI, 4, .inl u_st)), (qu3, .inl (cI, 4, .inl u_en)), (qw0, .inr (9, [.int w_cl, .int w_ln, .int w_pt, .ref qw1, .ref qw2, .ref qw3, .ref qw4])), (qw1, .inl (cI, 301, .inl w_code)), (qw2, .inl (cI, 4, .inl w_st)), (qw3, .inl (cI, 4, .inl w_en)), (qx0, .inr (9, [.int x_cl, .int x_ln, .int x_pt, .ref qx1, .ref qx2, .ref qx3, .ref qx4])), (qx1, .inl (cI, 301, .inl x_code)), (qx2, .inl (cI, 4, .inl x_st)), (qx3, .inl (cI, 4, .inl x_en)), (qT, .inl (cT, 4, .inr (.inr (.inr (.inr (fT qt0 qu0 qw0 qx0)))))), (qL1, .inl (cI, 10, .inl l_names)), (qL2, .inl (cI, 64, .inl l_stack)), (qL0, .inr (3, [.ref qr0, .ref qT, .ref qL1, .ref qL2])), (qh0, .inr (1, [.ref qh1, .ref qh2, .ref qh3])), (qh1, .inl (cI, 76, .inl h_row)), (qh2, .inl (cI, 6, .inl h_fears)), (qh3, .inl (cI, 18, .inl h_told)), (qD1, .inr (0, [.ref qr0, .ref qh0, .ref qL0])), (qX0, .inr (11, [.ref qr0, .ref qk0, .ref qT, .ref qb0, .ref qe0, .ref qL0, .ref qf0, .ref qd0, .ref qn0, .ref qz0, .ref qD0, .ref qh0, .ref qD1, .ref qv0]))]) (As := [.int p2]) (rest := []) hx hb hml hown hts hK hP hD hS hA (k_X1_told l N D cI cJ cZ cB cT qf0 qf1 qf2 qf3 f_row p2 r16 hg16) (kwX11_238 hts rfl rfl ⟨Nat.le_of_ble_eq_true rfl, Nat.le_of_ble_eq_true rfl⟩) [2, 3] [0, 1, 4, 5, 6, 7, 8, 9, 10, 11, 12, 13, 14, 15, 16, 17, 18, 19, 20, 21, 22, 23, 24, 25, 26, 27, 28, 29, 30, 31, 32] rfl rfl rfl (by decide) rfl 0 rfl rfl rfl rfl hl.1 rfl (Nat.le_of_ble_eq_true rfl) dX11_foretold_16 ⟨Nat.zero_le _, Nat.zero_le _⟩ (fun hB16 H locs hP hD hS => ?_)
      have hP := mP_sub (wc := (W_X_0t1_3t6_16_34t37_39t42_44t47_49t52_54_61t63_65t69_76 qd0 qd1 qf0 qf1 qf2 qf3 qr0 qt0 qt1 qt2 qt3 qu0 qu1 qu2 qu3 qw0 qw1 qw2 qw3 qx0 qx1 qx2 qx3 qT qL1 qL2 qL0 qh0 qh1 qh2 qh3 qD1 qX0 qd2 qz0 qn0 qt4 qu4 qw4 qx4 qk0 qb0 qe0 qD0 qv0 cI cJ cZ cB cT d_n d_for f_row f_fears f_told r_tx r_rul t_cl t_ln t_pt t_code t_st t_en u_cl u_ln u_pt u_code u_st u_en w_cl w_ln w_pt w_code w_st w_en x_cl x_ln x_pt x_code x_st x_en l_names l_stack h_row h_fears h_told)) hP [0, 1, 31, 32, 2, 3, 4, 5, 6, 7, 8, 9, 10, 11, 12, 13, 14, 15, 16, 17, 18, 19, 20, 21, 22, 23, 24, 25, 26, 27, 28, 29, 30] rfl
      have hD := hD.sub (ws' := (W_X_0t1_3t6_16_34t37_39t42_44t47_49t52_54_61t63_65t69_76 qd0 qd1 qf0 qf1 qf2 qf3 qr0 qt0 qt1 qt2 qt3 qu0 qu1 qu2 qu3 qw0 qw1 qw2 qw3 qx0 qx1 qx2 qx3 qT qL1 qL2 qL0 qh0 qh1 qh2 qh3 qD1 qX0 qd2 qz0 qn0 qt4 qu4 qw4 qx4 qk0 qb0 qe0 qD0 qv0 cI cJ cZ cB cT d_n d_for f_row f_fears f_told r_tx r_rul t_cl t_ln t_pt t_code t_st t_en u_cl u_ln u_pt u_code u_st u_en w_cl w_ln w_pt w_code w_st w_en x_cl x_ln x_pt x_code x_st x_en l_names l_stack h_row h_fears h_told)) [0, 1, 31, 32, 2, 3, 4, 5, 6, 7, 8, 9, 10, 11, 12, 13, 14, 15, 16, 17, 18, 19, 20, 21, 22, 23, 24, 25, 26, 27, 28, 29, 30] rfl rfl
      refine xif_ne hx hb 24 dX11_foretold_19 (by decide) hf (fun hf => ?_) (fun hf => ?_)
      · refine lv_iconst (v := (-1 : Int32)) hx hb dX11_foretold_22 (by decide) ?_
        cases hf
        exact mret_i hx hb hr hlocks hP hD hS dX11_foretold_23 rfl trivial
      · refine lv_aload_n hx hb dX11_foretold_24 rfl (lv_at hl 0 rfl) ?_
        refine gfX11_82 hx hb hts hown hK hP 32 rfl rfl dX11_foretold_25 ?_
        refine lv_aload_n hx hb dX11_foretold_28 rfl (lv_at hl 0 rfl) ?_
        refine gfX11_54 hx hb hts hown hK hP 32 rfl rfl dX11_foretold_29 ?_
        obtain ⟨h_row_32, h_fears_32, h_told_32, hg32, hf⟩ := ob3_some hf
        refine mcV_v (wr := [(qd0, .inr (2, [.int d_n, .ref qd1, .ref qd2])), (qd1, .inl (cI, 8, .inl d_for)), (qr0, .inr (6, [.ref qd0, .ref qf0, .ref qz0, .ref qn0, .int r_tx, .int r_rul])), (qt0, .inr (9, [.int t_cl, .int t_ln, .int t_pt, .ref qt1, .ref qt2, .ref qt3, .ref qt4])), (qt1, .inl (cI, 301, .inl t_code)), (qt2, .inl (cI, 4, .inl t_st)), (qt3, .inl (cI, 4, .inl t_en)), (qu0, .inr (9, [.int u_cl, .int u_ln, .int u_pt, .ref qu1, .ref qu2, .ref qu3, .ref qu4])), (qu1, .inl (cI, 301, .inl u_code)), (qu2, .inl (cI, 4, .inl u_st)), (qu3, .inl (cI, 4, .inl u_en)), (qw0, .inr (9, [.int w_cl, .int w_ln, .int w_pt, .ref qw1, .ref qw2, .ref qw3, .ref qw4])), (qw1, .inl (cI, 301, .inl w_code)), (qw2, .inl (cI, 4, .inl w_st)), (qw3, .inl (cI, 4, .inl w_en)), (qx0, .inr (9, [.int x_cl, .int x_ln, .int x_pt, .ref qx1, .ref qx2, .ref qx3, .ref qx4])), (qx1, .inl (cI, 301, .inl x_code)), (qx2, .inl (cI, 4, .inl x_st)), (qx3, .inl (cI, 4, .inl x_en)), (qT, .inl (cT, 4, .inr (.inr (.inr (.inr (fT qt0 qu0 qw0 qx0)))))), (qL1, .inl (cI, 10, .inl l_names)), (qL2, .inl (cI, 64, .inl l_stack)), (qL0, .inr (3, [.ref qr0, .ref qT, .ref qL1, .ref qL2])), (qD1, .inr (0, [.ref qr0, .ref qh0, .ref qL0])), (qX0, .inr (11, [.ref qr0, .ref qk0, .ref qT, .ref qb0, .ref qe0, .ref qL0, .ref qf0, .ref qd0, .ref qn0, .ref qz0, .ref qD0, .ref qh0, .ref qD1, .ref qv0]))]) (As := [.ref qf0]) (rest := []) hx hb hml hown hts hK hP hD hS hA (k_X1_become l N D cI cJ cZ cB cT qh0 qh1 qh2 qh3 qf0 qf1 qf2 qf3 h_row h_fears h_told f_row f_fears f_told h_row_32 h_fears_32 h_told_32 hg32) (kwX11_275 hts rfl rfl ⟨Nat.le_of_ble_eq_true rfl, Nat.le_of_ble_eq_true rfl⟩) [27, 28, 29, 30, 2, 3, 4, 5] [0, 1, 6, 7, 8, 9, 10, 11, 12, 13, 14, 15, 16, 17, 18, 19, 20, 21, 22, 23, 24, 25, 26, 31, 32] rfl rfl rfl (by decide) rfl 0 rfl rfl rfl rfl hl.1 rfl (Nat.le_of_ble_eq_true rfl) dX11_foretold_32 ⟨Nat.zero_le _, Nat.zero_le _⟩ (fun H locs hP hD hS => ?_)
        have hP := mP_sub (wc := (W_X_0t1_3t6_16_34t37_39t42_44t47_49t52_54_61t63_65t69_76 qd0 qd1 qf0 qf1 qf2 qf3 qr0 qt0 qt1 qt2 qt3 qu0 qu1 qu2 qu3 qw0 qw1 qw2 qw3 qx0 qx1 qx2 qx3 qT qL1 qL2 qL0 qh0 qh1 qh2 qh3 qD1 qX0 qd2 qz0 qn0 qt4 qu4 qw4 qx4 qk0 qb0 qe0 qD0 qv0 cI cJ cZ cB cT d_n d_for f_row f_fears f_told r_tx r_rul t_cl t_ln t_pt t_code t_st t_en u_cl u_ln u_pt u_code u_st u_en w_cl w_ln w_pt w_code w_st w_en x_cl x_ln x_pt x_code x_st x_en l_names l_stack h_row_32 h_fears_32 h_told_32)) hP [0, 1, 29, 30, 31, 32, 2, 3, 4, 5, 6, 7, 8, 9, 10, 11, 12, 13, 14, 15, 16, 17, 18, 19, 20, 21, 22, 25, 26, 27, 28, 23, 24] rfl
        have hD := hD.sub (ws' := (W_X_0t1_3t6_16_34t37_39t42_44t47_49t52_54_61t63_65t69_76 qd0 qd1 qf0 qf1 qf2 qf3 qr0 qt0 qt1 qt2 qt3 qu0 qu1 qu2 qu3 qw0 qw1 qw2 qw3 qx0 qx1 qx2 qx3 qT qL1 qL2 qL0 qh0 qh1 qh2 qh3 qD1 qX0 qd2 qz0 qn0 qt4 qu4 qw4 qx4 qk0 qb0 qe0 qD0 qv0 cI cJ cZ cB cT d_n d_for f_row f_fears f_told r_tx r_rul t_cl t_ln t_pt t_code t_st t_en u_cl u_ln u_pt u_code u_st u_en w_cl w_ln w_pt w_code w_st w_en x_cl x_ln x_pt x_code x_st x_en l_names l_stack h_row_32 h_fears_32 h_told_32)) [0, 1, 29, 30, 31, 32, 2, 3, 4, 5, 6, 7, 8, 9, 10, 11, 12, 13, 14, 15, 16, 17, 18, 19, 20, 21, 22, 25, 26, 27, 28, 23, 24] rfl rfl
        refine lv_iconst (v := (0 : Int32)) hx hb dX11_foretold_35 (by decide) ?_
        refine lv_istore (lv' := [(4, .int (0 : Int32)), (0, .ref qX0), (1, .int p1), (2, .int p2), (3, .int p3)]) hx hb dX11_foretold_36 hl (by decide) rfl (fun ls hl => ?_)
        exact b38 N l_names l_stack h_row_32 h_fears_32 h_told_32 p1 p2 p3 (0 : Int32) _ _ _ hf hP hD hS (lv_sub hl [1, 2, 3, 4, 0] rfl)
theorem dX11_toPay_0 : decode cX11_toPay 0 = .ok (.aload_n 0, 1) := by decide +kernel
theorem dX11_toPay_1 : decode cX11_toPay 1 = .ok (.getfield 54, 3) := by decide +kernel
theorem dX11_toPay_4 : decode cX11_toPay 4 = .ok (.iload_n 1, 1) := by decide +kernel
theorem dX11_toPay_5 : decode cX11_toPay 5 = .ok (.invokevirtual 238, 3) := by decide +kernel
theorem dX11_toPay_8 : decode cX11_toPay 8 = .ok (.ifCond .eq 14, 3) := by decide +kernel
theorem dX11_toPay_11 : decode cX11_toPay 11 = .ok (.aload_n 0, 1) := by decide +kernel
theorem dX11_toPay_12 : decode cX11_toPay 12 = .ok (.getfield 54, 3) := by decide +kernel
theorem dX11_toPay_15 : decode cX11_toPay 15 = .ok (.iload_n 2, 1) := by decide +kernel
theorem dX11_toPay_16 : decode cX11_toPay 16 = .ok (.invokevirtual 238, 3) := by decide +kernel
theorem dX11_toPay_19 : decode cX11_toPay 19 = .ok (.ifCond .ne 5, 3) := by decide +kernel
theorem dX11_toPay_22 : decode cX11_toPay 22 = .ok (.iconst (-1), 1) := by decide +kernel
theorem dX11_toPay_23 : decode cX11_toPay 23 = .ok (.ireturn, 1) := by decide +kernel
theorem dX11_toPay_24 : decode cX11_toPay 24 = .ok (.aload_n 0, 1) := by decide +kernel
theorem dX11_toPay_25 : decode cX11_toPay 25 = .ok (.getfield 82, 3) := by decide +kernel
theorem dX11_toPay_28 : decode cX11_toPay 28 = .ok (.aload_n 0, 1) := by decide +kernel
theorem dX11_toPay_29 : decode cX11_toPay 29 = .ok (.getfield 54, 3) := by decide +kernel
theorem dX11_toPay_32 : decode cX11_toPay 32 = .ok (.invokevirtual 275, 3) := by decide +kernel
theorem dX11_toPay_35 : decode cX11_toPay 35 = .ok (.iconst 0, 1) := by decide +kernel
theorem dX11_toPay_36 : decode cX11_toPay 36 = .ok (.istore_n 3, 1) := by decide +kernel
theorem dX11_toPay_37 : decode cX11_toPay 37 = .ok (.iload_n 3, 1) := by decide +kernel
theorem dX11_toPay_38 : decode cX11_toPay 38 = .ok (.bipush 60, 2) := by decide +kernel
theorem dX11_toPay_40 : decode cX11_toPay 40 = .ok (.if_icmp .gt 37, 3) := by decide +kernel
theorem dX11_toPay_43 : decode cX11_toPay 43 = .ok (.aload_n 0, 1) := by decide +kernel
theorem dX11_toPay_44 : decode cX11_toPay 44 = .ok (.getfield 85, 3) := by decide +kernel
theorem dX11_toPay_47 : decode cX11_toPay 47 = .ok (.iload_n 1, 1) := by decide +kernel
theorem dX11_toPay_48 : decode cX11_toPay 48 = .ok (.iload_n 2, 1) := by decide +kernel
theorem dX11_toPay_49 : decode cX11_toPay 49 = .ok (.invokevirtual 278, 3) := by decide +kernel
theorem dX11_toPay_52 : decode cX11_toPay 52 = .ok (.iconst (-1), 1) := by decide +kernel
theorem dX11_toPay_53 : decode cX11_toPay 53 = .ok (.if_icmp .eq 5, 3) := by decide +kernel
theorem dX11_toPay_56 : decode cX11_toPay 56 = .ok (.iload_n 3, 1) := by decide +kernel
theorem dX11_toPay_57 : decode cX11_toPay 57 = .ok (.ireturn, 1) := by decide +kernel
theorem dX11_toPay_58 : decode cX11_toPay 58 = .ok (.aload_n 0, 1) := by decide +kernel
theorem dX11_toPay_59 : decode cX11_toPay 59 = .ok (.getfield 85, 3) := by decide +kernel
theorem dX11_toPay_62 : decode cX11_toPay 62 = .ok (.invokevirtual 172, 3) := by decide +kernel
theorem dX11_toPay_65 : decode cX11_toPay 65 = .ok (.iconst (-1), 1) := by decide +kernel
theorem dX11_toPay_66 : decode cX11_toPay 66 = .ok (.if_icmp .ne 5, 3) := by decide +kernel
theorem dX11_toPay_69 : decode cX11_toPay 69 = .ok (.iconst (-1), 1) := by decide +kernel
theorem dX11_toPay_70 : decode cX11_toPay 70 = .ok (.ireturn, 1) := by decide +kernel
theorem dX11_toPay_71 : decode cX11_toPay 71 = .ok (.iinc 3 1, 3) := by decide +kernel
theorem dX11_toPay_74 : decode cX11_toPay 74 = .ok (.goto (-37), 3) := by decide +kernel
theorem dX11_toPay_77 : decode cX11_toPay 77 = .ok (.iconst (-1), 1) := by decide +kernel
theorem dX11_toPay_78 : decode cX11_toPay 78 = .ok (.ireturn, 1) := by decide +kernel
def f_X11_toPay_37 (N : Nat) : Nat → Int32 → (Nat → Int32) → (Nat → Int32) → (Nat → Int32) → (Nat → Int32) → Int32 → Int32 → (Nat → Int32) → (Nat → Int32) → (Nat → Int32) → (Nat → Int32) → (Nat → Int32) → (Nat → Int32) → (Nat → Int32) → (Nat → Int32) → (Nat → Int32) → (Nat → Int32) → (Nat → Int32) → (Nat → Int32) → (Nat → Int32) → (Nat → Int32) → (Nat → Int32) → (Nat → Int32) → (Nat → Int32) → Int32 → Int32 → Int32 → Option (Int32 × (Nat → Int32) × (Nat → Int32) × (Nat → Int32) × (Nat → Int32) × (Nat → Int32))
  | 0, _, _, _, _, _, _, _, _, _, _, _, _, _, _, _, _, _, _, _, _, _, _, _, _, _, _, _ => none
  | n + 1, d_n, d_for, f_row, f_fears, f_told, r_tx, r_rul, t_code, t_st, t_en, u_code, u_st, u_en, w_code, w_st, w_en, x_code, x_st, x_en, l_names, l_stack, h_row, h_fears, h_told, x1, x2, x3 => if (60 : Int32) < x3 then (some ((-1 : Int32), l_names, l_stack, h_row, h_fears, h_told)) else (ob3 (f_X0_priceFor N d_n d_for t_code t_st t_en u_code u_st u_en w_code w_st w_en x_code x_st x_en h_row h_fears r_tx r_rul l_names l_stack x1 x2) fun r49 l_names_49 l_stack_49 => if r49 = (-1 : Int32) then (ob4 (f_X0_passMonth N d_n d_for t_code t_st t_en u_code u_st u_en w_code w_st w_en x_code x_st x_en h_row h_fears r_tx r_rul l_names_49 l_stack_49) fun r62 h_row_62 l_names_62 l_stack_62 => if r62 = (-1 : Int32) then (some ((-1 : Int32), l_names_62, l_stack_62, h_row_62, h_fears, h_told)) else ((f_X11_toPay_37 N n) d_n d_for f_row f_fears f_told r_tx r_rul t_code t_st t_en u_code u_st u_en w_code w_st w_en x_code x_st x_en l_names_62 l_stack_62 h_row_62 h_fears h_told x1 x2 (x3 + (1 : Int32)))) else (some (x3, l_names_49, l_stack_49, h_row, h_fears, h_told)))
def f_X11_toPay (N : Nat) (d_n : Int32) (d_for : Nat → Int32) (f_row : Nat → Int32) (f_fears : Nat → Int32) (f_told : Nat → Int32) (r_tx : Int32) (r_rul : Int32) (t_code : Nat → Int32) (t_st : Nat → Int32) (t_en : Nat → Int32) (u_code : Nat → Int32) (u_st : Nat → Int32) (u_en : Nat → Int32) (w_code : Nat → Int32) (w_st : Nat → Int32) (w_en : Nat → Int32) (x_code : Nat → Int32) (x_st : Nat → Int32) (x_en : Nat → Int32) (l_names : Nat → Int32) (l_stack : Nat → Int32) (h_row : Nat → Int32) (h_fears : Nat → Int32) (h_told : Nat → Int32) (p1 : Int32) (p2 : Int32) : Option (Int32 × (Nat → Int32) × (Nat → Int32) × (Nat → Int32) × (Nat → Int32) × (Nat → Int32)) := ob1 (f_X1_told N f_row p1) fun r5 => if r5 = 0 then (some ((-1 : Int32), l_names, l_stack, h_row, h_fears, h_told)) else (ob1 (f_X1_told N f_row p2) fun r16 => if r16 = 0 then (some ((-1 : Int32), l_names, l_stack, h_row, h_fears, h_told)) else (ob3 (f_X1_become N h_row h_fears h_told f_row f_fears f_told) fun h_row_32 h_fears_32 h_told_32 => f_X11_toPay_37 N N d_n d_for f_row f_fears f_told r_tx r_rul t_code t_st t_en u_code u_st u_en w_code w_st w_en x_code x_st x_en l_names l_stack h_row_32 h_fears_32 h_told_32 p1 p2 (0 : Int32)))
set_option maxHeartbeats 4000000 in
set_option maxRecDepth 100000 in
theorem k_X11_toPay (l : Launch) (N : Nat) (D : va_G) (cI cJ cZ cB cT : ClassId) (qd0 : Nat) (qd1 : Nat) (qf0 : Nat) (qf1 : Nat) (qf2 : Nat) (qf3 : Nat) (qr0 : Nat) (qt0 : Nat) (qt1 : Nat) (qt2 : Nat) (qt3 : Nat) (qu0 : Nat) (qu1 : Nat) (qu2 : Nat) (qu3 : Nat) (qw0 : Nat) (qw1 : Nat) (qw2 : Nat) (qw3 : Nat) (qx0 : Nat) (qx1 : Nat) (qx2 : Nat) (qx3 : Nat) (qT : Nat) (qL1 : Nat) (qL2 : Nat) (qL0 : Nat) (qh0 : Nat) (qh1 : Nat) (qh2 : Nat) (qh3 : Nat) (qD1 : Nat) (qX0 : Nat) (qd2 : Nat) (qz0 : Nat) (qn0 : Nat) (qt4 : Nat) (qu4 : Nat) (qw4 : Nat) (qx4 : Nat) (qk0 : Nat) (qb0 : Nat) (qe0 : Nat) (qD0 : Nat) (qv0 : Nat) (d_n : Int32) (d_for : Nat → Int32) (f_row : Nat → Int32) (f_fears : Nat → Int32) (f_told : Nat → Int32) (r_tx : Int32) (r_rul : Int32) (t_cl : Int32) (t_ln : Int32) (t_pt : Int32) (t_code : Nat → Int32) (t_st : Nat → Int32) (t_en : Nat → Int32) (u_cl : Int32) (u_ln : Int32) (u_pt : Int32) (u_code : Nat → Int32) (u_st : Nat → Int32) (u_en : Nat → Int32) (w_cl : Int32) (w_ln : Int32) (w_pt : Int32) (w_code : Nat → Int32) (w_st : Nat → Int32) (w_en : Nat → Int32) (x_cl : Int32) (x_ln : Int32) (x_pt : Int32) (x_code : Nat → Int32) (x_st : Nat → Int32) (x_en : Nat → Int32) (l_names : Nat → Int32) (l_stack : Nat → Int32) (h_row : Nat → Int32) (h_fears : Nat → Int32) (h_told : Nat → Int32) (p1 : Int32) (p2 : Int32) (o_r : Int32) (o_l_names : Nat → Int32) (o_l_stack : Nat → Int32) (o_h_row : Nat → Int32) (o_h_fears : Nat → Int32) (o_h_told : Nat → Int32) (hf : f_X11_toPay N d_n d_for f_row f_fears f_told r_tx r_rul t_code t_st t_en u_code u_st u_en w_code w_st w_en x_code x_st x_en l_names l_stack h_row h_fears h_told p1 p2 = some (o_r, o_l_names, o_l_stack, o_h_row, o_h_fears, o_h_told)) : ∀ sz, Met l yX11_toPay (mw yX11_toPay cX11_toPay 4 (some .int)) ({ frames := 5, cells := 0, slots := 0, locals := 147 } : Room) (mPreE D (mT cI cJ cZ cB cT) (W_X_0t1_3t6_16_34t37_39t42_44t47_49t52_54_61t63_65t69_76 qd0 qd1 qf0 qf1 qf2 qf3 qr0 qt0 qt1 qt2 qt3 qu0 qu1 qu2 qu3 qw0 qw1 qw2 qw3 qx0 qx1 qx2 qx3 qT qL1 qL2 qL0 qh0 qh1 qh2 qh3 qD1 qX0 qd2 qz0 qn0 qt4 qu4 qw4 qx4 qk0 qb0 qe0 qD0 qv0 cI cJ cZ cB cT d_n d_for f_row f_fears f_told r_tx r_rul t_cl t_ln t_pt t_code t_st t_en u_cl u_ln u_pt u_code u_st u_en w_cl w_ln w_pt w_code w_st w_en x_cl x_ln x_pt x_code x_st x_en l_names l_stack h_row h_fears h_told) sz [.ref qX0, .int p1, .int p2]) ((mQi D (W_X_0t1_3t6_16_34t37_39t42_44t47_49t52_54_61t63_65t69_76 qd0 qd1 qf0 qf1 qf2 qf3 qr0 qt0 qt1 qt2 qt3 qu0 qu1 qu2 qu3 qw0 qw1 qw2 qw3 qx0 qx1 qx2 qx3 qT qL1 qL2 qL0 qh0 qh1 qh2 qh3 qD1 qX0 qd2 qz0 qn0 qt4 qu4 qw4 qx4 qk0 qb0 qe0 qD0 qv0 cI cJ cZ cB cT d_n d_for f_row f_fears f_told r_tx r_rul t_cl t_ln t_pt t_code t_st t_en u_cl u_ln u_pt u_code u_st u_en w_cl w_ln w_pt w_code w_st w_en x_cl x_ln x_pt x_code x_st x_en o_l_names o_l_stack o_h_row o_h_fears o_h_told) o_r True) (va_A (W_X_0t1_3t6_16_34t37_39t42_44t47_49t52_54_61t63_65t69_76 qd0 qd1 qf0 qf1 qf2 qf3 qr0 qt0 qt1 qt2 qt3 qu0 qu1 qu2 qu3 qw0 qw1 qw2 qw3 qx0 qx1 qx2 qx3 qT qL1 qL2 qL0 qh0 qh1 qh2 qh3 qD1 qX0 qd2 qz0 qn0 qt4 qu4 qw4 qx4 qk0 qb0 qe0 qD0 qv0 cI cJ cZ cB cT d_n d_for f_row f_fears f_told r_tx r_rul t_cl t_ln t_pt t_code t_st t_en u_cl u_ln u_pt u_code u_st u_en w_cl w_ln w_pt w_code w_st w_en x_cl x_ln x_pt x_code x_st x_en l_names l_stack h_row h_fears h_told) sz)) 0 0 (va_A (W_X_0t1_3t6_16_34t37_39t42_44t47_49t52_54_61t63_65t69_76 qd0 qd1 qf0 qf1 qf2 qf3 qr0 qt0 qt1 qt2 qt3 qu0 qu1 qu2 qu3 qw0 qw1 qw2 qw3 qx0 qx1 qx2 qx3 qT qL1 qL2 qL0 qh0 qh1 qh2 qh3 qD1 qX0 qd2 qz0 qn0 qt4 qu4 qw4 qx4 qk0 qb0 qe0 qD0 qv0 cI cJ cZ cB cT d_n d_for f_row f_fears f_told r_tx r_rul t_cl t_ln t_pt t_code t_st t_en u_cl u_ln u_pt u_code u_st u_en w_cl w_ln w_pt w_code w_st w_en x_cl x_ln x_pt x_code x_st x_en l_names l_stack h_row h_fears h_told) sz) := by
  refine mMetE (Qc := (mQi D (W_X_0t1_3t6_16_34t37_39t42_44t47_49t52_54_61t63_65t69_76 qd0 qd1 qf0 qf1 qf2 qf3 qr0 qt0 qt1 qt2 qt3 qu0 qu1 qu2 qu3 qw0 qw1 qw2 qw3 qx0 qx1 qx2 qx3 qT qL1 qL2 qL0 qh0 qh1 qh2 qh3 qD1 qX0 qd2 qz0 qn0 qt4 qu4 qw4 qx4 qk0 qb0 qe0 qD0 qv0 cI cJ cZ cB cT d_n d_for f_row f_fears f_told r_tx r_rul t_cl t_ln t_pt t_code t_st t_en u_cl u_ln u_pt u_code u_st u_en w_cl w_ln w_pt w_code w_st w_en x_cl x_ln x_pt x_code x_st x_en o_l_names o_l_stack o_h_row o_h_fears o_h_told) o_r True)) (by decide) (Nat.le_of_ble_eq_true rfl) (fun p e s m below meth c A ls hx hb hr hml hts hown hlocks hK hA hP hD hl hE => ?_)
  have hown : s.vm.findClass RX11 = some m.cls := hown
  have hl : lv_has ls 4 [(0, .ref qX0), (1, .int p1), (2, .int p2)] := hl
  have hS : va_S A s.heap s.heap [] := va_S.rf
  obtain ⟨⟨tM, hZM, hTM⟩, ⟨tL, hZL, hTL⟩, ⟨hNX4, hNX10⟩, tS, tV, hRS, hZC, hZF, hKS⟩ := id hE
  have b37 : ∀ n37 : Nat, ∀ (l_names : Nat → Int32) (l_stack : Nat → Int32) (h_row : Nat → Int32) (h_fears : Nat → Int32) (h_told : Nat → Int32) (x1 : Int32) (x2 : Int32) (x3 : Int32) (H : Heap) (locs : List Loc) (ls : Array Slot), f_X11_toPay_37 N n37 d_n d_for f_row f_fears f_told r_tx r_rul t_code t_st t_en u_code u_st u_en w_code w_st w_en x_code x_st x_en l_names l_stack h_row h_fears h_told x1 x2 x3 = some (o_r, o_l_names, o_l_stack, o_h_row, o_h_fears, o_h_told) → va_P D vwCl (W_X_0t1_3t6_16_34t37_39t42_44t47_49t52_54_61t63_65t69_76 qd0 qd1 qf0 qf1 qf2 qf3 qr0 qt0 qt1 qt2 qt3 qu0 qu1 qu2 qu3 qw0 qw1 qw2 qw3 qx0 qx1 qx2 qx3 qT qL1 qL2 qL0 qh0 qh1 qh2 qh3 qD1 qX0 qd2 qz0 qn0 qt4 qu4 qw4 qx4 qk0 qb0 qe0 qD0 qv0 cI cJ cZ cB cT d_n d_for f_row f_fears f_told r_tx r_rul t_cl t_ln t_pt t_code t_st t_en u_cl u_ln u_pt u_code u_st u_en w_cl w_ln w_pt w_code w_st w_en x_cl x_ln x_pt x_code x_st x_en l_names l_stack h_row h_fears h_told) H → va_D A (W_X_0t1_3t6_16_34t37_39t42_44t47_49t52_54_61t63_65t69_76 qd0 qd1 qf0 qf1 qf2 qf3 qr0 qt0 qt1 qt2 qt3 qu0 qu1 qu2 qu3 qw0 qw1 qw2 qw3 qx0 qx1 qx2 qx3 qT qL1 qL2 qL0 qh0 qh1 qh2 qh3 qD1 qX0 qd2 qz0 qn0 qt4 qu4 qw4 qx4 qk0 qb0 qe0 qD0 qv0 cI cJ cZ cB cT d_n d_for f_row f_fears f_told r_tx r_rul t_cl t_ln t_pt t_code t_st t_en u_cl u_ln u_pt u_code u_st u_en w_cl w_ln w_pt w_code w_st w_en x_cl x_ln x_pt x_code x_st x_en l_names l_stack h_row h_fears h_told) → va_S A s.heap H locs → lv_has ls 4 [(0, .ref qX0), (1, .int x1), (2, .int x2), (3, .int x3)] → W p l e ({ frames := 5, cells := 0, slots := 0, locals := 147 } : Room) s m ([.ref qX0, .int p1, .int p2] : List Value).toArray below meth c H locs 0 0 (MQ below ((mQi D (W_X_0t1_3t6_16_34t37_39t42_44t47_49t52_54_61t63_65t69_76 qd0 qd1 qf0 qf1 qf2 qf3 qr0 qt0 qt1 qt2 qt3 qu0 qu1 qu2 qu3 qw0 qw1 qw2 qw3 qx0 qx1 qx2 qx3 qT qL1 qL2 qL0 qh0 qh1 qh2 qh3 qD1 qX0 qd2 qz0 qn0 qt4 qu4 qw4 qx4 qk0 qb0 qe0 qD0 qv0 cI cJ cZ cB cT d_n d_for f_row f_fears f_told r_tx r_rul t_cl t_ln t_pt t_code t_st t_en u_cl u_ln u_pt u_code u_st u_en w_cl w_ln w_pt w_code w_st w_en x_cl x_ln x_pt x_code x_st x_en o_l_names o_l_stack o_h_row o_h_fears o_h_told) o_r True) A) ([.ref qX0, .int p1, .int p2] : List Value).toArray s 0 0 A) (F0 m 37 ls []) := by
    intro n37
    induction n37 with
    | zero =>
      intro l_names l_stack h_row h_fears h_told x1 x2 x3 H locs ls hf hP hD hS hl
      simp [f_X11_toPay_37] at hf
    | succ n37 ih37 =>
      intro l_names l_stack h_row h_fears h_told x1 x2 x3 H locs ls hf hP hD hS hl
      rw [f_X11_toPay_37.eq_2] at hf
      refine lv_iload_n hx hb dX11_toPay_37 rfl (lv_at hl 3 rfl) ?_
      refine lv_bipush (v := (60 : Int32)) hx hb dX11_toPay_38 (by decide) ?_
      refine xicmp_gt hx hb 77 dX11_toPay_40 (by decide) hf (fun hf => ?_) (fun hf => ?_)
      · refine lv_iconst (v := (-1 : Int32)) hx hb dX11_toPay_77 (by decide) ?_
        cases hf
        exact mret_i hx hb hr hlocks hP hD hS dX11_toPay_78 rfl trivial
      · refine lv_aload_n hx hb dX11_toPay_43 rfl (lv_at hl 0 rfl) ?_
        refine gfX11_85 hx hb hts hown hK hP 32 rfl rfl dX11_toPay_44 ?_
        refine lv_iload_n hx hb dX11_toPay_47 rfl (lv_at hl 1 rfl) ?_
        refine lv_iload_n hx hb dX11_toPay_48 rfl (lv_at hl 2 rfl) ?_
        obtain ⟨r49, l_names_49, l_stack_49, hg49, hf⟩ := ob3_some hf
        refine mcVE_i (wr := [(qf0, .inr (1, [.ref qf1, .ref qf2, .ref qf3])), (qf1, .inl (cI, 76, .inl f_row)), (qf2, .inl (cI, 6, .inl f_fears)), (qf3, .inl (cI, 18, .inl f_told)), (qh3, .inl (cI, 18, .inl h_told)), (qX0, .inr (11, [.ref qr0, .ref qk0, .ref qT, .ref qb0, .ref qe0, .ref qL0, .ref qf0, .ref qd0, .ref qn0, .ref qz0, .ref qD0, .ref qh0, .ref qD1, .ref qv0]))]) (As := [.int x1, .int x2]) (rest := []) hx hb hml hown hts hK hP hD hS hA hE (k_X0_priceFor l N D cI cJ cZ cB cT qd0 qd1 qt0 qt1 qt2 qt3 qu0 qu1 qu2 qu3 qw0 qw1 qw2 qw3 qx0 qx1 qx2 qx3 qT qh0 qh1 qh2 qr0 qL1 qL2 qL0 qD1 qd2 qt4 qu4 qw4 qx4 qh3 qf0 qz0 qn0 d_n d_for t_cl t_ln t_pt t_code t_st t_en u_cl u_ln u_pt u_code u_st u_en w_cl w_ln w_pt w_code w_st w_en x_cl x_ln x_pt x_code x_st x_en h_row h_fears r_tx r_rul l_names l_stack x1 x2 r49 l_names_49 l_stack_49 hg49) (kwX11_278 hts rfl rfl ⟨Nat.le_of_ble_eq_true rfl, Nat.le_of_ble_eq_true rfl⟩) [0, 1, 7, 8, 9, 10, 11, 12, 13, 14, 15, 16, 17, 18, 19, 20, 21, 22, 23, 27, 28, 29, 6, 24, 25, 26, 31] [2, 3, 4, 5, 30, 32] rfl rfl rfl (by decide) rfl 26 rfl rfl rfl rfl hl.1 rfl (Nat.le_of_ble_eq_true rfl) dX11_toPay_49 ⟨Nat.zero_le _, Nat.zero_le _⟩ (fun hB49 H locs hP hD hS => ?_)
        have hP := mP_sub (wc := (W_X_0t1_3t6_16_34t37_39t42_44t47_49t52_54_61t63_65t69_76 qd0 qd1 qf0 qf1 qf2 qf3 qr0 qt0 qt1 qt2 qt3 qu0 qu1 qu2 qu3 qw0 qw1 qw2 qw3 qx0 qx1 qx2 qx3 qT qL1 qL2 qL0 qh0 qh1 qh2 qh3 qD1 qX0 qd2 qz0 qn0 qt4 qu4 qw4 qx4 qk0 qb0 qe0 qD0 qv0 cI cJ cZ cB cT d_n d_for f_row f_fears f_told r_tx r_rul t_cl t_ln t_pt t_code t_st t_en u_cl u_ln u_pt u_code u_st u_en w_cl w_ln w_pt w_code w_st w_en x_cl x_ln x_pt x_code x_st x_en l_names_49 l_stack_49 h_row h_fears h_told)) hP [6, 7, 0, 1, 2, 3, 28, 8, 9, 10, 11, 12, 13, 14, 15, 16, 17, 18, 19, 20, 21, 22, 23, 24, 29, 30, 31, 25, 26, 27, 4, 32, 5] rfl
        have hD := hD.sub (ws' := (W_X_0t1_3t6_16_34t37_39t42_44t47_49t52_54_61t63_65t69_76 qd0 qd1 qf0 qf1 qf2 qf3 qr0 qt0 qt1 qt2 qt3 qu0 qu1 qu2 qu3 qw0 qw1 qw2 qw3 qx0 qx1 qx2 qx3 qT qL1 qL2 qL0 qh0 qh1 qh2 qh3 qD1 qX0 qd2 qz0 qn0 qt4 qu4 qw4 qx4 qk0 qb0 qe0 qD0 qv0 cI cJ cZ cB cT d_n d_for f_row f_fears f_told r_tx r_rul t_cl t_ln t_pt t_code t_st t_en u_cl u_ln u_pt u_code u_st u_en w_cl w_ln w_pt w_code w_st w_en x_cl x_ln x_pt x_code x_st x_en l_names_49 l_stack_49 h_row h_fears h_told)) [6, 7, 0, 1, 2, 3, 28, 8, 9, 10, 11, 12, 13, 14, 15, 16, 17, 18, 19, 20, 21, 22, 23, 24, 29, 30, 31, 25, 26, 27, 4, 32, 5] rfl rfl
        refine lv_iconst (v := (-1 : Int32)) hx hb dX11_toPay_52 (by decide) ?_
        refine xicmp_eq hx hb 58 dX11_toPay_53 (by decide) hf (fun hf => ?_) (fun hf => ?_)
        · refine lv_aload_n hx hb dX11_toPay_58 rfl (lv_at hl 0 rfl) ?_
          refine gfX11_85 hx hb hts hown hK hP 32 rfl rfl dX11_toPay_59 ?_
          obtain ⟨r62, h_row_62, l_names_62, l_stack_62, hg62, hf⟩ := ob4_some hf
          refine mcVE_i (wr := [(qf0, .inr (1, [.ref qf1, .ref qf2, .ref qf3])), (qf1, .inl (cI, 76, .inl f_row)), (qf2, .inl (cI, 6, .inl f_fears)), (qf3, .inl (cI, 18, .inl f_told)), (qh3, .inl (cI, 18, .inl h_told)), (qX0, .inr (11, [.ref qr0, .ref qk0, .ref qT, .ref qb0, .ref qe0, .ref qL0, .ref qf0, .ref qd0, .ref qn0, .ref qz0, .ref qD0, .ref qh0, .ref qD1, .ref qv0]))]) (As := []) (rest := []) hx hb hml hown hts hK hP hD hS hA hE (k_X0_passMonth l N D cI cJ cZ cB cT qd0 qd1 qt0 qt1 qt2 qt3 qu0 qu1 qu2 qu3 qw0 qw1 qw2 qw3 qx0 qx1 qx2 qx3 qT qh0 qh1 qh2 qr0 qL1 qL2 qL0 qD1 qd2 qt4 qu4 qw4 qx4 qh3 qf0 qz0 qn0 d_n d_for t_cl t_ln t_pt t_code t_st t_en u_cl u_ln u_pt u_code u_st u_en w_cl w_ln w_pt w_code w_st w_en x_cl x_ln x_pt x_code x_st x_en h_row h_fears r_tx r_rul l_names_49 l_stack_49 r62 h_row_62 l_names_62 l_stack_62 hg62) (kwX11_172 hts rfl rfl ⟨Nat.le_of_ble_eq_true rfl, Nat.le_of_ble_eq_true rfl⟩) [0, 1, 7, 8, 9, 10, 11, 12, 13, 14, 15, 16, 17, 18, 19, 20, 21, 22, 23, 27, 28, 29, 6, 24, 25, 26, 31] [2, 3, 4, 5, 30, 32] rfl rfl rfl (by decide) rfl 26 rfl rfl rfl rfl hl.1 rfl (Nat.le_of_ble_eq_true rfl) dX11_toPay_62 ⟨Nat.zero_le _, Nat.zero_le _⟩ (fun hB62 H locs hP hD hS => ?_)
          have hP := mP_sub (wc := (W_X_0t1_3t6_16_34t37_39t42_44t47_49t52_54_61t63_65t69_76 qd0 qd1 qf0 qf1 qf2 qf3 qr0 qt0 qt1 qt2 qt3 qu0 qu1 qu2 qu3 qw0 qw1 qw2 qw3 qx0 qx1 qx2 qx3 qT qL1 qL2 qL0 qh0 qh1 qh2 qh3 qD1 qX0 qd2 qz0 qn0 qt4 qu4 qw4 qx4 qk0 qb0 qe0 qD0 qv0 cI cJ cZ cB cT d_n d_for f_row f_fears f_told r_tx r_rul t_cl t_ln t_pt t_code t_st t_en u_cl u_ln u_pt u_code u_st u_en w_cl w_ln w_pt w_code w_st w_en x_cl x_ln x_pt x_code x_st x_en l_names_62 l_stack_62 h_row_62 h_fears h_told)) hP [6, 7, 0, 1, 2, 3, 28, 8, 9, 10, 11, 12, 13, 14, 15, 16, 17, 18, 19, 20, 21, 22, 23, 24, 29, 30, 31, 25, 26, 27, 4, 32, 5] rfl
          have hD := hD.sub (ws' := (W_X_0t1_3t6_16_34t37_39t42_44t47_49t52_54_61t63_65t69_76 qd0 qd1 qf0 qf1 qf2 qf3 qr0 qt0 qt1 qt2 qt3 qu0 qu1 qu2 qu3 qw0 qw1 qw2 qw3 qx0 qx1 qx2 qx3 qT qL1 qL2 qL0 qh0 qh1 qh2 qh3 qD1 qX0 qd2 qz0 qn0 qt4 qu4 qw4 qx4 qk0 qb0 qe0 qD0 qv0 cI cJ cZ cB cT d_n d_for f_row f_fears f_told r_tx r_rul t_cl t_ln t_pt t_code t_st t_en u_cl u_ln u_pt u_code u_st u_en w_cl w_ln w_pt w_code w_st w_en x_cl x_ln x_pt x_code x_st x_en l_names_62 l_stack_62 h_row_62 h_fears h_told)) [6, 7, 0, 1, 2, 3, 28, 8, 9, 10, 11, 12, 13, 14, 15, 16, 17, 18, 19, 20, 21, 22, 23, 24, 29, 30, 31, 25, 26, 27, 4, 32, 5] rfl rfl
          refine lv_iconst (v := (-1 : Int32)) hx hb dX11_toPay_65 (by decide) ?_
          refine xicmp_ne hx hb 71 dX11_toPay_66 (by decide) hf (fun hf => ?_) (fun hf => ?_)
          · refine lv_iconst (v := (-1 : Int32)) hx hb dX11_toPay_69 (by decide) ?_
            cases hf
            exact mret_i hx hb hr hlocks hP hD hS dX11_toPay_70 rfl trivial
          · refine lv_iinc (v := (x3 + (1 : Int32))) (lv' := [(3, .int (x3 + (1 : Int32))), (0, .ref qX0), (1, .int x1), (2, .int x2)]) hx hb dX11_toPay_71 hl (k := 3) rfl rfl (by decide) rfl (fun ls hl => ?_)
            refine lv_goto (tgt := 37) hx hb dX11_toPay_74 (by decide) ?_
            exact ih37 l_names_62 l_stack_62 h_row_62 h_fears h_told x1 x2 (x3 + (1 : Int32)) _ _ _ hf hP hD hS (lv_sub hl [1, 2, 3, 0] rfl)
        · refine lv_iload_n hx hb dX11_toPay_56 rfl (lv_at hl 3 rfl) ?_
          cases hf
          exact mret_i hx hb hr hlocks hP hD hS dX11_toPay_57 rfl trivial
  unfold f_X11_toPay at hf
  refine lv_aload_n hx hb dX11_toPay_0 rfl (lv_at hl 0 rfl) ?_
  refine gfX11_54 hx hb hts hown hK hP 32 rfl rfl dX11_toPay_1 ?_
  refine lv_iload_n hx hb dX11_toPay_4 rfl (lv_at hl 1 rfl) ?_
  obtain ⟨r5, hg5, hf⟩ := ob1_some hf
  refine mcV_i (wr := [(qd0, .inr (2, [.int d_n, .ref qd1, .ref qd2])), (qd1, .inl (cI, 8, .inl d_for)), (qf2, .inl (cI, 6, .inl f_fears)), (qf3, .inl (cI, 18, .inl f_told)), (qr0, .inr (6, [.ref qd0, .ref qf0, .ref qz0, .ref qn0, .int r_tx, .int r_rul])), (qt0, .inr (9, [.int t_cl, .int t_ln, .int t_pt, .ref qt1, .ref qt2, .ref qt3, .ref qt4])), (qt1, .inl (cI, 301, .inl t_code)), (qt2, .inl (cI, 4, .inl t_st)), (qt3, .inl (cI, 4, .inl t_en)), (qu0, .inr (9, [.int u_cl, .int u_ln, .int u_pt, .ref qu1, .ref qu2, .ref qu3, .ref qu4])), (qu1, .inl (cI, 301, .inl u_code)), (qu2, .inl (cI, 4, .inl u_st)), (qu3, .inl (cI, 4, .inl u_en)), (qw0, .inr (9, [.int w_cl, .int w_ln, .int w_pt, .ref qw1, .ref qw2, .ref qw3, .ref qw4])), (qw1, .inl (cI, 301, .inl w_code)), (qw2, .inl (cI, 4, .inl w_st)), (qw3, .inl (cI, 4, .inl w_en)), (qx0, .inr (9, [.int x_cl, .int x_ln, .int x_pt, .ref qx1, .ref qx2, .ref qx3, .ref qx4])), (qx1, .inl (cI, 301, .inl x_code)), (qx2, .inl (cI, 4, .inl x_st)), (qx3, .inl (cI, 4, .inl x_en)), (qT, .inl (cT, 4, .inr (.inr (.inr (.inr (fT qt0 qu0 qw0 qx0)))))), (qL1, .inl (cI, 10, .inl l_names)), (qL2, .inl (cI, 64, .inl l_stack)), (qL0, .inr (3, [.ref qr0, .ref qT, .ref qL1, .ref qL2])), (qh0, .inr (1, [.ref qh1, .ref qh2, .ref qh3])), (qh1, .inl (cI, 76, .inl h_row)), (qh2, .inl (cI, 6, .inl h_fears)), (qh3, .inl (cI, 18, .inl h_told)), (qD1, .inr (0, [.ref qr0, .ref qh0, .ref qL0])), (qX0, .inr (11, [.ref qr0, .ref qk0, .ref qT, .ref qb0, .ref qe0, .ref qL0, .ref qf0, .ref qd0, .ref qn0, .ref qz0, .ref qD0, .ref qh0, .ref qD1, .ref qv0]))]) (As := [.int p1]) (rest := []) hx hb hml hown hts hK hP hD hS hA (k_X1_told l N D cI cJ cZ cB cT qf0 qf1 qf2 qf3 f_row p1 r5 hg5) (kwX11_238 hts rfl rfl ⟨Nat.le_of_ble_eq_true rfl, Nat.le_of_ble_eq_true rfl⟩) [2, 3] [0, 1, 4, 5, 6, 7, 8, 9, 10, 11, 12, 13, 14, 15, 16, 17, 18, 19, 20, 21, 22, 23, 24, 25, 26, 27, 28, 29, 30, 31, 32] rfl rfl rfl (by decide) rfl 0 rfl rfl rfl rfl hl.1 rfl (Nat.le_of_ble_eq_true rfl) dX11_toPay_5 ⟨Nat.zero_le _, Nat.zero_le _⟩ (fun hB5 H locs hP hD hS => ?_)
  have hP := mP_sub (wc := (W_X_0t1_3t6_16_34t37_39t42_44t47_49t52_54_61t63_65t69_76 qd0 qd1 qf0 qf1 qf2 qf3 qr0 qt0 qt1 qt2 qt3 qu0 qu1 qu2 qu3 qw0 qw1 qw2 qw3 qx0 qx1 qx2 qx3 qT qL1 qL2 qL0 qh0 qh1 qh2 qh3 qD1 qX0 qd2 qz0 qn0 qt4 qu4 qw4 qx4 qk0 qb0 qe0 qD0 qv0 cI cJ cZ cB cT d_n d_for f_row f_fears f_told r_tx r_rul t_cl t_ln t_pt t_code t_st t_en u_cl u_ln u_pt u_code u_st u_en w_cl w_ln w_pt w_code w_st w_en x_cl x_ln x_pt x_code x_st x_en l_names l_stack h_row h_fears h_told)) hP [0, 1, 31, 32, 2, 3, 4, 5, 6, 7, 8, 9, 10, 11, 12, 13, 14, 15, 16, 17, 18, 19, 20, 21, 22, 23, 24, 25, 26, 27, 28, 29, 30] rfl
  have hD := hD.sub (ws' := (W_X_0t1_3t6_16_34t37_39t42_44t47_49t52_54_61t63_65t69_76 qd0 qd1 qf0 qf1 qf2 qf3 qr0 qt0 qt1 qt2 qt3 qu0 qu1 qu2 qu3 qw0 qw1 qw2 qw3 qx0 qx1 qx2 qx3 qT qL1 qL2 qL0 qh0 qh1 qh2 qh3 qD1 qX0 qd2 qz0 qn0 qt4 qu4 qw4 qx4 qk0 qb0 qe0 qD0 qv0 cI cJ cZ cB cT d_n d_for f_row f_fears f_told r_tx r_rul t_cl t_ln t_pt t_code t_st t_en u_cl u_ln u_pt u_code u_st u_en w_cl w_ln w_pt w_code w_st w_en x_cl x_ln x_pt x_code x_st x_en l_names l_stack h_row h_fears h_told)) [0, 1, 31, 32, 2, 3, 4, 5, 6, 7, 8, 9, 10, 11, 12, 13, 14, 15, 16, 17, 18, 19, 20, 21, 22, 23, 24, 25, 26, 27, 28, 29, 30] rfl rfl
  refine xif_eq hx hb 22 dX11_toPay_8 (by decide) hf (fun hf => ?_) (fun hf => ?_)
  · refine lv_iconst (v := (-1 : Int32)) hx hb dX11_toPay_22 (by decide) ?_
    cases hf
    exact mret_i hx hb hr hlocks hP hD hS dX11_toPay_23 rfl trivial
  · refine lv_aload_n hx hb dX11_toPay_11 rfl (lv_at hl 0 rfl) ?_
    refine gfX11_54 hx hb hts hown hK hP 32 rfl rfl dX11_toPay_12 ?_
    refine lv_iload_n hx hb dX11_toPay_15 rfl (lv_at hl 2 rfl) ?_
    obtain ⟨r16, hg16, hf⟩ := ob1_some hf
    refine mcV_i (wr := [(qd0, .inr (2, [.int d_n, .ref qd1, .ref qd2])), (qd1, .inl (cI, 8, .inl d_for)), (qf2, .inl (cI, 6, .inl f_fears)), (qf3, .inl (cI, 18, .inl f_told)), (qr0, .inr (6, [.ref qd0, .ref qf0, .ref qz0, .ref qn0, .int r_tx, .int r_rul])), (qt0, .inr (9, [.int t_cl, .int t_ln, .int t_pt, .ref qt1, .ref qt2, .ref qt3, .ref qt4])), (qt1, .inl (cI, 301, .inl t_code)), (qt2, .inl (cI, 4, .inl t_st)), (qt3, .inl (cI, 4, .inl t_en)), (qu0, .inr (9, [.int u_cl, .int u_ln, .int u_pt, .ref qu1, .ref qu2, .ref qu3, .ref qu4])), (qu1, .inl (cI, 301, .inl u_code)), (qu2, .inl (cI, 4, .inl u_st)), (qu3, .inl (cI, 4, .inl u_en)), (qw0, .inr (9, [.int w_cl, .int w_ln, .int w_pt, .ref qw1, .ref qw2, .ref qw3, .ref qw4])), (qw1, .inl (cI, 301, .inl w_code)), (qw2, .inl (cI, 4, .inl w_st)), (qw3, .inl (cI, 4, .inl w_en)), (qx0, .inr (9, [.int x_cl, .int x_ln, .int x_pt, .ref qx1, .ref qx2, .ref qx3, .ref qx4])), (qx1, .inl (cI, 301, .inl x_code)), (qx2, .inl (cI, 4, .inl x_st)), (qx3, .inl (cI, 4, .inl x_en)), (qT, .inl (cT, 4, .inr (.inr (.inr (.inr (fT qt0 qu0 qw0 qx0)))))), (qL1, .inl (cI, 10, .inl l_names)), (qL2, .inl (cI, 64, .inl l_stack)), (qL0, .inr (3, [.ref qr0, .ref qT, .ref qL1, .ref qL2])), (qh0, .inr (1, [.ref qh1, .ref qh2, .ref qh3])), (qh1, .inl (cI, 76, .inl h_row)), (qh2, .inl (cI, 6, .inl h_fears)), (qh3, .inl (cI, 18, .inl h_told)), (qD1, .inr (0, [.ref qr0, .ref qh0, .ref qL0])), (qX0, .inr (11, [.ref qr0, .ref qk0, .ref qT, .ref qb0, .ref qe0, .ref qL0, .ref qf0, .ref qd0, .ref qn0, .ref qz0, .ref qD0, .ref qh0, .ref qD1, .ref qv0]))]) (As := [.int p2]) (rest := []) hx hb hml hown hts hK hP hD hS hA (k_X1_told l N D cI cJ cZ cB cT qf0 qf1 qf2 qf3 f_row p2 r16 hg16) (kwX11_238 hts rfl rfl ⟨Nat.le_of_ble_eq_true rfl, Nat.le_of_ble_eq_true rfl⟩) [2, 3] [0, 1, 4, 5, 6, 7, 8, 9, 10, 11, 12, 13, 14, 15, 16, 17, 18, 19, 20, 21, 22, 23, 24, 25, 26, 27, 28, 29, 30, 31, 32] rfl rfl rfl (by decide) rfl 0 rfl rfl rfl rfl hl.1 rfl (Nat.le_of_ble_eq_true rfl) dX11_toPay_16 ⟨Nat.zero_le _, Nat.zero_le _⟩ (fun hB16 H locs hP hD hS => ?_)
    have hP := mP_sub (wc := (W_X_0t1_3t6_16_34t37_39t42_44t47_49t52_54_61t63_65t69_76 qd0 qd1 qf0 qf1 qf2 qf3 qr0 qt0 qt1 qt2 qt3 qu0 qu1 qu2 qu3 qw0 qw1 qw2 qw3 qx0 qx1 qx2 qx3 qT qL1 qL2 qL0 qh0 qh1 qh2 qh3 qD1 qX0 qd2 qz0 qn0 qt4 qu4 qw4 qx4 qk0 qb0 qe0 qD0 qv0 cI cJ cZ cB cT d_n d_for f_row f_fears f_told r_tx r_rul t_cl t_ln t_pt t_code t_st t_en u_cl u_ln u_pt u_code u_st u_en w_cl w_ln w_pt w_code w_st w_en x_cl x_ln x_pt x_code x_st x_en l_names l_stack h_row h_fears h_told)) hP [0, 1, 31, 32, 2, 3, 4, 5, 6, 7, 8, 9, 10, 11, 12, 13, 14, 15, 16, 17, 18, 19, 20, 21, 22, 23, 24, 25, 26, 27, 28, 29, 30] rfl
    have hD := hD.sub (ws' := (W_X_0t1_3t6_16_34t37_39t42_44t47_49t52_54_61t63_65t69_76 qd0 qd1 qf0 qf1 qf2 qf3 qr0 qt0 qt1 qt2 qt3 qu0 qu1 qu2 qu3 qw0 qw1 qw2 qw3 qx0 qx1 qx2 qx3 qT qL1 qL2 qL0 qh0 qh1 qh2 qh3 qD1 qX0 qd2 qz0 qn0 qt4 qu4 qw4 qx4 qk0 qb0 qe0 qD0 qv0 cI cJ cZ cB cT d_n d_for f_row f_fears f_told r_tx r_rul t_cl t_ln t_pt t_code t_st t_en u_cl u_ln u_pt u_code u_st u_en w_cl w_ln w_pt w_code w_st w_en x_cl x_ln x_pt x_code x_st x_en l_names l_stack h_row h_fears h_told)) [0, 1, 31, 32, 2, 3, 4, 5, 6, 7, 8, 9, 10, 11, 12, 13, 14, 15, 16, 17, 18, 19, 20, 21, 22, 23, 24, 25, 26, 27, 28, 29, 30] rfl rfl
    refine xif_ne hx hb 24 dX11_toPay_19 (by decide) hf (fun hf => ?_) (fun hf => ?_)
    · refine lv_iconst (v := (-1 : Int32)) hx hb dX11_toPay_22 (by decide) ?_
      cases hf
      exact mret_i hx hb hr hlocks hP hD hS dX11_toPay_23 rfl trivial
    · refine lv_aload_n hx hb dX11_toPay_24 rfl (lv_at hl 0 rfl) ?_
      refine gfX11_82 hx hb hts hown hK hP 32 rfl rfl dX11_toPay_25 ?_
      refine lv_aload_n hx hb dX11_toPay_28 rfl (lv_at hl 0 rfl) ?_
      refine gfX11_54 hx hb hts hown hK hP 32 rfl rfl dX11_toPay_29 ?_
      obtain ⟨h_row_32, h_fears_32, h_told_32, hg32, hf⟩ := ob3_some hf
      refine mcV_v (wr := [(qd0, .inr (2, [.int d_n, .ref qd1, .ref qd2])), (qd1, .inl (cI, 8, .inl d_for)), (qr0, .inr (6, [.ref qd0, .ref qf0, .ref qz0, .ref qn0, .int r_tx, .int r_rul])), (qt0, .inr (9, [.int t_cl, .int t_ln, .int t_pt, .ref qt1, .ref qt2, .ref qt3, .ref qt4])), (qt1, .inl (cI, 301, .inl t_code)), (qt2, .inl (cI, 4, .inl t_st)), (qt3, .inl (cI, 4, .inl t_en)), (qu0, .inr (9, [.int u_cl, .int u_ln, .int u_pt, .ref qu1, .ref qu2, .ref qu3, .ref qu4])), (qu1, .inl (cI, 301, .inl u_code)), (qu2, .inl (cI, 4, .inl u_st)), (qu3, .inl (cI, 4, .inl u_en)), (qw0, .inr (9, [.int w_cl, .int w_ln, .int w_pt, .ref qw1, .ref qw2, .ref qw3, .ref qw4])), (qw1, .inl (cI, 301, .inl w_code)), (qw2, .inl (cI, 4, .inl w_st)), (qw3, .inl (cI, 4, .inl w_en)), (qx0, .inr (9, [.int x_cl, .int x_ln, .int x_pt, .ref qx1, .ref qx2, .ref qx3, .ref qx4])), (qx1, .inl (cI, 301, .inl x_code)), (qx2, .inl (cI, 4, .inl x_st)), (qx3, .inl (cI, 4, .inl x_en)), (qT, .inl (cT, 4, .inr (.inr (.inr (.inr (fT qt0 qu0 qw0 qx0)))))), (qL1, .inl (cI, 10, .inl l_names)), (qL2, .inl (cI, 64, .inl l_stack)), (qL0, .inr (3, [.ref qr0, .ref qT, .ref qL1, .ref qL2])), (qD1, .inr (0, [.ref qr0, .ref qh0, .ref qL0])), (qX0, .inr (11, [.ref qr0, .ref qk0, .ref qT, .ref qb0, .ref qe0, .ref qL0, .ref qf0, .ref qd0, .ref qn0, .ref qz0, .ref qD0, .ref qh0, .ref qD1, .ref qv0]))]) (As := [.ref qf0]) (rest := []) hx hb hml hown hts hK hP hD hS hA (k_X1_become l N D cI cJ cZ cB cT qh0 qh1 qh2 qh3 qf0 qf1 qf2 qf3 h_row h_fears h_told f_row f_fears f_told h_row_32 h_fears_32 h_told_32 hg32) (kwX11_275 hts rfl rfl ⟨Nat.le_of_ble_eq_true rfl, Nat.le_of_ble_eq_true rfl⟩) [27, 28, 29, 30, 2, 3, 4, 5] [0, 1, 6, 7, 8, 9, 10, 11, 12, 13, 14, 15, 16, 17, 18, 19, 20, 21, 22, 23, 24, 25, 26, 31, 32] rfl rfl rfl (by decide) rfl 0 rfl rfl rfl rfl hl.1 rfl (Nat.le_of_ble_eq_true rfl) dX11_toPay_32 ⟨Nat.zero_le _, Nat.zero_le _⟩ (fun H locs hP hD hS => ?_)
      have hP := mP_sub (wc := (W_X_0t1_3t6_16_34t37_39t42_44t47_49t52_54_61t63_65t69_76 qd0 qd1 qf0 qf1 qf2 qf3 qr0 qt0 qt1 qt2 qt3 qu0 qu1 qu2 qu3 qw0 qw1 qw2 qw3 qx0 qx1 qx2 qx3 qT qL1 qL2 qL0 qh0 qh1 qh2 qh3 qD1 qX0 qd2 qz0 qn0 qt4 qu4 qw4 qx4 qk0 qb0 qe0 qD0 qv0 cI cJ cZ cB cT d_n d_for f_row f_fears f_told r_tx r_rul t_cl t_ln t_pt t_code t_st t_en u_cl u_ln u_pt u_code u_st u_en w_cl w_ln w_pt w_code w_st w_en x_cl x_ln x_pt x_code x_st x_en l_names l_stack h_row_32 h_fears_32 h_told_32)) hP [0, 1, 29, 30, 31, 32, 2, 3, 4, 5, 6, 7, 8, 9, 10, 11, 12, 13, 14, 15, 16, 17, 18, 19, 20, 21, 22, 25, 26, 27, 28, 23, 24] rfl
      have hD := hD.sub (ws' := (W_X_0t1_3t6_16_34t37_39t42_44t47_49t52_54_61t63_65t69_76 qd0 qd1 qf0 qf1 qf2 qf3 qr0 qt0 qt1 qt2 qt3 qu0 qu1 qu2 qu3 qw0 qw1 qw2 qw3 qx0 qx1 qx2 qx3 qT qL1 qL2 qL0 qh0 qh1 qh2 qh3 qD1 qX0 qd2 qz0 qn0 qt4 qu4 qw4 qx4 qk0 qb0 qe0 qD0 qv0 cI cJ cZ cB cT d_n d_for f_row f_fears f_told r_tx r_rul t_cl t_ln t_pt t_code t_st t_en u_cl u_ln u_pt u_code u_st u_en w_cl w_ln w_pt w_code w_st w_en x_cl x_ln x_pt x_code x_st x_en l_names l_stack h_row_32 h_fears_32 h_told_32)) [0, 1, 29, 30, 31, 32, 2, 3, 4, 5, 6, 7, 8, 9, 10, 11, 12, 13, 14, 15, 16, 17, 18, 19, 20, 21, 22, 25, 26, 27, 28, 23, 24] rfl rfl
      refine lv_iconst (v := (0 : Int32)) hx hb dX11_toPay_35 (by decide) ?_
      refine lv_istore_n (lv' := [(3, .int (0 : Int32)), (0, .ref qX0), (1, .int p1), (2, .int p2)]) hx hb dX11_toPay_36 rfl hl (by decide) rfl (fun ls hl => ?_)
      exact b37 N l_names l_stack h_row_32 h_fears_32 h_told_32 p1 p2 (0 : Int32) _ _ _ hf hP hD hS (lv_sub hl [1, 2, 3, 0] rfl)
