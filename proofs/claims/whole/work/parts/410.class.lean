theorem dX3_without_0 : decode cX3_without 0 = .ok (.iload_n 1, 1) := by decide +kernel
theorem dX3_without_1 : decode cX3_without 1 = .ok (.tableswitch 59 0 2 #[27, 29, 46], 27) := by decide +kernel
theorem dX3_without_28 : decode cX3_without 28 = .ok (.iconst 1, 1) := by decide +kernel
theorem dX3_without_29 : decode cX3_without 29 = .ok (.ireturn, 1) := by decide +kernel
theorem dX3_without_30 : decode cX3_without 30 = .ok (.iconst 5, 1) := by decide +kernel
theorem dX3_without_31 : decode cX3_without 31 = .ok (.aload_n 0, 1) := by decide +kernel
theorem dX3_without_32 : decode cX3_without 32 = .ok (.getfield 18, 3) := by decide +kernel
theorem dX3_without_35 : decode cX3_without 35 = .ok (.getfield 61, 3) := by decide +kernel
theorem dX3_without_38 : decode cX3_without 38 = .ok (.iload 4, 2) := by decide +kernel
theorem dX3_without_40 : decode cX3_without 40 = .ok (.invokevirtual 65, 3) := by decide +kernel
theorem dX3_without_43 : decode cX3_without 43 = .ok (.iconst 2, 1) := by decide +kernel
theorem dX3_without_44 : decode cX3_without 44 = .ok (.idiv, 1) := by decide +kernel
theorem dX3_without_45 : decode cX3_without 45 = .ok (.isub, 1) := by decide +kernel
theorem dX3_without_46 : decode cX3_without 46 = .ok (.ireturn, 1) := by decide +kernel
theorem dX3_without_47 : decode cX3_without 47 = .ok (.bipush 100, 2) := by decide +kernel
theorem dX3_without_49 : decode cX3_without 49 = .ok (.bipush 20, 2) := by decide +kernel
theorem dX3_without_51 : decode cX3_without 51 = .ok (.aload_n 2, 1) := by decide +kernel
theorem dX3_without_52 : decode cX3_without 52 = .ok (.iload_n 3, 1) := by decide +kernel
theorem dX3_without_53 : decode cX3_without 53 = .ok (.iconst 5, 1) := by decide +kernel
theorem dX3_without_54 : decode cX3_without 54 = .ok (.invokevirtual 73, 3) := by decide +kernel
theorem dX3_without_57 : decode cX3_without 57 = .ok (.imul, 1) := by decide +kernel
theorem dX3_without_58 : decode cX3_without 58 = .ok (.iadd, 1) := by decide +kernel
theorem dX3_without_59 : decode cX3_without 59 = .ok (.ireturn, 1) := by decide +kernel
theorem dX3_without_60 : decode cX3_without 60 = .ok (.bipush 10, 2) := by decide +kernel
theorem dX3_without_62 : decode cX3_without 62 = .ok (.ireturn, 1) := by decide +kernel
def f_X3_without (N : Nat) (d_n : Int32) (d_for : Nat → Int32) (f_row : Nat → Int32) (p1 : Int32) (p3 : Int32) (p4 : Int32) : Option (Int32) := if p1 = (0 : Int32) then (some (1 : Int32)) else if p1 = (1 : Int32) then (ob1 (f_X2_forestOf N d_n d_for p4) fun r40 => dvI r40 (2 : Int32) fun v44 => some ((5 : Int32) - v44)) else if p1 = (2 : Int32) then (ob1 (f_X1_get N f_row p3 (5 : Int32)) fun r54 => some ((100 : Int32) + ((20 : Int32) * r54))) else (some (10 : Int32))
set_option maxHeartbeats 4000000 in
set_option maxRecDepth 100000 in
theorem k_X3_without (l : Launch) (N : Nat) (D : va_G) (cI cJ cZ cB cT : ClassId) (qd0 : Nat) (qd1 : Nat) (qf0 : Nat) (qf1 : Nat) (qr0 : Nat) (qL0 : Nat) (qd2 : Nat) (qf2 : Nat) (qf3 : Nat) (qG1 : Nat) (qG2 : Nat) (qG3 : Nat) (qT : Nat) (qL1 : Nat) (qL2 : Nat) (d_n : Int32) (d_for : Nat → Int32) (f_row : Nat → Int32) (r_tx : Int32) (r_rul : Int32) (p1 : Int32) (p3 : Int32) (p4 : Int32) (o_r : Int32) (hf : f_X3_without N d_n d_for f_row p1 p3 p4 = some o_r) : ∀ sz, Met l yX3_without (mw yX3_without cX3_without 5 (some .int)) ({ frames := 1, cells := 0, slots := 0, locals := 23 } : Room) (mPre D (mT cI cJ cZ cB cT) (W_LW_0t1_24t25_31_34 qd0 qd1 qf0 qf1 qr0 qL0 qd2 qf2 qf3 qG1 qG2 qG3 qT qL1 qL2 cI cJ cZ cB cT d_n d_for f_row r_tx r_rul) sz [.ref qL0, .int p1, .ref qf0, .int p3, .int p4]) ((mQi D (W_LW_0t1_24t25_31_34 qd0 qd1 qf0 qf1 qr0 qL0 qd2 qf2 qf3 qG1 qG2 qG3 qT qL1 qL2 cI cJ cZ cB cT d_n d_for f_row r_tx r_rul) o_r True) (va_A (W_LW_0t1_24t25_31_34 qd0 qd1 qf0 qf1 qr0 qL0 qd2 qf2 qf3 qG1 qG2 qG3 qT qL1 qL2 cI cJ cZ cB cT d_n d_for f_row r_tx r_rul) sz)) 0 0 (va_A (W_LW_0t1_24t25_31_34 qd0 qd1 qf0 qf1 qr0 qL0 qd2 qf2 qf3 qG1 qG2 qG3 qT qL1 qL2 cI cJ cZ cB cT d_n d_for f_row r_tx r_rul) sz) := by
  refine mMet (Qc := (mQi D (W_LW_0t1_24t25_31_34 qd0 qd1 qf0 qf1 qr0 qL0 qd2 qf2 qf3 qG1 qG2 qG3 qT qL1 qL2 cI cJ cZ cB cT d_n d_for f_row r_tx r_rul) o_r True)) (by decide) (Nat.le_of_ble_eq_true rfl) (fun p e s m below meth c A ls hx hb hr hml hts hown hlocks hK hA hP hD hl => ?_)
  have hown : s.vm.findClass RX3 = some m.cls := hown
  have hl : lv_has ls 5 [(0, .ref qL0), (1, .int p1), (2, .ref qf0), (3, .int p3), (4, .int p4)] := hl
  have hS : va_S A s.heap s.heap [] := va_S.rf
  unfold f_X3_without at hf
  refine lv_iload_n hx hb dX3_without_0 rfl (lv_at hl 1 rfl) ?_
  by_cases e1_0 : p1 = (0 : Int32)
  · replace hf := (if_pos e1_0).symm.trans hf
    refine lv_tableIn (off := 27) (tgt := 28) hx hb dX3_without_1 (by rw [e1_0]; decide) (by rw [e1_0]; decide) (by rw [e1_0]; rfl) (by decide) ?_
    refine lv_iconst (v := (1 : Int32)) hx hb dX3_without_28 (by decide) ?_
    cases hf
    exact mret_i hx hb hr hlocks hP hD hS dX3_without_29 rfl trivial
  replace hf := (if_neg e1_0).symm.trans hf
  by_cases e1_1 : p1 = (1 : Int32)
  · replace hf := (if_pos e1_1).symm.trans hf
    refine lv_tableIn (off := 29) (tgt := 30) hx hb dX3_without_1 (by rw [e1_1]; decide) (by rw [e1_1]; decide) (by rw [e1_1]; rfl) (by decide) ?_
    refine lv_iconst (v := (5 : Int32)) hx hb dX3_without_30 (by decide) ?_
    refine lv_aload_n hx hb dX3_without_31 rfl (lv_at hl 0 rfl) ?_
    refine gfX3_18 hx hb hts hown hK hP 5 rfl rfl dX3_without_32 ?_
    refine gfX3_61 hx hb hts hown hK hP 4 rfl rfl dX3_without_35 ?_
    refine lv_iload hx hb dX3_without_38 (lv_at hl 4 rfl) ?_
    obtain ⟨r40, hg40, hf⟩ := ob1_some hf
    refine mcV_i (wr := [(qf0, .inr (1, [.ref qf1, .ref qf2, .ref qf3])), (qf1, .inl (cI, 76, .inl f_row)), (qr0, .inr (6, [.ref qd0, .ref qG1, .ref qG2, .ref qG3, .int r_tx, .int r_rul])), (qL0, .inr (3, [.ref qr0, .ref qT, .ref qL1, .ref qL2]))]) (As := [.int p4]) (rest := [.int (5 : Int32)]) hx hb hml hown hts hK hP hD hS hA (k_X2_forestOf l N D cI cJ cZ cB cT qd0 qd1 qd2 d_n d_for p4 r40 hg40) (kwX3_65 hts rfl rfl ⟨Nat.le_of_ble_eq_true rfl, Nat.le_of_ble_eq_true rfl⟩) [0, 1] [2, 3, 4, 5] rfl rfl rfl (by decide) rfl 0 rfl rfl rfl rfl hl.1 rfl (Nat.le_of_ble_eq_true rfl) dX3_without_40 ⟨Nat.zero_le _, Nat.zero_le _⟩ (fun hB40 H locs hP hD hS => ?_)
    have hP := mP_sub (wc := (W_LW_0t1_24t25_31_34 qd0 qd1 qf0 qf1 qr0 qL0 qd2 qf2 qf3 qG1 qG2 qG3 qT qL1 qL2 cI cJ cZ cB cT d_n d_for f_row r_tx r_rul)) hP [4, 5, 0, 1, 2, 3] rfl
    have hD := hD.sub (ws' := (W_LW_0t1_24t25_31_34 qd0 qd1 qf0 qf1 qr0 qL0 qd2 qf2 qf3 qG1 qG2 qG3 qT qL1 qL2 cI cJ cZ cB cT d_n d_for f_row r_tx r_rul)) [4, 5, 0, 1, 2, 3] rfl rfl
    refine lv_iconst (v := (2 : Int32)) hx hb dX3_without_43 (by decide) ?_
    refine xidiv hx hb dX3_without_44 hf (fun v44 hf => ?_)
    refine lv_isub hx hb dX3_without_45 ?_
    cases hf
    exact mret_i hx hb hr hlocks hP hD hS dX3_without_46 rfl trivial
  replace hf := (if_neg e1_1).symm.trans hf
  by_cases e1_2 : p1 = (2 : Int32)
  · replace hf := (if_pos e1_2).symm.trans hf
    refine lv_tableIn (off := 46) (tgt := 47) hx hb dX3_without_1 (by rw [e1_2]; decide) (by rw [e1_2]; decide) (by rw [e1_2]; rfl) (by decide) ?_
    refine lv_bipush (v := (100 : Int32)) hx hb dX3_without_47 (by decide) ?_
    refine lv_bipush (v := (20 : Int32)) hx hb dX3_without_49 (by decide) ?_
    refine lv_aload_n hx hb dX3_without_51 rfl (lv_at hl 2 rfl) ?_
    refine lv_iload_n hx hb dX3_without_52 rfl (lv_at hl 3 rfl) ?_
    refine lv_iconst (v := (5 : Int32)) hx hb dX3_without_53 (by decide) ?_
    obtain ⟨r54, hg54, hf⟩ := ob1_some hf
    refine mcV_i (wr := [(qd0, .inr (2, [.int d_n, .ref qd1, .ref qd2])), (qd1, .inl (cI, 8, .inl d_for)), (qr0, .inr (6, [.ref qd0, .ref qG1, .ref qG2, .ref qG3, .int r_tx, .int r_rul])), (qL0, .inr (3, [.ref qr0, .ref qT, .ref qL1, .ref qL2]))]) (As := [.int p3, .int (5 : Int32)]) (rest := [.int (20 : Int32), .int (100 : Int32)]) hx hb hml hown hts hK hP hD hS hA (k_X1_get l N D cI cJ cZ cB cT qf0 qf1 qf2 qf3 f_row p3 (5 : Int32) r54 hg54) (kwX3_73 hts rfl rfl ⟨Nat.le_of_ble_eq_true rfl, Nat.le_of_ble_eq_true rfl⟩) [2, 3] [0, 1, 4, 5] rfl rfl rfl (by decide) rfl 0 rfl rfl rfl rfl hl.1 rfl (Nat.le_of_ble_eq_true rfl) dX3_without_54 ⟨Nat.zero_le _, Nat.zero_le _⟩ (fun hB54 H locs hP hD hS => ?_)
    have hP := mP_sub (wc := (W_LW_0t1_24t25_31_34 qd0 qd1 qf0 qf1 qr0 qL0 qd2 qf2 qf3 qG1 qG2 qG3 qT qL1 qL2 cI cJ cZ cB cT d_n d_for f_row r_tx r_rul)) hP [0, 1, 4, 5, 2, 3] rfl
    have hD := hD.sub (ws' := (W_LW_0t1_24t25_31_34 qd0 qd1 qf0 qf1 qr0 qL0 qd2 qf2 qf3 qG1 qG2 qG3 qT qL1 qL2 cI cJ cZ cB cT d_n d_for f_row r_tx r_rul)) [0, 1, 4, 5, 2, 3] rfl rfl
    refine lv_imul hx hb dX3_without_57 ?_
    refine lv_iadd hx hb dX3_without_58 ?_
    cases hf
    exact mret_i hx hb hr hlocks hP hD hS dX3_without_59 rfl trivial
  replace hf := (if_neg e1_2).symm.trans hf
  have ne1_0 : p1.toInt ≠ (0 : Int) := sw_ne e1_0
  have ne1_1 : p1.toInt ≠ (1 : Int) := sw_ne e1_1
  have ne1_2 : p1.toInt ≠ (2 : Int) := sw_ne e1_2
  refine lv_tableOut (tgt := 60) hx hb dX3_without_1 (by omega) (by decide) ?_
  refine lv_bipush (v := (10 : Int32)) hx hb dX3_without_60 (by decide) ?_
  cases hf
  exact mret_i hx hb hr hlocks hP hD hS dX3_without_62 rfl trivial
theorem dX3_fillNames_0 : decode cX3_fillNames 0 = .ok (.aload_n 0, 1) := by decide +kernel
theorem dX3_fillNames_1 : decode cX3_fillNames 1 = .ok (.getfield 11, 3) := by decide +kernel
theorem dX3_fillNames_4 : decode cX3_fillNames 4 = .ok (.iconst 0, 1) := by decide +kernel
theorem dX3_fillNames_5 : decode cX3_fillNames 5 = .ok (.iload_n 3, 1) := by decide +kernel
theorem dX3_fillNames_6 : decode cX3_fillNames 6 = .ok (.iastore, 1) := by decide +kernel
theorem dX3_fillNames_7 : decode cX3_fillNames 7 = .ok (.aload_n 0, 1) := by decide +kernel
theorem dX3_fillNames_8 : decode cX3_fillNames 8 = .ok (.getfield 11, 3) := by decide +kernel
theorem dX3_fillNames_11 : decode cX3_fillNames 11 = .ok (.iconst 1, 1) := by decide +kernel
theorem dX3_fillNames_12 : decode cX3_fillNames 12 = .ok (.aload_n 1, 1) := by decide +kernel
theorem dX3_fillNames_13 : decode cX3_fillNames 13 = .ok (.invokevirtual 78, 3) := by decide +kernel
theorem dX3_fillNames_16 : decode cX3_fillNames 16 = .ok (.iastore, 1) := by decide +kernel
theorem dX3_fillNames_17 : decode cX3_fillNames 17 = .ok (.aload_n 0, 1) := by decide +kernel
theorem dX3_fillNames_18 : decode cX3_fillNames 18 = .ok (.getfield 11, 3) := by decide +kernel
theorem dX3_fillNames_21 : decode cX3_fillNames 21 = .ok (.iconst 2, 1) := by decide +kernel
theorem dX3_fillNames_22 : decode cX3_fillNames 22 = .ok (.iload_n 2, 1) := by decide +kernel
theorem dX3_fillNames_23 : decode cX3_fillNames 23 = .ok (.iastore, 1) := by decide +kernel
theorem dX3_fillNames_24 : decode cX3_fillNames 24 = .ok (.aload_n 0, 1) := by decide +kernel
theorem dX3_fillNames_25 : decode cX3_fillNames 25 = .ok (.getfield 11, 3) := by decide +kernel
theorem dX3_fillNames_28 : decode cX3_fillNames 28 = .ok (.iconst 3, 1) := by decide +kernel
theorem dX3_fillNames_29 : decode cX3_fillNames 29 = .ok (.aload_n 1, 1) := by decide +kernel
theorem dX3_fillNames_30 : decode cX3_fillNames 30 = .ok (.iload_n 2, 1) := by decide +kernel
theorem dX3_fillNames_31 : decode cX3_fillNames 31 = .ok (.invokevirtual 82, 3) := by decide +kernel
theorem dX3_fillNames_34 : decode cX3_fillNames 34 = .ok (.iastore, 1) := by decide +kernel
theorem dX3_fillNames_35 : decode cX3_fillNames 35 = .ok (.aload_n 0, 1) := by decide +kernel
theorem dX3_fillNames_36 : decode cX3_fillNames 36 = .ok (.getfield 11, 3) := by decide +kernel
theorem dX3_fillNames_39 : decode cX3_fillNames 39 = .ok (.iconst 4, 1) := by decide +kernel
theorem dX3_fillNames_40 : decode cX3_fillNames 40 = .ok (.aload_n 0, 1) := by decide +kernel
theorem dX3_fillNames_41 : decode cX3_fillNames 41 = .ok (.getfield 18, 3) := by decide +kernel
theorem dX3_fillNames_44 : decode cX3_fillNames 44 = .ok (.getfield 61, 3) := by decide +kernel
theorem dX3_fillNames_47 : decode cX3_fillNames 47 = .ok (.iload_n 3, 1) := by decide +kernel
theorem dX3_fillNames_48 : decode cX3_fillNames 48 = .ok (.invokevirtual 65, 3) := by decide +kernel
theorem dX3_fillNames_51 : decode cX3_fillNames 51 = .ok (.iastore, 1) := by decide +kernel
theorem dX3_fillNames_52 : decode cX3_fillNames 52 = .ok (.aload_n 0, 1) := by decide +kernel
theorem dX3_fillNames_53 : decode cX3_fillNames 53 = .ok (.getfield 11, 3) := by decide +kernel
theorem dX3_fillNames_56 : decode cX3_fillNames 56 = .ok (.iconst 5, 1) := by decide +kernel
theorem dX3_fillNames_57 : decode cX3_fillNames 57 = .ok (.aload_n 1, 1) := by decide +kernel
theorem dX3_fillNames_58 : decode cX3_fillNames 58 = .ok (.iload_n 2, 1) := by decide +kernel
theorem dX3_fillNames_59 : decode cX3_fillNames 59 = .ok (.iconst 4, 1) := by decide +kernel
theorem dX3_fillNames_60 : decode cX3_fillNames 60 = .ok (.invokevirtual 73, 3) := by decide +kernel
theorem dX3_fillNames_63 : decode cX3_fillNames 63 = .ok (.iastore, 1) := by decide +kernel
theorem dX3_fillNames_64 : decode cX3_fillNames 64 = .ok (.aload_n 0, 1) := by decide +kernel
theorem dX3_fillNames_65 : decode cX3_fillNames 65 = .ok (.getfield 11, 3) := by decide +kernel
theorem dX3_fillNames_68 : decode cX3_fillNames 68 = .ok (.bipush 6, 2) := by decide +kernel
theorem dX3_fillNames_70 : decode cX3_fillNames 70 = .ok (.aload_n 1, 1) := by decide +kernel
theorem dX3_fillNames_71 : decode cX3_fillNames 71 = .ok (.iload_n 2, 1) := by decide +kernel
theorem dX3_fillNames_72 : decode cX3_fillNames 72 = .ok (.iconst 5, 1) := by decide +kernel
theorem dX3_fillNames_73 : decode cX3_fillNames 73 = .ok (.invokevirtual 73, 3) := by decide +kernel
theorem dX3_fillNames_76 : decode cX3_fillNames 76 = .ok (.iastore, 1) := by decide +kernel
theorem dX3_fillNames_77 : decode cX3_fillNames 77 = .ok (.aload_n 0, 1) := by decide +kernel
theorem dX3_fillNames_78 : decode cX3_fillNames 78 = .ok (.getfield 11, 3) := by decide +kernel
theorem dX3_fillNames_81 : decode cX3_fillNames 81 = .ok (.bipush 7, 2) := by decide +kernel
theorem dX3_fillNames_83 : decode cX3_fillNames 83 = .ok (.aload_n 1, 1) := by decide +kernel
theorem dX3_fillNames_84 : decode cX3_fillNames 84 = .ok (.iload_n 2, 1) := by decide +kernel
theorem dX3_fillNames_85 : decode cX3_fillNames 85 = .ok (.iconst 1, 1) := by decide +kernel
theorem dX3_fillNames_86 : decode cX3_fillNames 86 = .ok (.invokevirtual 73, 3) := by decide +kernel
theorem dX3_fillNames_89 : decode cX3_fillNames 89 = .ok (.iastore, 1) := by decide +kernel
theorem dX3_fillNames_90 : decode cX3_fillNames 90 = .ok (.aload_n 0, 1) := by decide +kernel
theorem dX3_fillNames_91 : decode cX3_fillNames 91 = .ok (.getfield 11, 3) := by decide +kernel
theorem dX3_fillNames_94 : decode cX3_fillNames 94 = .ok (.bipush 8, 2) := by decide +kernel
theorem dX3_fillNames_96 : decode cX3_fillNames 96 = .ok (.aload_n 1, 1) := by decide +kernel
theorem dX3_fillNames_97 : decode cX3_fillNames 97 = .ok (.iload_n 2, 1) := by decide +kernel
theorem dX3_fillNames_98 : decode cX3_fillNames 98 = .ok (.iconst 2, 1) := by decide +kernel
theorem dX3_fillNames_99 : decode cX3_fillNames 99 = .ok (.invokevirtual 73, 3) := by decide +kernel
theorem dX3_fillNames_102 : decode cX3_fillNames 102 = .ok (.iastore, 1) := by decide +kernel
theorem dX3_fillNames_103 : decode cX3_fillNames 103 = .ok (.aload_n 0, 1) := by decide +kernel
theorem dX3_fillNames_104 : decode cX3_fillNames 104 = .ok (.getfield 11, 3) := by decide +kernel
theorem dX3_fillNames_107 : decode cX3_fillNames 107 = .ok (.bipush 9, 2) := by decide +kernel
theorem dX3_fillNames_109 : decode cX3_fillNames 109 = .ok (.aload_n 1, 1) := by decide +kernel
theorem dX3_fillNames_110 : decode cX3_fillNames 110 = .ok (.iload_n 3, 1) := by decide +kernel
theorem dX3_fillNames_111 : decode cX3_fillNames 111 = .ok (.iload_n 2, 1) := by decide +kernel
theorem dX3_fillNames_112 : decode cX3_fillNames 112 = .ok (.invokevirtual 85, 3) := by decide +kernel
theorem dX3_fillNames_115 : decode cX3_fillNames 115 = .ok (.invokestatic 88, 3) := by decide +kernel
theorem dX3_fillNames_118 : decode cX3_fillNames 118 = .ok (.iastore, 1) := by decide +kernel
theorem dX3_fillNames_119 : decode cX3_fillNames 119 = .ok (.return_, 1) := by decide +kernel
def f_X3_fillNames (N : Nat) (d_n : Int32) (d_for : Nat → Int32) (f_row : Nat → Int32) (f_fears : Nat → Int32) (l_names : Nat → Int32) (p2 : Int32) (p3 : Int32) : Option ((Nat → Int32)) := sA l_names 10 (0 : Int32) p3 fun l_names_6 => ob1 (f_X1_monthNow N f_row) fun r13 => sA l_names_6 10 (1 : Int32) r13 fun l_names_16 => sA l_names_16 10 (2 : Int32) p2 fun l_names_23 => ob1 (f_X1_fearOf N f_row f_fears p2) fun r31 => sA l_names_23 10 (3 : Int32) r31 fun l_names_34 => ob1 (f_X2_forestOf N d_n d_for p3) fun r48 => sA l_names_34 10 (4 : Int32) r48 fun l_names_51 => ob1 (f_X1_get N f_row p2 (4 : Int32)) fun r60 => sA l_names_51 10 (5 : Int32) r60 fun l_names_63 => ob1 (f_X1_get N f_row p2 (5 : Int32)) fun r73 => sA l_names_63 10 (6 : Int32) r73 fun l_names_76 => ob1 (f_X1_get N f_row p2 (1 : Int32)) fun r86 => sA l_names_76 10 (7 : Int32) r86 fun l_names_89 => ob1 (f_X1_get N f_row p2 (2 : Int32)) fun r99 => sA l_names_89 10 (8 : Int32) r99 fun l_names_102 => ob1 (f_X1_othersIn N f_row p3 p2) fun r112 => ob1 (f_J6_bitCount_0f7a4 N r112) fun r115 => sA l_names_102 10 (9 : Int32) r115 fun l_names_118 => some l_names_118
set_option maxHeartbeats 4000000 in
set_option maxRecDepth 100000 in
theorem k_X3_fillNames (l : Launch) (N : Nat) (D : va_G) (cI cJ cZ cB cT : ClassId) (qd0 : Nat) (qd1 : Nat) (qf0 : Nat) (qf1 : Nat) (qf2 : Nat) (qr0 : Nat) (qL1 : Nat) (qL0 : Nat) (qd2 : Nat) (qf3 : Nat) (qG1 : Nat) (qG2 : Nat) (qG3 : Nat) (qT : Nat) (qL2 : Nat) (d_n : Int32) (d_for : Nat → Int32) (f_row : Nat → Int32) (f_fears : Nat → Int32) (r_tx : Int32) (r_rul : Int32) (l_names : Nat → Int32) (p2 : Int32) (p3 : Int32) (o_l_names : Nat → Int32) (hf : f_X3_fillNames N d_n d_for f_row f_fears l_names p2 p3 = some o_l_names) : ∀ sz, Met l yX3_fillNames (mw yX3_fillNames cX3_fillNames 4 none) ({ frames := 1, cells := 0, slots := 0, locals := 25 } : Room) (mPre D (mT cI cJ cZ cB cT) (W_LW_0t1_24t26_31t32_34 qd0 qd1 qf0 qf1 qf2 qr0 qL1 qL0 qd2 qf3 qG1 qG2 qG3 qT qL2 cI cJ cZ cB cT d_n d_for f_row f_fears r_tx r_rul l_names) sz [.ref qL0, .ref qf0, .int p2, .int p3]) ((mQv D (W_LW_0t1_24t26_31t32_34 qd0 qd1 qf0 qf1 qf2 qr0 qL1 qL0 qd2 qf3 qG1 qG2 qG3 qT qL2 cI cJ cZ cB cT d_n d_for f_row f_fears r_tx r_rul o_l_names)) (va_A (W_LW_0t1_24t26_31t32_34 qd0 qd1 qf0 qf1 qf2 qr0 qL1 qL0 qd2 qf3 qG1 qG2 qG3 qT qL2 cI cJ cZ cB cT d_n d_for f_row f_fears r_tx r_rul l_names) sz)) 0 0 (va_A (W_LW_0t1_24t26_31t32_34 qd0 qd1 qf0 qf1 qf2 qr0 qL1 qL0 qd2 qf3 qG1 qG2 qG3 qT qL2 cI cJ cZ cB cT d_n d_for f_row f_fears r_tx r_rul l_names) sz) := by
  refine mMet (Qc := (mQv D (W_LW_0t1_24t26_31t32_34 qd0 qd1 qf0 qf1 qf2 qr0 qL1 qL0 qd2 qf3 qG1 qG2 qG3 qT qL2 cI cJ cZ cB cT d_n d_for f_row f_fears r_tx r_rul o_l_names))) (by decide) (Nat.le_of_ble_eq_true rfl) (fun p e s m below meth c A ls hx hb hr hml hts hown hlocks hK hA hP hD hl => ?_)
  have hown : s.vm.findClass RX3 = some m.cls := hown
  have hl : lv_has ls 4 [(0, .ref qL0), (1, .ref qf0), (2, .int p2), (3, .int p3)] := hl
  have hS : va_S A s.heap s.heap [] := va_S.rf
  unfold f_X3_fillNames at hf
  refine lv_aload_n hx hb dX3_fillNames_0 rfl (lv_at hl 0 rfl) ?_
  refine gfX3_11 hx hb hts hown hK hP 7 rfl rfl dX3_fillNames_1 ?_
  refine lv_iconst (v := (0 : Int32)) hx hb dX3_fillNames_4 (by decide) ?_
  refine lv_iload_n hx hb dX3_fillNames_5 rfl (lv_at hl 3 rfl) ?_
  refine xiast hx hb hK hP hD hS 6 0 rfl rfl dX3_fillNames_6 hf (fun l_names_6 hf H locs hP hD hS => ?_)
  have hP : va_P D vwCl (W_LW_0t1_24t26_31t32_34 qd0 qd1 qf0 qf1 qf2 qr0 qL1 qL0 qd2 qf3 qG1 qG2 qG3 qT qL2 cI cJ cZ cB cT d_n d_for f_row f_fears r_tx r_rul l_names_6) H := hP
  have hD : va_D A (W_LW_0t1_24t26_31t32_34 qd0 qd1 qf0 qf1 qf2 qr0 qL1 qL0 qd2 qf3 qG1 qG2 qG3 qT qL2 cI cJ cZ cB cT d_n d_for f_row f_fears r_tx r_rul l_names_6) := hD
  refine lv_aload_n hx hb dX3_fillNames_7 rfl (lv_at hl 0 rfl) ?_
  refine gfX3_11 hx hb hts hown hK hP 7 rfl rfl dX3_fillNames_8 ?_
  refine lv_iconst (v := (1 : Int32)) hx hb dX3_fillNames_11 (by decide) ?_
  refine lv_aload_n hx hb dX3_fillNames_12 rfl (lv_at hl 1 rfl) ?_
  obtain ⟨r13, hg13, hf⟩ := ob1_some hf
  refine mcV_i (wr := [(qd0, .inr (2, [.int d_n, .ref qd1, .ref qd2])), (qd1, .inl (cI, 8, .inl d_for)), (qf2, .inl (cI, 6, .inl f_fears)), (qr0, .inr (6, [.ref qd0, .ref qG1, .ref qG2, .ref qG3, .int r_tx, .int r_rul])), (qL1, .inl (cI, 10, .inl l_names_6)), (qL0, .inr (3, [.ref qr0, .ref qT, .ref qL1, .ref qL2]))]) (As := []) (rest := [.int (1 : Int32), .ref qL1]) hx hb hml hown hts hK hP hD hS hA (k_X1_monthNow l N D cI cJ cZ cB cT qf0 qf1 qf2 qf3 f_row r13 hg13) (kwX3_78 hts rfl rfl ⟨Nat.le_of_ble_eq_true rfl, Nat.le_of_ble_eq_true rfl⟩) [2, 3] [0, 1, 4, 5, 6, 7] rfl rfl rfl (by decide) rfl 0 rfl rfl rfl rfl hl.1 rfl (Nat.le_of_ble_eq_true rfl) dX3_fillNames_13 ⟨Nat.zero_le _, Nat.zero_le _⟩ (fun hB13 H locs hP hD hS => ?_)
  have hP := mP_sub (wc := (W_LW_0t1_24t26_31t32_34 qd0 qd1 qf0 qf1 qf2 qr0 qL1 qL0 qd2 qf3 qG1 qG2 qG3 qT qL2 cI cJ cZ cB cT d_n d_for f_row f_fears r_tx r_rul l_names_6)) hP [0, 1, 6, 7, 2, 3, 4, 5] rfl
  have hD := hD.sub (ws' := (W_LW_0t1_24t26_31t32_34 qd0 qd1 qf0 qf1 qf2 qr0 qL1 qL0 qd2 qf3 qG1 qG2 qG3 qT qL2 cI cJ cZ cB cT d_n d_for f_row f_fears r_tx r_rul l_names_6)) [0, 1, 6, 7, 2, 3, 4, 5] rfl rfl
  refine xiast hx hb hK hP hD hS 6 0 rfl rfl dX3_fillNames_16 hf (fun l_names_16 hf H locs hP hD hS => ?_)
  have hP : va_P D vwCl (W_LW_0t1_24t26_31t32_34 qd0 qd1 qf0 qf1 qf2 qr0 qL1 qL0 qd2 qf3 qG1 qG2 qG3 qT qL2 cI cJ cZ cB cT d_n d_for f_row f_fears r_tx r_rul l_names_16) H := hP
  have hD : va_D A (W_LW_0t1_24t26_31t32_34 qd0 qd1 qf0 qf1 qf2 qr0 qL1 qL0 qd2 qf3 qG1 qG2 qG3 qT qL2 cI cJ cZ cB cT d_n d_for f_row f_fears r_tx r_rul l_names_16) := hD
  refine lv_aload_n hx hb dX3_fillNames_17 rfl (lv_at hl 0 rfl) ?_
  refine gfX3_11 hx hb hts hown hK hP 7 rfl rfl dX3_fillNames_18 ?_
  refine lv_iconst (v := (2 : Int32)) hx hb dX3_fillNames_21 (by decide) ?_
  refine lv_iload_n hx hb dX3_fillNames_22 rfl (lv_at hl 2 rfl) ?_
  refine xiast hx hb hK hP hD hS 6 0 rfl rfl dX3_fillNames_23 hf (fun l_names_23 hf H locs hP hD hS => ?_)
  have hP : va_P D vwCl (W_LW_0t1_24t26_31t32_34 qd0 qd1 qf0 qf1 qf2 qr0 qL1 qL0 qd2 qf3 qG1 qG2 qG3 qT qL2 cI cJ cZ cB cT d_n d_for f_row f_fears r_tx r_rul l_names_23) H := hP
  have hD : va_D A (W_LW_0t1_24t26_31t32_34 qd0 qd1 qf0 qf1 qf2 qr0 qL1 qL0 qd2 qf3 qG1 qG2 qG3 qT qL2 cI cJ cZ cB cT d_n d_for f_row f_fears r_tx r_rul l_names_23) := hD
  refine lv_aload_n hx hb dX3_fillNames_24 rfl (lv_at hl 0 rfl) ?_
  refine gfX3_11 hx hb hts hown hK hP 7 rfl rfl dX3_fillNames_25 ?_
  refine lv_iconst (v := (3 : Int32)) hx hb dX3_fillNames_28 (by decide) ?_
  refine lv_aload_n hx hb dX3_fillNames_29 rfl (lv_at hl 1 rfl) ?_
  refine lv_iload_n hx hb dX3_fillNames_30 rfl (lv_at hl 2 rfl) ?_
  obtain ⟨r31, hg31, hf⟩ := ob1_some hf
  refine mcV_i (wr := [(qd0, .inr (2, [.int d_n, .ref qd1, .ref qd2])), (qd1, .inl (cI, 8, .inl d_for)), (qr0, .inr (6, [.ref qd0, .ref qG1, .ref qG2, .ref qG3, .int r_tx, .int r_rul])), (qL1, .inl (cI, 10, .inl l_names_23)), (qL0, .inr (3, [.ref qr0, .ref qT, .ref qL1, .ref qL2]))]) (As := [.int p2]) (rest := [.int (3 : Int32), .ref qL1]) hx hb hml hown hts hK hP hD hS hA (k_X1_fearOf l N D cI cJ cZ cB cT qf0 qf1 qf2 qf3 f_row f_fears p2 r31 hg31) (kwX3_82 hts rfl rfl ⟨Nat.le_of_ble_eq_true rfl, Nat.le_of_ble_eq_true rfl⟩) [2, 3, 4] [0, 1, 5, 6, 7] rfl rfl rfl (by decide) rfl 0 rfl rfl rfl rfl hl.1 rfl (Nat.le_of_ble_eq_true rfl) dX3_fillNames_31 ⟨Nat.zero_le _, Nat.zero_le _⟩ (fun hB31 H locs hP hD hS => ?_)
  have hP := mP_sub (wc := (W_LW_0t1_24t26_31t32_34 qd0 qd1 qf0 qf1 qf2 qr0 qL1 qL0 qd2 qf3 qG1 qG2 qG3 qT qL2 cI cJ cZ cB cT d_n d_for f_row f_fears r_tx r_rul l_names_23)) hP [0, 1, 5, 6, 7, 2, 3, 4] rfl
  have hD := hD.sub (ws' := (W_LW_0t1_24t26_31t32_34 qd0 qd1 qf0 qf1 qf2 qr0 qL1 qL0 qd2 qf3 qG1 qG2 qG3 qT qL2 cI cJ cZ cB cT d_n d_for f_row f_fears r_tx r_rul l_names_23)) [0, 1, 5, 6, 7, 2, 3, 4] rfl rfl
  refine xiast hx hb hK hP hD hS 6 0 rfl rfl dX3_fillNames_34 hf (fun l_names_34 hf H locs hP hD hS => ?_)
  have hP : va_P D vwCl (W_LW_0t1_24t26_31t32_34 qd0 qd1 qf0 qf1 qf2 qr0 qL1 qL0 qd2 qf3 qG1 qG2 qG3 qT qL2 cI cJ cZ cB cT d_n d_for f_row f_fears r_tx r_rul l_names_34) H := hP
  have hD : va_D A (W_LW_0t1_24t26_31t32_34 qd0 qd1 qf0 qf1 qf2 qr0 qL1 qL0 qd2 qf3 qG1 qG2 qG3 qT qL2 cI cJ cZ cB cT d_n d_for f_row f_fears r_tx r_rul l_names_34) := hD
  refine lv_aload_n hx hb dX3_fillNames_35 rfl (lv_at hl 0 rfl) ?_
  refine gfX3_11 hx hb hts hown hK hP 7 rfl rfl dX3_fillNames_36 ?_
  refine lv_iconst (v := (4 : Int32)) hx hb dX3_fillNames_39 (by decide) ?_
  refine lv_aload_n hx hb dX3_fillNames_40 rfl (lv_at hl 0 rfl) ?_
  refine gfX3_18 hx hb hts hown hK hP 7 rfl rfl dX3_fillNames_41 ?_
  refine gfX3_61 hx hb hts hown hK hP 5 rfl rfl dX3_fillNames_44 ?_
  refine lv_iload_n hx hb dX3_fillNames_47 rfl (lv_at hl 3 rfl) ?_
  obtain ⟨r48, hg48, hf⟩ := ob1_some hf
  refine mcV_i (wr := [(qf0, .inr (1, [.ref qf1, .ref qf2, .ref qf3])), (qf1, .inl (cI, 76, .inl f_row)), (qf2, .inl (cI, 6, .inl f_fears)), (qr0, .inr (6, [.ref qd0, .ref qG1, .ref qG2, .ref qG3, .int r_tx, .int r_rul])), (qL1, .inl (cI, 10, .inl l_names_34)), (qL0, .inr (3, [.ref qr0, .ref qT, .ref qL1, .ref qL2]))]) (As := [.int p3]) (rest := [.int (4 : Int32), .ref qL1]) hx hb hml hown hts hK hP hD hS hA (k_X2_forestOf l N D cI cJ cZ cB cT qd0 qd1 qd2 d_n d_for p3 r48 hg48) (kwX3_65 hts rfl rfl ⟨Nat.le_of_ble_eq_true rfl, Nat.le_of_ble_eq_true rfl⟩) [0, 1] [2, 3, 4, 5, 6, 7] rfl rfl rfl (by decide) rfl 0 rfl rfl rfl rfl hl.1 rfl (Nat.le_of_ble_eq_true rfl) dX3_fillNames_48 ⟨Nat.zero_le _, Nat.zero_le _⟩ (fun hB48 H locs hP hD hS => ?_)
  have hP := mP_sub (wc := (W_LW_0t1_24t26_31t32_34 qd0 qd1 qf0 qf1 qf2 qr0 qL1 qL0 qd2 qf3 qG1 qG2 qG3 qT qL2 cI cJ cZ cB cT d_n d_for f_row f_fears r_tx r_rul l_names_34)) hP [6, 7, 0, 1, 2, 3, 4, 5] rfl
  have hD := hD.sub (ws' := (W_LW_0t1_24t26_31t32_34 qd0 qd1 qf0 qf1 qf2 qr0 qL1 qL0 qd2 qf3 qG1 qG2 qG3 qT qL2 cI cJ cZ cB cT d_n d_for f_row f_fears r_tx r_rul l_names_34)) [6, 7, 0, 1, 2, 3, 4, 5] rfl rfl
  refine xiast hx hb hK hP hD hS 6 0 rfl rfl dX3_fillNames_51 hf (fun l_names_51 hf H locs hP hD hS => ?_)
  have hP : va_P D vwCl (W_LW_0t1_24t26_31t32_34 qd0 qd1 qf0 qf1 qf2 qr0 qL1 qL0 qd2 qf3 qG1 qG2 qG3 qT qL2 cI cJ cZ cB cT d_n d_for f_row f_fears r_tx r_rul l_names_51) H := hP
  have hD : va_D A (W_LW_0t1_24t26_31t32_34 qd0 qd1 qf0 qf1 qf2 qr0 qL1 qL0 qd2 qf3 qG1 qG2 qG3 qT qL2 cI cJ cZ cB cT d_n d_for f_row f_fears r_tx r_rul l_names_51) := hD
  refine lv_aload_n hx hb dX3_fillNames_52 rfl (lv_at hl 0 rfl) ?_
  refine gfX3_11 hx hb hts hown hK hP 7 rfl rfl dX3_fillNames_53 ?_
  refine lv_iconst (v := (5 : Int32)) hx hb dX3_fillNames_56 (by decide) ?_
  refine lv_aload_n hx hb dX3_fillNames_57 rfl (lv_at hl 1 rfl) ?_
  refine lv_iload_n hx hb dX3_fillNames_58 rfl (lv_at hl 2 rfl) ?_
  refine lv_iconst (v := (4 : Int32)) hx hb dX3_fillNames_59 (by decide) ?_
  obtain ⟨r60, hg60, hf⟩ := ob1_some hf
  refine mcV_i (wr := [(qd0, .inr (2, [.int d_n, .ref qd1, .ref qd2])), (qd1, .inl (cI, 8, .inl d_for)), (qf2, .inl (cI, 6, .inl f_fears)), (qr0, .inr (6, [.ref qd0, .ref qG1, .ref qG2, .ref qG3, .int r_tx, .int r_rul])), (qL1, .inl (cI, 10, .inl l_names_51)), (qL0, .inr (3, [.ref qr0, .ref qT, .ref qL1, .ref qL2]))]) (As := [.int p2, .int (4 : Int32)]) (rest := [.int (5 : Int32), .ref qL1]) hx hb hml hown hts hK hP hD hS hA (k_X1_get l N D cI cJ cZ cB cT qf0 qf1 qf2 qf3 f_row p2 (4 : Int32) r60 hg60) (kwX3_73 hts rfl rfl ⟨Nat.le_of_ble_eq_true rfl, Nat.le_of_ble_eq_true rfl⟩) [2, 3] [0, 1, 4, 5, 6, 7] rfl rfl rfl (by decide) rfl 0 rfl rfl rfl rfl hl.1 rfl (Nat.le_of_ble_eq_true rfl) dX3_fillNames_60 ⟨Nat.zero_le _, Nat.zero_le _⟩ (fun hB60 H locs hP hD hS => ?_)
  have hP := mP_sub (wc := (W_LW_0t1_24t26_31t32_34 qd0 qd1 qf0 qf1 qf2 qr0 qL1 qL0 qd2 qf3 qG1 qG2 qG3 qT qL2 cI cJ cZ cB cT d_n d_for f_row f_fears r_tx r_rul l_names_51)) hP [0, 1, 6, 7, 2, 3, 4, 5] rfl
  have hD := hD.sub (ws' := (W_LW_0t1_24t26_31t32_34 qd0 qd1 qf0 qf1 qf2 qr0 qL1 qL0 qd2 qf3 qG1 qG2 qG3 qT qL2 cI cJ cZ cB cT d_n d_for f_row f_fears r_tx r_rul l_names_51)) [0, 1, 6, 7, 2, 3, 4, 5] rfl rfl
  refine xiast hx hb hK hP hD hS 6 0 rfl rfl dX3_fillNames_63 hf (fun l_names_63 hf H locs hP hD hS => ?_)
  have hP : va_P D vwCl (W_LW_0t1_24t26_31t32_34 qd0 qd1 qf0 qf1 qf2 qr0 qL1 qL0 qd2 qf3 qG1 qG2 qG3 qT qL2 cI cJ cZ cB cT d_n d_for f_row f_fears r_tx r_rul l_names_63) H := hP
  have hD : va_D A (W_LW_0t1_24t26_31t32_34 qd0 qd1 qf0 qf1 qf2 qr0 qL1 qL0 qd2 qf3 qG1 qG2 qG3 qT qL2 cI cJ cZ cB cT d_n d_for f_row f_fears r_tx r_rul l_names_63) := hD
  refine lv_aload_n hx hb dX3_fillNames_64 rfl (lv_at hl 0 rfl) ?_
  refine gfX3_11 hx hb hts hown hK hP 7 rfl rfl dX3_fillNames_65 ?_
  refine lv_bipush (v := (6 : Int32)) hx hb dX3_fillNames_68 (by decide) ?_
  refine lv_aload_n hx hb dX3_fillNames_70 rfl (lv_at hl 1 rfl) ?_
  refine lv_iload_n hx hb dX3_fillNames_71 rfl (lv_at hl 2 rfl) ?_
  refine lv_iconst (v := (5 : Int32)) hx hb dX3_fillNames_72 (by decide) ?_
  obtain ⟨r73, hg73, hf⟩ := ob1_some hf
  refine mcV_i (wr := [(qd0, .inr (2, [.int d_n, .ref qd1, .ref qd2])), (qd1, .inl (cI, 8, .inl d_for)), (qf2, .inl (cI, 6, .inl f_fears)), (qr0, .inr (6, [.ref qd0, .ref qG1, .ref qG2, .ref qG3, .int r_tx, .int r_rul])), (qL1, .inl (cI, 10, .inl l_names_63)), (qL0, .inr (3, [.ref qr0, .ref qT, .ref qL1, .ref qL2]))]) (As := [.int p2, .int (5 : Int32)]) (rest := [.int (6 : Int32), .ref qL1]) hx hb hml hown hts hK hP hD hS hA (k_X1_get l N D cI cJ cZ cB cT qf0 qf1 qf2 qf3 f_row p2 (5 : Int32) r73 hg73) (kwX3_73 hts rfl rfl ⟨Nat.le_of_ble_eq_true rfl, Nat.le_of_ble_eq_true rfl⟩) [2, 3] [0, 1, 4, 5, 6, 7] rfl rfl rfl (by decide) rfl 0 rfl rfl rfl rfl hl.1 rfl (Nat.le_of_ble_eq_true rfl) dX3_fillNames_73 ⟨Nat.zero_le _, Nat.zero_le _⟩ (fun hB73 H locs hP hD hS => ?_)
  have hP := mP_sub (wc := (W_LW_0t1_24t26_31t32_34 qd0 qd1 qf0 qf1 qf2 qr0 qL1 qL0 qd2 qf3 qG1 qG2 qG3 qT qL2 cI cJ cZ cB cT d_n d_for f_row f_fears r_tx r_rul l_names_63)) hP [0, 1, 6, 7, 2, 3, 4, 5] rfl
  have hD := hD.sub (ws' := (W_LW_0t1_24t26_31t32_34 qd0 qd1 qf0 qf1 qf2 qr0 qL1 qL0 qd2 qf3 qG1 qG2 qG3 qT qL2 cI cJ cZ cB cT d_n d_for f_row f_fears r_tx r_rul l_names_63)) [0, 1, 6, 7, 2, 3, 4, 5] rfl rfl
  refine xiast hx hb hK hP hD hS 6 0 rfl rfl dX3_fillNames_76 hf (fun l_names_76 hf H locs hP hD hS => ?_)
  have hP : va_P D vwCl (W_LW_0t1_24t26_31t32_34 qd0 qd1 qf0 qf1 qf2 qr0 qL1 qL0 qd2 qf3 qG1 qG2 qG3 qT qL2 cI cJ cZ cB cT d_n d_for f_row f_fears r_tx r_rul l_names_76) H := hP
  have hD : va_D A (W_LW_0t1_24t26_31t32_34 qd0 qd1 qf0 qf1 qf2 qr0 qL1 qL0 qd2 qf3 qG1 qG2 qG3 qT qL2 cI cJ cZ cB cT d_n d_for f_row f_fears r_tx r_rul l_names_76) := hD
  refine lv_aload_n hx hb dX3_fillNames_77 rfl (lv_at hl 0 rfl) ?_
  refine gfX3_11 hx hb hts hown hK hP 7 rfl rfl dX3_fillNames_78 ?_
  refine lv_bipush (v := (7 : Int32)) hx hb dX3_fillNames_81 (by decide) ?_
  refine lv_aload_n hx hb dX3_fillNames_83 rfl (lv_at hl 1 rfl) ?_
  refine lv_iload_n hx hb dX3_fillNames_84 rfl (lv_at hl 2 rfl) ?_
  refine lv_iconst (v := (1 : Int32)) hx hb dX3_fillNames_85 (by decide) ?_
  obtain ⟨r86, hg86, hf⟩ := ob1_some hf
  refine mcV_i (wr := [(qd0, .inr (2, [.int d_n, .ref qd1, .ref qd2])), (qd1, .inl (cI, 8, .inl d_for)), (qf2, .inl (cI, 6, .inl f_fears)), (qr0, .inr (6, [.ref qd0, .ref qG1, .ref qG2, .ref qG3, .int r_tx, .int r_rul])), (qL1, .inl (cI, 10, .inl l_names_76)), (qL0, .inr (3, [.ref qr0, .ref qT, .ref qL1, .ref qL2]))]) (As := [.int p2, .int (1 : Int32)]) (rest := [.int (7 : Int32), .ref qL1]) hx hb hml hown hts hK hP hD hS hA (k_X1_get l N D cI cJ cZ cB cT qf0 qf1 qf2 qf3 f_row p2 (1 : Int32) r86 hg86) (kwX3_73 hts rfl rfl ⟨Nat.le_of_ble_eq_true rfl, Nat.le_of_ble_eq_true rfl⟩) [2, 3] [0, 1, 4, 5, 6, 7] rfl rfl rfl (by decide) rfl 0 rfl rfl rfl rfl hl.1 rfl (Nat.le_of_ble_eq_true rfl) dX3_fillNames_86 ⟨Nat.zero_le _, Nat.zero_le _⟩ (fun hB86 H locs hP hD hS => ?_)
  have hP := mP_sub (wc := (W_LW_0t1_24t26_31t32_34 qd0 qd1 qf0 qf1 qf2 qr0 qL1 qL0 qd2 qf3 qG1 qG2 qG3 qT qL2 cI cJ cZ cB cT d_n d_for f_row f_fears r_tx r_rul l_names_76)) hP [0, 1, 6, 7, 2, 3, 4, 5] rfl
  have hD := hD.sub (ws' := (W_LW_0t1_24t26_31t32_34 qd0 qd1 qf0 qf1 qf2 qr0 qL1 qL0 qd2 qf3 qG1 qG2 qG3 qT qL2 cI cJ cZ cB cT d_n d_for f_row f_fears r_tx r_rul l_names_76)) [0, 1, 6, 7, 2, 3, 4, 5] rfl rfl
  refine xiast hx hb hK hP hD hS 6 0 rfl rfl dX3_fillNames_89 hf (fun l_names_89 hf H locs hP hD hS => ?_)
  have hP : va_P D vwCl (W_LW_0t1_24t26_31t32_34 qd0 qd1 qf0 qf1 qf2 qr0 qL1 qL0 qd2 qf3 qG1 qG2 qG3 qT qL2 cI cJ cZ cB cT d_n d_for f_row f_fears r_tx r_rul l_names_89) H := hP
  have hD : va_D A (W_LW_0t1_24t26_31t32_34 qd0 qd1 qf0 qf1 qf2 qr0 qL1 qL0 qd2 qf3 qG1 qG2 qG3 qT qL2 cI cJ cZ cB cT d_n d_for f_row f_fears r_tx r_rul l_names_89) := hD
  refine lv_aload_n hx hb dX3_fillNames_90 rfl (lv_at hl 0 rfl) ?_
  refine gfX3_11 hx hb hts hown hK hP 7 rfl rfl dX3_fillNames_91 ?_
  refine lv_bipush (v := (8 : Int32)) hx hb dX3_fillNames_94 (by decide) ?_
  refine lv_aload_n hx hb dX3_fillNames_96 rfl (lv_at hl 1 rfl) ?_
  refine lv_iload_n hx hb dX3_fillNames_97 rfl (lv_at hl 2 rfl) ?_
  refine lv_iconst (v := (2 : Int32)) hx hb dX3_fillNames_98 (by decide) ?_
  obtain ⟨r99, hg99, hf⟩ := ob1_some hf
  refine mcV_i (wr := [(qd0, .inr (2, [.int d_n, .ref qd1, .ref qd2])), (qd1, .inl (cI, 8, .inl d_for)), (qf2, .inl (cI, 6, .inl f_fears)), (qr0, .inr (6, [.ref qd0, .ref qG1, .ref qG2, .ref qG3, .int r_tx, .int r_rul])), (qL1, .inl (cI, 10, .inl l_names_89)), (qL0, .inr (3, [.ref qr0, .ref qT, .ref qL1, .ref qL2]))]) (As := [.int p2, .int (2 : Int32)]) (rest := [.int (8 : Int32), .ref qL1]) hx hb hml hown hts hK hP hD hS hA (k_X1_get l N D cI cJ cZ cB cT qf0 qf1 qf2 qf3 f_row p2 (2 : Int32) r99 hg99) (kwX3_73 hts rfl rfl ⟨Nat.le_of_ble_eq_true rfl, Nat.le_of_ble_eq_true rfl⟩) [2, 3] [0, 1, 4, 5, 6, 7] rfl rfl rfl (by decide) rfl 0 rfl rfl rfl rfl hl.1 rfl (Nat.le_of_ble_eq_true rfl) dX3_fillNames_99 ⟨Nat.zero_le _, Nat.zero_le _⟩ (fun hB99 H locs hP hD hS => ?_)
  have hP := mP_sub (wc := (W_LW_0t1_24t26_31t32_34 qd0 qd1 qf0 qf1 qf2 qr0 qL1 qL0 qd2 qf3 qG1 qG2 qG3 qT qL2 cI cJ cZ cB cT d_n d_for f_row f_fears r_tx r_rul l_names_89)) hP [0, 1, 6, 7, 2, 3, 4, 5] rfl
  have hD := hD.sub (ws' := (W_LW_0t1_24t26_31t32_34 qd0 qd1 qf0 qf1 qf2 qr0 qL1 qL0 qd2 qf3 qG1 qG2 qG3 qT qL2 cI cJ cZ cB cT d_n d_for f_row f_fears r_tx r_rul l_names_89)) [0, 1, 6, 7, 2, 3, 4, 5] rfl rfl
  refine xiast hx hb hK hP hD hS 6 0 rfl rfl dX3_fillNames_102 hf (fun l_names_102 hf H locs hP hD hS => ?_)
  have hP : va_P D vwCl (W_LW_0t1_24t26_31t32_34 qd0 qd1 qf0 qf1 qf2 qr0 qL1 qL0 qd2 qf3 qG1 qG2 qG3 qT qL2 cI cJ cZ cB cT d_n d_for f_row f_fears r_tx r_rul l_names_102) H := hP
  have hD : va_D A (W_LW_0t1_24t26_31t32_34 qd0 qd1 qf0 qf1 qf2 qr0 qL1 qL0 qd2 qf3 qG1 qG2 qG3 qT qL2 cI cJ cZ cB cT d_n d_for f_row f_fears r_tx r_rul l_names_102) := hD
  refine lv_aload_n hx hb dX3_fillNames_103 rfl (lv_at hl 0 rfl) ?_
  refine gfX3_11 hx hb hts hown hK hP 7 rfl rfl dX3_fillNames_104 ?_
  refine lv_bipush (v := (9 : Int32)) hx hb dX3_fillNames_107 (by decide) ?_
  refine lv_aload_n hx hb dX3_fillNames_109 rfl (lv_at hl 1 rfl) ?_
  refine lv_iload_n hx hb dX3_fillNames_110 rfl (lv_at hl 3 rfl) ?_
  refine lv_iload_n hx hb dX3_fillNames_111 rfl (lv_at hl 2 rfl) ?_
  obtain ⟨r112, hg112, hf⟩ := ob1_some hf
  refine mcV_i (wr := [(qd0, .inr (2, [.int d_n, .ref qd1, .ref qd2])), (qd1, .inl (cI, 8, .inl d_for)), (qf2, .inl (cI, 6, .inl f_fears)), (qr0, .inr (6, [.ref qd0, .ref qG1, .ref qG2, .ref qG3, .int r_tx, .int r_rul])), (qL1, .inl (cI, 10, .inl l_names_102)), (qL0, .inr (3, [.ref qr0, .ref qT, .ref qL1, .ref qL2]))]) (As := [.int p3, .int p2]) (rest := [.int (9 : Int32), .ref qL1]) hx hb hml hown hts hK hP hD hS hA (k_X1_othersIn l N D cI cJ cZ cB cT qf0 qf1 qf2 qf3 f_row p3 p2 r112 hg112) (kwX3_85 hts rfl rfl ⟨Nat.le_of_ble_eq_true rfl, Nat.le_of_ble_eq_true rfl⟩) [2, 3] [0, 1, 4, 5, 6, 7] rfl rfl rfl (by decide) rfl 0 rfl rfl rfl rfl hl.1 rfl (Nat.le_of_ble_eq_true rfl) dX3_fillNames_112 ⟨Nat.zero_le _, Nat.zero_le _⟩ (fun hB112 H locs hP hD hS => ?_)
  have hP := mP_sub (wc := (W_LW_0t1_24t26_31t32_34 qd0 qd1 qf0 qf1 qf2 qr0 qL1 qL0 qd2 qf3 qG1 qG2 qG3 qT qL2 cI cJ cZ cB cT d_n d_for f_row f_fears r_tx r_rul l_names_102)) hP [0, 1, 6, 7, 2, 3, 4, 5] rfl
  have hD := hD.sub (ws' := (W_LW_0t1_24t26_31t32_34 qd0 qd1 qf0 qf1 qf2 qr0 qL1 qL0 qd2 qf3 qG1 qG2 qG3 qT qL2 cI cJ cZ cB cT d_n d_for f_row f_fears r_tx r_rul l_names_102)) [0, 1, 6, 7, 2, 3, 4, 5] rfl rfl
  obtain ⟨r115, hg115, hf⟩ := ob1_some hf
  refine mcS0_i (As := [.int r112]) (rest := [.int (9 : Int32), .ref qL1]) hx hb hml hown hts hK hP hD hS hA (k_J6_bitCount_0f7a4 l N D cI cJ cZ cB cT r112 r115 hg115) (kwX3_88 hts rfl rfl ⟨Nat.le_of_ble_eq_true rfl, Nat.le_of_ble_eq_true rfl⟩) rfl hl.1 rfl (Nat.le_of_ble_eq_true rfl) dX3_fillNames_115 ⟨Nat.zero_le _, Nat.zero_le _⟩ (fun hB115 H locs hP hD hS => ?_)
  refine xiast hx hb hK hP hD hS 6 0 rfl rfl dX3_fillNames_118 hf (fun l_names_118 hf H locs hP hD hS => ?_)
  have hP : va_P D vwCl (W_LW_0t1_24t26_31t32_34 qd0 qd1 qf0 qf1 qf2 qr0 qL1 qL0 qd2 qf3 qG1 qG2 qG3 qT qL2 cI cJ cZ cB cT d_n d_for f_row f_fears r_tx r_rul l_names_118) H := hP
  have hD : va_D A (W_LW_0t1_24t26_31t32_34 qd0 qd1 qf0 qf1 qf2 qr0 qL1 qL0 qd2 qf3 qG1 qG2 qG3 qT qL2 cI cJ cZ cB cT d_n d_for f_row f_fears r_tx r_rul l_names_118) := hD
  cases hf
  exact mret_v hx hb hr hlocks hP hD hS dX3_fillNames_119
theorem dX3_rule_0 : decode cX3_rule 0 = .ok (.iload_n 2, 1) := by decide +kernel
theorem dX3_rule_1 : decode cX3_rule 1 = .ok (.ifCond .lt 11, 3) := by decide +kernel
theorem dX3_rule_4 : decode cX3_rule 4 = .ok (.iload_n 2, 1) := by decide +kernel
theorem dX3_rule_5 : decode cX3_rule 5 = .ok (.getstatic 26, 3) := by decide +kernel
theorem dX3_rule_8 : decode cX3_rule 8 = .ok (.arraylength, 1) := by decide +kernel
theorem dX3_rule_9 : decode cX3_rule 9 = .ok (.if_icmp .lt 5, 3) := by decide +kernel
theorem dX3_rule_12 : decode cX3_rule 12 = .ok (.iconst 0, 1) := by decide +kernel
theorem dX3_rule_13 : decode cX3_rule 13 = .ok (.ireturn, 1) := by decide +kernel
theorem dX3_rule_14 : decode cX3_rule 14 = .ok (.iload_n 1, 1) := by decide +kernel
theorem dX3_rule_15 : decode cX3_rule 15 = .ok (.ifCond .lt 32, 3) := by decide +kernel
theorem dX3_rule_18 : decode cX3_rule 18 = .ok (.iload_n 1, 1) := by decide +kernel
theorem dX3_rule_19 : decode cX3_rule 19 = .ok (.aload_n 0, 1) := by decide +kernel
theorem dX3_rule_20 : decode cX3_rule 20 = .ok (.getfield 18, 3) := by decide +kernel
theorem dX3_rule_23 : decode cX3_rule 23 = .ok (.getfield 29, 3) := by decide +kernel
theorem dX3_rule_26 : decode cX3_rule 26 = .ok (.if_icmp .ge 21, 3) := by decide +kernel
theorem dX3_rule_29 : decode cX3_rule 29 = .ok (.iload_n 1, 1) := by decide +kernel
theorem dX3_rule_30 : decode cX3_rule 30 = .ok (.aload_n 0, 1) := by decide +kernel
theorem dX3_rule_31 : decode cX3_rule 31 = .ok (.getfield 22, 3) := by decide +kernel
theorem dX3_rule_34 : decode cX3_rule 34 = .ok (.arraylength, 1) := by decide +kernel
theorem dX3_rule_35 : decode cX3_rule 35 = .ok (.if_icmp .ge 12, 3) := by decide +kernel
theorem dX3_rule_38 : decode cX3_rule 38 = .ok (.aload_n 0, 1) := by decide +kernel
theorem dX3_rule_39 : decode cX3_rule 39 = .ok (.getfield 22, 3) := by decide +kernel
theorem dX3_rule_42 : decode cX3_rule 42 = .ok (.iload_n 1, 1) := by decide +kernel
theorem dX3_rule_43 : decode cX3_rule 43 = .ok (.aaload, 1) := by decide +kernel
theorem dX3_rule_44 : decode cX3_rule 44 = .ok (.goto 4, 3) := by decide +kernel
theorem dX3_rule_47 : decode cX3_rule 47 = .ok (.aconst_null, 1) := by decide +kernel
theorem dX3_rule_48 : decode cX3_rule 48 = .ok (.astore 6, 2) := by decide +kernel
theorem dX3_rule_50 : decode cX3_rule 50 = .ok (.aload 6, 2) := by decide +kernel
theorem dX3_rule_52 : decode cX3_rule 52 = .ok (.ifnull 41, 3) := by decide +kernel
theorem dX3_rule_55 : decode cX3_rule 55 = .ok (.aload 6, 2) := by decide +kernel
theorem dX3_rule_57 : decode cX3_rule 57 = .ok (.iload_n 2, 1) := by decide +kernel
theorem dX3_rule_58 : decode cX3_rule 58 = .ok (.invokevirtual 34, 3) := by decide +kernel
theorem dX3_rule_61 : decode cX3_rule 61 = .ok (.ifCond .eq 32, 3) := by decide +kernel
theorem dX3_rule_64 : decode cX3_rule 64 = .ok (.aload_n 0, 1) := by decide +kernel
theorem dX3_rule_65 : decode cX3_rule 65 = .ok (.aload_n 3, 1) := by decide +kernel
theorem dX3_rule_66 : decode cX3_rule 66 = .ok (.iload 4, 2) := by decide +kernel
theorem dX3_rule_68 : decode cX3_rule 68 = .ok (.iload 5, 2) := by decide +kernel
theorem dX3_rule_70 : decode cX3_rule 70 = .ok (.invokevirtual 40, 3) := by decide +kernel
theorem dX3_rule_73 : decode cX3_rule 73 = .ok (.aload 6, 2) := by decide +kernel
theorem dX3_rule_75 : decode cX3_rule 75 = .ok (.iload_n 2, 1) := by decide +kernel
theorem dX3_rule_76 : decode cX3_rule 76 = .ok (.aload_n 0, 1) := by decide +kernel
theorem dX3_rule_77 : decode cX3_rule 77 = .ok (.getfield 11, 3) := by decide +kernel
theorem dX3_rule_80 : decode cX3_rule 80 = .ok (.aload_n 3, 1) := by decide +kernel
theorem dX3_rule_81 : decode cX3_rule 81 = .ok (.aload_n 0, 1) := by decide +kernel
theorem dX3_rule_82 : decode cX3_rule 82 = .ok (.getfield 15, 3) := by decide +kernel
theorem dX3_rule_85 : decode cX3_rule 85 = .ok (.invokevirtual 44, 3) := by decide +kernel
theorem dX3_rule_88 : decode cX3_rule 88 = .ok (.istore 7, 2) := by decide +kernel
theorem dX3_rule_90 : decode cX3_rule 90 = .ok (.goto 15, 3) := by decide +kernel
theorem dX3_rule_93 : decode cX3_rule 93 = .ok (.aload_n 0, 1) := by decide +kernel
theorem dX3_rule_94 : decode cX3_rule 94 = .ok (.iload_n 2, 1) := by decide +kernel
theorem dX3_rule_95 : decode cX3_rule 95 = .ok (.aload_n 3, 1) := by decide +kernel
theorem dX3_rule_96 : decode cX3_rule 96 = .ok (.iload 4, 2) := by decide +kernel
theorem dX3_rule_98 : decode cX3_rule 98 = .ok (.iload 5, 2) := by decide +kernel
theorem dX3_rule_100 : decode cX3_rule 100 = .ok (.invokevirtual 48, 3) := by decide +kernel
theorem dX3_rule_103 : decode cX3_rule 103 = .ok (.istore 7, 2) := by decide +kernel
theorem dX3_rule_105 : decode cX3_rule 105 = .ok (.iconst 0, 1) := by decide +kernel
theorem dX3_rule_106 : decode cX3_rule 106 = .ok (.getstatic 26, 3) := by decide +kernel
theorem dX3_rule_109 : decode cX3_rule 109 = .ok (.iload_n 2, 1) := by decide +kernel
theorem dX3_rule_110 : decode cX3_rule 110 = .ok (.iaload, 1) := by decide +kernel
theorem dX3_rule_111 : decode cX3_rule 111 = .ok (.iload 7, 2) := by decide +kernel
theorem dX3_rule_113 : decode cX3_rule 113 = .ok (.invokestatic 52, 3) := by decide +kernel
theorem dX3_rule_116 : decode cX3_rule 116 = .ok (.invokestatic 58, 3) := by decide +kernel
theorem dX3_rule_119 : decode cX3_rule 119 = .ok (.ireturn, 1) := by decide +kernel
def f_X3_rule_105 (N : Nat) (d_n : Int32) (d_for : Nat → Int32) (t_code : Nat → Int32) (t_st : Nat → Int32) (t_en : Nat → Int32) (u_code : Nat → Int32) (u_st : Nat → Int32) (u_en : Nat → Int32) (w_code : Nat → Int32) (w_st : Nat → Int32) (w_en : Nat → Int32) (x_code : Nat → Int32) (x_st : Nat → Int32) (x_en : Nat → Int32) (f_row : Nat → Int32) (f_fears : Nat → Int32) (r_tx : Int32) (l_names : Nat → Int32) (l_stack : Nat → Int32) (x2 : Int32) (x7 : Int32) : Option (Int32 × (Nat → Int32) × (Nat → Int32)) := gA mostF 4 x2 fun v110 => some ((mxI (0 : Int32) (mnI v110 x7)), l_names, l_stack)
def f_X3_rule_93 (N : Nat) (d_n : Int32) (d_for : Nat → Int32) (t_code : Nat → Int32) (t_st : Nat → Int32) (t_en : Nat → Int32) (u_code : Nat → Int32) (u_st : Nat → Int32) (u_en : Nat → Int32) (w_code : Nat → Int32) (w_st : Nat → Int32) (w_en : Nat → Int32) (x_code : Nat → Int32) (x_st : Nat → Int32) (x_en : Nat → Int32) (f_row : Nat → Int32) (f_fears : Nat → Int32) (r_tx : Int32) (l_names : Nat → Int32) (l_stack : Nat → Int32) (x2 : Int32) (x4 : Int32) (x5 : Int32) : Option (Int32 × (Nat → Int32) × (Nat → Int32)) := ob1 (f_X3_without N d_n d_for f_row x2 x4 x5) fun r100 => f_X3_rule_105 N d_n d_for t_code t_st t_en u_code u_st u_en w_code w_st w_en x_code x_st x_en f_row f_fears r_tx l_names l_stack x2 r100
def f_X3_rule_48_0 (N : Nat) (d_n : Int32) (d_for : Nat → Int32) (t_code : Nat → Int32) (t_st : Nat → Int32) (t_en : Nat → Int32) (u_code : Nat → Int32) (u_st : Nat → Int32) (u_en : Nat → Int32) (w_code : Nat → Int32) (w_st : Nat → Int32) (w_en : Nat → Int32) (x_code : Nat → Int32) (x_st : Nat → Int32) (x_en : Nat → Int32) (f_row : Nat → Int32) (f_fears : Nat → Int32) (r_tx : Int32) (l_names : Nat → Int32) (l_stack : Nat → Int32) (x2 : Int32) (x4 : Int32) (x5 : Int32) : Option (Int32 × (Nat → Int32) × (Nat → Int32)) := ob1 (f_X9_begun N t_st x2) fun r58 => if r58 = 0 then (f_X3_rule_93 N d_n d_for t_code t_st t_en u_code u_st u_en w_code w_st w_en x_code x_st x_en f_row f_fears r_tx l_names l_stack x2 x4 x5) else (ob1 (f_X3_fillNames N d_n d_for f_row f_fears l_names x4 x5) fun l_names_70 => ob2 (f_X9_value N t_code t_st t_en l_names_70 f_row f_fears l_stack x2) fun r85 l_stack_85 => f_X3_rule_105 N d_n d_for t_code t_st t_en u_code u_st u_en w_code w_st w_en x_code x_st x_en f_row f_fears r_tx l_names_70 l_stack_85 x2 r85)
def f_X3_rule_48_1 (N : Nat) (d_n : Int32) (d_for : Nat → Int32) (t_code : Nat → Int32) (t_st : Nat → Int32) (t_en : Nat → Int32) (u_code : Nat → Int32) (u_st : Nat → Int32) (u_en : Nat → Int32) (w_code : Nat → Int32) (w_st : Nat → Int32) (w_en : Nat → Int32) (x_code : Nat → Int32) (x_st : Nat → Int32) (x_en : Nat → Int32) (f_row : Nat → Int32) (f_fears : Nat → Int32) (r_tx : Int32) (l_names : Nat → Int32) (l_stack : Nat → Int32) (x2 : Int32) (x4 : Int32) (x5 : Int32) : Option (Int32 × (Nat → Int32) × (Nat → Int32)) := ob1 (f_X9_begun N u_st x2) fun r58 => if r58 = 0 then (f_X3_rule_93 N d_n d_for t_code t_st t_en u_code u_st u_en w_code w_st w_en x_code x_st x_en f_row f_fears r_tx l_names l_stack x2 x4 x5) else (ob1 (f_X3_fillNames N d_n d_for f_row f_fears l_names x4 x5) fun l_names_70 => ob2 (f_X9_value N u_code u_st u_en l_names_70 f_row f_fears l_stack x2) fun r85 l_stack_85 => f_X3_rule_105 N d_n d_for t_code t_st t_en u_code u_st u_en w_code w_st w_en x_code x_st x_en f_row f_fears r_tx l_names_70 l_stack_85 x2 r85)
def f_X3_rule_48_2 (N : Nat) (d_n : Int32) (d_for : Nat → Int32) (t_code : Nat → Int32) (t_st : Nat → Int32) (t_en : Nat → Int32) (u_code : Nat → Int32) (u_st : Nat → Int32) (u_en : Nat → Int32) (w_code : Nat → Int32) (w_st : Nat → Int32) (w_en : Nat → Int32) (x_code : Nat → Int32) (x_st : Nat → Int32) (x_en : Nat → Int32) (f_row : Nat → Int32) (f_fears : Nat → Int32) (r_tx : Int32) (l_names : Nat → Int32) (l_stack : Nat → Int32) (x2 : Int32) (x4 : Int32) (x5 : Int32) : Option (Int32 × (Nat → Int32) × (Nat → Int32)) := ob1 (f_X9_begun N w_st x2) fun r58 => if r58 = 0 then (f_X3_rule_93 N d_n d_for t_code t_st t_en u_code u_st u_en w_code w_st w_en x_code x_st x_en f_row f_fears r_tx l_names l_stack x2 x4 x5) else (ob1 (f_X3_fillNames N d_n d_for f_row f_fears l_names x4 x5) fun l_names_70 => ob2 (f_X9_value N w_code w_st w_en l_names_70 f_row f_fears l_stack x2) fun r85 l_stack_85 => f_X3_rule_105 N d_n d_for t_code t_st t_en u_code u_st u_en w_code w_st w_en x_code x_st x_en f_row f_fears r_tx l_names_70 l_stack_85 x2 r85)
def f_X3_rule_48_3 (N : Nat) (d_n : Int32) (d_for : Nat → Int32) (t_code : Nat → Int32) (t_st : Nat → Int32) (t_en : Nat → Int32) (u_code : Nat → Int32) (u_st : Nat → Int32) (u_en : Nat → Int32) (w_code : Nat → Int32) (w_st : Nat → Int32) (w_en : Nat → Int32) (x_code : Nat → Int32) (x_st : Nat → Int32) (x_en : Nat → Int32) (f_row : Nat → Int32) (f_fears : Nat → Int32) (r_tx : Int32) (l_names : Nat → Int32) (l_stack : Nat → Int32) (x2 : Int32) (x4 : Int32) (x5 : Int32) : Option (Int32 × (Nat → Int32) × (Nat → Int32)) := ob1 (f_X9_begun N x_st x2) fun r58 => if r58 = 0 then (f_X3_rule_93 N d_n d_for t_code t_st t_en u_code u_st u_en w_code w_st w_en x_code x_st x_en f_row f_fears r_tx l_names l_stack x2 x4 x5) else (ob1 (f_X3_fillNames N d_n d_for f_row f_fears l_names x4 x5) fun l_names_70 => ob2 (f_X9_value N x_code x_st x_en l_names_70 f_row f_fears l_stack x2) fun r85 l_stack_85 => f_X3_rule_105 N d_n d_for t_code t_st t_en u_code u_st u_en w_code w_st w_en x_code x_st x_en f_row f_fears r_tx l_names_70 l_stack_85 x2 r85)
def f_X3_rule_48_4 (N : Nat) (d_n : Int32) (d_for : Nat → Int32) (t_code : Nat → Int32) (t_st : Nat → Int32) (t_en : Nat → Int32) (u_code : Nat → Int32) (u_st : Nat → Int32) (u_en : Nat → Int32) (w_code : Nat → Int32) (w_st : Nat → Int32) (w_en : Nat → Int32) (x_code : Nat → Int32) (x_st : Nat → Int32) (x_en : Nat → Int32) (f_row : Nat → Int32) (f_fears : Nat → Int32) (r_tx : Int32) (l_names : Nat → Int32) (l_stack : Nat → Int32) (x2 : Int32) (x4 : Int32) (x5 : Int32) : Option (Int32 × (Nat → Int32) × (Nat → Int32)) := f_X3_rule_93 N d_n d_for t_code t_st t_en u_code u_st u_en w_code w_st w_en x_code x_st x_en f_row f_fears r_tx l_names l_stack x2 x4 x5
def f_X3_rule_47 (N : Nat) (d_n : Int32) (d_for : Nat → Int32) (t_code : Nat → Int32) (t_st : Nat → Int32) (t_en : Nat → Int32) (u_code : Nat → Int32) (u_st : Nat → Int32) (u_en : Nat → Int32) (w_code : Nat → Int32) (w_st : Nat → Int32) (w_en : Nat → Int32) (x_code : Nat → Int32) (x_st : Nat → Int32) (x_en : Nat → Int32) (f_row : Nat → Int32) (f_fears : Nat → Int32) (r_tx : Int32) (l_names : Nat → Int32) (l_stack : Nat → Int32) (x2 : Int32) (x4 : Int32) (x5 : Int32) : Option (Int32 × (Nat → Int32) × (Nat → Int32)) := f_X3_rule_48_4 N d_n d_for t_code t_st t_en u_code u_st u_en w_code w_st w_en x_code x_st x_en f_row f_fears r_tx l_names l_stack x2 x4 x5
def f_X3_rule (N : Nat) (d_n : Int32) (d_for : Nat → Int32) (t_code : Nat → Int32) (t_st : Nat → Int32) (t_en : Nat → Int32) (u_code : Nat → Int32) (u_st : Nat → Int32) (u_en : Nat → Int32) (w_code : Nat → Int32) (w_st : Nat → Int32) (w_en : Nat → Int32) (x_code : Nat → Int32) (x_st : Nat → Int32) (x_en : Nat → Int32) (f_row : Nat → Int32) (f_fears : Nat → Int32) (r_tx : Int32) (l_names : Nat → Int32) (l_stack : Nat → Int32) (p1 : Int32) (p2 : Int32) (p4 : Int32) (p5 : Int32) : Option (Int32 × (Nat → Int32) × (Nat → Int32)) := if p2 < 0 then (some ((0 : Int32), l_names, l_stack)) else (if p2 < (4 : Int32) then (if p1 < 0 then (f_X3_rule_47 N d_n d_for t_code t_st t_en u_code u_st u_en w_code w_st w_en x_code x_st x_en f_row f_fears r_tx l_names l_stack p2 p4 p5) else (if r_tx ≤ p1 then (f_X3_rule_47 N d_n d_for t_code t_st t_en u_code u_st u_en w_code w_st w_en x_code x_st x_en f_row f_fears r_tx l_names l_stack p2 p4 p5) else (if (4 : Int32) ≤ p1 then (f_X3_rule_47 N d_n d_for t_code t_st t_en u_code u_st u_en w_code w_st w_en x_code x_st x_en f_row f_fears r_tx l_names l_stack p2 p4 p5) else (if p1 = (0 : Int32) then (f_X3_rule_48_0 N d_n d_for t_code t_st t_en u_code u_st u_en w_code w_st w_en x_code x_st x_en f_row f_fears r_tx l_names l_stack p2 p4 p5) else if p1 = (1 : Int32) then (f_X3_rule_48_1 N d_n d_for t_code t_st t_en u_code u_st u_en w_code w_st w_en x_code x_st x_en f_row f_fears r_tx l_names l_stack p2 p4 p5) else if p1 = (2 : Int32) then (f_X3_rule_48_2 N d_n d_for t_code t_st t_en u_code u_st u_en w_code w_st w_en x_code x_st x_en f_row f_fears r_tx l_names l_stack p2 p4 p5) else if p1 = (3 : Int32) then (f_X3_rule_48_3 N d_n d_for t_code t_st t_en u_code u_st u_en w_code w_st w_en x_code x_st x_en f_row f_fears r_tx l_names l_stack p2 p4 p5) else none)))) else (some ((0 : Int32), l_names, l_stack)))
set_option maxHeartbeats 4000000 in
set_option maxRecDepth 100000 in
theorem k_X3_rule (l : Launch) (N : Nat) (D : va_G) (cI cJ cZ cB cT : ClassId) (qd0 : Nat) (qd1 : Nat) (qt0 : Nat) (qt1 : Nat) (qt2 : Nat) (qt3 : Nat) (qu0 : Nat) (qu1 : Nat) (qu2 : Nat) (qu3 : Nat) (qw0 : Nat) (qw1 : Nat) (qw2 : Nat) (qw3 : Nat) (qx0 : Nat) (qx1 : Nat) (qx2 : Nat) (qx3 : Nat) (qT : Nat) (qf0 : Nat) (qf1 : Nat) (qf2 : Nat) (qr0 : Nat) (qL1 : Nat) (qL2 : Nat) (qL0 : Nat) (qd2 : Nat) (qt4 : Nat) (qu4 : Nat) (qw4 : Nat) (qx4 : Nat) (qf3 : Nat) (qG1 : Nat) (qG2 : Nat) (qG3 : Nat) (d_n : Int32) (d_for : Nat → Int32) (t_cl : Int32) (t_ln : Int32) (t_pt : Int32) (t_code : Nat → Int32) (t_st : Nat → Int32) (t_en : Nat → Int32) (u_cl : Int32) (u_ln : Int32) (u_pt : Int32) (u_code : Nat → Int32) (u_st : Nat → Int32) (u_en : Nat → Int32) (w_cl : Int32) (w_ln : Int32) (w_pt : Int32) (w_code : Nat → Int32) (w_st : Nat → Int32) (w_en : Nat → Int32) (x_cl : Int32) (x_ln : Int32) (x_pt : Int32) (x_code : Nat → Int32) (x_st : Nat → Int32) (x_en : Nat → Int32) (f_row : Nat → Int32) (f_fears : Nat → Int32) (r_tx : Int32) (r_rul : Int32) (l_names : Nat → Int32) (l_stack : Nat → Int32) (p1 : Int32) (p2 : Int32) (p4 : Int32) (p5 : Int32) (o_r : Int32) (o_l_names : Nat → Int32) (o_l_stack : Nat → Int32) (hf : f_X3_rule N d_n d_for t_code t_st t_en u_code u_st u_en w_code w_st w_en x_code x_st x_en f_row f_fears r_tx l_names l_stack p1 p2 p4 p5 = some (o_r, o_l_names, o_l_stack)) : ∀ sz, Met l yX3_rule (mw yX3_rule cX3_rule 8 (some .int)) ({ frames := 2, cells := 0, slots := 0, locals := 73 } : Room) (mPreE D (mT cI cJ cZ cB cT) (W_LW_0t1_3t6_8t11_13t16_18t21_23t26_31t34 qd0 qd1 qt0 qt1 qt2 qt3 qu0 qu1 qu2 qu3 qw0 qw1 qw2 qw3 qx0 qx1 qx2 qx3 qT qf0 qf1 qf2 qr0 qL1 qL2 qL0 qd2 qt4 qu4 qw4 qx4 qf3 qG1 qG2 qG3 cI cJ cZ cB cT d_n d_for t_cl t_ln t_pt t_code t_st t_en u_cl u_ln u_pt u_code u_st u_en w_cl w_ln w_pt w_code w_st w_en x_cl x_ln x_pt x_code x_st x_en f_row f_fears r_tx r_rul l_names l_stack) sz [.ref qL0, .int p1, .int p2, .ref qf0, .int p4, .int p5]) ((mQi D (W_LW_0t1_3t6_8t11_13t16_18t21_23t26_31t34 qd0 qd1 qt0 qt1 qt2 qt3 qu0 qu1 qu2 qu3 qw0 qw1 qw2 qw3 qx0 qx1 qx2 qx3 qT qf0 qf1 qf2 qr0 qL1 qL2 qL0 qd2 qt4 qu4 qw4 qx4 qf3 qG1 qG2 qG3 cI cJ cZ cB cT d_n d_for t_cl t_ln t_pt t_code t_st t_en u_cl u_ln u_pt u_code u_st u_en w_cl w_ln w_pt w_code w_st w_en x_cl x_ln x_pt x_code x_st x_en f_row f_fears r_tx r_rul o_l_names o_l_stack) o_r True) (va_A (W_LW_0t1_3t6_8t11_13t16_18t21_23t26_31t34 qd0 qd1 qt0 qt1 qt2 qt3 qu0 qu1 qu2 qu3 qw0 qw1 qw2 qw3 qx0 qx1 qx2 qx3 qT qf0 qf1 qf2 qr0 qL1 qL2 qL0 qd2 qt4 qu4 qw4 qx4 qf3 qG1 qG2 qG3 cI cJ cZ cB cT d_n d_for t_cl t_ln t_pt t_code t_st t_en u_cl u_ln u_pt u_code u_st u_en w_cl w_ln w_pt w_code w_st w_en x_cl x_ln x_pt x_code x_st x_en f_row f_fears r_tx r_rul l_names l_stack) sz)) 0 0 (va_A (W_LW_0t1_3t6_8t11_13t16_18t21_23t26_31t34 qd0 qd1 qt0 qt1 qt2 qt3 qu0 qu1 qu2 qu3 qw0 qw1 qw2 qw3 qx0 qx1 qx2 qx3 qT qf0 qf1 qf2 qr0 qL1 qL2 qL0 qd2 qt4 qu4 qw4 qx4 qf3 qG1 qG2 qG3 cI cJ cZ cB cT d_n d_for t_cl t_ln t_pt t_code t_st t_en u_cl u_ln u_pt u_code u_st u_en w_cl w_ln w_pt w_code w_st w_en x_cl x_ln x_pt x_code x_st x_en f_row f_fears r_tx r_rul l_names l_stack) sz) := by
  refine mMetE (Qc := (mQi D (W_LW_0t1_3t6_8t11_13t16_18t21_23t26_31t34 qd0 qd1 qt0 qt1 qt2 qt3 qu0 qu1 qu2 qu3 qw0 qw1 qw2 qw3 qx0 qx1 qx2 qx3 qT qf0 qf1 qf2 qr0 qL1 qL2 qL0 qd2 qt4 qu4 qw4 qx4 qf3 qG1 qG2 qG3 cI cJ cZ cB cT d_n d_for t_cl t_ln t_pt t_code t_st t_en u_cl u_ln u_pt u_code u_st u_en w_cl w_ln w_pt w_code w_st w_en x_cl x_ln x_pt x_code x_st x_en f_row f_fears r_tx r_rul o_l_names o_l_stack) o_r True)) (by decide) (Nat.le_of_ble_eq_true rfl) (fun p e s m below meth c A ls hx hb hr hml hts hown hlocks hK hA hP hD hl hE => ?_)
  have hown : s.vm.findClass RX3 = some m.cls := hown
  have hl : lv_has ls 8 [(0, .ref qL0), (1, .int p1), (2, .int p2), (3, .ref qf0), (4, .int p4), (5, .int p5)] := hl
  have hS : va_S A s.heap s.heap [] := va_S.rf
  obtain ⟨⟨tM, hZM, hTM⟩, ⟨tL, hZL, hTL⟩, ⟨hNX4, hNX10⟩, tS, tV, hRS, hZC, hZF, hKS⟩ := id hE
  have b105 : ∀ (l_names : Nat → Int32) (l_stack : Nat → Int32) (x2 : Int32) (x7 : Int32) (H : Heap) (locs : List Loc) (ls : Array Slot), f_X3_rule_105 N d_n d_for t_code t_st t_en u_code u_st u_en w_code w_st w_en x_code x_st x_en f_row f_fears r_tx l_names l_stack x2 x7 = some (o_r, o_l_names, o_l_stack) → va_P D vwCl (W_LW_0t1_3t6_8t11_13t16_18t21_23t26_31t34 qd0 qd1 qt0 qt1 qt2 qt3 qu0 qu1 qu2 qu3 qw0 qw1 qw2 qw3 qx0 qx1 qx2 qx3 qT qf0 qf1 qf2 qr0 qL1 qL2 qL0 qd2 qt4 qu4 qw4 qx4 qf3 qG1 qG2 qG3 cI cJ cZ cB cT d_n d_for t_cl t_ln t_pt t_code t_st t_en u_cl u_ln u_pt u_code u_st u_en w_cl w_ln w_pt w_code w_st w_en x_cl x_ln x_pt x_code x_st x_en f_row f_fears r_tx r_rul l_names l_stack) H → va_D A (W_LW_0t1_3t6_8t11_13t16_18t21_23t26_31t34 qd0 qd1 qt0 qt1 qt2 qt3 qu0 qu1 qu2 qu3 qw0 qw1 qw2 qw3 qx0 qx1 qx2 qx3 qT qf0 qf1 qf2 qr0 qL1 qL2 qL0 qd2 qt4 qu4 qw4 qx4 qf3 qG1 qG2 qG3 cI cJ cZ cB cT d_n d_for t_cl t_ln t_pt t_code t_st t_en u_cl u_ln u_pt u_code u_st u_en w_cl w_ln w_pt w_code w_st w_en x_cl x_ln x_pt x_code x_st x_en f_row f_fears r_tx r_rul l_names l_stack) → va_S A s.heap H locs → lv_has ls 8 [(2, .int x2), (7, .int x7)] → W p l e ({ frames := 2, cells := 0, slots := 0, locals := 73 } : Room) s m ([.ref qL0, .int p1, .int p2, .ref qf0, .int p4, .int p5] : List Value).toArray below meth c H locs 0 0 (MQ below ((mQi D (W_LW_0t1_3t6_8t11_13t16_18t21_23t26_31t34 qd0 qd1 qt0 qt1 qt2 qt3 qu0 qu1 qu2 qu3 qw0 qw1 qw2 qw3 qx0 qx1 qx2 qx3 qT qf0 qf1 qf2 qr0 qL1 qL2 qL0 qd2 qt4 qu4 qw4 qx4 qf3 qG1 qG2 qG3 cI cJ cZ cB cT d_n d_for t_cl t_ln t_pt t_code t_st t_en u_cl u_ln u_pt u_code u_st u_en w_cl w_ln w_pt w_code w_st w_en x_cl x_ln x_pt x_code x_st x_en f_row f_fears r_tx r_rul o_l_names o_l_stack) o_r True) A) ([.ref qL0, .int p1, .int p2, .ref qf0, .int p4, .int p5] : List Value).toArray s 0 0 A) (F0 m 105 ls []) := by
    intro l_names l_stack x2 x7 H locs ls hf hP hD hS hl
    unfold f_X3_rule_105 at hf
    refine lv_iconst (v := (0 : Int32)) hx hb dX3_rule_105 (by decide) ?_
    refine va_gets hx hb hZM hS hown (hts _ flX3_26) (fun _ h => h) dX3_rule_106 ?_
    refine lv_iload_n hx hb dX3_rule_109 rfl (lv_at hl 0 rfl) ?_
    refine xti hx hb hTM hS dX3_rule_110 hf (fun v110 hf => ?_)
    refine lv_iload hx hb dX3_rule_111 (lv_at hl 1 rfl) ?_
    refine xmin hx hb hml hl.1 hown hts mtX3_52 (Nat.le_of_ble_eq_true rfl) (Nat.le_of_ble_eq_true rfl) ⟨Nat.zero_le _, Nat.zero_le _⟩ dX3_rule_113 ?_
    refine xmax hx hb hml hl.1 hown hts mtX3_58 (Nat.le_of_ble_eq_true rfl) (Nat.le_of_ble_eq_true rfl) ⟨Nat.zero_le _, Nat.zero_le _⟩ dX3_rule_116 ?_
    cases hf
    exact mret_i hx hb hr hlocks hP hD hS dX3_rule_119 rfl trivial
  have b93 : ∀ (l_names : Nat → Int32) (l_stack : Nat → Int32) (x2 : Int32) (x4 : Int32) (x5 : Int32) (H : Heap) (locs : List Loc) (ls : Array Slot), f_X3_rule_93 N d_n d_for t_code t_st t_en u_code u_st u_en w_code w_st w_en x_code x_st x_en f_row f_fears r_tx l_names l_stack x2 x4 x5 = some (o_r, o_l_names, o_l_stack) → va_P D vwCl (W_LW_0t1_3t6_8t11_13t16_18t21_23t26_31t34 qd0 qd1 qt0 qt1 qt2 qt3 qu0 qu1 qu2 qu3 qw0 qw1 qw2 qw3 qx0 qx1 qx2 qx3 qT qf0 qf1 qf2 qr0 qL1 qL2 qL0 qd2 qt4 qu4 qw4 qx4 qf3 qG1 qG2 qG3 cI cJ cZ cB cT d_n d_for t_cl t_ln t_pt t_code t_st t_en u_cl u_ln u_pt u_code u_st u_en w_cl w_ln w_pt w_code w_st w_en x_cl x_ln x_pt x_code x_st x_en f_row f_fears r_tx r_rul l_names l_stack) H → va_D A (W_LW_0t1_3t6_8t11_13t16_18t21_23t26_31t34 qd0 qd1 qt0 qt1 qt2 qt3 qu0 qu1 qu2 qu3 qw0 qw1 qw2 qw3 qx0 qx1 qx2 qx3 qT qf0 qf1 qf2 qr0 qL1 qL2 qL0 qd2 qt4 qu4 qw4 qx4 qf3 qG1 qG2 qG3 cI cJ cZ cB cT d_n d_for t_cl t_ln t_pt t_code t_st t_en u_cl u_ln u_pt u_code u_st u_en w_cl w_ln w_pt w_code w_st w_en x_cl x_ln x_pt x_code x_st x_en f_row f_fears r_tx r_rul l_names l_stack) → va_S A s.heap H locs → lv_has ls 8 [(0, .ref qL0), (2, .int x2), (3, .ref qf0), (4, .int x4), (5, .int x5)] → W p l e ({ frames := 2, cells := 0, slots := 0, locals := 73 } : Room) s m ([.ref qL0, .int p1, .int p2, .ref qf0, .int p4, .int p5] : List Value).toArray below meth c H locs 0 0 (MQ below ((mQi D (W_LW_0t1_3t6_8t11_13t16_18t21_23t26_31t34 qd0 qd1 qt0 qt1 qt2 qt3 qu0 qu1 qu2 qu3 qw0 qw1 qw2 qw3 qx0 qx1 qx2 qx3 qT qf0 qf1 qf2 qr0 qL1 qL2 qL0 qd2 qt4 qu4 qw4 qx4 qf3 qG1 qG2 qG3 cI cJ cZ cB cT d_n d_for t_cl t_ln t_pt t_code t_st t_en u_cl u_ln u_pt u_code u_st u_en w_cl w_ln w_pt w_code w_st w_en x_cl x_ln x_pt x_code x_st x_en f_row f_fears r_tx r_rul o_l_names o_l_stack) o_r True) A) ([.ref qL0, .int p1, .int p2, .ref qf0, .int p4, .int p5] : List Value).toArray s 0 0 A) (F0 m 93 ls []) := by
    intro l_names l_stack x2 x4 x5 H locs ls hf hP hD hS hl
    unfold f_X3_rule_93 at hf
    refine lv_aload_n hx hb dX3_rule_93 rfl (lv_at hl 0 rfl) ?_
    refine lv_iload_n hx hb dX3_rule_94 rfl (lv_at hl 1 rfl) ?_
    refine lv_aload_n hx hb dX3_rule_95 rfl (lv_at hl 2 rfl) ?_
    refine lv_iload hx hb dX3_rule_96 (lv_at hl 3 rfl) ?_
    refine lv_iload hx hb dX3_rule_98 (lv_at hl 4 rfl) ?_
    obtain ⟨r100, hg100, hf⟩ := ob1_some hf
    refine mcV_i (wr := [(qt0, .inr (9, [.int t_cl, .int t_ln, .int t_pt, .ref qt1, .ref qt2, .ref qt3, .ref qt4])), (qt1, .inl (cI, 301, .inl t_code)), (qt2, .inl (cI, 4, .inl t_st)), (qt3, .inl (cI, 4, .inl t_en)), (qu0, .inr (9, [.int u_cl, .int u_ln, .int u_pt, .ref qu1, .ref qu2, .ref qu3, .ref qu4])), (qu1, .inl (cI, 301, .inl u_code)), (qu2, .inl (cI, 4, .inl u_st)), (qu3, .inl (cI, 4, .inl u_en)), (qw0, .inr (9, [.int w_cl, .int w_ln, .int w_pt, .ref qw1, .ref qw2, .ref qw3, .ref qw4])), (qw1, .inl (cI, 301, .inl w_code)), (qw2, .inl (cI, 4, .inl w_st)), (qw3, .inl (cI, 4, .inl w_en)), (qx0, .inr (9, [.int x_cl, .int x_ln, .int x_pt, .ref qx1, .ref qx2, .ref qx3, .ref qx4])), (qx1, .inl (cI, 301, .inl x_code)), (qx2, .inl (cI, 4, .inl x_st)), (qx3, .inl (cI, 4, .inl x_en)), (qT, .inl (cT, 4, .inr (.inr (.inr (.inr (fT qt0 qu0 qw0 qx0)))))), (qf2, .inl (cI, 6, .inl f_fears)), (qL1, .inl (cI, 10, .inl l_names)), (qL2, .inl (cI, 64, .inl l_stack))]) (As := [.int x2, .ref qf0, .int x4, .int x5]) (rest := []) hx hb hml hown hts hK hP hD hS hA (k_X3_without l N D cI cJ cZ cB cT qd0 qd1 qf0 qf1 qr0 qL0 qd2 qf2 qf3 qG1 qG2 qG3 qT qL1 qL2 d_n d_for f_row r_tx r_rul x2 x4 x5 r100 hg100) (kwX3_48 hts rfl rfl ⟨Nat.le_of_ble_eq_true rfl, Nat.le_of_ble_eq_true rfl⟩) [0, 1, 19, 20, 22, 25] [2, 3, 4, 5, 6, 7, 8, 9, 10, 11, 12, 13, 14, 15, 16, 17, 18, 21, 23, 24] rfl rfl rfl (by decide) rfl 5 rfl rfl rfl rfl hl.1 rfl (Nat.le_of_ble_eq_true rfl) dX3_rule_100 ⟨Nat.zero_le _, Nat.zero_le _⟩ (fun hB100 H locs hP hD hS => ?_)
    have hP := mP_sub (wc := (W_LW_0t1_3t6_8t11_13t16_18t21_23t26_31t34 qd0 qd1 qt0 qt1 qt2 qt3 qu0 qu1 qu2 qu3 qw0 qw1 qw2 qw3 qx0 qx1 qx2 qx3 qT qf0 qf1 qf2 qr0 qL1 qL2 qL0 qd2 qt4 qu4 qw4 qx4 qf3 qG1 qG2 qG3 cI cJ cZ cB cT d_n d_for t_cl t_ln t_pt t_code t_st t_en u_cl u_ln u_pt u_code u_st u_en w_cl w_ln w_pt w_code w_st w_en x_cl x_ln x_pt x_code x_st x_en f_row f_fears r_tx r_rul l_names l_stack)) hP [20, 21, 0, 1, 2, 3, 4, 5, 6, 7, 8, 9, 10, 11, 12, 13, 14, 15, 16, 22, 23, 17, 24, 18, 19, 25] rfl
    have hD := hD.sub (ws' := (W_LW_0t1_3t6_8t11_13t16_18t21_23t26_31t34 qd0 qd1 qt0 qt1 qt2 qt3 qu0 qu1 qu2 qu3 qw0 qw1 qw2 qw3 qx0 qx1 qx2 qx3 qT qf0 qf1 qf2 qr0 qL1 qL2 qL0 qd2 qt4 qu4 qw4 qx4 qf3 qG1 qG2 qG3 cI cJ cZ cB cT d_n d_for t_cl t_ln t_pt t_code t_st t_en u_cl u_ln u_pt u_code u_st u_en w_cl w_ln w_pt w_code w_st w_en x_cl x_ln x_pt x_code x_st x_en f_row f_fears r_tx r_rul l_names l_stack)) [20, 21, 0, 1, 2, 3, 4, 5, 6, 7, 8, 9, 10, 11, 12, 13, 14, 15, 16, 22, 23, 17, 24, 18, 19, 25] rfl rfl
    refine lv_istore (lv' := [(7, .int r100), (0, .ref qL0), (2, .int x2), (3, .ref qf0), (4, .int x4), (5, .int x5)]) hx hb dX3_rule_103 hl (by decide) rfl (fun ls hl => ?_)
    exact b105 l_names l_stack x2 r100 _ _ _ hf hP hD hS (lv_sub hl [2, 0] rfl)
  have b48_0 : ∀ (l_names : Nat → Int32) (l_stack : Nat → Int32) (x2 : Int32) (x4 : Int32) (x5 : Int32) (H : Heap) (locs : List Loc) (ls : Array Slot), f_X3_rule_48_0 N d_n d_for t_code t_st t_en u_code u_st u_en w_code w_st w_en x_code x_st x_en f_row f_fears r_tx l_names l_stack x2 x4 x5 = some (o_r, o_l_names, o_l_stack) → va_P D vwCl (W_LW_0t1_3t6_8t11_13t16_18t21_23t26_31t34 qd0 qd1 qt0 qt1 qt2 qt3 qu0 qu1 qu2 qu3 qw0 qw1 qw2 qw3 qx0 qx1 qx2 qx3 qT qf0 qf1 qf2 qr0 qL1 qL2 qL0 qd2 qt4 qu4 qw4 qx4 qf3 qG1 qG2 qG3 cI cJ cZ cB cT d_n d_for t_cl t_ln t_pt t_code t_st t_en u_cl u_ln u_pt u_code u_st u_en w_cl w_ln w_pt w_code w_st w_en x_cl x_ln x_pt x_code x_st x_en f_row f_fears r_tx r_rul l_names l_stack) H → va_D A (W_LW_0t1_3t6_8t11_13t16_18t21_23t26_31t34 qd0 qd1 qt0 qt1 qt2 qt3 qu0 qu1 qu2 qu3 qw0 qw1 qw2 qw3 qx0 qx1 qx2 qx3 qT qf0 qf1 qf2 qr0 qL1 qL2 qL0 qd2 qt4 qu4 qw4 qx4 qf3 qG1 qG2 qG3 cI cJ cZ cB cT d_n d_for t_cl t_ln t_pt t_code t_st t_en u_cl u_ln u_pt u_code u_st u_en w_cl w_ln w_pt w_code w_st w_en x_cl x_ln x_pt x_code x_st x_en f_row f_fears r_tx r_rul l_names l_stack) → va_S A s.heap H locs → lv_has ls 8 [(0, .ref qL0), (2, .int x2), (3, .ref qf0), (4, .int x4), (5, .int x5)] → W p l e ({ frames := 2, cells := 0, slots := 0, locals := 73 } : Room) s m ([.ref qL0, .int p1, .int p2, .ref qf0, .int p4, .int p5] : List Value).toArray below meth c H locs 0 0 (MQ below ((mQi D (W_LW_0t1_3t6_8t11_13t16_18t21_23t26_31t34 qd0 qd1 qt0 qt1 qt2 qt3 qu0 qu1 qu2 qu3 qw0 qw1 qw2 qw3 qx0 qx1 qx2 qx3 qT qf0 qf1 qf2 qr0 qL1 qL2 qL0 qd2 qt4 qu4 qw4 qx4 qf3 qG1 qG2 qG3 cI cJ cZ cB cT d_n d_for t_cl t_ln t_pt t_code t_st t_en u_cl u_ln u_pt u_code u_st u_en w_cl w_ln w_pt w_code w_st w_en x_cl x_ln x_pt x_code x_st x_en f_row f_fears r_tx r_rul o_l_names o_l_stack) o_r True) A) ([.ref qL0, .int p1, .int p2, .ref qf0, .int p4, .int p5] : List Value).toArray s 0 0 A) (F0 m 48 ls [.ref qt0]) := by
    intro l_names l_stack x2 x4 x5 H locs ls hf hP hD hS hl
    unfold f_X3_rule_48_0 at hf
    refine lv_astore (lv' := [(6, .ref qt0), (0, .ref qL0), (2, .int x2), (3, .ref qf0), (4, .int x4), (5, .int x5)]) hx hb dX3_rule_48 hl (by decide) rfl (fun ls hl => ?_)
    refine lv_aload hx hb dX3_rule_50 (lv_at hl 0 rfl) ?_
    refine lv_ifnull hx hb dX3_rule_52 ?_
    refine lv_aload hx hb dX3_rule_55 (lv_at hl 0 rfl) ?_
    refine lv_iload_n hx hb dX3_rule_57 rfl (lv_at hl 2 rfl) ?_
    obtain ⟨r58, hg58, hf⟩ := ob1_some hf
    refine mcV_i (wr := [(qd0, .inr (2, [.int d_n, .ref qd1, .ref qd2])), (qd1, .inl (cI, 8, .inl d_for)), (qt1, .inl (cI, 301, .inl t_code)), (qt3, .inl (cI, 4, .inl t_en)), (qu0, .inr (9, [.int u_cl, .int u_ln, .int u_pt, .ref qu1, .ref qu2, .ref qu3, .ref qu4])), (qu1, .inl (cI, 301, .inl u_code)), (qu2, .inl (cI, 4, .inl u_st)), (qu3, .inl (cI, 4, .inl u_en)), (qw0, .inr (9, [.int w_cl, .int w_ln, .int w_pt, .ref qw1, .ref qw2, .ref qw3, .ref qw4])), (qw1, .inl (cI, 301, .inl w_code)), (qw2, .inl (cI, 4, .inl w_st)), (qw3, .inl (cI, 4, .inl w_en)), (qx0, .inr (9, [.int x_cl, .int x_ln, .int x_pt, .ref qx1, .ref qx2, .ref qx3, .ref qx4])), (qx1, .inl (cI, 301, .inl x_code)), (qx2, .inl (cI, 4, .inl x_st)), (qx3, .inl (cI, 4, .inl x_en)), (qT, .inl (cT, 4, .inr (.inr (.inr (.inr (fT qt0 qu0 qw0 qx0)))))), (qf0, .inr (1, [.ref qf1, .ref qf2, .ref qf3])), (qf1, .inl (cI, 76, .inl f_row)), (qf2, .inl (cI, 6, .inl f_fears)), (qr0, .inr (6, [.ref qd0, .ref qG1, .ref qG2, .ref qG3, .int r_tx, .int r_rul])), (qL1, .inl (cI, 10, .inl l_names)), (qL2, .inl (cI, 64, .inl l_stack)), (qL0, .inr (3, [.ref qr0, .ref qT, .ref qL1, .ref qL2]))]) (As := [.int x2]) (rest := []) hx hb hml hown hts hK hP hD hS hA (k_X9_begun l N D cI cJ cZ cB cT qt0 qt2 qt1 qt3 qt4 t_cl t_ln t_pt t_st x2 r58 hg58) (kwX3_34 hts rfl rfl ⟨Nat.le_of_ble_eq_true rfl, Nat.le_of_ble_eq_true rfl⟩) [2, 4] [0, 1, 3, 5, 6, 7, 8, 9, 10, 11, 12, 13, 14, 15, 16, 17, 18, 19, 20, 21, 22, 23, 24, 25] rfl rfl rfl (by decide) rfl 0 rfl rfl rfl rfl hl.1 rfl (Nat.le_of_ble_eq_true rfl) dX3_rule_58 ⟨Nat.zero_le _, Nat.zero_le _⟩ (fun hB58 H locs hP hD hS => ?_)
    have hP := mP_sub (wc := (W_LW_0t1_3t6_8t11_13t16_18t21_23t26_31t34 qd0 qd1 qt0 qt1 qt2 qt3 qu0 qu1 qu2 qu3 qw0 qw1 qw2 qw3 qx0 qx1 qx2 qx3 qT qf0 qf1 qf2 qr0 qL1 qL2 qL0 qd2 qt4 qu4 qw4 qx4 qf3 qG1 qG2 qG3 cI cJ cZ cB cT d_n d_for t_cl t_ln t_pt t_code t_st t_en u_cl u_ln u_pt u_code u_st u_en w_cl w_ln w_pt w_code w_st w_en x_cl x_ln x_pt x_code x_st x_en f_row f_fears r_tx r_rul l_names l_stack)) hP [0, 1, 24, 2, 25, 3, 4, 5, 6, 7, 8, 9, 10, 11, 12, 13, 14, 15, 16, 17, 18, 19, 20, 21, 22, 23] rfl
    have hD := hD.sub (ws' := (W_LW_0t1_3t6_8t11_13t16_18t21_23t26_31t34 qd0 qd1 qt0 qt1 qt2 qt3 qu0 qu1 qu2 qu3 qw0 qw1 qw2 qw3 qx0 qx1 qx2 qx3 qT qf0 qf1 qf2 qr0 qL1 qL2 qL0 qd2 qt4 qu4 qw4 qx4 qf3 qG1 qG2 qG3 cI cJ cZ cB cT d_n d_for t_cl t_ln t_pt t_code t_st t_en u_cl u_ln u_pt u_code u_st u_en w_cl w_ln w_pt w_code w_st w_en x_cl x_ln x_pt x_code x_st x_en f_row f_fears r_tx r_rul l_names l_stack)) [0, 1, 24, 2, 25, 3, 4, 5, 6, 7, 8, 9, 10, 11, 12, 13, 14, 15, 16, 17, 18, 19, 20, 21, 22, 23] rfl rfl
    refine xif_eq hx hb 93 dX3_rule_61 (by decide) hf (fun hf => ?_) (fun hf => ?_)
    · exact b93 l_names l_stack x2 x4 x5 _ _ _ hf hP hD hS (lv_sub hl [1, 2, 3, 4, 5] rfl)
    · refine lv_aload_n hx hb dX3_rule_64 rfl (lv_at hl 1 rfl) ?_
      refine lv_aload_n hx hb dX3_rule_65 rfl (lv_at hl 3 rfl) ?_
      refine lv_iload hx hb dX3_rule_66 (lv_at hl 4 rfl) ?_
      refine lv_iload hx hb dX3_rule_68 (lv_at hl 5 rfl) ?_
      obtain ⟨l_names_70, hg70, hf⟩ := ob1_some hf
      refine mcV_v (wr := [(qt0, .inr (9, [.int t_cl, .int t_ln, .int t_pt, .ref qt1, .ref qt2, .ref qt3, .ref qt4])), (qt1, .inl (cI, 301, .inl t_code)), (qt2, .inl (cI, 4, .inl t_st)), (qt3, .inl (cI, 4, .inl t_en)), (qu0, .inr (9, [.int u_cl, .int u_ln, .int u_pt, .ref qu1, .ref qu2, .ref qu3, .ref qu4])), (qu1, .inl (cI, 301, .inl u_code)), (qu2, .inl (cI, 4, .inl u_st)), (qu3, .inl (cI, 4, .inl u_en)), (qw0, .inr (9, [.int w_cl, .int w_ln, .int w_pt, .ref qw1, .ref qw2, .ref qw3, .ref qw4])), (qw1, .inl (cI, 301, .inl w_code)), (qw2, .inl (cI, 4, .inl w_st)), (qw3, .inl (cI, 4, .inl w_en)), (qx0, .inr (9, [.int x_cl, .int x_ln, .int x_pt, .ref qx1, .ref qx2, .ref qx3, .ref qx4])), (qx1, .inl (cI, 301, .inl x_code)), (qx2, .inl (cI, 4, .inl x_st)), (qx3, .inl (cI, 4, .inl x_en)), (qT, .inl (cT, 4, .inr (.inr (.inr (.inr (fT qt0 qu0 qw0 qx0)))))), (qL2, .inl (cI, 64, .inl l_stack))]) (As := [.ref qf0, .int x4, .int x5]) (rest := []) hx hb hml hown hts hK hP hD hS hA (k_X3_fillNames l N D cI cJ cZ cB cT qd0 qd1 qf0 qf1 qf2 qr0 qL1 qL0 qd2 qf3 qG1 qG2 qG3 qT qL2 d_n d_for f_row f_fears r_tx r_rul l_names x4 x5 l_names_70 hg70) (kwX3_40 hts rfl rfl ⟨Nat.le_of_ble_eq_true rfl, Nat.le_of_ble_eq_true rfl⟩) [0, 1, 19, 20, 21, 22, 23, 25] [2, 3, 4, 5, 6, 7, 8, 9, 10, 11, 12, 13, 14, 15, 16, 17, 18, 24] rfl rfl rfl (by decide) rfl 7 rfl rfl rfl rfl hl.1 rfl (Nat.le_of_ble_eq_true rfl) dX3_rule_70 ⟨Nat.zero_le _, Nat.zero_le _⟩ (fun H locs hP hD hS => ?_)
      have hP := mP_sub (wc := (W_LW_0t1_3t6_8t11_13t16_18t21_23t26_31t34 qd0 qd1 qt0 qt1 qt2 qt3 qu0 qu1 qu2 qu3 qw0 qw1 qw2 qw3 qx0 qx1 qx2 qx3 qT qf0 qf1 qf2 qr0 qL1 qL2 qL0 qd2 qt4 qu4 qw4 qx4 qf3 qG1 qG2 qG3 cI cJ cZ cB cT d_n d_for t_cl t_ln t_pt t_code t_st t_en u_cl u_ln u_pt u_code u_st u_en w_cl w_ln w_pt w_code w_st w_en x_cl x_ln x_pt x_code x_st x_en f_row f_fears r_tx r_rul l_names_70 l_stack)) hP [18, 19, 0, 1, 2, 3, 4, 5, 6, 7, 8, 9, 10, 11, 12, 13, 14, 15, 16, 20, 21, 22, 23, 24, 17, 25] rfl
      have hD := hD.sub (ws' := (W_LW_0t1_3t6_8t11_13t16_18t21_23t26_31t34 qd0 qd1 qt0 qt1 qt2 qt3 qu0 qu1 qu2 qu3 qw0 qw1 qw2 qw3 qx0 qx1 qx2 qx3 qT qf0 qf1 qf2 qr0 qL1 qL2 qL0 qd2 qt4 qu4 qw4 qx4 qf3 qG1 qG2 qG3 cI cJ cZ cB cT d_n d_for t_cl t_ln t_pt t_code t_st t_en u_cl u_ln u_pt u_code u_st u_en w_cl w_ln w_pt w_code w_st w_en x_cl x_ln x_pt x_code x_st x_en f_row f_fears r_tx r_rul l_names_70 l_stack)) [18, 19, 0, 1, 2, 3, 4, 5, 6, 7, 8, 9, 10, 11, 12, 13, 14, 15, 16, 20, 21, 22, 23, 24, 17, 25] rfl rfl
      refine lv_aload hx hb dX3_rule_73 (lv_at hl 0 rfl) ?_
      refine lv_iload_n hx hb dX3_rule_75 rfl (lv_at hl 2 rfl) ?_
      refine lv_aload_n hx hb dX3_rule_76 rfl (lv_at hl 1 rfl) ?_
      refine gfX3_11 hx hb hts hown hK hP 25 rfl rfl dX3_rule_77 ?_
      refine lv_aload_n hx hb dX3_rule_80 rfl (lv_at hl 3 rfl) ?_
      refine lv_aload_n hx hb dX3_rule_81 rfl (lv_at hl 1 rfl) ?_
      refine gfX3_15 hx hb hts hown hK hP 25 rfl rfl dX3_rule_82 ?_
      obtain ⟨r85, l_stack_85, hg85, hf⟩ := ob2_some hf
      refine mcV_i (wr := [(qd0, .inr (2, [.int d_n, .ref qd1, .ref qd2])), (qd1, .inl (cI, 8, .inl d_for)), (qu0, .inr (9, [.int u_cl, .int u_ln, .int u_pt, .ref qu1, .ref qu2, .ref qu3, .ref qu4])), (qu1, .inl (cI, 301, .inl u_code)), (qu2, .inl (cI, 4, .inl u_st)), (qu3, .inl (cI, 4, .inl u_en)), (qw0, .inr (9, [.int w_cl, .int w_ln, .int w_pt, .ref qw1, .ref qw2, .ref qw3, .ref qw4])), (qw1, .inl (cI, 301, .inl w_code)), (qw2, .inl (cI, 4, .inl w_st)), (qw3, .inl (cI, 4, .inl w_en)), (qx0, .inr (9, [.int x_cl, .int x_ln, .int x_pt, .ref qx1, .ref qx2, .ref qx3, .ref qx4])), (qx1, .inl (cI, 301, .inl x_code)), (qx2, .inl (cI, 4, .inl x_st)), (qx3, .inl (cI, 4, .inl x_en)), (qT, .inl (cT, 4, .inr (.inr (.inr (.inr (fT qt0 qu0 qw0 qx0)))))), (qr0, .inr (6, [.ref qd0, .ref qG1, .ref qG2, .ref qG3, .int r_tx, .int r_rul])), (qL0, .inr (3, [.ref qr0, .ref qT, .ref qL1, .ref qL2]))]) (As := [.int x2, .ref qL1, .ref qf0, .ref qL2]) (rest := []) hx hb hml hown hts hK hP hD hS hA (k_X9_value l N D cI cJ cZ cB cT qt0 qt1 qt2 qt3 qL1 qf0 qf1 qf2 qL2 qt4 qf3 t_cl t_ln t_pt t_code t_st t_en l_names_70 f_row f_fears l_stack x2 r85 l_stack_85 hg85) (kwX3_44 hts rfl rfl ⟨Nat.le_of_ble_eq_true rfl, Nat.le_of_ble_eq_true rfl⟩) [2, 3, 4, 5, 23, 19, 20, 21, 24] [0, 1, 6, 7, 8, 9, 10, 11, 12, 13, 14, 15, 16, 17, 18, 22, 25] rfl rfl rfl (by decide) rfl 0 rfl rfl rfl rfl hl.1 rfl (Nat.le_of_ble_eq_true rfl) dX3_rule_85 ⟨Nat.zero_le _, Nat.zero_le _⟩ (fun hB85 H locs hP hD hS => ?_)
      have hP := mP_sub (wc := (W_LW_0t1_3t6_8t11_13t16_18t21_23t26_31t34 qd0 qd1 qt0 qt1 qt2 qt3 qu0 qu1 qu2 qu3 qw0 qw1 qw2 qw3 qx0 qx1 qx2 qx3 qT qf0 qf1 qf2 qr0 qL1 qL2 qL0 qd2 qt4 qu4 qw4 qx4 qf3 qG1 qG2 qG3 cI cJ cZ cB cT d_n d_for t_cl t_ln t_pt t_code t_st t_en u_cl u_ln u_pt u_code u_st u_en w_cl w_ln w_pt w_code w_st w_en x_cl x_ln x_pt x_code x_st x_en f_row f_fears r_tx r_rul l_names_70 l_stack_85)) hP [0, 1, 17, 18, 19, 20, 2, 3, 4, 5, 6, 7, 8, 9, 10, 11, 12, 13, 14, 22, 23, 24, 15, 21, 25, 16] rfl
      have hD := hD.sub (ws' := (W_LW_0t1_3t6_8t11_13t16_18t21_23t26_31t34 qd0 qd1 qt0 qt1 qt2 qt3 qu0 qu1 qu2 qu3 qw0 qw1 qw2 qw3 qx0 qx1 qx2 qx3 qT qf0 qf1 qf2 qr0 qL1 qL2 qL0 qd2 qt4 qu4 qw4 qx4 qf3 qG1 qG2 qG3 cI cJ cZ cB cT d_n d_for t_cl t_ln t_pt t_code t_st t_en u_cl u_ln u_pt u_code u_st u_en w_cl w_ln w_pt w_code w_st w_en x_cl x_ln x_pt x_code x_st x_en f_row f_fears r_tx r_rul l_names_70 l_stack_85)) [0, 1, 17, 18, 19, 20, 2, 3, 4, 5, 6, 7, 8, 9, 10, 11, 12, 13, 14, 22, 23, 24, 15, 21, 25, 16] rfl rfl
      refine lv_istore (lv' := [(7, .int r85), (6, .ref qt0), (0, .ref qL0), (2, .int x2), (3, .ref qf0), (4, .int x4), (5, .int x5)]) hx hb dX3_rule_88 hl (by decide) rfl (fun ls hl => ?_)
      refine lv_goto (tgt := 105) hx hb dX3_rule_90 (by decide) ?_
      exact b105 l_names_70 l_stack_85 x2 r85 _ _ _ hf hP hD hS (lv_sub hl [3, 0] rfl)
  have b48_1 : ∀ (l_names : Nat → Int32) (l_stack : Nat → Int32) (x2 : Int32) (x4 : Int32) (x5 : Int32) (H : Heap) (locs : List Loc) (ls : Array Slot), f_X3_rule_48_1 N d_n d_for t_code t_st t_en u_code u_st u_en w_code w_st w_en x_code x_st x_en f_row f_fears r_tx l_names l_stack x2 x4 x5 = some (o_r, o_l_names, o_l_stack) → va_P D vwCl (W_LW_0t1_3t6_8t11_13t16_18t21_23t26_31t34 qd0 qd1 qt0 qt1 qt2 qt3 qu0 qu1 qu2 qu3 qw0 qw1 qw2 qw3 qx0 qx1 qx2 qx3 qT qf0 qf1 qf2 qr0 qL1 qL2 qL0 qd2 qt4 qu4 qw4 qx4 qf3 qG1 qG2 qG3 cI cJ cZ cB cT d_n d_for t_cl t_ln t_pt t_code t_st t_en u_cl u_ln u_pt u_code u_st u_en w_cl w_ln w_pt w_code w_st w_en x_cl x_ln x_pt x_code x_st x_en f_row f_fears r_tx r_rul l_names l_stack) H → va_D A (W_LW_0t1_3t6_8t11_13t16_18t21_23t26_31t34 qd0 qd1 qt0 qt1 qt2 qt3 qu0 qu1 qu2 qu3 qw0 qw1 qw2 qw3 qx0 qx1 qx2 qx3 qT qf0 qf1 qf2 qr0 qL1 qL2 qL0 qd2 qt4 qu4 qw4 qx4 qf3 qG1 qG2 qG3 cI cJ cZ cB cT d_n d_for t_cl t_ln t_pt t_code t_st t_en u_cl u_ln u_pt u_code u_st u_en w_cl w_ln w_pt w_code w_st w_en x_cl x_ln x_pt x_code x_st x_en f_row f_fears r_tx r_rul l_names l_stack) → va_S A s.heap H locs → lv_has ls 8 [(0, .ref qL0), (2, .int x2), (3, .ref qf0), (4, .int x4), (5, .int x5)] → W p l e ({ frames := 2, cells := 0, slots := 0, locals := 73 } : Room) s m ([.ref qL0, .int p1, .int p2, .ref qf0, .int p4, .int p5] : List Value).toArray below meth c H locs 0 0 (MQ below ((mQi D (W_LW_0t1_3t6_8t11_13t16_18t21_23t26_31t34 qd0 qd1 qt0 qt1 qt2 qt3 qu0 qu1 qu2 qu3 qw0 qw1 qw2 qw3 qx0 qx1 qx2 qx3 qT qf0 qf1 qf2 qr0 qL1 qL2 qL0 qd2 qt4 qu4 qw4 qx4 qf3 qG1 qG2 qG3 cI cJ cZ cB cT d_n d_for t_cl t_ln t_pt t_code t_st t_en u_cl u_ln u_pt u_code u_st u_en w_cl w_ln w_pt w_code w_st w_en x_cl x_ln x_pt x_code x_st x_en f_row f_fears r_tx r_rul o_l_names o_l_stack) o_r True) A) ([.ref qL0, .int p1, .int p2, .ref qf0, .int p4, .int p5] : List Value).toArray s 0 0 A) (F0 m 48 ls [.ref qu0]) := by
    intro l_names l_stack x2 x4 x5 H locs ls hf hP hD hS hl
    unfold f_X3_rule_48_1 at hf
    refine lv_astore (lv' := [(6, .ref qu0), (0, .ref qL0), (2, .int x2), (3, .ref qf0), (4, .int x4), (5, .int x5)]) hx hb dX3_rule_48 hl (by decide) rfl (fun ls hl => ?_)
    refine lv_aload hx hb dX3_rule_50 (lv_at hl 0 rfl) ?_
    refine lv_ifnull hx hb dX3_rule_52 ?_
    refine lv_aload hx hb dX3_rule_55 (lv_at hl 0 rfl) ?_
    refine lv_iload_n hx hb dX3_rule_57 rfl (lv_at hl 2 rfl) ?_
    obtain ⟨r58, hg58, hf⟩ := ob1_some hf
    refine mcV_i (wr := [(qd0, .inr (2, [.int d_n, .ref qd1, .ref qd2])), (qd1, .inl (cI, 8, .inl d_for)), (qt0, .inr (9, [.int t_cl, .int t_ln, .int t_pt, .ref qt1, .ref qt2, .ref qt3, .ref qt4])), (qt1, .inl (cI, 301, .inl t_code)), (qt2, .inl (cI, 4, .inl t_st)), (qt3, .inl (cI, 4, .inl t_en)), (qu1, .inl (cI, 301, .inl u_code)), (qu3, .inl (cI, 4, .inl u_en)), (qw0, .inr (9, [.int w_cl, .int w_ln, .int w_pt, .ref qw1, .ref qw2, .ref qw3, .ref qw4])), (qw1, .inl (cI, 301, .inl w_code)), (qw2, .inl (cI, 4, .inl w_st)), (qw3, .inl (cI, 4, .inl w_en)), (qx0, .inr (9, [.int x_cl, .int x_ln, .int x_pt, .ref qx1, .ref qx2, .ref qx3, .ref qx4])), (qx1, .inl (cI, 301, .inl x_code)), (qx2, .inl (cI, 4, .inl x_st)), (qx3, .inl (cI, 4, .inl x_en)), (qT, .inl (cT, 4, .inr (.inr (.inr (.inr (fT qt0 qu0 qw0 qx0)))))), (qf0, .inr (1, [.ref qf1, .ref qf2, .ref qf3])), (qf1, .inl (cI, 76, .inl f_row)), (qf2, .inl (cI, 6, .inl f_fears)), (qr0, .inr (6, [.ref qd0, .ref qG1, .ref qG2, .ref qG3, .int r_tx, .int r_rul])), (qL1, .inl (cI, 10, .inl l_names)), (qL2, .inl (cI, 64, .inl l_stack)), (qL0, .inr (3, [.ref qr0, .ref qT, .ref qL1, .ref qL2]))]) (As := [.int x2]) (rest := []) hx hb hml hown hts hK hP hD hS hA (k_X9_begun l N D cI cJ cZ cB cT qu0 qu2 qu1 qu3 qu4 u_cl u_ln u_pt u_st x2 r58 hg58) (kwX3_34 hts rfl rfl ⟨Nat.le_of_ble_eq_true rfl, Nat.le_of_ble_eq_true rfl⟩) [6, 8] [0, 1, 2, 3, 4, 5, 7, 9, 10, 11, 12, 13, 14, 15, 16, 17, 18, 19, 20, 21, 22, 23, 24, 25] rfl rfl rfl (by decide) rfl 0 rfl rfl rfl rfl hl.1 rfl (Nat.le_of_ble_eq_true rfl) dX3_rule_58 ⟨Nat.zero_le _, Nat.zero_le _⟩ (fun hB58 H locs hP hD hS => ?_)
    have hP := mP_sub (wc := (W_LW_0t1_3t6_8t11_13t16_18t21_23t26_31t34 qd0 qd1 qt0 qt1 qt2 qt3 qu0 qu1 qu2 qu3 qw0 qw1 qw2 qw3 qx0 qx1 qx2 qx3 qT qf0 qf1 qf2 qr0 qL1 qL2 qL0 qd2 qt4 qu4 qw4 qx4 qf3 qG1 qG2 qG3 cI cJ cZ cB cT d_n d_for t_cl t_ln t_pt t_code t_st t_en u_cl u_ln u_pt u_code u_st u_en w_cl w_ln w_pt w_code w_st w_en x_cl x_ln x_pt x_code x_st x_en f_row f_fears r_tx r_rul l_names l_stack)) hP [0, 1, 2, 3, 4, 5, 24, 6, 25, 7, 8, 9, 10, 11, 12, 13, 14, 15, 16, 17, 18, 19, 20, 21, 22, 23] rfl
    have hD := hD.sub (ws' := (W_LW_0t1_3t6_8t11_13t16_18t21_23t26_31t34 qd0 qd1 qt0 qt1 qt2 qt3 qu0 qu1 qu2 qu3 qw0 qw1 qw2 qw3 qx0 qx1 qx2 qx3 qT qf0 qf1 qf2 qr0 qL1 qL2 qL0 qd2 qt4 qu4 qw4 qx4 qf3 qG1 qG2 qG3 cI cJ cZ cB cT d_n d_for t_cl t_ln t_pt t_code t_st t_en u_cl u_ln u_pt u_code u_st u_en w_cl w_ln w_pt w_code w_st w_en x_cl x_ln x_pt x_code x_st x_en f_row f_fears r_tx r_rul l_names l_stack)) [0, 1, 2, 3, 4, 5, 24, 6, 25, 7, 8, 9, 10, 11, 12, 13, 14, 15, 16, 17, 18, 19, 20, 21, 22, 23] rfl rfl
    refine xif_eq hx hb 93 dX3_rule_61 (by decide) hf (fun hf => ?_) (fun hf => ?_)
    · exact b93 l_names l_stack x2 x4 x5 _ _ _ hf hP hD hS (lv_sub hl [1, 2, 3, 4, 5] rfl)
    · refine lv_aload_n hx hb dX3_rule_64 rfl (lv_at hl 1 rfl) ?_
      refine lv_aload_n hx hb dX3_rule_65 rfl (lv_at hl 3 rfl) ?_
      refine lv_iload hx hb dX3_rule_66 (lv_at hl 4 rfl) ?_
      refine lv_iload hx hb dX3_rule_68 (lv_at hl 5 rfl) ?_
      obtain ⟨l_names_70, hg70, hf⟩ := ob1_some hf
      refine mcV_v (wr := [(qt0, .inr (9, [.int t_cl, .int t_ln, .int t_pt, .ref qt1, .ref qt2, .ref qt3, .ref qt4])), (qt1, .inl (cI, 301, .inl t_code)), (qt2, .inl (cI, 4, .inl t_st)), (qt3, .inl (cI, 4, .inl t_en)), (qu0, .inr (9, [.int u_cl, .int u_ln, .int u_pt, .ref qu1, .ref qu2, .ref qu3, .ref qu4])), (qu1, .inl (cI, 301, .inl u_code)), (qu2, .inl (cI, 4, .inl u_st)), (qu3, .inl (cI, 4, .inl u_en)), (qw0, .inr (9, [.int w_cl, .int w_ln, .int w_pt, .ref qw1, .ref qw2, .ref qw3, .ref qw4])), (qw1, .inl (cI, 301, .inl w_code)), (qw2, .inl (cI, 4, .inl w_st)), (qw3, .inl (cI, 4, .inl w_en)), (qx0, .inr (9, [.int x_cl, .int x_ln, .int x_pt, .ref qx1, .ref qx2, .ref qx3, .ref qx4])), (qx1, .inl (cI, 301, .inl x_code)), (qx2, .inl (cI, 4, .inl x_st)), (qx3, .inl (cI, 4, .inl x_en)), (qT, .inl (cT, 4, .inr (.inr (.inr (.inr (fT qt0 qu0 qw0 qx0)))))), (qL2, .inl (cI, 64, .inl l_stack))]) (As := [.ref qf0, .int x4, .int x5]) (rest := []) hx hb hml hown hts hK hP hD hS hA (k_X3_fillNames l N D cI cJ cZ cB cT qd0 qd1 qf0 qf1 qf2 qr0 qL1 qL0 qd2 qf3 qG1 qG2 qG3 qT qL2 d_n d_for f_row f_fears r_tx r_rul l_names x4 x5 l_names_70 hg70) (kwX3_40 hts rfl rfl ⟨Nat.le_of_ble_eq_true rfl, Nat.le_of_ble_eq_true rfl⟩) [0, 1, 19, 20, 21, 22, 23, 25] [2, 3, 4, 5, 6, 7, 8, 9, 10, 11, 12, 13, 14, 15, 16, 17, 18, 24] rfl rfl rfl (by decide) rfl 7 rfl rfl rfl rfl hl.1 rfl (Nat.le_of_ble_eq_true rfl) dX3_rule_70 ⟨Nat.zero_le _, Nat.zero_le _⟩ (fun H locs hP hD hS => ?_)
      have hP := mP_sub (wc := (W_LW_0t1_3t6_8t11_13t16_18t21_23t26_31t34 qd0 qd1 qt0 qt1 qt2 qt3 qu0 qu1 qu2 qu3 qw0 qw1 qw2 qw3 qx0 qx1 qx2 qx3 qT qf0 qf1 qf2 qr0 qL1 qL2 qL0 qd2 qt4 qu4 qw4 qx4 qf3 qG1 qG2 qG3 cI cJ cZ cB cT d_n d_for t_cl t_ln t_pt t_code t_st t_en u_cl u_ln u_pt u_code u_st u_en w_cl w_ln w_pt w_code w_st w_en x_cl x_ln x_pt x_code x_st x_en f_row f_fears r_tx r_rul l_names_70 l_stack)) hP [18, 19, 0, 1, 2, 3, 4, 5, 6, 7, 8, 9, 10, 11, 12, 13, 14, 15, 16, 20, 21, 22, 23, 24, 17, 25] rfl
      have hD := hD.sub (ws' := (W_LW_0t1_3t6_8t11_13t16_18t21_23t26_31t34 qd0 qd1 qt0 qt1 qt2 qt3 qu0 qu1 qu2 qu3 qw0 qw1 qw2 qw3 qx0 qx1 qx2 qx3 qT qf0 qf1 qf2 qr0 qL1 qL2 qL0 qd2 qt4 qu4 qw4 qx4 qf3 qG1 qG2 qG3 cI cJ cZ cB cT d_n d_for t_cl t_ln t_pt t_code t_st t_en u_cl u_ln u_pt u_code u_st u_en w_cl w_ln w_pt w_code w_st w_en x_cl x_ln x_pt x_code x_st x_en f_row f_fears r_tx r_rul l_names_70 l_stack)) [18, 19, 0, 1, 2, 3, 4, 5, 6, 7, 8, 9, 10, 11, 12, 13, 14, 15, 16, 20, 21, 22, 23, 24, 17, 25] rfl rfl
      refine lv_aload hx hb dX3_rule_73 (lv_at hl 0 rfl) ?_
      refine lv_iload_n hx hb dX3_rule_75 rfl (lv_at hl 2 rfl) ?_
      refine lv_aload_n hx hb dX3_rule_76 rfl (lv_at hl 1 rfl) ?_
      refine gfX3_11 hx hb hts hown hK hP 25 rfl rfl dX3_rule_77 ?_
      refine lv_aload_n hx hb dX3_rule_80 rfl (lv_at hl 3 rfl) ?_
      refine lv_aload_n hx hb dX3_rule_81 rfl (lv_at hl 1 rfl) ?_
      refine gfX3_15 hx hb hts hown hK hP 25 rfl rfl dX3_rule_82 ?_
      obtain ⟨r85, l_stack_85, hg85, hf⟩ := ob2_some hf
      refine mcV_i (wr := [(qd0, .inr (2, [.int d_n, .ref qd1, .ref qd2])), (qd1, .inl (cI, 8, .inl d_for)), (qt0, .inr (9, [.int t_cl, .int t_ln, .int t_pt, .ref qt1, .ref qt2, .ref qt3, .ref qt4])), (qt1, .inl (cI, 301, .inl t_code)), (qt2, .inl (cI, 4, .inl t_st)), (qt3, .inl (cI, 4, .inl t_en)), (qw0, .inr (9, [.int w_cl, .int w_ln, .int w_pt, .ref qw1, .ref qw2, .ref qw3, .ref qw4])), (qw1, .inl (cI, 301, .inl w_code)), (qw2, .inl (cI, 4, .inl w_st)), (qw3, .inl (cI, 4, .inl w_en)), (qx0, .inr (9, [.int x_cl, .int x_ln, .int x_pt, .ref qx1, .ref qx2, .ref qx3, .ref qx4])), (qx1, .inl (cI, 301, .inl x_code)), (qx2, .inl (cI, 4, .inl x_st)), (qx3, .inl (cI, 4, .inl x_en)), (qT, .inl (cT, 4, .inr (.inr (.inr (.inr (fT qt0 qu0 qw0 qx0)))))), (qr0, .inr (6, [.ref qd0, .ref qG1, .ref qG2, .ref qG3, .int r_tx, .int r_rul])), (qL0, .inr (3, [.ref qr0, .ref qT, .ref qL1, .ref qL2]))]) (As := [.int x2, .ref qL1, .ref qf0, .ref qL2]) (rest := []) hx hb hml hown hts hK hP hD hS hA (k_X9_value l N D cI cJ cZ cB cT qu0 qu1 qu2 qu3 qL1 qf0 qf1 qf2 qL2 qu4 qf3 u_cl u_ln u_pt u_code u_st u_en l_names_70 f_row f_fears l_stack x2 r85 l_stack_85 hg85) (kwX3_44 hts rfl rfl ⟨Nat.le_of_ble_eq_true rfl, Nat.le_of_ble_eq_true rfl⟩) [6, 7, 8, 9, 23, 19, 20, 21, 24] [0, 1, 2, 3, 4, 5, 10, 11, 12, 13, 14, 15, 16, 17, 18, 22, 25] rfl rfl rfl (by decide) rfl 0 rfl rfl rfl rfl hl.1 rfl (Nat.le_of_ble_eq_true rfl) dX3_rule_85 ⟨Nat.zero_le _, Nat.zero_le _⟩ (fun hB85 H locs hP hD hS => ?_)
      have hP := mP_sub (wc := (W_LW_0t1_3t6_8t11_13t16_18t21_23t26_31t34 qd0 qd1 qt0 qt1 qt2 qt3 qu0 qu1 qu2 qu3 qw0 qw1 qw2 qw3 qx0 qx1 qx2 qx3 qT qf0 qf1 qf2 qr0 qL1 qL2 qL0 qd2 qt4 qu4 qw4 qx4 qf3 qG1 qG2 qG3 cI cJ cZ cB cT d_n d_for t_cl t_ln t_pt t_code t_st t_en u_cl u_ln u_pt u_code u_st u_en w_cl w_ln w_pt w_code w_st w_en x_cl x_ln x_pt x_code x_st x_en f_row f_fears r_tx r_rul l_names_70 l_stack_85)) hP [0, 1, 2, 3, 4, 5, 17, 18, 19, 20, 6, 7, 8, 9, 10, 11, 12, 13, 14, 22, 23, 24, 15, 21, 25, 16] rfl
      have hD := hD.sub (ws' := (W_LW_0t1_3t6_8t11_13t16_18t21_23t26_31t34 qd0 qd1 qt0 qt1 qt2 qt3 qu0 qu1 qu2 qu3 qw0 qw1 qw2 qw3 qx0 qx1 qx2 qx3 qT qf0 qf1 qf2 qr0 qL1 qL2 qL0 qd2 qt4 qu4 qw4 qx4 qf3 qG1 qG2 qG3 cI cJ cZ cB cT d_n d_for t_cl t_ln t_pt t_code t_st t_en u_cl u_ln u_pt u_code u_st u_en w_cl w_ln w_pt w_code w_st w_en x_cl x_ln x_pt x_code x_st x_en f_row f_fears r_tx r_rul l_names_70 l_stack_85)) [0, 1, 2, 3, 4, 5, 17, 18, 19, 20, 6, 7, 8, 9, 10, 11, 12, 13, 14, 22, 23, 24, 15, 21, 25, 16] rfl rfl
      refine lv_istore (lv' := [(7, .int r85), (6, .ref qu0), (0, .ref qL0), (2, .int x2), (3, .ref qf0), (4, .int x4), (5, .int x5)]) hx hb dX3_rule_88 hl (by decide) rfl (fun ls hl => ?_)
      refine lv_goto (tgt := 105) hx hb dX3_rule_90 (by decide) ?_
      exact b105 l_names_70 l_stack_85 x2 r85 _ _ _ hf hP hD hS (lv_sub hl [3, 0] rfl)
  have b48_2 : ∀ (l_names : Nat → Int32) (l_stack : Nat → Int32) (x2 : Int32) (x4 : Int32) (x5 : Int32) (H : Heap) (locs : List Loc) (ls : Array Slot), f_X3_rule_48_2 N d_n d_for t_code t_st t_en u_code u_st u_en w_code w_st w_en x_code x_st x_en f_row f_fears r_tx l_names l_stack x2 x4 x5 = some (o_r, o_l_names, o_l_stack) → va_P D vwCl (W_LW_0t1_3t6_8t11_13t16_18t21_23t26_31t34 qd0 qd1 qt0 qt1 qt2 qt3 qu0 qu1 qu2 qu3 qw0 qw1 qw2 qw3 qx0 qx1 qx2 qx3 qT qf0 qf1 qf2 qr0 qL1 qL2 qL0 qd2 qt4 qu4 qw4 qx4 qf3 qG1 qG2 qG3 cI cJ cZ cB cT d_n d_for t_cl t_ln t_pt t_code t_st t_en u_cl u_ln u_pt u_code u_st u_en w_cl w_ln w_pt w_code w_st w_en x_cl x_ln x_pt x_code x_st x_en f_row f_fears r_tx r_rul l_names l_stack) H → va_D A (W_LW_0t1_3t6_8t11_13t16_18t21_23t26_31t34 qd0 qd1 qt0 qt1 qt2 qt3 qu0 qu1 qu2 qu3 qw0 qw1 qw2 qw3 qx0 qx1 qx2 qx3 qT qf0 qf1 qf2 qr0 qL1 qL2 qL0 qd2 qt4 qu4 qw4 qx4 qf3 qG1 qG2 qG3 cI cJ cZ cB cT d_n d_for t_cl t_ln t_pt t_code t_st t_en u_cl u_ln u_pt u_code u_st u_en w_cl w_ln w_pt w_code w_st w_en x_cl x_ln x_pt x_code x_st x_en f_row f_fears r_tx r_rul l_names l_stack) → va_S A s.heap H locs → lv_has ls 8 [(0, .ref qL0), (2, .int x2), (3, .ref qf0), (4, .int x4), (5, .int x5)] → W p l e ({ frames := 2, cells := 0, slots := 0, locals := 73 } : Room) s m ([.ref qL0, .int p1, .int p2, .ref qf0, .int p4, .int p5] : List Value).toArray below meth c H locs 0 0 (MQ below ((mQi D (W_LW_0t1_3t6_8t11_13t16_18t21_23t26_31t34 qd0 qd1 qt0 qt1 qt2 qt3 qu0 qu1 qu2 qu3 qw0 qw1 qw2 qw3 qx0 qx1 qx2 qx3 qT qf0 qf1 qf2 qr0 qL1 qL2 qL0 qd2 qt4 qu4 qw4 qx4 qf3 qG1 qG2 qG3 cI cJ cZ cB cT d_n d_for t_cl t_ln t_pt t_code t_st t_en u_cl u_ln u_pt u_code u_st u_en w_cl w_ln w_pt w_code w_st w_en x_cl x_ln x_pt x_code x_st x_en f_row f_fears r_tx r_rul o_l_names o_l_stack) o_r True) A) ([.ref qL0, .int p1, .int p2, .ref qf0, .int p4, .int p5] : List Value).toArray s 0 0 A) (F0 m 48 ls [.ref qw0]) := by
    intro l_names l_stack x2 x4 x5 H locs ls hf hP hD hS hl
    unfold f_X3_rule_48_2 at hf
    refine lv_astore (lv' := [(6, .ref qw0), (0, .ref qL0), (2, .int x2), (3, .ref qf0), (4, .int x4), (5, .int x5)]) hx hb dX3_rule_48 hl (by decide) rfl (fun ls hl => ?_)
    refine lv_aload hx hb dX3_rule_50 (lv_at hl 0 rfl) ?_
    refine lv_ifnull hx hb dX3_rule_52 ?_
    refine lv_aload hx hb dX3_rule_55 (lv_at hl 0 rfl) ?_
    refine lv_iload_n hx hb dX3_rule_57 rfl (lv_at hl 2 rfl) ?_
    obtain ⟨r58, hg58, hf⟩ := ob1_some hf
    refine mcV_i (wr := [(qd0, .inr (2, [.int d_n, .ref qd1, .ref qd2])), (qd1, .inl (cI, 8, .inl d_for)), (qt0, .inr (9, [.int t_cl, .int t_ln, .int t_pt, .ref qt1, .ref qt2, .ref qt3, .ref qt4])), (qt1, .inl (cI, 301, .inl t_code)), (qt2, .inl (cI, 4, .inl t_st)), (qt3, .inl (cI, 4, .inl t_en)), (qu0, .inr (9, [.int u_cl, .int u_ln, .int u_pt, .ref qu1, .ref qu2, .ref qu3, .ref qu4])), (qu1, .inl (cI, 301, .inl u_code)), (qu2, .inl (cI, 4, .inl u_st)), (qu3, .inl (cI, 4, .inl u_en)), (qw1, .inl (cI, 301, .inl w_code)), (qw3, .inl (cI, 4, .inl w_en)), (qx0, .inr (9, [.int x_cl, .int x_ln, .int x_pt, .ref qx1, .ref qx2, .ref qx3, .ref qx4])), (qx1, .inl (cI, 301, .inl x_code)), (qx2, .inl (cI, 4, .inl x_st)), (qx3, .inl (cI, 4, .inl x_en)), (qT, .inl (cT, 4, .inr (.inr (.inr (.inr (fT qt0 qu0 qw0 qx0)))))), (qf0, .inr (1, [.ref qf1, .ref qf2, .ref qf3])), (qf1, .inl (cI, 76, .inl f_row)), (qf2, .inl (cI, 6, .inl f_fears)), (qr0, .inr (6, [.ref qd0, .ref qG1, .ref qG2, .ref qG3, .int r_tx, .int r_rul])), (qL1, .inl (cI, 10, .inl l_names)), (qL2, .inl (cI, 64, .inl l_stack)), (qL0, .inr (3, [.ref qr0, .ref qT, .ref qL1, .ref qL2]))]) (As := [.int x2]) (rest := []) hx hb hml hown hts hK hP hD hS hA (k_X9_begun l N D cI cJ cZ cB cT qw0 qw2 qw1 qw3 qw4 w_cl w_ln w_pt w_st x2 r58 hg58) (kwX3_34 hts rfl rfl ⟨Nat.le_of_ble_eq_true rfl, Nat.le_of_ble_eq_true rfl⟩) [10, 12] [0, 1, 2, 3, 4, 5, 6, 7, 8, 9, 11, 13, 14, 15, 16, 17, 18, 19, 20, 21, 22, 23, 24, 25] rfl rfl rfl (by decide) rfl 0 rfl rfl rfl rfl hl.1 rfl (Nat.le_of_ble_eq_true rfl) dX3_rule_58 ⟨Nat.zero_le _, Nat.zero_le _⟩ (fun hB58 H locs hP hD hS => ?_)
    have hP := mP_sub (wc := (W_LW_0t1_3t6_8t11_13t16_18t21_23t26_31t34 qd0 qd1 qt0 qt1 qt2 qt3 qu0 qu1 qu2 qu3 qw0 qw1 qw2 qw3 qx0 qx1 qx2 qx3 qT qf0 qf1 qf2 qr0 qL1 qL2 qL0 qd2 qt4 qu4 qw4 qx4 qf3 qG1 qG2 qG3 cI cJ cZ cB cT d_n d_for t_cl t_ln t_pt t_code t_st t_en u_cl u_ln u_pt u_code u_st u_en w_cl w_ln w_pt w_code w_st w_en x_cl x_ln x_pt x_code x_st x_en f_row f_fears r_tx r_rul l_names l_stack)) hP [0, 1, 2, 3, 4, 5, 6, 7, 8, 9, 24, 10, 25, 11, 12, 13, 14, 15, 16, 17, 18, 19, 20, 21, 22, 23] rfl
    have hD := hD.sub (ws' := (W_LW_0t1_3t6_8t11_13t16_18t21_23t26_31t34 qd0 qd1 qt0 qt1 qt2 qt3 qu0 qu1 qu2 qu3 qw0 qw1 qw2 qw3 qx0 qx1 qx2 qx3 qT qf0 qf1 qf2 qr0 qL1 qL2 qL0 qd2 qt4 qu4 qw4 qx4 qf3 qG1 qG2 qG3 cI cJ cZ cB cT d_n d_for t_cl t_ln t_pt t_code t_st t_en u_cl u_ln u_pt u_code u_st u_en w_cl w_ln w_pt w_code w_st w_en x_cl x_ln x_pt x_code x_st x_en f_row f_fears r_tx r_rul l_names l_stack)) [0, 1, 2, 3, 4, 5, 6, 7, 8, 9, 24, 10, 25, 11, 12, 13, 14, 15, 16, 17, 18, 19, 20, 21, 22, 23] rfl rfl
    refine xif_eq hx hb 93 dX3_rule_61 (by decide) hf (fun hf => ?_) (fun hf => ?_)
    · exact b93 l_names l_stack x2 x4 x5 _ _ _ hf hP hD hS (lv_sub hl [1, 2, 3, 4, 5] rfl)
    · refine lv_aload_n hx hb dX3_rule_64 rfl (lv_at hl 1 rfl) ?_
      refine lv_aload_n hx hb dX3_rule_65 rfl (lv_at hl 3 rfl) ?_
      refine lv_iload hx hb dX3_rule_66 (lv_at hl 4 rfl) ?_
      refine lv_iload hx hb dX3_rule_68 (lv_at hl 5 rfl) ?_
      obtain ⟨l_names_70, hg70, hf⟩ := ob1_some hf
      refine mcV_v (wr := [(qt0, .inr (9, [.int t_cl, .int t_ln, .int t_pt, .ref qt1, .ref qt2, .ref qt3, .ref qt4])), (qt1, .inl (cI, 301, .inl t_code)), (qt2, .inl (cI, 4, .inl t_st)), (qt3, .inl (cI, 4, .inl t_en)), (qu0, .inr (9, [.int u_cl, .int u_ln, .int u_pt, .ref qu1, .ref qu2, .ref qu3, .ref qu4])), (qu1, .inl (cI, 301, .inl u_code)), (qu2, .inl (cI, 4, .inl u_st)), (qu3, .inl (cI, 4, .inl u_en)), (qw0, .inr (9, [.int w_cl, .int w_ln, .int w_pt, .ref qw1, .ref qw2, .ref qw3, .ref qw4])), (qw1, .inl (cI, 301, .inl w_code)), (qw2, .inl (cI, 4, .inl w_st)), (qw3, .inl (cI, 4, .inl w_en)), (qx0, .inr (9, [.int x_cl, .int x_ln, .int x_pt, .ref qx1, .ref qx2, .ref qx3, .ref qx4])), (qx1, .inl (cI, 301, .inl x_code)), (qx2, .inl (cI, 4, .inl x_st)), (qx3, .inl (cI, 4, .inl x_en)), (qT, .inl (cT, 4, .inr (.inr (.inr (.inr (fT qt0 qu0 qw0 qx0)))))), (qL2, .inl (cI, 64, .inl l_stack))]) (As := [.ref qf0, .int x4, .int x5]) (rest := []) hx hb hml hown hts hK hP hD hS hA (k_X3_fillNames l N D cI cJ cZ cB cT qd0 qd1 qf0 qf1 qf2 qr0 qL1 qL0 qd2 qf3 qG1 qG2 qG3 qT qL2 d_n d_for f_row f_fears r_tx r_rul l_names x4 x5 l_names_70 hg70) (kwX3_40 hts rfl rfl ⟨Nat.le_of_ble_eq_true rfl, Nat.le_of_ble_eq_true rfl⟩) [0, 1, 19, 20, 21, 22, 23, 25] [2, 3, 4, 5, 6, 7, 8, 9, 10, 11, 12, 13, 14, 15, 16, 17, 18, 24] rfl rfl rfl (by decide) rfl 7 rfl rfl rfl rfl hl.1 rfl (Nat.le_of_ble_eq_true rfl) dX3_rule_70 ⟨Nat.zero_le _, Nat.zero_le _⟩ (fun H locs hP hD hS => ?_)
      have hP := mP_sub (wc := (W_LW_0t1_3t6_8t11_13t16_18t21_23t26_31t34 qd0 qd1 qt0 qt1 qt2 qt3 qu0 qu1 qu2 qu3 qw0 qw1 qw2 qw3 qx0 qx1 qx2 qx3 qT qf0 qf1 qf2 qr0 qL1 qL2 qL0 qd2 qt4 qu4 qw4 qx4 qf3 qG1 qG2 qG3 cI cJ cZ cB cT d_n d_for t_cl t_ln t_pt t_code t_st t_en u_cl u_ln u_pt u_code u_st u_en w_cl w_ln w_pt w_code w_st w_en x_cl x_ln x_pt x_code x_st x_en f_row f_fears r_tx r_rul l_names_70 l_stack)) hP [18, 19, 0, 1, 2, 3, 4, 5, 6, 7, 8, 9, 10, 11, 12, 13, 14, 15, 16, 20, 21, 22, 23, 24, 17, 25] rfl
      have hD := hD.sub (ws' := (W_LW_0t1_3t6_8t11_13t16_18t21_23t26_31t34 qd0 qd1 qt0 qt1 qt2 qt3 qu0 qu1 qu2 qu3 qw0 qw1 qw2 qw3 qx0 qx1 qx2 qx3 qT qf0 qf1 qf2 qr0 qL1 qL2 qL0 qd2 qt4 qu4 qw4 qx4 qf3 qG1 qG2 qG3 cI cJ cZ cB cT d_n d_for t_cl t_ln t_pt t_code t_st t_en u_cl u_ln u_pt u_code u_st u_en w_cl w_ln w_pt w_code w_st w_en x_cl x_ln x_pt x_code x_st x_en f_row f_fears r_tx r_rul l_names_70 l_stack)) [18, 19, 0, 1, 2, 3, 4, 5, 6, 7, 8, 9, 10, 11, 12, 13, 14, 15, 16, 20, 21, 22, 23, 24, 17, 25] rfl rfl
      refine lv_aload hx hb dX3_rule_73 (lv_at hl 0 rfl) ?_
      refine lv_iload_n hx hb dX3_rule_75 rfl (lv_at hl 2 rfl) ?_
      refine lv_aload_n hx hb dX3_rule_76 rfl (lv_at hl 1 rfl) ?_
      refine gfX3_11 hx hb hts hown hK hP 25 rfl rfl dX3_rule_77 ?_
      refine lv_aload_n hx hb dX3_rule_80 rfl (lv_at hl 3 rfl) ?_
      refine lv_aload_n hx hb dX3_rule_81 rfl (lv_at hl 1 rfl) ?_
      refine gfX3_15 hx hb hts hown hK hP 25 rfl rfl dX3_rule_82 ?_
      obtain ⟨r85, l_stack_85, hg85, hf⟩ := ob2_some hf
      refine mcV_i (wr := [(qd0, .inr (2, [.int d_n, .ref qd1, .ref qd2])), (qd1, .inl (cI, 8, .inl d_for)), (qt0, .inr (9, [.int t_cl, .int t_ln, .int t_pt, .ref qt1, .ref qt2, .ref qt3, .ref qt4])), (qt1, .inl (cI, 301, .inl t_code)), (qt2, .inl (cI, 4, .inl t_st)), (qt3, .inl (cI, 4, .inl t_en)), (qu0, .inr (9, [.int u_cl, .int u_ln, .int u_pt, .ref qu1, .ref qu2, .ref qu3, .ref qu4])), (qu1, .inl (cI, 301, .inl u_code)), (qu2, .inl (cI, 4, .inl u_st)), (qu3, .inl (cI, 4, .inl u_en)), (qx0, .inr (9, [.int x_cl, .int x_ln, .int x_pt, .ref qx1, .ref qx2, .ref qx3, .ref qx4])), (qx1, .inl (cI, 301, .inl x_code)), (qx2, .inl (cI, 4, .inl x_st)), (qx3, .inl (cI, 4, .inl x_en)), (qT, .inl (cT, 4, .inr (.inr (.inr (.inr (fT qt0 qu0 qw0 qx0)))))), (qr0, .inr (6, [.ref qd0, .ref qG1, .ref qG2, .ref qG3, .int r_tx, .int r_rul])), (qL0, .inr (3, [.ref qr0, .ref qT, .ref qL1, .ref qL2]))]) (As := [.int x2, .ref qL1, .ref qf0, .ref qL2]) (rest := []) hx hb hml hown hts hK hP hD hS hA (k_X9_value l N D cI cJ cZ cB cT qw0 qw1 qw2 qw3 qL1 qf0 qf1 qf2 qL2 qw4 qf3 w_cl w_ln w_pt w_code w_st w_en l_names_70 f_row f_fears l_stack x2 r85 l_stack_85 hg85) (kwX3_44 hts rfl rfl ⟨Nat.le_of_ble_eq_true rfl, Nat.le_of_ble_eq_true rfl⟩) [10, 11, 12, 13, 23, 19, 20, 21, 24] [0, 1, 2, 3, 4, 5, 6, 7, 8, 9, 14, 15, 16, 17, 18, 22, 25] rfl rfl rfl (by decide) rfl 0 rfl rfl rfl rfl hl.1 rfl (Nat.le_of_ble_eq_true rfl) dX3_rule_85 ⟨Nat.zero_le _, Nat.zero_le _⟩ (fun hB85 H locs hP hD hS => ?_)
      have hP := mP_sub (wc := (W_LW_0t1_3t6_8t11_13t16_18t21_23t26_31t34 qd0 qd1 qt0 qt1 qt2 qt3 qu0 qu1 qu2 qu3 qw0 qw1 qw2 qw3 qx0 qx1 qx2 qx3 qT qf0 qf1 qf2 qr0 qL1 qL2 qL0 qd2 qt4 qu4 qw4 qx4 qf3 qG1 qG2 qG3 cI cJ cZ cB cT d_n d_for t_cl t_ln t_pt t_code t_st t_en u_cl u_ln u_pt u_code u_st u_en w_cl w_ln w_pt w_code w_st w_en x_cl x_ln x_pt x_code x_st x_en f_row f_fears r_tx r_rul l_names_70 l_stack_85)) hP [0, 1, 2, 3, 4, 5, 6, 7, 8, 9, 17, 18, 19, 20, 10, 11, 12, 13, 14, 22, 23, 24, 15, 21, 25, 16] rfl
      have hD := hD.sub (ws' := (W_LW_0t1_3t6_8t11_13t16_18t21_23t26_31t34 qd0 qd1 qt0 qt1 qt2 qt3 qu0 qu1 qu2 qu3 qw0 qw1 qw2 qw3 qx0 qx1 qx2 qx3 qT qf0 qf1 qf2 qr0 qL1 qL2 qL0 qd2 qt4 qu4 qw4 qx4 qf3 qG1 qG2 qG3 cI cJ cZ cB cT d_n d_for t_cl t_ln t_pt t_code t_st t_en u_cl u_ln u_pt u_code u_st u_en w_cl w_ln w_pt w_code w_st w_en x_cl x_ln x_pt x_code x_st x_en f_row f_fears r_tx r_rul l_names_70 l_stack_85)) [0, 1, 2, 3, 4, 5, 6, 7, 8, 9, 17, 18, 19, 20, 10, 11, 12, 13, 14, 22, 23, 24, 15, 21, 25, 16] rfl rfl
      refine lv_istore (lv' := [(7, .int r85), (6, .ref qw0), (0, .ref qL0), (2, .int x2), (3, .ref qf0), (4, .int x4), (5, .int x5)]) hx hb dX3_rule_88 hl (by decide) rfl (fun ls hl => ?_)
      refine lv_goto (tgt := 105) hx hb dX3_rule_90 (by decide) ?_
      exact b105 l_names_70 l_stack_85 x2 r85 _ _ _ hf hP hD hS (lv_sub hl [3, 0] rfl)
  have b48_3 : ∀ (l_names : Nat → Int32) (l_stack : Nat → Int32) (x2 : Int32) (x4 : Int32) (x5 : Int32) (H : Heap) (locs : List Loc) (ls : Array Slot), f_X3_rule_48_3 N d_n d_for t_code t_st t_en u_code u_st u_en w_code w_st w_en x_code x_st x_en f_row f_fears r_tx l_names l_stack x2 x4 x5 = some (o_r, o_l_names, o_l_stack) → va_P D vwCl (W_LW_0t1_3t6_8t11_13t16_18t21_23t26_31t34 qd0 qd1 qt0 qt1 qt2 qt3 qu0 qu1 qu2 qu3 qw0 qw1 qw2 qw3 qx0 qx1 qx2 qx3 qT qf0 qf1 qf2 qr0 qL1 qL2 qL0 qd2 qt4 qu4 qw4 qx4 qf3 qG1 qG2 qG3 cI cJ cZ cB cT d_n d_for t_cl t_ln t_pt t_code t_st t_en u_cl u_ln u_pt u_code u_st u_en w_cl w_ln w_pt w_code w_st w_en x_cl x_ln x_pt x_code x_st x_en f_row f_fears r_tx r_rul l_names l_stack) H → va_D A (W_LW_0t1_3t6_8t11_13t16_18t21_23t26_31t34 qd0 qd1 qt0 qt1 qt2 qt3 qu0 qu1 qu2 qu3 qw0 qw1 qw2 qw3 qx0 qx1 qx2 qx3 qT qf0 qf1 qf2 qr0 qL1 qL2 qL0 qd2 qt4 qu4 qw4 qx4 qf3 qG1 qG2 qG3 cI cJ cZ cB cT d_n d_for t_cl t_ln t_pt t_code t_st t_en u_cl u_ln u_pt u_code u_st u_en w_cl w_ln w_pt w_code w_st w_en x_cl x_ln x_pt x_code x_st x_en f_row f_fears r_tx r_rul l_names l_stack) → va_S A s.heap H locs → lv_has ls 8 [(0, .ref qL0), (2, .int x2), (3, .ref qf0), (4, .int x4), (5, .int x5)] → W p l e ({ frames := 2, cells := 0, slots := 0, locals := 73 } : Room) s m ([.ref qL0, .int p1, .int p2, .ref qf0, .int p4, .int p5] : List Value).toArray below meth c H locs 0 0 (MQ below ((mQi D (W_LW_0t1_3t6_8t11_13t16_18t21_23t26_31t34 qd0 qd1 qt0 qt1 qt2 qt3 qu0 qu1 qu2 qu3 qw0 qw1 qw2 qw3 qx0 qx1 qx2 qx3 qT qf0 qf1 qf2 qr0 qL1 qL2 qL0 qd2 qt4 qu4 qw4 qx4 qf3 qG1 qG2 qG3 cI cJ cZ cB cT d_n d_for t_cl t_ln t_pt t_code t_st t_en u_cl u_ln u_pt u_code u_st u_en w_cl w_ln w_pt w_code w_st w_en x_cl x_ln x_pt x_code x_st x_en f_row f_fears r_tx r_rul o_l_names o_l_stack) o_r True) A) ([.ref qL0, .int p1, .int p2, .ref qf0, .int p4, .int p5] : List Value).toArray s 0 0 A) (F0 m 48 ls [.ref qx0]) := by
    intro l_names l_stack x2 x4 x5 H locs ls hf hP hD hS hl
    unfold f_X3_rule_48_3 at hf
    refine lv_astore (lv' := [(6, .ref qx0), (0, .ref qL0), (2, .int x2), (3, .ref qf0), (4, .int x4), (5, .int x5)]) hx hb dX3_rule_48 hl (by decide) rfl (fun ls hl => ?_)
    refine lv_aload hx hb dX3_rule_50 (lv_at hl 0 rfl) ?_
    refine lv_ifnull hx hb dX3_rule_52 ?_
    refine lv_aload hx hb dX3_rule_55 (lv_at hl 0 rfl) ?_
    refine lv_iload_n hx hb dX3_rule_57 rfl (lv_at hl 2 rfl) ?_
    obtain ⟨r58, hg58, hf⟩ := ob1_some hf
    refine mcV_i (wr := [(qd0, .inr (2, [.int d_n, .ref qd1, .ref qd2])), (qd1, .inl (cI, 8, .inl d_for)), (qt0, .inr (9, [.int t_cl, .int t_ln, .int t_pt, .ref qt1, .ref qt2, .ref qt3, .ref qt4])), (qt1, .inl (cI, 301, .inl t_code)), (qt2, .inl (cI, 4, .inl t_st)), (qt3, .inl (cI, 4, .inl t_en)), (qu0, .inr (9, [.int u_cl, .int u_ln, .int u_pt, .ref qu1, .ref qu2, .ref qu3, .ref qu4])), (qu1, .inl (cI, 301, .inl u_code)), (qu2, .inl (cI, 4, .inl u_st)), (qu3, .inl (cI, 4, .inl u_en)), (qw0, .inr (9, [.int w_cl, .int w_ln, .int w_pt, .ref qw1, .ref qw2, .ref qw3, .ref qw4])), (qw1, .inl (cI, 301, .inl w_code)), (qw2, .inl (cI, 4, .inl w_st)), (qw3, .inl (cI, 4, .inl w_en)), (qx1, .inl (cI, 301, .inl x_code)), (qx3, .inl (cI, 4, .inl x_en)), (qT, .inl (cT, 4, .inr (.inr (.inr (.inr (fT qt0 qu0 qw0 qx0)))))), (qf0, .inr (1, [.ref qf1, .ref qf2, .ref qf3])), (qf1, .inl (cI, 76, .inl f_row)), (qf2, .inl (cI, 6, .inl f_fears)), (qr0, .inr (6, [.ref qd0, .ref qG1, .ref qG2, .ref qG3, .int r_tx, .int r_rul])), (qL1, .inl (cI, 10, .inl l_names)), (qL2, .inl (cI, 64, .inl l_stack)), (qL0, .inr (3, [.ref qr0, .ref qT, .ref qL1, .ref qL2]))]) (As := [.int x2]) (rest := []) hx hb hml hown hts hK hP hD hS hA (k_X9_begun l N D cI cJ cZ cB cT qx0 qx2 qx1 qx3 qx4 x_cl x_ln x_pt x_st x2 r58 hg58) (kwX3_34 hts rfl rfl ⟨Nat.le_of_ble_eq_true rfl, Nat.le_of_ble_eq_true rfl⟩) [14, 16] [0, 1, 2, 3, 4, 5, 6, 7, 8, 9, 10, 11, 12, 13, 15, 17, 18, 19, 20, 21, 22, 23, 24, 25] rfl rfl rfl (by decide) rfl 0 rfl rfl rfl rfl hl.1 rfl (Nat.le_of_ble_eq_true rfl) dX3_rule_58 ⟨Nat.zero_le _, Nat.zero_le _⟩ (fun hB58 H locs hP hD hS => ?_)
    have hP := mP_sub (wc := (W_LW_0t1_3t6_8t11_13t16_18t21_23t26_31t34 qd0 qd1 qt0 qt1 qt2 qt3 qu0 qu1 qu2 qu3 qw0 qw1 qw2 qw3 qx0 qx1 qx2 qx3 qT qf0 qf1 qf2 qr0 qL1 qL2 qL0 qd2 qt4 qu4 qw4 qx4 qf3 qG1 qG2 qG3 cI cJ cZ cB cT d_n d_for t_cl t_ln t_pt t_code t_st t_en u_cl u_ln u_pt u_code u_st u_en w_cl w_ln w_pt w_code w_st w_en x_cl x_ln x_pt x_code x_st x_en f_row f_fears r_tx r_rul l_names l_stack)) hP [0, 1, 2, 3, 4, 5, 6, 7, 8, 9, 10, 11, 12, 13, 24, 14, 25, 15, 16, 17, 18, 19, 20, 21, 22, 23] rfl
    have hD := hD.sub (ws' := (W_LW_0t1_3t6_8t11_13t16_18t21_23t26_31t34 qd0 qd1 qt0 qt1 qt2 qt3 qu0 qu1 qu2 qu3 qw0 qw1 qw2 qw3 qx0 qx1 qx2 qx3 qT qf0 qf1 qf2 qr0 qL1 qL2 qL0 qd2 qt4 qu4 qw4 qx4 qf3 qG1 qG2 qG3 cI cJ cZ cB cT d_n d_for t_cl t_ln t_pt t_code t_st t_en u_cl u_ln u_pt u_code u_st u_en w_cl w_ln w_pt w_code w_st w_en x_cl x_ln x_pt x_code x_st x_en f_row f_fears r_tx r_rul l_names l_stack)) [0, 1, 2, 3, 4, 5, 6, 7, 8, 9, 10, 11, 12, 13, 24, 14, 25, 15, 16, 17, 18, 19, 20, 21, 22, 23] rfl rfl
    refine xif_eq hx hb 93 dX3_rule_61 (by decide) hf (fun hf => ?_) (fun hf => ?_)
    · exact b93 l_names l_stack x2 x4 x5 _ _ _ hf hP hD hS (lv_sub hl [1, 2, 3, 4, 5] rfl)
    · refine lv_aload_n hx hb dX3_rule_64 rfl (lv_at hl 1 rfl) ?_
      refine lv_aload_n hx hb dX3_rule_65 rfl (lv_at hl 3 rfl) ?_
      refine lv_iload hx hb dX3_rule_66 (lv_at hl 4 rfl) ?_
      refine lv_iload hx hb dX3_rule_68 (lv_at hl 5 rfl) ?_
      obtain ⟨l_names_70, hg70, hf⟩ := ob1_some hf
      refine mcV_v (wr := [(qt0, .inr (9, [.int t_cl, .int t_ln, .int t_pt, .ref qt1, .ref qt2, .ref qt3, .ref qt4])), (qt1, .inl (cI, 301, .inl t_code)), (qt2, .inl (cI, 4, .inl t_st)), (qt3, .inl (cI, 4, .inl t_en)), (qu0, .inr (9, [.int u_cl, .int u_ln, .int u_pt, .ref qu1, .ref qu2, .ref qu3, .ref qu4])), (qu1, .inl (cI, 301, .inl u_code)), (qu2, .inl (cI, 4, .inl u_st)), (qu3, .inl (cI, 4, .inl u_en)), (qw0, .inr (9, [.int w_cl, .int w_ln, .int w_pt, .ref qw1, .ref qw2, .ref qw3, .ref qw4])), (qw1, .inl (cI, 301, .inl w_code)), (qw2, .inl (cI, 4, .inl w_st)), (qw3, .inl (cI, 4, .inl w_en)), (qx0, .inr (9, [.int x_cl, .int x_ln, .int x_pt, .ref qx1, .ref qx2, .ref qx3, .ref qx4])), (qx1, .inl (cI, 301, .inl x_code)), (qx2, .inl (cI, 4, .inl x_st)), (qx3, .inl (cI, 4, .inl x_en)), (qT, .inl (cT, 4, .inr (.inr (.inr (.inr (fT qt0 qu0 qw0 qx0)))))), (qL2, .inl (cI, 64, .inl l_stack))]) (As := [.ref qf0, .int x4, .int x5]) (rest := []) hx hb hml hown hts hK hP hD hS hA (k_X3_fillNames l N D cI cJ cZ cB cT qd0 qd1 qf0 qf1 qf2 qr0 qL1 qL0 qd2 qf3 qG1 qG2 qG3 qT qL2 d_n d_for f_row f_fears r_tx r_rul l_names x4 x5 l_names_70 hg70) (kwX3_40 hts rfl rfl ⟨Nat.le_of_ble_eq_true rfl, Nat.le_of_ble_eq_true rfl⟩) [0, 1, 19, 20, 21, 22, 23, 25] [2, 3, 4, 5, 6, 7, 8, 9, 10, 11, 12, 13, 14, 15, 16, 17, 18, 24] rfl rfl rfl (by decide) rfl 7 rfl rfl rfl rfl hl.1 rfl (Nat.le_of_ble_eq_true rfl) dX3_rule_70 ⟨Nat.zero_le _, Nat.zero_le _⟩ (fun H locs hP hD hS => ?_)
      have hP := mP_sub (wc := (W_LW_0t1_3t6_8t11_13t16_18t21_23t26_31t34 qd0 qd1 qt0 qt1 qt2 qt3 qu0 qu1 qu2 qu3 qw0 qw1 qw2 qw3 qx0 qx1 qx2 qx3 qT qf0 qf1 qf2 qr0 qL1 qL2 qL0 qd2 qt4 qu4 qw4 qx4 qf3 qG1 qG2 qG3 cI cJ cZ cB cT d_n d_for t_cl t_ln t_pt t_code t_st t_en u_cl u_ln u_pt u_code u_st u_en w_cl w_ln w_pt w_code w_st w_en x_cl x_ln x_pt x_code x_st x_en f_row f_fears r_tx r_rul l_names_70 l_stack)) hP [18, 19, 0, 1, 2, 3, 4, 5, 6, 7, 8, 9, 10, 11, 12, 13, 14, 15, 16, 20, 21, 22, 23, 24, 17, 25] rfl
      have hD := hD.sub (ws' := (W_LW_0t1_3t6_8t11_13t16_18t21_23t26_31t34 qd0 qd1 qt0 qt1 qt2 qt3 qu0 qu1 qu2 qu3 qw0 qw1 qw2 qw3 qx0 qx1 qx2 qx3 qT qf0 qf1 qf2 qr0 qL1 qL2 qL0 qd2 qt4 qu4 qw4 qx4 qf3 qG1 qG2 qG3 cI cJ cZ cB cT d_n d_for t_cl t_ln t_pt t_code t_st t_en u_cl u_ln u_pt u_code u_st u_en w_cl w_ln w_pt w_code w_st w_en x_cl x_ln x_pt x_code x_st x_en f_row f_fears r_tx r_rul l_names_70 l_stack)) [18, 19, 0, 1, 2, 3, 4, 5, 6, 7, 8, 9, 10, 11, 12, 13, 14, 15, 16, 20, 21, 22, 23, 24, 17, 25] rfl rfl
      refine lv_aload hx hb dX3_rule_73 (lv_at hl 0 rfl) ?_
      refine lv_iload_n hx hb dX3_rule_75 rfl (lv_at hl 2 rfl) ?_
      refine lv_aload_n hx hb dX3_rule_76 rfl (lv_at hl 1 rfl) ?_
      refine gfX3_11 hx hb hts hown hK hP 25 rfl rfl dX3_rule_77 ?_
      refine lv_aload_n hx hb dX3_rule_80 rfl (lv_at hl 3 rfl) ?_
      refine lv_aload_n hx hb dX3_rule_81 rfl (lv_at hl 1 rfl) ?_
      refine gfX3_15 hx hb hts hown hK hP 25 rfl rfl dX3_rule_82 ?_
      obtain ⟨r85, l_stack_85, hg85, hf⟩ := ob2_some hf
      refine mcV_i (wr := [(qd0, .inr (2, [.int d_n, .ref qd1, .ref qd2])), (qd1, .inl (cI, 8, .inl d_for)), (qt0, .inr (9, [.int t_cl, .int t_ln, .int t_pt, .ref qt1, .ref qt2, .ref qt3, .ref qt4])), (qt1, .inl (cI, 301, .inl t_code)), (qt2, .inl (cI, 4, .inl t_st)), (qt3, .inl (cI, 4, .inl t_en)), (qu0, .inr (9, [.int u_cl, .int u_ln, .int u_pt, .ref qu1, .ref qu2, .ref qu3, .ref qu4])), (qu1, .inl (cI, 301, .inl u_code)), (qu2, .inl (cI, 4, .inl u_st)), (qu3, .inl (cI, 4, .inl u_en)), (qw0, .inr (9, [.int w_cl, .int w_ln, .int w_pt, .ref qw1, .ref qw2, .ref qw3, .ref qw4])), (qw1, .inl (cI, 301, .inl w_code)), (qw2, .inl (cI, 4, .inl w_st)), (qw3, .inl (cI, 4, .inl w_en)), (qT, .inl (cT, 4, .inr (.inr (.inr (.inr (fT qt0 qu0 qw0 qx0)))))), (qr0, .inr (6, [.ref qd0, .ref qG1, .ref qG2, .ref qG3, .int r_tx, .int r_rul])), (qL0, .inr (3, [.ref qr0, .ref qT, .ref qL1, .ref qL2]))]) (As := [.int x2, .ref qL1, .ref qf0, .ref qL2]) (rest := []) hx hb hml hown hts hK hP hD hS hA (k_X9_value l N D cI cJ cZ cB cT qx0 qx1 qx2 qx3 qL1 qf0 qf1 qf2 qL2 qx4 qf3 x_cl x_ln x_pt x_code x_st x_en l_names_70 f_row f_fears l_stack x2 r85 l_stack_85 hg85) (kwX3_44 hts rfl rfl ⟨Nat.le_of_ble_eq_true rfl, Nat.le_of_ble_eq_true rfl⟩) [14, 15, 16, 17, 23, 19, 20, 21, 24] [0, 1, 2, 3, 4, 5, 6, 7, 8, 9, 10, 11, 12, 13, 18, 22, 25] rfl rfl rfl (by decide) rfl 0 rfl rfl rfl rfl hl.1 rfl (Nat.le_of_ble_eq_true rfl) dX3_rule_85 ⟨Nat.zero_le _, Nat.zero_le _⟩ (fun hB85 H locs hP hD hS => ?_)
      have hP := mP_sub (wc := (W_LW_0t1_3t6_8t11_13t16_18t21_23t26_31t34 qd0 qd1 qt0 qt1 qt2 qt3 qu0 qu1 qu2 qu3 qw0 qw1 qw2 qw3 qx0 qx1 qx2 qx3 qT qf0 qf1 qf2 qr0 qL1 qL2 qL0 qd2 qt4 qu4 qw4 qx4 qf3 qG1 qG2 qG3 cI cJ cZ cB cT d_n d_for t_cl t_ln t_pt t_code t_st t_en u_cl u_ln u_pt u_code u_st u_en w_cl w_ln w_pt w_code w_st w_en x_cl x_ln x_pt x_code x_st x_en f_row f_fears r_tx r_rul l_names_70 l_stack_85)) hP [0, 1, 2, 3, 4, 5, 6, 7, 8, 9, 10, 11, 12, 13, 17, 18, 19, 20, 14, 22, 23, 24, 15, 21, 25, 16] rfl
      have hD := hD.sub (ws' := (W_LW_0t1_3t6_8t11_13t16_18t21_23t26_31t34 qd0 qd1 qt0 qt1 qt2 qt3 qu0 qu1 qu2 qu3 qw0 qw1 qw2 qw3 qx0 qx1 qx2 qx3 qT qf0 qf1 qf2 qr0 qL1 qL2 qL0 qd2 qt4 qu4 qw4 qx4 qf3 qG1 qG2 qG3 cI cJ cZ cB cT d_n d_for t_cl t_ln t_pt t_code t_st t_en u_cl u_ln u_pt u_code u_st u_en w_cl w_ln w_pt w_code w_st w_en x_cl x_ln x_pt x_code x_st x_en f_row f_fears r_tx r_rul l_names_70 l_stack_85)) [0, 1, 2, 3, 4, 5, 6, 7, 8, 9, 10, 11, 12, 13, 17, 18, 19, 20, 14, 22, 23, 24, 15, 21, 25, 16] rfl rfl
      refine lv_istore (lv' := [(7, .int r85), (6, .ref qx0), (0, .ref qL0), (2, .int x2), (3, .ref qf0), (4, .int x4), (5, .int x5)]) hx hb dX3_rule_88 hl (by decide) rfl (fun ls hl => ?_)
      refine lv_goto (tgt := 105) hx hb dX3_rule_90 (by decide) ?_
      exact b105 l_names_70 l_stack_85 x2 r85 _ _ _ hf hP hD hS (lv_sub hl [3, 0] rfl)
  have b48_4 : ∀ (l_names : Nat → Int32) (l_stack : Nat → Int32) (x2 : Int32) (x4 : Int32) (x5 : Int32) (H : Heap) (locs : List Loc) (ls : Array Slot), f_X3_rule_48_4 N d_n d_for t_code t_st t_en u_code u_st u_en w_code w_st w_en x_code x_st x_en f_row f_fears r_tx l_names l_stack x2 x4 x5 = some (o_r, o_l_names, o_l_stack) → va_P D vwCl (W_LW_0t1_3t6_8t11_13t16_18t21_23t26_31t34 qd0 qd1 qt0 qt1 qt2 qt3 qu0 qu1 qu2 qu3 qw0 qw1 qw2 qw3 qx0 qx1 qx2 qx3 qT qf0 qf1 qf2 qr0 qL1 qL2 qL0 qd2 qt4 qu4 qw4 qx4 qf3 qG1 qG2 qG3 cI cJ cZ cB cT d_n d_for t_cl t_ln t_pt t_code t_st t_en u_cl u_ln u_pt u_code u_st u_en w_cl w_ln w_pt w_code w_st w_en x_cl x_ln x_pt x_code x_st x_en f_row f_fears r_tx r_rul l_names l_stack) H → va_D A (W_LW_0t1_3t6_8t11_13t16_18t21_23t26_31t34 qd0 qd1 qt0 qt1 qt2 qt3 qu0 qu1 qu2 qu3 qw0 qw1 qw2 qw3 qx0 qx1 qx2 qx3 qT qf0 qf1 qf2 qr0 qL1 qL2 qL0 qd2 qt4 qu4 qw4 qx4 qf3 qG1 qG2 qG3 cI cJ cZ cB cT d_n d_for t_cl t_ln t_pt t_code t_st t_en u_cl u_ln u_pt u_code u_st u_en w_cl w_ln w_pt w_code w_st w_en x_cl x_ln x_pt x_code x_st x_en f_row f_fears r_tx r_rul l_names l_stack) → va_S A s.heap H locs → lv_has ls 8 [(0, .ref qL0), (2, .int x2), (3, .ref qf0), (4, .int x4), (5, .int x5)] → W p l e ({ frames := 2, cells := 0, slots := 0, locals := 73 } : Room) s m ([.ref qL0, .int p1, .int p2, .ref qf0, .int p4, .int p5] : List Value).toArray below meth c H locs 0 0 (MQ below ((mQi D (W_LW_0t1_3t6_8t11_13t16_18t21_23t26_31t34 qd0 qd1 qt0 qt1 qt2 qt3 qu0 qu1 qu2 qu3 qw0 qw1 qw2 qw3 qx0 qx1 qx2 qx3 qT qf0 qf1 qf2 qr0 qL1 qL2 qL0 qd2 qt4 qu4 qw4 qx4 qf3 qG1 qG2 qG3 cI cJ cZ cB cT d_n d_for t_cl t_ln t_pt t_code t_st t_en u_cl u_ln u_pt u_code u_st u_en w_cl w_ln w_pt w_code w_st w_en x_cl x_ln x_pt x_code x_st x_en f_row f_fears r_tx r_rul o_l_names o_l_stack) o_r True) A) ([.ref qL0, .int p1, .int p2, .ref qf0, .int p4, .int p5] : List Value).toArray s 0 0 A) (F0 m 48 ls [.null]) := by
    intro l_names l_stack x2 x4 x5 H locs ls hf hP hD hS hl
    unfold f_X3_rule_48_4 at hf
    refine lv_astoreN (lv' := [(6, .null), (0, .ref qL0), (2, .int x2), (3, .ref qf0), (4, .int x4), (5, .int x5)]) hx hb dX3_rule_48 hl (by decide) rfl (fun ls hl => ?_)
    refine lv_aloadN hx hb dX3_rule_50 (lv_at hl 0 rfl) ?_
    refine lv_ifnullN (tgt := 93) hx hb dX3_rule_52 (by decide) ?_
    exact b93 l_names l_stack x2 x4 x5 _ _ _ hf hP hD hS (lv_sub hl [1, 2, 3, 4, 5] rfl)
  have b47 : ∀ (l_names : Nat → Int32) (l_stack : Nat → Int32) (x2 : Int32) (x4 : Int32) (x5 : Int32) (H : Heap) (locs : List Loc) (ls : Array Slot), f_X3_rule_47 N d_n d_for t_code t_st t_en u_code u_st u_en w_code w_st w_en x_code x_st x_en f_row f_fears r_tx l_names l_stack x2 x4 x5 = some (o_r, o_l_names, o_l_stack) → va_P D vwCl (W_LW_0t1_3t6_8t11_13t16_18t21_23t26_31t34 qd0 qd1 qt0 qt1 qt2 qt3 qu0 qu1 qu2 qu3 qw0 qw1 qw2 qw3 qx0 qx1 qx2 qx3 qT qf0 qf1 qf2 qr0 qL1 qL2 qL0 qd2 qt4 qu4 qw4 qx4 qf3 qG1 qG2 qG3 cI cJ cZ cB cT d_n d_for t_cl t_ln t_pt t_code t_st t_en u_cl u_ln u_pt u_code u_st u_en w_cl w_ln w_pt w_code w_st w_en x_cl x_ln x_pt x_code x_st x_en f_row f_fears r_tx r_rul l_names l_stack) H → va_D A (W_LW_0t1_3t6_8t11_13t16_18t21_23t26_31t34 qd0 qd1 qt0 qt1 qt2 qt3 qu0 qu1 qu2 qu3 qw0 qw1 qw2 qw3 qx0 qx1 qx2 qx3 qT qf0 qf1 qf2 qr0 qL1 qL2 qL0 qd2 qt4 qu4 qw4 qx4 qf3 qG1 qG2 qG3 cI cJ cZ cB cT d_n d_for t_cl t_ln t_pt t_code t_st t_en u_cl u_ln u_pt u_code u_st u_en w_cl w_ln w_pt w_code w_st w_en x_cl x_ln x_pt x_code x_st x_en f_row f_fears r_tx r_rul l_names l_stack) → va_S A s.heap H locs → lv_has ls 8 [(0, .ref qL0), (2, .int x2), (3, .ref qf0), (4, .int x4), (5, .int x5)] → W p l e ({ frames := 2, cells := 0, slots := 0, locals := 73 } : Room) s m ([.ref qL0, .int p1, .int p2, .ref qf0, .int p4, .int p5] : List Value).toArray below meth c H locs 0 0 (MQ below ((mQi D (W_LW_0t1_3t6_8t11_13t16_18t21_23t26_31t34 qd0 qd1 qt0 qt1 qt2 qt3 qu0 qu1 qu2 qu3 qw0 qw1 qw2 qw3 qx0 qx1 qx2 qx3 qT qf0 qf1 qf2 qr0 qL1 qL2 qL0 qd2 qt4 qu4 qw4 qx4 qf3 qG1 qG2 qG3 cI cJ cZ cB cT d_n d_for t_cl t_ln t_pt t_code t_st t_en u_cl u_ln u_pt u_code u_st u_en w_cl w_ln w_pt w_code w_st w_en x_cl x_ln x_pt x_code x_st x_en f_row f_fears r_tx r_rul o_l_names o_l_stack) o_r True) A) ([.ref qL0, .int p1, .int p2, .ref qf0, .int p4, .int p5] : List Value).toArray s 0 0 A) (F0 m 47 ls []) := by
    intro l_names l_stack x2 x4 x5 H locs ls hf hP hD hS hl
    unfold f_X3_rule_47 at hf
    refine lv_null hx hb dX3_rule_47 ?_
    exact b48_4 l_names l_stack x2 x4 x5 _ _ _ hf hP hD hS (lv_sub hl [0, 1, 2, 3, 4] rfl)
  unfold f_X3_rule at hf
  refine lv_iload_n hx hb dX3_rule_0 rfl (lv_at hl 2 rfl) ?_
  refine xif_lt hx hb 12 dX3_rule_1 (by decide) hf (fun hf => ?_) (fun hf => ?_)
  · refine lv_iconst (v := (0 : Int32)) hx hb dX3_rule_12 (by decide) ?_
    cases hf
    exact mret_i hx hb hr hlocks hP hD hS dX3_rule_13 rfl trivial
  · refine lv_iload_n hx hb dX3_rule_4 rfl (lv_at hl 2 rfl) ?_
    refine va_gets hx hb hZM hS hown (hts _ flX3_26) (fun _ h => h) dX3_rule_5 ?_
    refine va_tlen (v := (4 : Int32)) hx hb hTM hS rfl dX3_rule_8 ?_
    refine xicmp_lt hx hb 14 dX3_rule_9 (by decide) hf (fun hf => ?_) (fun hf => ?_)
    · refine lv_iload_n hx hb dX3_rule_14 rfl (lv_at hl 1 rfl) ?_
      refine xif_lt hx hb 47 dX3_rule_15 (by decide) hf (fun hf => ?_) (fun hf => ?_)
      · exact b47 l_names l_stack p2 p4 p5 _ _ _ hf hP hD hS (lv_sub hl [0, 2, 3, 4, 5] rfl)
      · refine lv_iload_n hx hb dX3_rule_18 rfl (lv_at hl 1 rfl) ?_
        refine lv_aload_n hx hb dX3_rule_19 rfl (lv_at hl 0 rfl) ?_
        refine gfX3_18 hx hb hts hown hK hP 25 rfl rfl dX3_rule_20 ?_
        refine gfX3_29 hx hb hts hown hK hP 22 rfl rfl dX3_rule_23 ?_
        refine xicmp_ge hx hb 47 dX3_rule_26 (by decide) hf (fun hf => ?_) (fun hf => ?_)
        · exact b47 l_names l_stack p2 p4 p5 _ _ _ hf hP hD hS (lv_sub hl [0, 2, 3, 4, 5] rfl)
        · refine lv_iload_n hx hb dX3_rule_29 rfl (lv_at hl 1 rfl) ?_
          refine lv_aload_n hx hb dX3_rule_30 rfl (lv_at hl 0 rfl) ?_
          refine gfX3_22 hx hb hts hown hK hP 25 rfl rfl dX3_rule_31 ?_
          refine va_alen (v := (4 : Int32)) hx hb hK hP 18 4 rfl rfl rfl dX3_rule_34 ?_
          refine xicmp_ge hx hb 47 dX3_rule_35 (by decide) hf (fun hf => ?_) (fun hf => ?_)
          · exact b47 l_names l_stack p2 p4 p5 _ _ _ hf hP hD hS (lv_sub hl [0, 2, 3, 4, 5] rfl)
          · refine lv_aload_n hx hb dX3_rule_38 rfl (lv_at hl 0 rfl) ?_
            refine gfX3_22 hx hb hts hown hK hP 25 rfl rfl dX3_rule_39 ?_
            refine lv_iload_n hx hb dX3_rule_42 rfl (lv_at hl 1 rfl) ?_
            by_cases e43_0 : p1 = (0 : Int32)
            · replace hf := (if_pos e43_0).symm.trans hf
              refine xaald hx hb hK hP 18 4 rfl rfl e43_0 (by decide) rfl dX3_rule_43 ?_
              refine lv_goto (tgt := 48) hx hb dX3_rule_44 (by decide) ?_
              exact b48_0 l_names l_stack p2 p4 p5 _ _ _ hf hP hD hS (lv_sub hl [0, 2, 3, 4, 5] rfl)
            replace hf := (if_neg e43_0).symm.trans hf
            by_cases e43_1 : p1 = (1 : Int32)
            · replace hf := (if_pos e43_1).symm.trans hf
              refine xaald hx hb hK hP 18 4 rfl rfl e43_1 (by decide) rfl dX3_rule_43 ?_
              refine lv_goto (tgt := 48) hx hb dX3_rule_44 (by decide) ?_
              exact b48_1 l_names l_stack p2 p4 p5 _ _ _ hf hP hD hS (lv_sub hl [0, 2, 3, 4, 5] rfl)
            replace hf := (if_neg e43_1).symm.trans hf
            by_cases e43_2 : p1 = (2 : Int32)
            · replace hf := (if_pos e43_2).symm.trans hf
              refine xaald hx hb hK hP 18 4 rfl rfl e43_2 (by decide) rfl dX3_rule_43 ?_
              refine lv_goto (tgt := 48) hx hb dX3_rule_44 (by decide) ?_
              exact b48_2 l_names l_stack p2 p4 p5 _ _ _ hf hP hD hS (lv_sub hl [0, 2, 3, 4, 5] rfl)
            replace hf := (if_neg e43_2).symm.trans hf
            by_cases e43_3 : p1 = (3 : Int32)
            · replace hf := (if_pos e43_3).symm.trans hf
              refine xaald hx hb hK hP 18 4 rfl rfl e43_3 (by decide) rfl dX3_rule_43 ?_
              refine lv_goto (tgt := 48) hx hb dX3_rule_44 (by decide) ?_
              exact b48_3 l_names l_stack p2 p4 p5 _ _ _ hf hP hD hS (lv_sub hl [0, 2, 3, 4, 5] rfl)
            replace hf := (if_neg e43_3).symm.trans hf
            cases hf
    · refine lv_iconst (v := (0 : Int32)) hx hb dX3_rule_12 (by decide) ?_
      cases hf
      exact mret_i hx hb hr hlocks hP hD hS dX3_rule_13 rfl trivial
theorem dX0_alive_0 : decode cX0_alive 0 = .ok (.aload_n 0, 1) := by decide +kernel
theorem dX0_alive_1 : decode cX0_alive 1 = .ok (.getfield 15, 3) := by decide +kernel
theorem dX0_alive_4 : decode cX0_alive 4 = .ok (.iload_n 1, 1) := by decide +kernel
theorem dX0_alive_5 : decode cX0_alive 5 = .ok (.invokevirtual 23, 3) := by decide +kernel
theorem dX0_alive_8 : decode cX0_alive 8 = .ok (.ifCond .eq 21, 3) := by decide +kernel
theorem dX0_alive_11 : decode cX0_alive 11 = .ok (.aload_n 0, 1) := by decide +kernel
theorem dX0_alive_12 : decode cX0_alive 12 = .ok (.getfield 15, 3) := by decide +kernel
theorem dX0_alive_15 : decode cX0_alive 15 = .ok (.iload_n 1, 1) := by decide +kernel
theorem dX0_alive_16 : decode cX0_alive 16 = .ok (.bipush 6, 2) := by decide +kernel
theorem dX0_alive_18 : decode cX0_alive 18 = .ok (.invokevirtual 29, 3) := by decide +kernel
theorem dX0_alive_21 : decode cX0_alive 21 = .ok (.iconst 3, 1) := by decide +kernel
theorem dX0_alive_22 : decode cX0_alive 22 = .ok (.if_icmp .eq 7, 3) := by decide +kernel
theorem dX0_alive_25 : decode cX0_alive 25 = .ok (.iconst 1, 1) := by decide +kernel
theorem dX0_alive_26 : decode cX0_alive 26 = .ok (.goto 4, 3) := by decide +kernel
theorem dX0_alive_29 : decode cX0_alive 29 = .ok (.iconst 0, 1) := by decide +kernel
theorem dX0_alive_30 : decode cX0_alive 30 = .ok (.ireturn, 1) := by decide +kernel
def f_X0_alive (N : Nat) (f_row : Nat → Int32) (p1 : Int32) : Option (Int32) := ob1 (f_X1_told N f_row p1) fun r5 => if r5 = 0 then (some (0 : Int32)) else (ob1 (f_X1_get N f_row p1 (6 : Int32)) fun r18 => if r18 = (3 : Int32) then (some (0 : Int32)) else (some (1 : Int32)))
set_option maxHeartbeats 4000000 in
set_option maxRecDepth 100000 in
theorem k_X0_alive (l : Launch) (N : Nat) (D : va_G) (cI cJ cZ cB cT : ClassId) (qf0 : Nat) (qf1 : Nat) (qD0 : Nat) (qf2 : Nat) (qf3 : Nat) (qr0 : Nat) (qL0 : Nat) (f_row : Nat → Int32) (p1 : Int32) (o_r : Int32) (hf : f_X0_alive N f_row p1 = some o_r) : ∀ sz, Met l yX0_alive (mw yX0_alive cX0_alive 2 (some .boolean)) ({ frames := 1, cells := 0, slots := 0, locals := 23 } : Room) (mPre D (mT cI cJ cZ cB cT) (W_DD_24t25_35 qf0 qf1 qD0 qf2 qf3 qr0 qL0 cI cJ cZ cB cT f_row) sz [.ref qD0, .int p1]) ((mQi D (W_DD_24t25_35 qf0 qf1 qD0 qf2 qf3 qr0 qL0 cI cJ cZ cB cT f_row) o_r (mB o_r)) (va_A (W_DD_24t25_35 qf0 qf1 qD0 qf2 qf3 qr0 qL0 cI cJ cZ cB cT f_row) sz)) 0 0 (va_A (W_DD_24t25_35 qf0 qf1 qD0 qf2 qf3 qr0 qL0 cI cJ cZ cB cT f_row) sz) := by
  refine mMet (Qc := (mQi D (W_DD_24t25_35 qf0 qf1 qD0 qf2 qf3 qr0 qL0 cI cJ cZ cB cT f_row) o_r (mB o_r))) (by decide) (Nat.le_of_ble_eq_true rfl) (fun p e s m below meth c A ls hx hb hr hml hts hown hlocks hK hA hP hD hl => ?_)
  have hown : s.vm.findClass RX0 = some m.cls := hown
  have hl : lv_has ls 2 [(0, .ref qD0), (1, .int p1)] := hl
  have hS : va_S A s.heap s.heap [] := va_S.rf
  unfold f_X0_alive at hf
  refine lv_aload_n hx hb dX0_alive_0 rfl (lv_at hl 0 rfl) ?_
  refine gfX0_15 hx hb hts hown hK hP 2 rfl rfl dX0_alive_1 ?_
  refine lv_iload_n hx hb dX0_alive_4 rfl (lv_at hl 1 rfl) ?_
  obtain ⟨r5, hg5, hf⟩ := ob1_some hf
  refine mcV_i (wr := [(qD0, .inr (0, [.ref qr0, .ref qf0, .ref qL0]))]) (As := [.int p1]) (rest := []) hx hb hml hown hts hK hP hD hS hA (k_X1_told l N D cI cJ cZ cB cT qf0 qf1 qf2 qf3 f_row p1 r5 hg5) (kwX0_23 hts rfl rfl ⟨Nat.le_of_ble_eq_true rfl, Nat.le_of_ble_eq_true rfl⟩) [0, 1] [2] rfl rfl rfl (by decide) rfl 0 rfl rfl rfl rfl hl.1 rfl (Nat.le_of_ble_eq_true rfl) dX0_alive_5 ⟨Nat.zero_le _, Nat.zero_le _⟩ (fun hB5 H locs hP hD hS => ?_)
  have hP := mP_sub (wc := (W_DD_24t25_35 qf0 qf1 qD0 qf2 qf3 qr0 qL0 cI cJ cZ cB cT f_row)) hP [1, 2, 0] rfl
  have hD := hD.sub (ws' := (W_DD_24t25_35 qf0 qf1 qD0 qf2 qf3 qr0 qL0 cI cJ cZ cB cT f_row)) [1, 2, 0] rfl rfl
  refine xif_eq hx hb 29 dX0_alive_8 (by decide) hf (fun hf => ?_) (fun hf => ?_)
  · refine lv_iconst (v := (0 : Int32)) hx hb dX0_alive_29 (by decide) ?_
    cases hf
    exact mret_z hx hb hr hlocks hP hD hS dX0_alive_30 rfl rfl
  · refine lv_aload_n hx hb dX0_alive_11 rfl (lv_at hl 0 rfl) ?_
    refine gfX0_15 hx hb hts hown hK hP 2 rfl rfl dX0_alive_12 ?_
    refine lv_iload_n hx hb dX0_alive_15 rfl (lv_at hl 1 rfl) ?_
    refine lv_bipush (v := (6 : Int32)) hx hb dX0_alive_16 (by decide) ?_
    obtain ⟨r18, hg18, hf⟩ := ob1_some hf
    refine mcV_i (wr := [(qD0, .inr (0, [.ref qr0, .ref qf0, .ref qL0]))]) (As := [.int p1, .int (6 : Int32)]) (rest := []) hx hb hml hown hts hK hP hD hS hA (k_X1_get l N D cI cJ cZ cB cT qf0 qf1 qf2 qf3 f_row p1 (6 : Int32) r18 hg18) (kwX0_29 hts rfl rfl ⟨Nat.le_of_ble_eq_true rfl, Nat.le_of_ble_eq_true rfl⟩) [0, 1] [2] rfl rfl rfl (by decide) rfl 0 rfl rfl rfl rfl hl.1 rfl (Nat.le_of_ble_eq_true rfl) dX0_alive_18 ⟨Nat.zero_le _, Nat.zero_le _⟩ (fun hB18 H locs hP hD hS => ?_)
    have hP := mP_sub (wc := (W_DD_24t25_35 qf0 qf1 qD0 qf2 qf3 qr0 qL0 cI cJ cZ cB cT f_row)) hP [1, 2, 0] rfl
    have hD := hD.sub (ws' := (W_DD_24t25_35 qf0 qf1 qD0 qf2 qf3 qr0 qL0 cI cJ cZ cB cT f_row)) [1, 2, 0] rfl rfl
    refine lv_iconst (v := (3 : Int32)) hx hb dX0_alive_21 (by decide) ?_
    refine xicmp_eq hx hb 29 dX0_alive_22 (by decide) hf (fun hf => ?_) (fun hf => ?_)
    · refine lv_iconst (v := (0 : Int32)) hx hb dX0_alive_29 (by decide) ?_
      cases hf
      exact mret_z hx hb hr hlocks hP hD hS dX0_alive_30 rfl rfl
    · refine lv_iconst (v := (1 : Int32)) hx hb dX0_alive_25 (by decide) ?_
      refine lv_goto (tgt := 30) hx hb dX0_alive_26 (by decide) ?_
      cases hf
      exact mret_z hx hb hr hlocks hP hD hS dX0_alive_30 rfl rfl
theorem dX0_outlaw_0 : decode cX0_outlaw 0 = .ok (.aload_n 0, 1) := by decide +kernel
theorem dX0_outlaw_1 : decode cX0_outlaw 1 = .ok (.getfield 15, 3) := by decide +kernel
theorem dX0_outlaw_4 : decode cX0_outlaw 4 = .ok (.iload_n 1, 1) := by decide +kernel
theorem dX0_outlaw_5 : decode cX0_outlaw 5 = .ok (.invokevirtual 23, 3) := by decide +kernel
theorem dX0_outlaw_8 : decode cX0_outlaw 8 = .ok (.ifCond .eq 21, 3) := by decide +kernel
theorem dX0_outlaw_11 : decode cX0_outlaw 11 = .ok (.aload_n 0, 1) := by decide +kernel
theorem dX0_outlaw_12 : decode cX0_outlaw 12 = .ok (.getfield 15, 3) := by decide +kernel
theorem dX0_outlaw_15 : decode cX0_outlaw 15 = .ok (.iload_n 1, 1) := by decide +kernel
theorem dX0_outlaw_16 : decode cX0_outlaw 16 = .ok (.bipush 6, 2) := by decide +kernel
theorem dX0_outlaw_18 : decode cX0_outlaw 18 = .ok (.invokevirtual 29, 3) := by decide +kernel
theorem dX0_outlaw_21 : decode cX0_outlaw 21 = .ok (.iconst 1, 1) := by decide +kernel
theorem dX0_outlaw_22 : decode cX0_outlaw 22 = .ok (.if_icmp .ne 7, 3) := by decide +kernel
theorem dX0_outlaw_25 : decode cX0_outlaw 25 = .ok (.iconst 1, 1) := by decide +kernel
theorem dX0_outlaw_26 : decode cX0_outlaw 26 = .ok (.goto 4, 3) := by decide +kernel
theorem dX0_outlaw_29 : decode cX0_outlaw 29 = .ok (.iconst 0, 1) := by decide +kernel
theorem dX0_outlaw_30 : decode cX0_outlaw 30 = .ok (.ireturn, 1) := by decide +kernel
def f_X0_outlaw (N : Nat) (f_row : Nat → Int32) (p1 : Int32) : Option (Int32) := ob1 (f_X1_told N f_row p1) fun r5 => if r5 = 0 then (some (0 : Int32)) else (ob1 (f_X1_get N f_row p1 (6 : Int32)) fun r18 => if r18 = (1 : Int32) then (some (1 : Int32)) else (some (0 : Int32)))
set_option maxHeartbeats 4000000 in
set_option maxRecDepth 100000 in
theorem k_X0_outlaw (l : Launch) (N : Nat) (D : va_G) (cI cJ cZ cB cT : ClassId) (qf0 : Nat) (qf1 : Nat) (qD0 : Nat) (qf2 : Nat) (qf3 : Nat) (qr0 : Nat) (qL0 : Nat) (f_row : Nat → Int32) (p1 : Int32) (o_r : Int32) (hf : f_X0_outlaw N f_row p1 = some o_r) : ∀ sz, Met l yX0_outlaw (mw yX0_outlaw cX0_outlaw 2 (some .boolean)) ({ frames := 1, cells := 0, slots := 0, locals := 23 } : Room) (mPre D (mT cI cJ cZ cB cT) (W_DD_24t25_35 qf0 qf1 qD0 qf2 qf3 qr0 qL0 cI cJ cZ cB cT f_row) sz [.ref qD0, .int p1]) ((mQi D (W_DD_24t25_35 qf0 qf1 qD0 qf2 qf3 qr0 qL0 cI cJ cZ cB cT f_row) o_r (mB o_r)) (va_A (W_DD_24t25_35 qf0 qf1 qD0 qf2 qf3 qr0 qL0 cI cJ cZ cB cT f_row) sz)) 0 0 (va_A (W_DD_24t25_35 qf0 qf1 qD0 qf2 qf3 qr0 qL0 cI cJ cZ cB cT f_row) sz) := by
  refine mMet (Qc := (mQi D (W_DD_24t25_35 qf0 qf1 qD0 qf2 qf3 qr0 qL0 cI cJ cZ cB cT f_row) o_r (mB o_r))) (by decide) (Nat.le_of_ble_eq_true rfl) (fun p e s m below meth c A ls hx hb hr hml hts hown hlocks hK hA hP hD hl => ?_)
  have hown : s.vm.findClass RX0 = some m.cls := hown
  have hl : lv_has ls 2 [(0, .ref qD0), (1, .int p1)] := hl
  have hS : va_S A s.heap s.heap [] := va_S.rf
  unfold f_X0_outlaw at hf
  refine lv_aload_n hx hb dX0_outlaw_0 rfl (lv_at hl 0 rfl) ?_
  refine gfX0_15 hx hb hts hown hK hP 2 rfl rfl dX0_outlaw_1 ?_
  refine lv_iload_n hx hb dX0_outlaw_4 rfl (lv_at hl 1 rfl) ?_
  obtain ⟨r5, hg5, hf⟩ := ob1_some hf
  refine mcV_i (wr := [(qD0, .inr (0, [.ref qr0, .ref qf0, .ref qL0]))]) (As := [.int p1]) (rest := []) hx hb hml hown hts hK hP hD hS hA (k_X1_told l N D cI cJ cZ cB cT qf0 qf1 qf2 qf3 f_row p1 r5 hg5) (kwX0_23 hts rfl rfl ⟨Nat.le_of_ble_eq_true rfl, Nat.le_of_ble_eq_true rfl⟩) [0, 1] [2] rfl rfl rfl (by decide) rfl 0 rfl rfl rfl rfl hl.1 rfl (Nat.le_of_ble_eq_true rfl) dX0_outlaw_5 ⟨Nat.zero_le _, Nat.zero_le _⟩ (fun hB5 H locs hP hD hS => ?_)
  have hP := mP_sub (wc := (W_DD_24t25_35 qf0 qf1 qD0 qf2 qf3 qr0 qL0 cI cJ cZ cB cT f_row)) hP [1, 2, 0] rfl
  have hD := hD.sub (ws' := (W_DD_24t25_35 qf0 qf1 qD0 qf2 qf3 qr0 qL0 cI cJ cZ cB cT f_row)) [1, 2, 0] rfl rfl
  refine xif_eq hx hb 29 dX0_outlaw_8 (by decide) hf (fun hf => ?_) (fun hf => ?_)
  · refine lv_iconst (v := (0 : Int32)) hx hb dX0_outlaw_29 (by decide) ?_
    cases hf
    exact mret_z hx hb hr hlocks hP hD hS dX0_outlaw_30 rfl rfl
  · refine lv_aload_n hx hb dX0_outlaw_11 rfl (lv_at hl 0 rfl) ?_
    refine gfX0_15 hx hb hts hown hK hP 2 rfl rfl dX0_outlaw_12 ?_
    refine lv_iload_n hx hb dX0_outlaw_15 rfl (lv_at hl 1 rfl) ?_
    refine lv_bipush (v := (6 : Int32)) hx hb dX0_outlaw_16 (by decide) ?_
    obtain ⟨r18, hg18, hf⟩ := ob1_some hf
    refine mcV_i (wr := [(qD0, .inr (0, [.ref qr0, .ref qf0, .ref qL0]))]) (As := [.int p1, .int (6 : Int32)]) (rest := []) hx hb hml hown hts hK hP hD hS hA (k_X1_get l N D cI cJ cZ cB cT qf0 qf1 qf2 qf3 f_row p1 (6 : Int32) r18 hg18) (kwX0_29 hts rfl rfl ⟨Nat.le_of_ble_eq_true rfl, Nat.le_of_ble_eq_true rfl⟩) [0, 1] [2] rfl rfl rfl (by decide) rfl 0 rfl rfl rfl rfl hl.1 rfl (Nat.le_of_ble_eq_true rfl) dX0_outlaw_18 ⟨Nat.zero_le _, Nat.zero_le _⟩ (fun hB18 H locs hP hD hS => ?_)
    have hP := mP_sub (wc := (W_DD_24t25_35 qf0 qf1 qD0 qf2 qf3 qr0 qL0 cI cJ cZ cB cT f_row)) hP [1, 2, 0] rfl
    have hD := hD.sub (ws' := (W_DD_24t25_35 qf0 qf1 qD0 qf2 qf3 qr0 qL0 cI cJ cZ cB cT f_row)) [1, 2, 0] rfl rfl
    refine lv_iconst (v := (1 : Int32)) hx hb dX0_outlaw_21 (by decide) ?_
    refine xicmp_ne hx hb 29 dX0_outlaw_22 (by decide) hf (fun hf => ?_) (fun hf => ?_)
    · refine lv_iconst (v := (1 : Int32)) hx hb dX0_outlaw_25 (by decide) ?_
      refine lv_goto (tgt := 30) hx hb dX0_outlaw_26 (by decide) ?_
      cases hf
      exact mret_z hx hb hr hlocks hP hD hS dX0_outlaw_30 rfl rfl
    · refine lv_iconst (v := (0 : Int32)) hx hb dX0_outlaw_29 (by decide) ?_
      cases hf
      exact mret_z hx hb hr hlocks hP hD hS dX0_outlaw_30 rfl rfl
theorem dX0_meets_0 : decode cX0_meets 0 = .ok (.aload_n 0, 1) := by decide +kernel
theorem dX0_meets_1 : decode cX0_meets 1 = .ok (.iload_n 2, 1) := by decide +kernel
theorem dX0_meets_2 : decode cX0_meets 2 = .ok (.invokevirtual 33, 3) := by decide +kernel
theorem dX0_meets_5 : decode cX0_meets 5 = .ok (.ifCond .eq 41, 3) := by decide +kernel
theorem dX0_meets_8 : decode cX0_meets 8 = .ok (.aload_n 0, 1) := by decide +kernel
theorem dX0_meets_9 : decode cX0_meets 9 = .ok (.iload_n 1, 1) := by decide +kernel
theorem dX0_meets_10 : decode cX0_meets 10 = .ok (.invokevirtual 36, 3) := by decide +kernel
theorem dX0_meets_13 : decode cX0_meets 13 = .ok (.ifCond .eq 33, 3) := by decide +kernel
theorem dX0_meets_16 : decode cX0_meets 16 = .ok (.iload_n 2, 1) := by decide +kernel
theorem dX0_meets_17 : decode cX0_meets 17 = .ok (.iload_n 1, 1) := by decide +kernel
theorem dX0_meets_18 : decode cX0_meets 18 = .ok (.if_icmp .eq 28, 3) := by decide +kernel
theorem dX0_meets_21 : decode cX0_meets 21 = .ok (.aload_n 0, 1) := by decide +kernel
theorem dX0_meets_22 : decode cX0_meets 22 = .ok (.getfield 15, 3) := by decide +kernel
theorem dX0_meets_25 : decode cX0_meets 25 = .ok (.iload_n 2, 1) := by decide +kernel
theorem dX0_meets_26 : decode cX0_meets 26 = .ok (.iconst 0, 1) := by decide +kernel
theorem dX0_meets_27 : decode cX0_meets 27 = .ok (.invokevirtual 29, 3) := by decide +kernel
theorem dX0_meets_30 : decode cX0_meets 30 = .ok (.aload_n 0, 1) := by decide +kernel
theorem dX0_meets_31 : decode cX0_meets 31 = .ok (.getfield 15, 3) := by decide +kernel
theorem dX0_meets_34 : decode cX0_meets 34 = .ok (.iload_n 1, 1) := by decide +kernel
theorem dX0_meets_35 : decode cX0_meets 35 = .ok (.iconst 0, 1) := by decide +kernel
theorem dX0_meets_36 : decode cX0_meets 36 = .ok (.invokevirtual 29, 3) := by decide +kernel
theorem dX0_meets_39 : decode cX0_meets 39 = .ok (.if_icmp .ne 7, 3) := by decide +kernel
theorem dX0_meets_42 : decode cX0_meets 42 = .ok (.iconst 1, 1) := by decide +kernel
theorem dX0_meets_43 : decode cX0_meets 43 = .ok (.goto 4, 3) := by decide +kernel
theorem dX0_meets_46 : decode cX0_meets 46 = .ok (.iconst 0, 1) := by decide +kernel
theorem dX0_meets_47 : decode cX0_meets 47 = .ok (.ireturn, 1) := by decide +kernel
def f_X0_meets (N : Nat) (f_row : Nat → Int32) (p1 : Int32) (p2 : Int32) : Option (Int32) := ob1 (f_X0_outlaw N f_row p2) fun r2 => if r2 = 0 then (some (0 : Int32)) else (ob1 (f_X0_alive N f_row p1) fun r10 => if r10 = 0 then (some (0 : Int32)) else (if p2 = p1 then (some (0 : Int32)) else (ob1 (f_X1_get N f_row p2 (0 : Int32)) fun r27 => ob1 (f_X1_get N f_row p1 (0 : Int32)) fun r36 => if r27 = r36 then (some (1 : Int32)) else (some (0 : Int32)))))
set_option maxHeartbeats 4000000 in
set_option maxRecDepth 100000 in
theorem k_X0_meets (l : Launch) (N : Nat) (D : va_G) (cI cJ cZ cB cT : ClassId) (qf0 : Nat) (qf1 : Nat) (qD0 : Nat) (qf2 : Nat) (qf3 : Nat) (qr0 : Nat) (qL0 : Nat) (f_row : Nat → Int32) (p1 : Int32) (p2 : Int32) (o_r : Int32) (hf : f_X0_meets N f_row p1 p2 = some o_r) : ∀ sz, Met l yX0_meets (mw yX0_meets cX0_meets 3 (some .boolean)) ({ frames := 2, cells := 0, slots := 0, locals := 44 } : Room) (mPre D (mT cI cJ cZ cB cT) (W_DD_24t25_35 qf0 qf1 qD0 qf2 qf3 qr0 qL0 cI cJ cZ cB cT f_row) sz [.ref qD0, .int p1, .int p2]) ((mQi D (W_DD_24t25_35 qf0 qf1 qD0 qf2 qf3 qr0 qL0 cI cJ cZ cB cT f_row) o_r (mB o_r)) (va_A (W_DD_24t25_35 qf0 qf1 qD0 qf2 qf3 qr0 qL0 cI cJ cZ cB cT f_row) sz)) 0 0 (va_A (W_DD_24t25_35 qf0 qf1 qD0 qf2 qf3 qr0 qL0 cI cJ cZ cB cT f_row) sz) := by
  refine mMet (Qc := (mQi D (W_DD_24t25_35 qf0 qf1 qD0 qf2 qf3 qr0 qL0 cI cJ cZ cB cT f_row) o_r (mB o_r))) (by decide) (Nat.le_of_ble_eq_true rfl) (fun p e s m below meth c A ls hx hb hr hml hts hown hlocks hK hA hP hD hl => ?_)
  have hown : s.vm.findClass RX0 = some m.cls := hown
  have hl : lv_has ls 3 [(0, .ref qD0), (1, .int p1), (2, .int p2)] := hl
  have hS : va_S A s.heap s.heap [] := va_S.rf
  unfold f_X0_meets at hf
  refine lv_aload_n hx hb dX0_meets_0 rfl (lv_at hl 0 rfl) ?_
  refine lv_iload_n hx hb dX0_meets_1 rfl (lv_at hl 2 rfl) ?_
  obtain ⟨r2, hg2, hf⟩ := ob1_some hf
  refine mcV1_i (As := [.int p2]) (rest := []) hx hb hml hown hts hK hP hD hS hA (k_X0_outlaw l N D cI cJ cZ cB cT qf0 qf1 qD0 qf2 qf3 qr0 qL0 f_row p2 r2 hg2) (kwX0_33 hts rfl rfl ⟨Nat.le_of_ble_eq_true rfl, Nat.le_of_ble_eq_true rfl⟩) 2 rfl rfl rfl rfl hl.1 rfl (Nat.le_of_ble_eq_true rfl) dX0_meets_2 ⟨Nat.zero_le _, Nat.zero_le _⟩ (fun hB2 H locs hP hD hS => ?_)
  have hP : va_P D vwCl (W_DD_24t25_35 qf0 qf1 qD0 qf2 qf3 qr0 qL0 cI cJ cZ cB cT f_row) H := hP
  have hD : va_D A (W_DD_24t25_35 qf0 qf1 qD0 qf2 qf3 qr0 qL0 cI cJ cZ cB cT f_row) := hD
  refine xif_eq hx hb 46 dX0_meets_5 (by decide) hf (fun hf => ?_) (fun hf => ?_)
  · refine lv_iconst (v := (0 : Int32)) hx hb dX0_meets_46 (by decide) ?_
    cases hf
    exact mret_z hx hb hr hlocks hP hD hS dX0_meets_47 rfl rfl
  · refine lv_aload_n hx hb dX0_meets_8 rfl (lv_at hl 0 rfl) ?_
    refine lv_iload_n hx hb dX0_meets_9 rfl (lv_at hl 1 rfl) ?_
    obtain ⟨r10, hg10, hf⟩ := ob1_some hf
    refine mcV1_i (As := [.int p1]) (rest := []) hx hb hml hown hts hK hP hD hS hA (k_X0_alive l N D cI cJ cZ cB cT qf0 qf1 qD0 qf2 qf3 qr0 qL0 f_row p1 r10 hg10) (kwX0_36 hts rfl rfl ⟨Nat.le_of_ble_eq_true rfl, Nat.le_of_ble_eq_true rfl⟩) 2 rfl rfl rfl rfl hl.1 rfl (Nat.le_of_ble_eq_true rfl) dX0_meets_10 ⟨Nat.zero_le _, Nat.zero_le _⟩ (fun hB10 H locs hP hD hS => ?_)
    have hP : va_P D vwCl (W_DD_24t25_35 qf0 qf1 qD0 qf2 qf3 qr0 qL0 cI cJ cZ cB cT f_row) H := hP
    have hD : va_D A (W_DD_24t25_35 qf0 qf1 qD0 qf2 qf3 qr0 qL0 cI cJ cZ cB cT f_row) := hD
    refine xif_eq hx hb 46 dX0_meets_13 (by decide) hf (fun hf => ?_) (fun hf => ?_)
    · refine lv_iconst (v := (0 : Int32)) hx hb dX0_meets_46 (by decide) ?_
      cases hf
      exact mret_z hx hb hr hlocks hP hD hS dX0_meets_47 rfl rfl
    · refine lv_iload_n hx hb dX0_meets_16 rfl (lv_at hl 2 rfl) ?_
      refine lv_iload_n hx hb dX0_meets_17 rfl (lv_at hl 1 rfl) ?_
      refine xicmp_eq hx hb 46 dX0_meets_18 (by decide) hf (fun hf => ?_) (fun hf => ?_)
      · refine lv_iconst (v := (0 : Int32)) hx hb dX0_meets_46 (by decide) ?_
        cases hf
        exact mret_z hx hb hr hlocks hP hD hS dX0_meets_47 rfl rfl
      · refine lv_aload_n hx hb dX0_meets_21 rfl (lv_at hl 0 rfl) ?_
        refine gfX0_15 hx hb hts hown hK hP 2 rfl rfl dX0_meets_22 ?_
        refine lv_iload_n hx hb dX0_meets_25 rfl (lv_at hl 2 rfl) ?_
        refine lv_iconst (v := (0 : Int32)) hx hb dX0_meets_26 (by decide) ?_
        obtain ⟨r27, hg27, hf⟩ := ob1_some hf
        refine mcV_i (wr := [(qD0, .inr (0, [.ref qr0, .ref qf0, .ref qL0]))]) (As := [.int p2, .int (0 : Int32)]) (rest := []) hx hb hml hown hts hK hP hD hS hA (k_X1_get l N D cI cJ cZ cB cT qf0 qf1 qf2 qf3 f_row p2 (0 : Int32) r27 hg27) (kwX0_29 hts rfl rfl ⟨Nat.le_of_ble_eq_true rfl, Nat.le_of_ble_eq_true rfl⟩) [0, 1] [2] rfl rfl rfl (by decide) rfl 0 rfl rfl rfl rfl hl.1 rfl (Nat.le_of_ble_eq_true rfl) dX0_meets_27 ⟨Nat.zero_le _, Nat.zero_le _⟩ (fun hB27 H locs hP hD hS => ?_)
        have hP := mP_sub (wc := (W_DD_24t25_35 qf0 qf1 qD0 qf2 qf3 qr0 qL0 cI cJ cZ cB cT f_row)) hP [1, 2, 0] rfl
        have hD := hD.sub (ws' := (W_DD_24t25_35 qf0 qf1 qD0 qf2 qf3 qr0 qL0 cI cJ cZ cB cT f_row)) [1, 2, 0] rfl rfl
        refine lv_aload_n hx hb dX0_meets_30 rfl (lv_at hl 0 rfl) ?_
        refine gfX0_15 hx hb hts hown hK hP 2 rfl rfl dX0_meets_31 ?_
        refine lv_iload_n hx hb dX0_meets_34 rfl (lv_at hl 1 rfl) ?_
        refine lv_iconst (v := (0 : Int32)) hx hb dX0_meets_35 (by decide) ?_
        obtain ⟨r36, hg36, hf⟩ := ob1_some hf
        refine mcV_i (wr := [(qD0, .inr (0, [.ref qr0, .ref qf0, .ref qL0]))]) (As := [.int p1, .int (0 : Int32)]) (rest := [.int r27]) hx hb hml hown hts hK hP hD hS hA (k_X1_get l N D cI cJ cZ cB cT qf0 qf1 qf2 qf3 f_row p1 (0 : Int32) r36 hg36) (kwX0_29 hts rfl rfl ⟨Nat.le_of_ble_eq_true rfl, Nat.le_of_ble_eq_true rfl⟩) [0, 1] [2] rfl rfl rfl (by decide) rfl 0 rfl rfl rfl rfl hl.1 rfl (Nat.le_of_ble_eq_true rfl) dX0_meets_36 ⟨Nat.zero_le _, Nat.zero_le _⟩ (fun hB36 H locs hP hD hS => ?_)
        have hP := mP_sub (wc := (W_DD_24t25_35 qf0 qf1 qD0 qf2 qf3 qr0 qL0 cI cJ cZ cB cT f_row)) hP [1, 2, 0] rfl
        have hD := hD.sub (ws' := (W_DD_24t25_35 qf0 qf1 qD0 qf2 qf3 qr0 qL0 cI cJ cZ cB cT f_row)) [1, 2, 0] rfl rfl
        refine xicmp_ne hx hb 46 dX0_meets_39 (by decide) hf (fun hf => ?_) (fun hf => ?_)
        · refine lv_iconst (v := (1 : Int32)) hx hb dX0_meets_42 (by decide) ?_
          refine lv_goto (tgt := 47) hx hb dX0_meets_43 (by decide) ?_
          cases hf
          exact mret_z hx hb hr hlocks hP hD hS dX0_meets_47 rfl rfl
        · refine lv_iconst (v := (0 : Int32)) hx hb dX0_meets_46 (by decide) ?_
          cases hf
          exact mret_z hx hb hr hlocks hP hD hS dX0_meets_47 rfl rfl
theorem dX0_castOut_0 : decode cX0_castOut 0 = .ok (.aload_n 0, 1) := by decide +kernel
theorem dX0_castOut_1 : decode cX0_castOut 1 = .ok (.getfield 15, 3) := by decide +kernel
theorem dX0_castOut_4 : decode cX0_castOut 4 = .ok (.iload_n 1, 1) := by decide +kernel
theorem dX0_castOut_5 : decode cX0_castOut 5 = .ok (.bipush 6, 2) := by decide +kernel
theorem dX0_castOut_7 : decode cX0_castOut 7 = .ok (.iconst 1, 1) := by decide +kernel
theorem dX0_castOut_8 : decode cX0_castOut 8 = .ok (.invokevirtual 48, 3) := by decide +kernel
theorem dX0_castOut_11 : decode cX0_castOut 11 = .ok (.aload_n 0, 1) := by decide +kernel
theorem dX0_castOut_12 : decode cX0_castOut 12 = .ok (.getfield 15, 3) := by decide +kernel
theorem dX0_castOut_15 : decode cX0_castOut 15 = .ok (.iload_n 1, 1) := by decide +kernel
theorem dX0_castOut_16 : decode cX0_castOut 16 = .ok (.iconst 5, 1) := by decide +kernel
theorem dX0_castOut_17 : decode cX0_castOut 17 = .ok (.iconst 0, 1) := by decide +kernel
theorem dX0_castOut_18 : decode cX0_castOut 18 = .ok (.invokevirtual 48, 3) := by decide +kernel
theorem dX0_castOut_21 : decode cX0_castOut 21 = .ok (.aload_n 0, 1) := by decide +kernel
theorem dX0_castOut_22 : decode cX0_castOut 22 = .ok (.getfield 15, 3) := by decide +kernel
theorem dX0_castOut_25 : decode cX0_castOut 25 = .ok (.iload_n 1, 1) := by decide +kernel
theorem dX0_castOut_26 : decode cX0_castOut 26 = .ok (.iconst 4, 1) := by decide +kernel
theorem dX0_castOut_27 : decode cX0_castOut 27 = .ok (.iconst 0, 1) := by decide +kernel
theorem dX0_castOut_28 : decode cX0_castOut 28 = .ok (.invokevirtual 48, 3) := by decide +kernel
theorem dX0_castOut_31 : decode cX0_castOut 31 = .ok (.aload_n 0, 1) := by decide +kernel
theorem dX0_castOut_32 : decode cX0_castOut 32 = .ok (.getfield 15, 3) := by decide +kernel
theorem dX0_castOut_35 : decode cX0_castOut 35 = .ok (.iload_n 1, 1) := by decide +kernel
theorem dX0_castOut_36 : decode cX0_castOut 36 = .ok (.iconst 3, 1) := by decide +kernel
theorem dX0_castOut_37 : decode cX0_castOut 37 = .ok (.iconst 0, 1) := by decide +kernel
theorem dX0_castOut_38 : decode cX0_castOut 38 = .ok (.invokevirtual 48, 3) := by decide +kernel
theorem dX0_castOut_41 : decode cX0_castOut 41 = .ok (.aload_n 0, 1) := by decide +kernel
theorem dX0_castOut_42 : decode cX0_castOut 42 = .ok (.getfield 15, 3) := by decide +kernel
theorem dX0_castOut_45 : decode cX0_castOut 45 = .ok (.iload_n 1, 1) := by decide +kernel
theorem dX0_castOut_46 : decode cX0_castOut 46 = .ok (.iconst 1, 1) := by decide +kernel
theorem dX0_castOut_47 : decode cX0_castOut 47 = .ok (.iconst 0, 1) := by decide +kernel
theorem dX0_castOut_48 : decode cX0_castOut 48 = .ok (.invokevirtual 48, 3) := by decide +kernel
theorem dX0_castOut_51 : decode cX0_castOut 51 = .ok (.aload_n 0, 1) := by decide +kernel
theorem dX0_castOut_52 : decode cX0_castOut 52 = .ok (.getfield 15, 3) := by decide +kernel
theorem dX0_castOut_55 : decode cX0_castOut 55 = .ok (.iload_n 1, 1) := by decide +kernel
theorem dX0_castOut_56 : decode cX0_castOut 56 = .ok (.iconst 2, 1) := by decide +kernel
theorem dX0_castOut_57 : decode cX0_castOut 57 = .ok (.iconst 0, 1) := by decide +kernel
theorem dX0_castOut_58 : decode cX0_castOut 58 = .ok (.invokevirtual 48, 3) := by decide +kernel
theorem dX0_castOut_61 : decode cX0_castOut 61 = .ok (.aload_n 0, 1) := by decide +kernel
theorem dX0_castOut_62 : decode cX0_castOut 62 = .ok (.getfield 15, 3) := by decide +kernel
theorem dX0_castOut_65 : decode cX0_castOut 65 = .ok (.iload_n 1, 1) := by decide +kernel
theorem dX0_castOut_66 : decode cX0_castOut 66 = .ok (.iconst 1, 1) := by decide +kernel
theorem dX0_castOut_67 : decode cX0_castOut 67 = .ok (.invokevirtual 52, 3) := by decide +kernel
theorem dX0_castOut_70 : decode cX0_castOut 70 = .ok (.return_, 1) := by decide +kernel
def f_X0_castOut (N : Nat) (f_row : Nat → Int32) (p1 : Int32) : Option ((Nat → Int32)) := ob1 (f_X1_set N f_row p1 (6 : Int32) (1 : Int32)) fun f_row_8 => ob1 (f_X1_set N f_row_8 p1 (5 : Int32) (0 : Int32)) fun f_row_18 => ob1 (f_X1_set N f_row_18 p1 (4 : Int32) (0 : Int32)) fun f_row_28 => ob1 (f_X1_set N f_row_28 p1 (3 : Int32) (0 : Int32)) fun f_row_38 => ob1 (f_X1_set N f_row_38 p1 (1 : Int32) (0 : Int32)) fun f_row_48 => ob1 (f_X1_set N f_row_48 p1 (2 : Int32) (0 : Int32)) fun f_row_58 => ob1 (f_X1_write N f_row_58 p1 (1 : Int32)) fun f_row_67 => some f_row_67
set_option maxHeartbeats 4000000 in
set_option maxRecDepth 100000 in
theorem k_X0_castOut (l : Launch) (N : Nat) (D : va_G) (cI cJ cZ cB cT : ClassId) (qf0 : Nat) (qf1 : Nat) (qD0 : Nat) (qf2 : Nat) (qf3 : Nat) (qr0 : Nat) (qL0 : Nat) (f_row : Nat → Int32) (p1 : Int32) (o_f_row : Nat → Int32) (hf : f_X0_castOut N f_row p1 = some o_f_row) : ∀ sz, Met l yX0_castOut (mw yX0_castOut cX0_castOut 2 none) ({ frames := 2, cells := 0, slots := 0, locals := 83 } : Room) (mPre D (mT cI cJ cZ cB cT) (W_DD_24t25_35 qf0 qf1 qD0 qf2 qf3 qr0 qL0 cI cJ cZ cB cT f_row) sz [.ref qD0, .int p1]) ((mQv D (W_DD_24t25_35 qf0 qf1 qD0 qf2 qf3 qr0 qL0 cI cJ cZ cB cT o_f_row)) (va_A (W_DD_24t25_35 qf0 qf1 qD0 qf2 qf3 qr0 qL0 cI cJ cZ cB cT f_row) sz)) 0 0 (va_A (W_DD_24t25_35 qf0 qf1 qD0 qf2 qf3 qr0 qL0 cI cJ cZ cB cT f_row) sz) := by
  refine mMet (Qc := (mQv D (W_DD_24t25_35 qf0 qf1 qD0 qf2 qf3 qr0 qL0 cI cJ cZ cB cT o_f_row))) (by decide) (Nat.le_of_ble_eq_true rfl) (fun p e s m below meth c A ls hx hb hr hml hts hown hlocks hK hA hP hD hl => ?_)
  have hown : s.vm.findClass RX0 = some m.cls := hown
  have hl : lv_has ls 2 [(0, .ref qD0), (1, .int p1)] := hl
  have hS : va_S A s.heap s.heap [] := va_S.rf
  unfold f_X0_castOut at hf
  refine lv_aload_n hx hb dX0_castOut_0 rfl (lv_at hl 0 rfl) ?_
  refine gfX0_15 hx hb hts hown hK hP 2 rfl rfl dX0_castOut_1 ?_
  refine lv_iload_n hx hb dX0_castOut_4 rfl (lv_at hl 1 rfl) ?_
  refine lv_bipush (v := (6 : Int32)) hx hb dX0_castOut_5 (by decide) ?_
  refine lv_iconst (v := (1 : Int32)) hx hb dX0_castOut_7 (by decide) ?_
  obtain ⟨f_row_8, hg8, hf⟩ := ob1_some hf
  refine mcV_v (wr := [(qD0, .inr (0, [.ref qr0, .ref qf0, .ref qL0]))]) (As := [.int p1, .int (6 : Int32), .int (1 : Int32)]) (rest := []) hx hb hml hown hts hK hP hD hS hA (k_X1_set l N D cI cJ cZ cB cT qf0 qf1 qf2 qf3 f_row p1 (6 : Int32) (1 : Int32) f_row_8 hg8) (kwX0_48 hts rfl rfl ⟨Nat.le_of_ble_eq_true rfl, Nat.le_of_ble_eq_true rfl⟩) [0, 1] [2] rfl rfl rfl (by decide) rfl 0 rfl rfl rfl rfl hl.1 rfl (Nat.le_of_ble_eq_true rfl) dX0_castOut_8 ⟨Nat.zero_le _, Nat.zero_le _⟩ (fun H locs hP hD hS => ?_)
  have hP := mP_sub (wc := (W_DD_24t25_35 qf0 qf1 qD0 qf2 qf3 qr0 qL0 cI cJ cZ cB cT f_row_8)) hP [1, 2, 0] rfl
  have hD := hD.sub (ws' := (W_DD_24t25_35 qf0 qf1 qD0 qf2 qf3 qr0 qL0 cI cJ cZ cB cT f_row_8)) [1, 2, 0] rfl rfl
  refine lv_aload_n hx hb dX0_castOut_11 rfl (lv_at hl 0 rfl) ?_
  refine gfX0_15 hx hb hts hown hK hP 2 rfl rfl dX0_castOut_12 ?_
  refine lv_iload_n hx hb dX0_castOut_15 rfl (lv_at hl 1 rfl) ?_
  refine lv_iconst (v := (5 : Int32)) hx hb dX0_castOut_16 (by decide) ?_
  refine lv_iconst (v := (0 : Int32)) hx hb dX0_castOut_17 (by decide) ?_
  obtain ⟨f_row_18, hg18, hf⟩ := ob1_some hf
  refine mcV_v (wr := [(qD0, .inr (0, [.ref qr0, .ref qf0, .ref qL0]))]) (As := [.int p1, .int (5 : Int32), .int (0 : Int32)]) (rest := []) hx hb hml hown hts hK hP hD hS hA (k_X1_set l N D cI cJ cZ cB cT qf0 qf1 qf2 qf3 f_row_8 p1 (5 : Int32) (0 : Int32) f_row_18 hg18) (kwX0_48 hts rfl rfl ⟨Nat.le_of_ble_eq_true rfl, Nat.le_of_ble_eq_true rfl⟩) [0, 1] [2] rfl rfl rfl (by decide) rfl 0 rfl rfl rfl rfl hl.1 rfl (Nat.le_of_ble_eq_true rfl) dX0_castOut_18 ⟨Nat.zero_le _, Nat.zero_le _⟩ (fun H locs hP hD hS => ?_)
  have hP := mP_sub (wc := (W_DD_24t25_35 qf0 qf1 qD0 qf2 qf3 qr0 qL0 cI cJ cZ cB cT f_row_18)) hP [1, 2, 0] rfl
  have hD := hD.sub (ws' := (W_DD_24t25_35 qf0 qf1 qD0 qf2 qf3 qr0 qL0 cI cJ cZ cB cT f_row_18)) [1, 2, 0] rfl rfl
  refine lv_aload_n hx hb dX0_castOut_21 rfl (lv_at hl 0 rfl) ?_
  refine gfX0_15 hx hb hts hown hK hP 2 rfl rfl dX0_castOut_22 ?_
  refine lv_iload_n hx hb dX0_castOut_25 rfl (lv_at hl 1 rfl) ?_
  refine lv_iconst (v := (4 : Int32)) hx hb dX0_castOut_26 (by decide) ?_
  refine lv_iconst (v := (0 : Int32)) hx hb dX0_castOut_27 (by decide) ?_
  obtain ⟨f_row_28, hg28, hf⟩ := ob1_some hf
  refine mcV_v (wr := [(qD0, .inr (0, [.ref qr0, .ref qf0, .ref qL0]))]) (As := [.int p1, .int (4 : Int32), .int (0 : Int32)]) (rest := []) hx hb hml hown hts hK hP hD hS hA (k_X1_set l N D cI cJ cZ cB cT qf0 qf1 qf2 qf3 f_row_18 p1 (4 : Int32) (0 : Int32) f_row_28 hg28) (kwX0_48 hts rfl rfl ⟨Nat.le_of_ble_eq_true rfl, Nat.le_of_ble_eq_true rfl⟩) [0, 1] [2] rfl rfl rfl (by decide) rfl 0 rfl rfl rfl rfl hl.1 rfl (Nat.le_of_ble_eq_true rfl) dX0_castOut_28 ⟨Nat.zero_le _, Nat.zero_le _⟩ (fun H locs hP hD hS => ?_)
  have hP := mP_sub (wc := (W_DD_24t25_35 qf0 qf1 qD0 qf2 qf3 qr0 qL0 cI cJ cZ cB cT f_row_28)) hP [1, 2, 0] rfl
  have hD := hD.sub (ws' := (W_DD_24t25_35 qf0 qf1 qD0 qf2 qf3 qr0 qL0 cI cJ cZ cB cT f_row_28)) [1, 2, 0] rfl rfl
  refine lv_aload_n hx hb dX0_castOut_31 rfl (lv_at hl 0 rfl) ?_
  refine gfX0_15 hx hb hts hown hK hP 2 rfl rfl dX0_castOut_32 ?_
  refine lv_iload_n hx hb dX0_castOut_35 rfl (lv_at hl 1 rfl) ?_
  refine lv_iconst (v := (3 : Int32)) hx hb dX0_castOut_36 (by decide) ?_
  refine lv_iconst (v := (0 : Int32)) hx hb dX0_castOut_37 (by decide) ?_
  obtain ⟨f_row_38, hg38, hf⟩ := ob1_some hf
  refine mcV_v (wr := [(qD0, .inr (0, [.ref qr0, .ref qf0, .ref qL0]))]) (As := [.int p1, .int (3 : Int32), .int (0 : Int32)]) (rest := []) hx hb hml hown hts hK hP hD hS hA (k_X1_set l N D cI cJ cZ cB cT qf0 qf1 qf2 qf3 f_row_28 p1 (3 : Int32) (0 : Int32) f_row_38 hg38) (kwX0_48 hts rfl rfl ⟨Nat.le_of_ble_eq_true rfl, Nat.le_of_ble_eq_true rfl⟩) [0, 1] [2] rfl rfl rfl (by decide) rfl 0 rfl rfl rfl rfl hl.1 rfl (Nat.le_of_ble_eq_true rfl) dX0_castOut_38 ⟨Nat.zero_le _, Nat.zero_le _⟩ (fun H locs hP hD hS => ?_)
  have hP := mP_sub (wc := (W_DD_24t25_35 qf0 qf1 qD0 qf2 qf3 qr0 qL0 cI cJ cZ cB cT f_row_38)) hP [1, 2, 0] rfl
  have hD := hD.sub (ws' := (W_DD_24t25_35 qf0 qf1 qD0 qf2 qf3 qr0 qL0 cI cJ cZ cB cT f_row_38)) [1, 2, 0] rfl rfl
  refine lv_aload_n hx hb dX0_castOut_41 rfl (lv_at hl 0 rfl) ?_
  refine gfX0_15 hx hb hts hown hK hP 2 rfl rfl dX0_castOut_42 ?_
  refine lv_iload_n hx hb dX0_castOut_45 rfl (lv_at hl 1 rfl) ?_
  refine lv_iconst (v := (1 : Int32)) hx hb dX0_castOut_46 (by decide) ?_
  refine lv_iconst (v := (0 : Int32)) hx hb dX0_castOut_47 (by decide) ?_
  obtain ⟨f_row_48, hg48, hf⟩ := ob1_some hf
  refine mcV_v (wr := [(qD0, .inr (0, [.ref qr0, .ref qf0, .ref qL0]))]) (As := [.int p1, .int (1 : Int32), .int (0 : Int32)]) (rest := []) hx hb hml hown hts hK hP hD hS hA (k_X1_set l N D cI cJ cZ cB cT qf0 qf1 qf2 qf3 f_row_38 p1 (1 : Int32) (0 : Int32) f_row_48 hg48) (kwX0_48 hts rfl rfl ⟨Nat.le_of_ble_eq_true rfl, Nat.le_of_ble_eq_true rfl⟩) [0, 1] [2] rfl rfl rfl (by decide) rfl 0 rfl rfl rfl rfl hl.1 rfl (Nat.le_of_ble_eq_true rfl) dX0_castOut_48 ⟨Nat.zero_le _, Nat.zero_le _⟩ (fun H locs hP hD hS => ?_)
  have hP := mP_sub (wc := (W_DD_24t25_35 qf0 qf1 qD0 qf2 qf3 qr0 qL0 cI cJ cZ cB cT f_row_48)) hP [1, 2, 0] rfl
  have hD := hD.sub (ws' := (W_DD_24t25_35 qf0 qf1 qD0 qf2 qf3 qr0 qL0 cI cJ cZ cB cT f_row_48)) [1, 2, 0] rfl rfl
  refine lv_aload_n hx hb dX0_castOut_51 rfl (lv_at hl 0 rfl) ?_
  refine gfX0_15 hx hb hts hown hK hP 2 rfl rfl dX0_castOut_52 ?_
  refine lv_iload_n hx hb dX0_castOut_55 rfl (lv_at hl 1 rfl) ?_
  refine lv_iconst (v := (2 : Int32)) hx hb dX0_castOut_56 (by decide) ?_
  refine lv_iconst (v := (0 : Int32)) hx hb dX0_castOut_57 (by decide) ?_
  obtain ⟨f_row_58, hg58, hf⟩ := ob1_some hf
  refine mcV_v (wr := [(qD0, .inr (0, [.ref qr0, .ref qf0, .ref qL0]))]) (As := [.int p1, .int (2 : Int32), .int (0 : Int32)]) (rest := []) hx hb hml hown hts hK hP hD hS hA (k_X1_set l N D cI cJ cZ cB cT qf0 qf1 qf2 qf3 f_row_48 p1 (2 : Int32) (0 : Int32) f_row_58 hg58) (kwX0_48 hts rfl rfl ⟨Nat.le_of_ble_eq_true rfl, Nat.le_of_ble_eq_true rfl⟩) [0, 1] [2] rfl rfl rfl (by decide) rfl 0 rfl rfl rfl rfl hl.1 rfl (Nat.le_of_ble_eq_true rfl) dX0_castOut_58 ⟨Nat.zero_le _, Nat.zero_le _⟩ (fun H locs hP hD hS => ?_)
  have hP := mP_sub (wc := (W_DD_24t25_35 qf0 qf1 qD0 qf2 qf3 qr0 qL0 cI cJ cZ cB cT f_row_58)) hP [1, 2, 0] rfl
  have hD := hD.sub (ws' := (W_DD_24t25_35 qf0 qf1 qD0 qf2 qf3 qr0 qL0 cI cJ cZ cB cT f_row_58)) [1, 2, 0] rfl rfl
  refine lv_aload_n hx hb dX0_castOut_61 rfl (lv_at hl 0 rfl) ?_
  refine gfX0_15 hx hb hts hown hK hP 2 rfl rfl dX0_castOut_62 ?_
  refine lv_iload_n hx hb dX0_castOut_65 rfl (lv_at hl 1 rfl) ?_
  refine lv_iconst (v := (1 : Int32)) hx hb dX0_castOut_66 (by decide) ?_
  obtain ⟨f_row_67, hg67, hf⟩ := ob1_some hf
  refine mcV_v (wr := [(qD0, .inr (0, [.ref qr0, .ref qf0, .ref qL0]))]) (As := [.int p1, .int (1 : Int32)]) (rest := []) hx hb hml hown hts hK hP hD hS hA (k_X1_write l N D cI cJ cZ cB cT qf0 qf1 qf2 qf3 f_row_58 p1 (1 : Int32) f_row_67 hg67) (kwX0_52 hts rfl rfl ⟨Nat.le_of_ble_eq_true rfl, Nat.le_of_ble_eq_true rfl⟩) [0, 1] [2] rfl rfl rfl (by decide) rfl 0 rfl rfl rfl rfl hl.1 rfl (Nat.le_of_ble_eq_true rfl) dX0_castOut_67 ⟨Nat.zero_le _, Nat.zero_le _⟩ (fun H locs hP hD hS => ?_)
  have hP := mP_sub (wc := (W_DD_24t25_35 qf0 qf1 qD0 qf2 qf3 qr0 qL0 cI cJ cZ cB cT f_row_67)) hP [1, 2, 0] rfl
  have hD := hD.sub (ws' := (W_DD_24t25_35 qf0 qf1 qD0 qf2 qf3 qr0 qL0 cI cJ cZ cB cT f_row_67)) [1, 2, 0] rfl rfl
  cases hf
  exact mret_v hx hb hr hlocks hP hD hS dX0_castOut_70
theorem dX0_setFree_0 : decode cX0_setFree 0 = .ok (.aload_n 0, 1) := by decide +kernel
theorem dX0_setFree_1 : decode cX0_setFree 1 = .ok (.getfield 15, 3) := by decide +kernel
theorem dX0_setFree_4 : decode cX0_setFree 4 = .ok (.iload_n 1, 1) := by decide +kernel
theorem dX0_setFree_5 : decode cX0_setFree 5 = .ok (.bipush 6, 2) := by decide +kernel
theorem dX0_setFree_7 : decode cX0_setFree 7 = .ok (.iconst 2, 1) := by decide +kernel
theorem dX0_setFree_8 : decode cX0_setFree 8 = .ok (.invokevirtual 48, 3) := by decide +kernel
theorem dX0_setFree_11 : decode cX0_setFree 11 = .ok (.aload_n 0, 1) := by decide +kernel
theorem dX0_setFree_12 : decode cX0_setFree 12 = .ok (.getfield 15, 3) := by decide +kernel
theorem dX0_setFree_15 : decode cX0_setFree 15 = .ok (.iload_n 1, 1) := by decide +kernel
theorem dX0_setFree_16 : decode cX0_setFree 16 = .ok (.iconst 5, 1) := by decide +kernel
theorem dX0_setFree_17 : decode cX0_setFree 17 = .ok (.iconst 0, 1) := by decide +kernel
theorem dX0_setFree_18 : decode cX0_setFree 18 = .ok (.invokevirtual 48, 3) := by decide +kernel
theorem dX0_setFree_21 : decode cX0_setFree 21 = .ok (.aload_n 0, 1) := by decide +kernel
theorem dX0_setFree_22 : decode cX0_setFree 22 = .ok (.getfield 15, 3) := by decide +kernel
theorem dX0_setFree_25 : decode cX0_setFree 25 = .ok (.iload_n 1, 1) := by decide +kernel
theorem dX0_setFree_26 : decode cX0_setFree 26 = .ok (.iconst 4, 1) := by decide +kernel
theorem dX0_setFree_27 : decode cX0_setFree 27 = .ok (.iconst 0, 1) := by decide +kernel
theorem dX0_setFree_28 : decode cX0_setFree 28 = .ok (.invokevirtual 48, 3) := by decide +kernel
theorem dX0_setFree_31 : decode cX0_setFree 31 = .ok (.return_, 1) := by decide +kernel
def f_X0_setFree (N : Nat) (f_row : Nat → Int32) (p1 : Int32) : Option ((Nat → Int32)) := ob1 (f_X1_set N f_row p1 (6 : Int32) (2 : Int32)) fun f_row_8 => ob1 (f_X1_set N f_row_8 p1 (5 : Int32) (0 : Int32)) fun f_row_18 => ob1 (f_X1_set N f_row_18 p1 (4 : Int32) (0 : Int32)) fun f_row_28 => some f_row_28
set_option maxHeartbeats 4000000 in
set_option maxRecDepth 100000 in
theorem k_X0_setFree (l : Launch) (N : Nat) (D : va_G) (cI cJ cZ cB cT : ClassId) (qf0 : Nat) (qf1 : Nat) (qD0 : Nat) (qf2 : Nat) (qf3 : Nat) (qr0 : Nat) (qL0 : Nat) (f_row : Nat → Int32) (p1 : Int32) (o_f_row : Nat → Int32) (hf : f_X0_setFree N f_row p1 = some o_f_row) : ∀ sz, Met l yX0_setFree (mw yX0_setFree cX0_setFree 2 none) ({ frames := 2, cells := 0, slots := 0, locals := 44 } : Room) (mPre D (mT cI cJ cZ cB cT) (W_DD_24t25_35 qf0 qf1 qD0 qf2 qf3 qr0 qL0 cI cJ cZ cB cT f_row) sz [.ref qD0, .int p1]) ((mQv D (W_DD_24t25_35 qf0 qf1 qD0 qf2 qf3 qr0 qL0 cI cJ cZ cB cT o_f_row)) (va_A (W_DD_24t25_35 qf0 qf1 qD0 qf2 qf3 qr0 qL0 cI cJ cZ cB cT f_row) sz)) 0 0 (va_A (W_DD_24t25_35 qf0 qf1 qD0 qf2 qf3 qr0 qL0 cI cJ cZ cB cT f_row) sz) := by
  refine mMet (Qc := (mQv D (W_DD_24t25_35 qf0 qf1 qD0 qf2 qf3 qr0 qL0 cI cJ cZ cB cT o_f_row))) (by decide) (Nat.le_of_ble_eq_true rfl) (fun p e s m below meth c A ls hx hb hr hml hts hown hlocks hK hA hP hD hl => ?_)
  have hown : s.vm.findClass RX0 = some m.cls := hown
  have hl : lv_has ls 2 [(0, .ref qD0), (1, .int p1)] := hl
  have hS : va_S A s.heap s.heap [] := va_S.rf
  unfold f_X0_setFree at hf
  refine lv_aload_n hx hb dX0_setFree_0 rfl (lv_at hl 0 rfl) ?_
  refine gfX0_15 hx hb hts hown hK hP 2 rfl rfl dX0_setFree_1 ?_
  refine lv_iload_n hx hb dX0_setFree_4 rfl (lv_at hl 1 rfl) ?_
  refine lv_bipush (v := (6 : Int32)) hx hb dX0_setFree_5 (by decide) ?_
  refine lv_iconst (v := (2 : Int32)) hx hb dX0_setFree_7 (by decide) ?_
  obtain ⟨f_row_8, hg8, hf⟩ := ob1_some hf
  refine mcV_v (wr := [(qD0, .inr (0, [.ref qr0, .ref qf0, .ref qL0]))]) (As := [.int p1, .int (6 : Int32), .int (2 : Int32)]) (rest := []) hx hb hml hown hts hK hP hD hS hA (k_X1_set l N D cI cJ cZ cB cT qf0 qf1 qf2 qf3 f_row p1 (6 : Int32) (2 : Int32) f_row_8 hg8) (kwX0_48 hts rfl rfl ⟨Nat.le_of_ble_eq_true rfl, Nat.le_of_ble_eq_true rfl⟩) [0, 1] [2] rfl rfl rfl (by decide) rfl 0 rfl rfl rfl rfl hl.1 rfl (Nat.le_of_ble_eq_true rfl) dX0_setFree_8 ⟨Nat.zero_le _, Nat.zero_le _⟩ (fun H locs hP hD hS => ?_)
  have hP := mP_sub (wc := (W_DD_24t25_35 qf0 qf1 qD0 qf2 qf3 qr0 qL0 cI cJ cZ cB cT f_row_8)) hP [1, 2, 0] rfl
  have hD := hD.sub (ws' := (W_DD_24t25_35 qf0 qf1 qD0 qf2 qf3 qr0 qL0 cI cJ cZ cB cT f_row_8)) [1, 2, 0] rfl rfl
  refine lv_aload_n hx hb dX0_setFree_11 rfl (lv_at hl 0 rfl) ?_
  refine gfX0_15 hx hb hts hown hK hP 2 rfl rfl dX0_setFree_12 ?_
  refine lv_iload_n hx hb dX0_setFree_15 rfl (lv_at hl 1 rfl) ?_
  refine lv_iconst (v := (5 : Int32)) hx hb dX0_setFree_16 (by decide) ?_
  refine lv_iconst (v := (0 : Int32)) hx hb dX0_setFree_17 (by decide) ?_
  obtain ⟨f_row_18, hg18, hf⟩ := ob1_some hf
  refine mcV_v (wr := [(qD0, .inr (0, [.ref qr0, .ref qf0, .ref qL0]))]) (As := [.int p1, .int (5 : Int32), .int (0 : Int32)]) (rest := []) hx hb hml hown hts hK hP hD hS hA (k_X1_set l N D cI cJ cZ cB cT qf0 qf1 qf2 qf3 f_row_8 p1 (5 : Int32) (0 : Int32) f_row_18 hg18) (kwX0_48 hts rfl rfl ⟨Nat.le_of_ble_eq_true rfl, Nat.le_of_ble_eq_true rfl⟩) [0, 1] [2] rfl rfl rfl (by decide) rfl 0 rfl rfl rfl rfl hl.1 rfl (Nat.le_of_ble_eq_true rfl) dX0_setFree_18 ⟨Nat.zero_le _, Nat.zero_le _⟩ (fun H locs hP hD hS => ?_)
  have hP := mP_sub (wc := (W_DD_24t25_35 qf0 qf1 qD0 qf2 qf3 qr0 qL0 cI cJ cZ cB cT f_row_18)) hP [1, 2, 0] rfl
  have hD := hD.sub (ws' := (W_DD_24t25_35 qf0 qf1 qD0 qf2 qf3 qr0 qL0 cI cJ cZ cB cT f_row_18)) [1, 2, 0] rfl rfl
  refine lv_aload_n hx hb dX0_setFree_21 rfl (lv_at hl 0 rfl) ?_
  refine gfX0_15 hx hb hts hown hK hP 2 rfl rfl dX0_setFree_22 ?_
  refine lv_iload_n hx hb dX0_setFree_25 rfl (lv_at hl 1 rfl) ?_
  refine lv_iconst (v := (4 : Int32)) hx hb dX0_setFree_26 (by decide) ?_
  refine lv_iconst (v := (0 : Int32)) hx hb dX0_setFree_27 (by decide) ?_
  obtain ⟨f_row_28, hg28, hf⟩ := ob1_some hf
  refine mcV_v (wr := [(qD0, .inr (0, [.ref qr0, .ref qf0, .ref qL0]))]) (As := [.int p1, .int (4 : Int32), .int (0 : Int32)]) (rest := []) hx hb hml hown hts hK hP hD hS hA (k_X1_set l N D cI cJ cZ cB cT qf0 qf1 qf2 qf3 f_row_18 p1 (4 : Int32) (0 : Int32) f_row_28 hg28) (kwX0_48 hts rfl rfl ⟨Nat.le_of_ble_eq_true rfl, Nat.le_of_ble_eq_true rfl⟩) [0, 1] [2] rfl rfl rfl (by decide) rfl 0 rfl rfl rfl rfl hl.1 rfl (Nat.le_of_ble_eq_true rfl) dX0_setFree_28 ⟨Nat.zero_le _, Nat.zero_le _⟩ (fun H locs hP hD hS => ?_)
  have hP := mP_sub (wc := (W_DD_24t25_35 qf0 qf1 qD0 qf2 qf3 qr0 qL0 cI cJ cZ cB cT f_row_28)) hP [1, 2, 0] rfl
  have hD := hD.sub (ws' := (W_DD_24t25_35 qf0 qf1 qD0 qf2 qf3 qr0 qL0 cI cJ cZ cB cT f_row_28)) [1, 2, 0] rfl rfl
  cases hf
  exact mret_v hx hb hr hlocks hP hD hS dX0_setFree_31
theorem dX0_summon_0 : decode cX0_summon 0 = .ok (.aload_n 0, 1) := by decide +kernel
theorem dX0_summon_1 : decode cX0_summon 1 = .ok (.iload_n 1, 1) := by decide +kernel
theorem dX0_summon_2 : decode cX0_summon 2 = .ok (.invokevirtual 36, 3) := by decide +kernel
theorem dX0_summon_5 : decode cX0_summon 5 = .ok (.ifCond .eq 25, 3) := by decide +kernel
theorem dX0_summon_8 : decode cX0_summon 8 = .ok (.aload_n 0, 1) := by decide +kernel
theorem dX0_summon_9 : decode cX0_summon 9 = .ok (.iload_n 1, 1) := by decide +kernel
theorem dX0_summon_10 : decode cX0_summon 10 = .ok (.invokevirtual 33, 3) := by decide +kernel
theorem dX0_summon_13 : decode cX0_summon 13 = .ok (.ifCond .ne 17, 3) := by decide +kernel
theorem dX0_summon_16 : decode cX0_summon 16 = .ok (.aload_n 0, 1) := by decide +kernel
theorem dX0_summon_17 : decode cX0_summon 17 = .ok (.getfield 9, 3) := by decide +kernel
theorem dX0_summon_20 : decode cX0_summon 20 = .ok (.getfield 39, 3) := by decide +kernel
theorem dX0_summon_23 : decode cX0_summon 23 = .ok (.iload_n 2, 1) := by decide +kernel
theorem dX0_summon_24 : decode cX0_summon 24 = .ok (.invokevirtual 45, 3) := by decide +kernel
theorem dX0_summon_27 : decode cX0_summon 27 = .ok (.ifCond .ne 5, 3) := by decide +kernel
theorem dX0_summon_30 : decode cX0_summon 30 = .ok (.iconst (-1), 1) := by decide +kernel
theorem dX0_summon_31 : decode cX0_summon 31 = .ok (.ireturn, 1) := by decide +kernel
theorem dX0_summon_32 : decode cX0_summon 32 = .ok (.aload_n 0, 1) := by decide +kernel
theorem dX0_summon_33 : decode cX0_summon 33 = .ok (.getfield 15, 3) := by decide +kernel
theorem dX0_summon_36 : decode cX0_summon 36 = .ok (.iload_n 1, 1) := by decide +kernel
theorem dX0_summon_37 : decode cX0_summon 37 = .ok (.iconst 0, 1) := by decide +kernel
theorem dX0_summon_38 : decode cX0_summon 38 = .ok (.invokevirtual 29, 3) := by decide +kernel
theorem dX0_summon_41 : decode cX0_summon 41 = .ok (.iload_n 2, 1) := by decide +kernel
theorem dX0_summon_42 : decode cX0_summon 42 = .ok (.if_icmp .ne 24, 3) := by decide +kernel
theorem dX0_summon_45 : decode cX0_summon 45 = .ok (.aload_n 0, 1) := by decide +kernel
theorem dX0_summon_46 : decode cX0_summon 46 = .ok (.getfield 15, 3) := by decide +kernel
theorem dX0_summon_49 : decode cX0_summon 49 = .ok (.iload_n 1, 1) := by decide +kernel
theorem dX0_summon_50 : decode cX0_summon 50 = .ok (.iconst 3, 1) := by decide +kernel
theorem dX0_summon_51 : decode cX0_summon 51 = .ok (.iconst 0, 1) := by decide +kernel
theorem dX0_summon_52 : decode cX0_summon 52 = .ok (.invokevirtual 48, 3) := by decide +kernel
theorem dX0_summon_55 : decode cX0_summon 55 = .ok (.aload_n 0, 1) := by decide +kernel
theorem dX0_summon_56 : decode cX0_summon 56 = .ok (.getfield 15, 3) := by decide +kernel
theorem dX0_summon_59 : decode cX0_summon 59 = .ok (.iload_n 1, 1) := by decide +kernel
theorem dX0_summon_60 : decode cX0_summon 60 = .ok (.iconst 0, 1) := by decide +kernel
theorem dX0_summon_61 : decode cX0_summon 61 = .ok (.invokevirtual 52, 3) := by decide +kernel
theorem dX0_summon_64 : decode cX0_summon 64 = .ok (.iconst 0, 1) := by decide +kernel
theorem dX0_summon_65 : decode cX0_summon 65 = .ok (.ireturn, 1) := by decide +kernel
theorem dX0_summon_66 : decode cX0_summon 66 = .ok (.aload_n 0, 1) := by decide +kernel
theorem dX0_summon_67 : decode cX0_summon 67 = .ok (.getfield 15, 3) := by decide +kernel
theorem dX0_summon_70 : decode cX0_summon 70 = .ok (.iload_n 1, 1) := by decide +kernel
theorem dX0_summon_71 : decode cX0_summon 71 = .ok (.iconst 3, 1) := by decide +kernel
theorem dX0_summon_72 : decode cX0_summon 72 = .ok (.invokevirtual 29, 3) := by decide +kernel
theorem dX0_summon_75 : decode cX0_summon 75 = .ok (.iconst 1, 1) := by decide +kernel
theorem dX0_summon_76 : decode cX0_summon 76 = .ok (.iadd, 1) := by decide +kernel
theorem dX0_summon_77 : decode cX0_summon 77 = .ok (.istore_n 3, 1) := by decide +kernel
theorem dX0_summon_78 : decode cX0_summon 78 = .ok (.iload_n 3, 1) := by decide +kernel
theorem dX0_summon_79 : decode cX0_summon 79 = .ok (.iconst 5, 1) := by decide +kernel
theorem dX0_summon_80 : decode cX0_summon 80 = .ok (.if_icmp .lt 10, 3) := by decide +kernel
theorem dX0_summon_83 : decode cX0_summon 83 = .ok (.aload_n 0, 1) := by decide +kernel
theorem dX0_summon_84 : decode cX0_summon 84 = .ok (.iload_n 1, 1) := by decide +kernel
theorem dX0_summon_85 : decode cX0_summon 85 = .ok (.invokevirtual 56, 3) := by decide +kernel
theorem dX0_summon_88 : decode cX0_summon 88 = .ok (.iconst 0, 1) := by decide +kernel
theorem dX0_summon_89 : decode cX0_summon 89 = .ok (.ireturn, 1) := by decide +kernel
theorem dX0_summon_90 : decode cX0_summon 90 = .ok (.aload_n 0, 1) := by decide +kernel
theorem dX0_summon_91 : decode cX0_summon 91 = .ok (.getfield 15, 3) := by decide +kernel
theorem dX0_summon_94 : decode cX0_summon 94 = .ok (.iload_n 1, 1) := by decide +kernel
theorem dX0_summon_95 : decode cX0_summon 95 = .ok (.iconst 3, 1) := by decide +kernel
theorem dX0_summon_96 : decode cX0_summon 96 = .ok (.iload_n 3, 1) := by decide +kernel
theorem dX0_summon_97 : decode cX0_summon 97 = .ok (.invokevirtual 48, 3) := by decide +kernel
theorem dX0_summon_100 : decode cX0_summon 100 = .ok (.iload_n 3, 1) := by decide +kernel
theorem dX0_summon_101 : decode cX0_summon 101 = .ok (.ireturn, 1) := by decide +kernel
def f_X0_summon (N : Nat) (d_n : Int32) (f_row : Nat → Int32) (p1 : Int32) (p2 : Int32) : Option (Int32 × (Nat → Int32)) := ob1 (f_X0_alive N f_row p1) fun r2 => if r2 = 0 then (some ((-1 : Int32), f_row)) else (ob1 (f_X0_outlaw N f_row p1) fun r10 => if r10 = 0 then (ob1 (f_X2_told N d_n p2) fun r24 => if r24 = 0 then (some ((-1 : Int32), f_row)) else (ob1 (f_X1_get N f_row p1 (0 : Int32)) fun r38 => if r38 = p2 then (ob1 (f_X1_set N f_row p1 (3 : Int32) (0 : Int32)) fun f_row_52 => ob1 (f_X1_write N f_row_52 p1 (0 : Int32)) fun f_row_61 => some ((0 : Int32), f_row_61)) else (ob1 (f_X1_get N f_row p1 (3 : Int32)) fun r72 => if (r72 + (1 : Int32)) < (5 : Int32) then (ob1 (f_X1_set N f_row p1 (3 : Int32) (r72 + (1 : Int32))) fun f_row_97 => some ((r72 + (1 : Int32)), f_row_97)) else (ob1 (f_X0_castOut N f_row p1) fun f_row_85 => some ((0 : Int32), f_row_85))))) else (some ((-1 : Int32), f_row)))
set_option maxHeartbeats 4000000 in
set_option maxRecDepth 100000 in
theorem k_X0_summon (l : Launch) (N : Nat) (D : va_G) (cI cJ cZ cB cT : ClassId) (qd0 : Nat) (qf0 : Nat) (qf1 : Nat) (qr0 : Nat) (qD0 : Nat) (qd1 : Nat) (qd2 : Nat) (qf2 : Nat) (qf3 : Nat) (qG1 : Nat) (qG2 : Nat) (qG3 : Nat) (qL0 : Nat) (d_n : Int32) (f_row : Nat → Int32) (r_tx : Int32) (r_rul : Int32) (p1 : Int32) (p2 : Int32) (o_r : Int32) (o_f_row : Nat → Int32) (hf : f_X0_summon N d_n f_row p1 p2 = some (o_r, o_f_row)) : ∀ sz, Met l yX0_summon (mw yX0_summon cX0_summon 4 (some .int)) ({ frames := 3, cells := 0, slots := 0, locals := 104 } : Room) (mPre D (mT cI cJ cZ cB cT) (W_DD_0_24t25_31_35 qd0 qf0 qf1 qr0 qD0 qd1 qd2 qf2 qf3 qG1 qG2 qG3 qL0 cI cJ cZ cB cT d_n f_row r_tx r_rul) sz [.ref qD0, .int p1, .int p2]) ((mQi D (W_DD_0_24t25_31_35 qd0 qf0 qf1 qr0 qD0 qd1 qd2 qf2 qf3 qG1 qG2 qG3 qL0 cI cJ cZ cB cT d_n o_f_row r_tx r_rul) o_r True) (va_A (W_DD_0_24t25_31_35 qd0 qf0 qf1 qr0 qD0 qd1 qd2 qf2 qf3 qG1 qG2 qG3 qL0 cI cJ cZ cB cT d_n f_row r_tx r_rul) sz)) 0 0 (va_A (W_DD_0_24t25_31_35 qd0 qf0 qf1 qr0 qD0 qd1 qd2 qf2 qf3 qG1 qG2 qG3 qL0 cI cJ cZ cB cT d_n f_row r_tx r_rul) sz) := by
  refine mMet (Qc := (mQi D (W_DD_0_24t25_31_35 qd0 qf0 qf1 qr0 qD0 qd1 qd2 qf2 qf3 qG1 qG2 qG3 qL0 cI cJ cZ cB cT d_n o_f_row r_tx r_rul) o_r True)) (by decide) (Nat.le_of_ble_eq_true rfl) (fun p e s m below meth c A ls hx hb hr hml hts hown hlocks hK hA hP hD hl => ?_)
  have hown : s.vm.findClass RX0 = some m.cls := hown
  have hl : lv_has ls 4 [(0, .ref qD0), (1, .int p1), (2, .int p2)] := hl
  have hS : va_S A s.heap s.heap [] := va_S.rf
  unfold f_X0_summon at hf
  refine lv_aload_n hx hb dX0_summon_0 rfl (lv_at hl 0 rfl) ?_
  refine lv_iload_n hx hb dX0_summon_1 rfl (lv_at hl 1 rfl) ?_
  obtain ⟨r2, hg2, hf⟩ := ob1_some hf
  refine mcV_i (wr := [(qd0, .inr (2, [.int d_n, .ref qd1, .ref qd2])), (qr0, .inr (6, [.ref qd0, .ref qG1, .ref qG2, .ref qG3, .int r_tx, .int r_rul]))]) (As := [.int p1]) (rest := []) hx hb hml hown hts hK hP hD hS hA (k_X0_alive l N D cI cJ cZ cB cT qf0 qf1 qD0 qf2 qf3 qr0 qL0 f_row p1 r2 hg2) (kwX0_36 hts rfl rfl ⟨Nat.le_of_ble_eq_true rfl, Nat.le_of_ble_eq_true rfl⟩) [1, 2, 4] [0, 3] rfl rfl rfl (by decide) rfl 2 rfl rfl rfl rfl hl.1 rfl (Nat.le_of_ble_eq_true rfl) dX0_summon_2 ⟨Nat.zero_le _, Nat.zero_le _⟩ (fun hB2 H locs hP hD hS => ?_)
  have hP := mP_sub (wc := (W_DD_0_24t25_31_35 qd0 qf0 qf1 qr0 qD0 qd1 qd2 qf2 qf3 qG1 qG2 qG3 qL0 cI cJ cZ cB cT d_n f_row r_tx r_rul)) hP [0, 2, 3, 1, 4] rfl
  have hD := hD.sub (ws' := (W_DD_0_24t25_31_35 qd0 qf0 qf1 qr0 qD0 qd1 qd2 qf2 qf3 qG1 qG2 qG3 qL0 cI cJ cZ cB cT d_n f_row r_tx r_rul)) [0, 2, 3, 1, 4] rfl rfl
  refine xif_eq hx hb 30 dX0_summon_5 (by decide) hf (fun hf => ?_) (fun hf => ?_)
  · refine lv_iconst (v := (-1 : Int32)) hx hb dX0_summon_30 (by decide) ?_
    cases hf
    exact mret_i hx hb hr hlocks hP hD hS dX0_summon_31 rfl trivial
  · refine lv_aload_n hx hb dX0_summon_8 rfl (lv_at hl 0 rfl) ?_
    refine lv_iload_n hx hb dX0_summon_9 rfl (lv_at hl 1 rfl) ?_
    obtain ⟨r10, hg10, hf⟩ := ob1_some hf
    refine mcV_i (wr := [(qd0, .inr (2, [.int d_n, .ref qd1, .ref qd2])), (qr0, .inr (6, [.ref qd0, .ref qG1, .ref qG2, .ref qG3, .int r_tx, .int r_rul]))]) (As := [.int p1]) (rest := []) hx hb hml hown hts hK hP hD hS hA (k_X0_outlaw l N D cI cJ cZ cB cT qf0 qf1 qD0 qf2 qf3 qr0 qL0 f_row p1 r10 hg10) (kwX0_33 hts rfl rfl ⟨Nat.le_of_ble_eq_true rfl, Nat.le_of_ble_eq_true rfl⟩) [1, 2, 4] [0, 3] rfl rfl rfl (by decide) rfl 2 rfl rfl rfl rfl hl.1 rfl (Nat.le_of_ble_eq_true rfl) dX0_summon_10 ⟨Nat.zero_le _, Nat.zero_le _⟩ (fun hB10 H locs hP hD hS => ?_)
    have hP := mP_sub (wc := (W_DD_0_24t25_31_35 qd0 qf0 qf1 qr0 qD0 qd1 qd2 qf2 qf3 qG1 qG2 qG3 qL0 cI cJ cZ cB cT d_n f_row r_tx r_rul)) hP [0, 2, 3, 1, 4] rfl
    have hD := hD.sub (ws' := (W_DD_0_24t25_31_35 qd0 qf0 qf1 qr0 qD0 qd1 qd2 qf2 qf3 qG1 qG2 qG3 qL0 cI cJ cZ cB cT d_n f_row r_tx r_rul)) [0, 2, 3, 1, 4] rfl rfl
    refine xif_ne hx hb 30 dX0_summon_13 (by decide) hf (fun hf => ?_) (fun hf => ?_)
    · refine lv_aload_n hx hb dX0_summon_16 rfl (lv_at hl 0 rfl) ?_
      refine gfX0_9 hx hb hts hown hK hP 4 rfl rfl dX0_summon_17 ?_
      refine gfX0_39 hx hb hts hown hK hP 3 rfl rfl dX0_summon_20 ?_
      refine lv_iload_n hx hb dX0_summon_23 rfl (lv_at hl 2 rfl) ?_
      obtain ⟨r24, hg24, hf⟩ := ob1_some hf
      refine mcV_i (wr := [(qf0, .inr (1, [.ref qf1, .ref qf2, .ref qf3])), (qf1, .inl (cI, 76, .inl f_row)), (qr0, .inr (6, [.ref qd0, .ref qG1, .ref qG2, .ref qG3, .int r_tx, .int r_rul])), (qD0, .inr (0, [.ref qr0, .ref qf0, .ref qL0]))]) (As := [.int p2]) (rest := []) hx hb hml hown hts hK hP hD hS hA (k_X2_told l N D cI cJ cZ cB cT qd0 qd1 qd2 d_n p2 r24 hg24) (kwX0_45 hts rfl rfl ⟨Nat.le_of_ble_eq_true rfl, Nat.le_of_ble_eq_true rfl⟩) [0] [1, 2, 3, 4] rfl rfl rfl (by decide) rfl 0 rfl rfl rfl rfl hl.1 rfl (Nat.le_of_ble_eq_true rfl) dX0_summon_24 ⟨Nat.zero_le _, Nat.zero_le _⟩ (fun hB24 H locs hP hD hS => ?_)
      have hP := mP_sub (wc := (W_DD_0_24t25_31_35 qd0 qf0 qf1 qr0 qD0 qd1 qd2 qf2 qf3 qG1 qG2 qG3 qL0 cI cJ cZ cB cT d_n f_row r_tx r_rul)) hP [4, 0, 1, 2, 3] rfl
      have hD := hD.sub (ws' := (W_DD_0_24t25_31_35 qd0 qf0 qf1 qr0 qD0 qd1 qd2 qf2 qf3 qG1 qG2 qG3 qL0 cI cJ cZ cB cT d_n f_row r_tx r_rul)) [4, 0, 1, 2, 3] rfl rfl
      refine xif_ne hx hb 32 dX0_summon_27 (by decide) hf (fun hf => ?_) (fun hf => ?_)
      · refine lv_iconst (v := (-1 : Int32)) hx hb dX0_summon_30 (by decide) ?_
        cases hf
        exact mret_i hx hb hr hlocks hP hD hS dX0_summon_31 rfl trivial
      · refine lv_aload_n hx hb dX0_summon_32 rfl (lv_at hl 0 rfl) ?_
        refine gfX0_15 hx hb hts hown hK hP 4 rfl rfl dX0_summon_33 ?_
        refine lv_iload_n hx hb dX0_summon_36 rfl (lv_at hl 1 rfl) ?_
        refine lv_iconst (v := (0 : Int32)) hx hb dX0_summon_37 (by decide) ?_
        obtain ⟨r38, hg38, hf⟩ := ob1_some hf
        refine mcV_i (wr := [(qd0, .inr (2, [.int d_n, .ref qd1, .ref qd2])), (qr0, .inr (6, [.ref qd0, .ref qG1, .ref qG2, .ref qG3, .int r_tx, .int r_rul])), (qD0, .inr (0, [.ref qr0, .ref qf0, .ref qL0]))]) (As := [.int p1, .int (0 : Int32)]) (rest := []) hx hb hml hown hts hK hP hD hS hA (k_X1_get l N D cI cJ cZ cB cT qf0 qf1 qf2 qf3 f_row p1 (0 : Int32) r38 hg38) (kwX0_29 hts rfl rfl ⟨Nat.le_of_ble_eq_true rfl, Nat.le_of_ble_eq_true rfl⟩) [1, 2] [0, 3, 4] rfl rfl rfl (by decide) rfl 0 rfl rfl rfl rfl hl.1 rfl (Nat.le_of_ble_eq_true rfl) dX0_summon_38 ⟨Nat.zero_le _, Nat.zero_le _⟩ (fun hB38 H locs hP hD hS => ?_)
        have hP := mP_sub (wc := (W_DD_0_24t25_31_35 qd0 qf0 qf1 qr0 qD0 qd1 qd2 qf2 qf3 qG1 qG2 qG3 qL0 cI cJ cZ cB cT d_n f_row r_tx r_rul)) hP [0, 3, 4, 1, 2] rfl
        have hD := hD.sub (ws' := (W_DD_0_24t25_31_35 qd0 qf0 qf1 qr0 qD0 qd1 qd2 qf2 qf3 qG1 qG2 qG3 qL0 cI cJ cZ cB cT d_n f_row r_tx r_rul)) [0, 3, 4, 1, 2] rfl rfl
        refine lv_iload_n hx hb dX0_summon_41 rfl (lv_at hl 2 rfl) ?_
        refine xicmp_ne hx hb 66 dX0_summon_42 (by decide) hf (fun hf => ?_) (fun hf => ?_)
        · refine lv_aload_n hx hb dX0_summon_45 rfl (lv_at hl 0 rfl) ?_
          refine gfX0_15 hx hb hts hown hK hP 4 rfl rfl dX0_summon_46 ?_
          refine lv_iload_n hx hb dX0_summon_49 rfl (lv_at hl 1 rfl) ?_
          refine lv_iconst (v := (3 : Int32)) hx hb dX0_summon_50 (by decide) ?_
          refine lv_iconst (v := (0 : Int32)) hx hb dX0_summon_51 (by decide) ?_
          obtain ⟨f_row_52, hg52, hf⟩ := ob1_some hf
          refine mcV_v (wr := [(qd0, .inr (2, [.int d_n, .ref qd1, .ref qd2])), (qr0, .inr (6, [.ref qd0, .ref qG1, .ref qG2, .ref qG3, .int r_tx, .int r_rul])), (qD0, .inr (0, [.ref qr0, .ref qf0, .ref qL0]))]) (As := [.int p1, .int (3 : Int32), .int (0 : Int32)]) (rest := []) hx hb hml hown hts hK hP hD hS hA (k_X1_set l N D cI cJ cZ cB cT qf0 qf1 qf2 qf3 f_row p1 (3 : Int32) (0 : Int32) f_row_52 hg52) (kwX0_48 hts rfl rfl ⟨Nat.le_of_ble_eq_true rfl, Nat.le_of_ble_eq_true rfl⟩) [1, 2] [0, 3, 4] rfl rfl rfl (by decide) rfl 0 rfl rfl rfl rfl hl.1 rfl (Nat.le_of_ble_eq_true rfl) dX0_summon_52 ⟨Nat.zero_le _, Nat.zero_le _⟩ (fun H locs hP hD hS => ?_)
          have hP := mP_sub (wc := (W_DD_0_24t25_31_35 qd0 qf0 qf1 qr0 qD0 qd1 qd2 qf2 qf3 qG1 qG2 qG3 qL0 cI cJ cZ cB cT d_n f_row_52 r_tx r_rul)) hP [0, 3, 4, 1, 2] rfl
          have hD := hD.sub (ws' := (W_DD_0_24t25_31_35 qd0 qf0 qf1 qr0 qD0 qd1 qd2 qf2 qf3 qG1 qG2 qG3 qL0 cI cJ cZ cB cT d_n f_row_52 r_tx r_rul)) [0, 3, 4, 1, 2] rfl rfl
          refine lv_aload_n hx hb dX0_summon_55 rfl (lv_at hl 0 rfl) ?_
          refine gfX0_15 hx hb hts hown hK hP 4 rfl rfl dX0_summon_56 ?_
          refine lv_iload_n hx hb dX0_summon_59 rfl (lv_at hl 1 rfl) ?_
          refine lv_iconst (v := (0 : Int32)) hx hb dX0_summon_60 (by decide) ?_
          obtain ⟨f_row_61, hg61, hf⟩ := ob1_some hf
          refine mcV_v (wr := [(qd0, .inr (2, [.int d_n, .ref qd1, .ref qd2])), (qr0, .inr (6, [.ref qd0, .ref qG1, .ref qG2, .ref qG3, .int r_tx, .int r_rul])), (qD0, .inr (0, [.ref qr0, .ref qf0, .ref qL0]))]) (As := [.int p1, .int (0 : Int32)]) (rest := []) hx hb hml hown hts hK hP hD hS hA (k_X1_write l N D cI cJ cZ cB cT qf0 qf1 qf2 qf3 f_row_52 p1 (0 : Int32) f_row_61 hg61) (kwX0_52 hts rfl rfl ⟨Nat.le_of_ble_eq_true rfl, Nat.le_of_ble_eq_true rfl⟩) [1, 2] [0, 3, 4] rfl rfl rfl (by decide) rfl 0 rfl rfl rfl rfl hl.1 rfl (Nat.le_of_ble_eq_true rfl) dX0_summon_61 ⟨Nat.zero_le _, Nat.zero_le _⟩ (fun H locs hP hD hS => ?_)
          have hP := mP_sub (wc := (W_DD_0_24t25_31_35 qd0 qf0 qf1 qr0 qD0 qd1 qd2 qf2 qf3 qG1 qG2 qG3 qL0 cI cJ cZ cB cT d_n f_row_61 r_tx r_rul)) hP [0, 3, 4, 1, 2] rfl
          have hD := hD.sub (ws' := (W_DD_0_24t25_31_35 qd0 qf0 qf1 qr0 qD0 qd1 qd2 qf2 qf3 qG1 qG2 qG3 qL0 cI cJ cZ cB cT d_n f_row_61 r_tx r_rul)) [0, 3, 4, 1, 2] rfl rfl
          refine lv_iconst (v := (0 : Int32)) hx hb dX0_summon_64 (by decide) ?_
          cases hf
          exact mret_i hx hb hr hlocks hP hD hS dX0_summon_65 rfl trivial
        · refine lv_aload_n hx hb dX0_summon_66 rfl (lv_at hl 0 rfl) ?_
          refine gfX0_15 hx hb hts hown hK hP 4 rfl rfl dX0_summon_67 ?_
          refine lv_iload_n hx hb dX0_summon_70 rfl (lv_at hl 1 rfl) ?_
          refine lv_iconst (v := (3 : Int32)) hx hb dX0_summon_71 (by decide) ?_
          obtain ⟨r72, hg72, hf⟩ := ob1_some hf
          refine mcV_i (wr := [(qd0, .inr (2, [.int d_n, .ref qd1, .ref qd2])), (qr0, .inr (6, [.ref qd0, .ref qG1, .ref qG2, .ref qG3, .int r_tx, .int r_rul])), (qD0, .inr (0, [.ref qr0, .ref qf0, .ref qL0]))]) (As := [.int p1, .int (3 : Int32)]) (rest := []) hx hb hml hown hts hK hP hD hS hA (k_X1_get l N D cI cJ cZ cB cT qf0 qf1 qf2 qf3 f_row p1 (3 : Int32) r72 hg72) (kwX0_29 hts rfl rfl ⟨Nat.le_of_ble_eq_true rfl, Nat.le_of_ble_eq_true rfl⟩) [1, 2] [0, 3, 4] rfl rfl rfl (by decide) rfl 0 rfl rfl rfl rfl hl.1 rfl (Nat.le_of_ble_eq_true rfl) dX0_summon_72 ⟨Nat.zero_le _, Nat.zero_le _⟩ (fun hB72 H locs hP hD hS => ?_)
          have hP := mP_sub (wc := (W_DD_0_24t25_31_35 qd0 qf0 qf1 qr0 qD0 qd1 qd2 qf2 qf3 qG1 qG2 qG3 qL0 cI cJ cZ cB cT d_n f_row r_tx r_rul)) hP [0, 3, 4, 1, 2] rfl
          have hD := hD.sub (ws' := (W_DD_0_24t25_31_35 qd0 qf0 qf1 qr0 qD0 qd1 qd2 qf2 qf3 qG1 qG2 qG3 qL0 cI cJ cZ cB cT d_n f_row r_tx r_rul)) [0, 3, 4, 1, 2] rfl rfl
          refine lv_iconst (v := (1 : Int32)) hx hb dX0_summon_75 (by decide) ?_
          refine lv_iadd hx hb dX0_summon_76 ?_
          refine lv_istore_n (lv' := [(3, .int (r72 + (1 : Int32))), (0, .ref qD0), (1, .int p1), (2, .int p2)]) hx hb dX0_summon_77 rfl hl (by decide) rfl (fun ls hl => ?_)
          refine lv_iload_n hx hb dX0_summon_78 rfl (lv_at hl 0 rfl) ?_
          refine lv_iconst (v := (5 : Int32)) hx hb dX0_summon_79 (by decide) ?_
          refine xicmp_lt hx hb 90 dX0_summon_80 (by decide) hf (fun hf => ?_) (fun hf => ?_)
          · refine lv_aload_n hx hb dX0_summon_90 rfl (lv_at hl 1 rfl) ?_
            refine gfX0_15 hx hb hts hown hK hP 4 rfl rfl dX0_summon_91 ?_
            refine lv_iload_n hx hb dX0_summon_94 rfl (lv_at hl 2 rfl) ?_
            refine lv_iconst (v := (3 : Int32)) hx hb dX0_summon_95 (by decide) ?_
            refine lv_iload_n hx hb dX0_summon_96 rfl (lv_at hl 0 rfl) ?_
            obtain ⟨f_row_97, hg97, hf⟩ := ob1_some hf
            refine mcV_v (wr := [(qd0, .inr (2, [.int d_n, .ref qd1, .ref qd2])), (qr0, .inr (6, [.ref qd0, .ref qG1, .ref qG2, .ref qG3, .int r_tx, .int r_rul])), (qD0, .inr (0, [.ref qr0, .ref qf0, .ref qL0]))]) (As := [.int p1, .int (3 : Int32), .int (r72 + (1 : Int32))]) (rest := []) hx hb hml hown hts hK hP hD hS hA (k_X1_set l N D cI cJ cZ cB cT qf0 qf1 qf2 qf3 f_row p1 (3 : Int32) (r72 + (1 : Int32)) f_row_97 hg97) (kwX0_48 hts rfl rfl ⟨Nat.le_of_ble_eq_true rfl, Nat.le_of_ble_eq_true rfl⟩) [1, 2] [0, 3, 4] rfl rfl rfl (by decide) rfl 0 rfl rfl rfl rfl hl.1 rfl (Nat.le_of_ble_eq_true rfl) dX0_summon_97 ⟨Nat.zero_le _, Nat.zero_le _⟩ (fun H locs hP hD hS => ?_)
            have hP := mP_sub (wc := (W_DD_0_24t25_31_35 qd0 qf0 qf1 qr0 qD0 qd1 qd2 qf2 qf3 qG1 qG2 qG3 qL0 cI cJ cZ cB cT d_n f_row_97 r_tx r_rul)) hP [0, 3, 4, 1, 2] rfl
            have hD := hD.sub (ws' := (W_DD_0_24t25_31_35 qd0 qf0 qf1 qr0 qD0 qd1 qd2 qf2 qf3 qG1 qG2 qG3 qL0 cI cJ cZ cB cT d_n f_row_97 r_tx r_rul)) [0, 3, 4, 1, 2] rfl rfl
            refine lv_iload_n hx hb dX0_summon_100 rfl (lv_at hl 0 rfl) ?_
            cases hf
            exact mret_i hx hb hr hlocks hP hD hS dX0_summon_101 rfl trivial
          · refine lv_aload_n hx hb dX0_summon_83 rfl (lv_at hl 1 rfl) ?_
            refine lv_iload_n hx hb dX0_summon_84 rfl (lv_at hl 2 rfl) ?_
            obtain ⟨f_row_85, hg85, hf⟩ := ob1_some hf
            refine mcV_v (wr := [(qd0, .inr (2, [.int d_n, .ref qd1, .ref qd2])), (qr0, .inr (6, [.ref qd0, .ref qG1, .ref qG2, .ref qG3, .int r_tx, .int r_rul]))]) (As := [.int p1]) (rest := []) hx hb hml hown hts hK hP hD hS hA (k_X0_castOut l N D cI cJ cZ cB cT qf0 qf1 qD0 qf2 qf3 qr0 qL0 f_row p1 f_row_85 hg85) (kwX0_56 hts rfl rfl ⟨Nat.le_of_ble_eq_true rfl, Nat.le_of_ble_eq_true rfl⟩) [1, 2, 4] [0, 3] rfl rfl rfl (by decide) rfl 2 rfl rfl rfl rfl hl.1 rfl (Nat.le_of_ble_eq_true rfl) dX0_summon_85 ⟨Nat.zero_le _, Nat.zero_le _⟩ (fun H locs hP hD hS => ?_)
            have hP := mP_sub (wc := (W_DD_0_24t25_31_35 qd0 qf0 qf1 qr0 qD0 qd1 qd2 qf2 qf3 qG1 qG2 qG3 qL0 cI cJ cZ cB cT d_n f_row_85 r_tx r_rul)) hP [0, 2, 3, 1, 4] rfl
            have hD := hD.sub (ws' := (W_DD_0_24t25_31_35 qd0 qf0 qf1 qr0 qD0 qd1 qd2 qf2 qf3 qG1 qG2 qG3 qL0 cI cJ cZ cB cT d_n f_row_85 r_tx r_rul)) [0, 2, 3, 1, 4] rfl rfl
            refine lv_iconst (v := (0 : Int32)) hx hb dX0_summon_88 (by decide) ?_
            cases hf
            exact mret_i hx hb hr hlocks hP hD hS dX0_summon_89 rfl trivial
    · refine lv_iconst (v := (-1 : Int32)) hx hb dX0_summon_30 (by decide) ?_
      cases hf
      exact mret_i hx hb hr hlocks hP hD hS dX0_summon_31 rfl trivial
theorem dX0_travel_0 : decode cX0_travel 0 = .ok (.aload_n 0, 1) := by decide +kernel
theorem dX0_travel_1 : decode cX0_travel 1 = .ok (.iload_n 1, 1) := by decide +kernel
theorem dX0_travel_2 : decode cX0_travel 2 = .ok (.invokevirtual 36, 3) := by decide +kernel
theorem dX0_travel_5 : decode cX0_travel 5 = .ok (.ifCond .eq 26, 3) := by decide +kernel
theorem dX0_travel_8 : decode cX0_travel 8 = .ok (.aload_n 0, 1) := by decide +kernel
theorem dX0_travel_9 : decode cX0_travel 9 = .ok (.getfield 9, 3) := by decide +kernel
theorem dX0_travel_12 : decode cX0_travel 12 = .ok (.getfield 39, 3) := by decide +kernel
theorem dX0_travel_15 : decode cX0_travel 15 = .ok (.aload_n 0, 1) := by decide +kernel
theorem dX0_travel_16 : decode cX0_travel 16 = .ok (.getfield 15, 3) := by decide +kernel
theorem dX0_travel_19 : decode cX0_travel 19 = .ok (.iload_n 1, 1) := by decide +kernel
theorem dX0_travel_20 : decode cX0_travel 20 = .ok (.iconst 0, 1) := by decide +kernel
theorem dX0_travel_21 : decode cX0_travel 21 = .ok (.invokevirtual 29, 3) := by decide +kernel
theorem dX0_travel_24 : decode cX0_travel 24 = .ok (.iload_n 2, 1) := by decide +kernel
theorem dX0_travel_25 : decode cX0_travel 25 = .ok (.invokevirtual 60, 3) := by decide +kernel
theorem dX0_travel_28 : decode cX0_travel 28 = .ok (.ifCond .ne 5, 3) := by decide +kernel
theorem dX0_travel_31 : decode cX0_travel 31 = .ok (.iconst 0, 1) := by decide +kernel
theorem dX0_travel_32 : decode cX0_travel 32 = .ok (.ireturn, 1) := by decide +kernel
theorem dX0_travel_33 : decode cX0_travel 33 = .ok (.aload_n 0, 1) := by decide +kernel
theorem dX0_travel_34 : decode cX0_travel 34 = .ok (.getfield 15, 3) := by decide +kernel
theorem dX0_travel_37 : decode cX0_travel 37 = .ok (.iload_n 1, 1) := by decide +kernel
theorem dX0_travel_38 : decode cX0_travel 38 = .ok (.iconst 0, 1) := by decide +kernel
theorem dX0_travel_39 : decode cX0_travel 39 = .ok (.iload_n 2, 1) := by decide +kernel
theorem dX0_travel_40 : decode cX0_travel 40 = .ok (.invokevirtual 48, 3) := by decide +kernel
theorem dX0_travel_43 : decode cX0_travel 43 = .ok (.iconst 1, 1) := by decide +kernel
theorem dX0_travel_44 : decode cX0_travel 44 = .ok (.ireturn, 1) := by decide +kernel
def f_X0_travel (N : Nat) (d_n : Int32) (d_road : Nat → Int32) (f_row : Nat → Int32) (p1 : Int32) (p2 : Int32) : Option (Int32 × (Nat → Int32)) := ob1 (f_X0_alive N f_row p1) fun r2 => if r2 = 0 then (some ((0 : Int32), f_row)) else (ob1 (f_X1_get N f_row p1 (0 : Int32)) fun r21 => ob1 (f_X2_joined N d_n d_road r21 p2) fun r25 => if r25 = 0 then (some ((0 : Int32), f_row)) else (ob1 (f_X1_set N f_row p1 (0 : Int32) p2) fun f_row_40 => some ((1 : Int32), f_row_40)))
set_option maxHeartbeats 4000000 in
set_option maxRecDepth 100000 in
theorem k_X0_travel (l : Launch) (N : Nat) (D : va_G) (cI cJ cZ cB cT : ClassId) (qd0 : Nat) (qd2 : Nat) (qf0 : Nat) (qf1 : Nat) (qr0 : Nat) (qD0 : Nat) (qd1 : Nat) (qf2 : Nat) (qf3 : Nat) (qG1 : Nat) (qG2 : Nat) (qG3 : Nat) (qL0 : Nat) (d_n : Int32) (d_road : Nat → Int32) (f_row : Nat → Int32) (r_tx : Int32) (r_rul : Int32) (p1 : Int32) (p2 : Int32) (o_r : Int32) (o_f_row : Nat → Int32) (hf : f_X0_travel N d_n d_road f_row p1 p2 = some (o_r, o_f_row)) : ∀ sz, Met l yX0_travel (mw yX0_travel cX0_travel 3 (some .boolean)) ({ frames := 2, cells := 0, slots := 0, locals := 44 } : Room) (mPre D (mT cI cJ cZ cB cT) (W_DD_0_2_24t25_31_35 qd0 qd2 qf0 qf1 qr0 qD0 qd1 qf2 qf3 qG1 qG2 qG3 qL0 cI cJ cZ cB cT d_n d_road f_row r_tx r_rul) sz [.ref qD0, .int p1, .int p2]) ((mQi D (W_DD_0_2_24t25_31_35 qd0 qd2 qf0 qf1 qr0 qD0 qd1 qf2 qf3 qG1 qG2 qG3 qL0 cI cJ cZ cB cT d_n d_road o_f_row r_tx r_rul) o_r (mB o_r)) (va_A (W_DD_0_2_24t25_31_35 qd0 qd2 qf0 qf1 qr0 qD0 qd1 qf2 qf3 qG1 qG2 qG3 qL0 cI cJ cZ cB cT d_n d_road f_row r_tx r_rul) sz)) 0 0 (va_A (W_DD_0_2_24t25_31_35 qd0 qd2 qf0 qf1 qr0 qD0 qd1 qf2 qf3 qG1 qG2 qG3 qL0 cI cJ cZ cB cT d_n d_road f_row r_tx r_rul) sz) := by
  refine mMet (Qc := (mQi D (W_DD_0_2_24t25_31_35 qd0 qd2 qf0 qf1 qr0 qD0 qd1 qf2 qf3 qG1 qG2 qG3 qL0 cI cJ cZ cB cT d_n d_road o_f_row r_tx r_rul) o_r (mB o_r))) (by decide) (Nat.le_of_ble_eq_true rfl) (fun p e s m below meth c A ls hx hb hr hml hts hown hlocks hK hA hP hD hl => ?_)
  have hown : s.vm.findClass RX0 = some m.cls := hown
  have hl : lv_has ls 3 [(0, .ref qD0), (1, .int p1), (2, .int p2)] := hl
  have hS : va_S A s.heap s.heap [] := va_S.rf
  unfold f_X0_travel at hf
  refine lv_aload_n hx hb dX0_travel_0 rfl (lv_at hl 0 rfl) ?_
  refine lv_iload_n hx hb dX0_travel_1 rfl (lv_at hl 1 rfl) ?_
  obtain ⟨r2, hg2, hf⟩ := ob1_some hf
  refine mcV_i (wr := [(qd0, .inr (2, [.int d_n, .ref qd1, .ref qd2])), (qd2, .inl (cI, 8, .inl d_road)), (qr0, .inr (6, [.ref qd0, .ref qG1, .ref qG2, .ref qG3, .int r_tx, .int r_rul]))]) (As := [.int p1]) (rest := []) hx hb hml hown hts hK hP hD hS hA (k_X0_alive l N D cI cJ cZ cB cT qf0 qf1 qD0 qf2 qf3 qr0 qL0 f_row p1 r2 hg2) (kwX0_36 hts rfl rfl ⟨Nat.le_of_ble_eq_true rfl, Nat.le_of_ble_eq_true rfl⟩) [2, 3, 5] [0, 1, 4] rfl rfl rfl (by decide) rfl 2 rfl rfl rfl rfl hl.1 rfl (Nat.le_of_ble_eq_true rfl) dX0_travel_2 ⟨Nat.zero_le _, Nat.zero_le _⟩ (fun hB2 H locs hP hD hS => ?_)
  have hP := mP_sub (wc := (W_DD_0_2_24t25_31_35 qd0 qd2 qf0 qf1 qr0 qD0 qd1 qf2 qf3 qG1 qG2 qG3 qL0 cI cJ cZ cB cT d_n d_road f_row r_tx r_rul)) hP [0, 1, 3, 4, 2, 5] rfl
  have hD := hD.sub (ws' := (W_DD_0_2_24t25_31_35 qd0 qd2 qf0 qf1 qr0 qD0 qd1 qf2 qf3 qG1 qG2 qG3 qL0 cI cJ cZ cB cT d_n d_road f_row r_tx r_rul)) [0, 1, 3, 4, 2, 5] rfl rfl
  refine xif_eq hx hb 31 dX0_travel_5 (by decide) hf (fun hf => ?_) (fun hf => ?_)
  · refine lv_iconst (v := (0 : Int32)) hx hb dX0_travel_31 (by decide) ?_
    cases hf
    exact mret_z hx hb hr hlocks hP hD hS dX0_travel_32 rfl rfl
  · refine lv_aload_n hx hb dX0_travel_8 rfl (lv_at hl 0 rfl) ?_
    refine gfX0_9 hx hb hts hown hK hP 5 rfl rfl dX0_travel_9 ?_
    refine gfX0_39 hx hb hts hown hK hP 4 rfl rfl dX0_travel_12 ?_
    refine lv_aload_n hx hb dX0_travel_15 rfl (lv_at hl 0 rfl) ?_
    refine gfX0_15 hx hb hts hown hK hP 5 rfl rfl dX0_travel_16 ?_
    refine lv_iload_n hx hb dX0_travel_19 rfl (lv_at hl 1 rfl) ?_
    refine lv_iconst (v := (0 : Int32)) hx hb dX0_travel_20 (by decide) ?_
    obtain ⟨r21, hg21, hf⟩ := ob1_some hf
    refine mcV_i (wr := [(qd0, .inr (2, [.int d_n, .ref qd1, .ref qd2])), (qd2, .inl (cI, 8, .inl d_road)), (qr0, .inr (6, [.ref qd0, .ref qG1, .ref qG2, .ref qG3, .int r_tx, .int r_rul])), (qD0, .inr (0, [.ref qr0, .ref qf0, .ref qL0]))]) (As := [.int p1, .int (0 : Int32)]) (rest := [.ref qd0]) hx hb hml hown hts hK hP hD hS hA (k_X1_get l N D cI cJ cZ cB cT qf0 qf1 qf2 qf3 f_row p1 (0 : Int32) r21 hg21) (kwX0_29 hts rfl rfl ⟨Nat.le_of_ble_eq_true rfl, Nat.le_of_ble_eq_true rfl⟩) [2, 3] [0, 1, 4, 5] rfl rfl rfl (by decide) rfl 0 rfl rfl rfl rfl hl.1 rfl (Nat.le_of_ble_eq_true rfl) dX0_travel_21 ⟨Nat.zero_le _, Nat.zero_le _⟩ (fun hB21 H locs hP hD hS => ?_)
    have hP := mP_sub (wc := (W_DD_0_2_24t25_31_35 qd0 qd2 qf0 qf1 qr0 qD0 qd1 qf2 qf3 qG1 qG2 qG3 qL0 cI cJ cZ cB cT d_n d_road f_row r_tx r_rul)) hP [0, 1, 4, 5, 2, 3] rfl
    have hD := hD.sub (ws' := (W_DD_0_2_24t25_31_35 qd0 qd2 qf0 qf1 qr0 qD0 qd1 qf2 qf3 qG1 qG2 qG3 qL0 cI cJ cZ cB cT d_n d_road f_row r_tx r_rul)) [0, 1, 4, 5, 2, 3] rfl rfl
    refine lv_iload_n hx hb dX0_travel_24 rfl (lv_at hl 2 rfl) ?_
    obtain ⟨r25, hg25, hf⟩ := ob1_some hf
    refine mcV_i (wr := [(qf0, .inr (1, [.ref qf1, .ref qf2, .ref qf3])), (qf1, .inl (cI, 76, .inl f_row)), (qr0, .inr (6, [.ref qd0, .ref qG1, .ref qG2, .ref qG3, .int r_tx, .int r_rul])), (qD0, .inr (0, [.ref qr0, .ref qf0, .ref qL0]))]) (As := [.int r21, .int p2]) (rest := []) hx hb hml hown hts hK hP hD hS hA (k_X2_joined l N D cI cJ cZ cB cT qd0 qd2 qd1 d_n d_road r21 p2 r25 hg25) (kwX0_60 hts rfl rfl ⟨Nat.le_of_ble_eq_true rfl, Nat.le_of_ble_eq_true rfl⟩) [0, 1] [2, 3, 4, 5] rfl rfl rfl (by decide) rfl 0 rfl rfl rfl rfl hl.1 rfl (Nat.le_of_ble_eq_true rfl) dX0_travel_25 ⟨Nat.zero_le _, Nat.zero_le _⟩ (fun hB25 H locs hP hD hS => ?_)
    have hP := mP_sub (wc := (W_DD_0_2_24t25_31_35 qd0 qd2 qf0 qf1 qr0 qD0 qd1 qf2 qf3 qG1 qG2 qG3 qL0 cI cJ cZ cB cT d_n d_road f_row r_tx r_rul)) hP [4, 5, 0, 1, 2, 3] rfl
    have hD := hD.sub (ws' := (W_DD_0_2_24t25_31_35 qd0 qd2 qf0 qf1 qr0 qD0 qd1 qf2 qf3 qG1 qG2 qG3 qL0 cI cJ cZ cB cT d_n d_road f_row r_tx r_rul)) [4, 5, 0, 1, 2, 3] rfl rfl
    refine xif_ne hx hb 33 dX0_travel_28 (by decide) hf (fun hf => ?_) (fun hf => ?_)
    · refine lv_iconst (v := (0 : Int32)) hx hb dX0_travel_31 (by decide) ?_
      cases hf
      exact mret_z hx hb hr hlocks hP hD hS dX0_travel_32 rfl rfl
    · refine lv_aload_n hx hb dX0_travel_33 rfl (lv_at hl 0 rfl) ?_
      refine gfX0_15 hx hb hts hown hK hP 5 rfl rfl dX0_travel_34 ?_
      refine lv_iload_n hx hb dX0_travel_37 rfl (lv_at hl 1 rfl) ?_
      refine lv_iconst (v := (0 : Int32)) hx hb dX0_travel_38 (by decide) ?_
      refine lv_iload_n hx hb dX0_travel_39 rfl (lv_at hl 2 rfl) ?_
      obtain ⟨f_row_40, hg40, hf⟩ := ob1_some hf
      refine mcV_v (wr := [(qd0, .inr (2, [.int d_n, .ref qd1, .ref qd2])), (qd2, .inl (cI, 8, .inl d_road)), (qr0, .inr (6, [.ref qd0, .ref qG1, .ref qG2, .ref qG3, .int r_tx, .int r_rul])), (qD0, .inr (0, [.ref qr0, .ref qf0, .ref qL0]))]) (As := [.int p1, .int (0 : Int32), .int p2]) (rest := []) hx hb hml hown hts hK hP hD hS hA (k_X1_set l N D cI cJ cZ cB cT qf0 qf1 qf2 qf3 f_row p1 (0 : Int32) p2 f_row_40 hg40) (kwX0_48 hts rfl rfl ⟨Nat.le_of_ble_eq_true rfl, Nat.le_of_ble_eq_true rfl⟩) [2, 3] [0, 1, 4, 5] rfl rfl rfl (by decide) rfl 0 rfl rfl rfl rfl hl.1 rfl (Nat.le_of_ble_eq_true rfl) dX0_travel_40 ⟨Nat.zero_le _, Nat.zero_le _⟩ (fun H locs hP hD hS => ?_)
      have hP := mP_sub (wc := (W_DD_0_2_24t25_31_35 qd0 qd2 qf0 qf1 qr0 qD0 qd1 qf2 qf3 qG1 qG2 qG3 qL0 cI cJ cZ cB cT d_n d_road f_row_40 r_tx r_rul)) hP [0, 1, 4, 5, 2, 3] rfl
      have hD := hD.sub (ws' := (W_DD_0_2_24t25_31_35 qd0 qd2 qf0 qf1 qr0 qD0 qd1 qf2 qf3 qG1 qG2 qG3 qL0 cI cJ cZ cB cT d_n d_road f_row_40 r_tx r_rul)) [0, 1, 4, 5, 2, 3] rfl rfl
      refine lv_iconst (v := (1 : Int32)) hx hb dX0_travel_43 (by decide) ?_
      cases hf
      exact mret_z hx hb hr hlocks hP hD hS dX0_travel_44 rfl rfl
theorem dX0_nourish_0 : decode cX0_nourish 0 = .ok (.aload_n 0, 1) := by decide +kernel
theorem dX0_nourish_1 : decode cX0_nourish 1 = .ok (.iload_n 2, 1) := by decide +kernel
theorem dX0_nourish_2 : decode cX0_nourish 2 = .ok (.iload_n 1, 1) := by decide +kernel
theorem dX0_nourish_3 : decode cX0_nourish 3 = .ok (.invokevirtual 64, 3) := by decide +kernel
theorem dX0_nourish_6 : decode cX0_nourish 6 = .ok (.ifCond .ne 5, 3) := by decide +kernel
theorem dX0_nourish_9 : decode cX0_nourish 9 = .ok (.iconst (-1), 1) := by decide +kernel
theorem dX0_nourish_10 : decode cX0_nourish 10 = .ok (.ireturn, 1) := by decide +kernel
theorem dX0_nourish_11 : decode cX0_nourish 11 = .ok (.aload_n 0, 1) := by decide +kernel
theorem dX0_nourish_12 : decode cX0_nourish 12 = .ok (.getfield 15, 3) := by decide +kernel
theorem dX0_nourish_15 : decode cX0_nourish 15 = .ok (.iload_n 1, 1) := by decide +kernel
theorem dX0_nourish_16 : decode cX0_nourish 16 = .ok (.iconst 4, 1) := by decide +kernel
theorem dX0_nourish_17 : decode cX0_nourish 17 = .ok (.iconst 0, 1) := by decide +kernel
theorem dX0_nourish_18 : decode cX0_nourish 18 = .ok (.invokevirtual 48, 3) := by decide +kernel
theorem dX0_nourish_21 : decode cX0_nourish 21 = .ok (.aload_n 0, 1) := by decide +kernel
theorem dX0_nourish_22 : decode cX0_nourish 22 = .ok (.getfield 15, 3) := by decide +kernel
theorem dX0_nourish_25 : decode cX0_nourish 25 = .ok (.iload_n 2, 1) := by decide +kernel
theorem dX0_nourish_26 : decode cX0_nourish 26 = .ok (.iconst 3, 1) := by decide +kernel
theorem dX0_nourish_27 : decode cX0_nourish 27 = .ok (.invokevirtual 29, 3) := by decide +kernel
theorem dX0_nourish_30 : decode cX0_nourish 30 = .ok (.istore_n 3, 1) := by decide +kernel
theorem dX0_nourish_31 : decode cX0_nourish 31 = .ok (.aload_n 0, 1) := by decide +kernel
theorem dX0_nourish_32 : decode cX0_nourish 32 = .ok (.iload_n 2, 1) := by decide +kernel
theorem dX0_nourish_33 : decode cX0_nourish 33 = .ok (.invokevirtual 33, 3) := by decide +kernel
theorem dX0_nourish_36 : decode cX0_nourish 36 = .ok (.ifCond .ne 68, 3) := by decide +kernel
theorem dX0_nourish_39 : decode cX0_nourish 39 = .ok (.aload_n 0, 1) := by decide +kernel
theorem dX0_nourish_40 : decode cX0_nourish 40 = .ok (.getfield 15, 3) := by decide +kernel
theorem dX0_nourish_43 : decode cX0_nourish 43 = .ok (.iload_n 1, 1) := by decide +kernel
theorem dX0_nourish_44 : decode cX0_nourish 44 = .ok (.iconst 0, 1) := by decide +kernel
theorem dX0_nourish_45 : decode cX0_nourish 45 = .ok (.invokevirtual 29, 3) := by decide +kernel
theorem dX0_nourish_48 : decode cX0_nourish 48 = .ok (.istore 4, 2) := by decide +kernel
theorem dX0_nourish_50 : decode cX0_nourish 50 = .ok (.aload_n 0, 1) := by decide +kernel
theorem dX0_nourish_51 : decode cX0_nourish 51 = .ok (.getfield 19, 3) := by decide +kernel
theorem dX0_nourish_54 : decode cX0_nourish 54 = .ok (.aload_n 0, 1) := by decide +kernel
theorem dX0_nourish_55 : decode cX0_nourish 55 = .ok (.getfield 9, 3) := by decide +kernel
theorem dX0_nourish_58 : decode cX0_nourish 58 = .ok (.getfield 67, 3) := by decide +kernel
theorem dX0_nourish_61 : decode cX0_nourish 61 = .ok (.iconst 1, 1) := by decide +kernel
theorem dX0_nourish_62 : decode cX0_nourish 62 = .ok (.aload_n 0, 1) := by decide +kernel
theorem dX0_nourish_63 : decode cX0_nourish 63 = .ok (.getfield 15, 3) := by decide +kernel
theorem dX0_nourish_66 : decode cX0_nourish 66 = .ok (.iload_n 1, 1) := by decide +kernel
theorem dX0_nourish_67 : decode cX0_nourish 67 = .ok (.iload 4, 2) := by decide +kernel
theorem dX0_nourish_69 : decode cX0_nourish 69 = .ok (.invokevirtual 71, 3) := by decide +kernel
theorem dX0_nourish_72 : decode cX0_nourish 72 = .ok (.istore 5, 2) := by decide +kernel
theorem dX0_nourish_74 : decode cX0_nourish 74 = .ok (.aload_n 0, 1) := by decide +kernel
theorem dX0_nourish_75 : decode cX0_nourish 75 = .ok (.getfield 15, 3) := by decide +kernel
theorem dX0_nourish_78 : decode cX0_nourish 78 = .ok (.invokevirtual 77, 3) := by decide +kernel
theorem dX0_nourish_81 : decode cX0_nourish 81 = .ok (.iload 5, 2) := by decide +kernel
theorem dX0_nourish_83 : decode cX0_nourish 83 = .ok (.if_icmp .ge 21, 3) := by decide +kernel
theorem dX0_nourish_86 : decode cX0_nourish 86 = .ok (.iload_n 3, 1) := by decide +kernel
theorem dX0_nourish_87 : decode cX0_nourish 87 = .ok (.iconst 1, 1) := by decide +kernel
theorem dX0_nourish_88 : decode cX0_nourish 88 = .ok (.iadd, 1) := by decide +kernel
theorem dX0_nourish_89 : decode cX0_nourish 89 = .ok (.iconst 4, 1) := by decide +kernel
theorem dX0_nourish_90 : decode cX0_nourish 90 = .ok (.invokestatic 81, 3) := by decide +kernel
theorem dX0_nourish_93 : decode cX0_nourish 93 = .ok (.istore_n 3, 1) := by decide +kernel
theorem dX0_nourish_94 : decode cX0_nourish 94 = .ok (.aload_n 0, 1) := by decide +kernel
theorem dX0_nourish_95 : decode cX0_nourish 95 = .ok (.getfield 15, 3) := by decide +kernel
theorem dX0_nourish_98 : decode cX0_nourish 98 = .ok (.iload_n 2, 1) := by decide +kernel
theorem dX0_nourish_99 : decode cX0_nourish 99 = .ok (.iconst 3, 1) := by decide +kernel
theorem dX0_nourish_100 : decode cX0_nourish 100 = .ok (.iload_n 3, 1) := by decide +kernel
theorem dX0_nourish_101 : decode cX0_nourish 101 = .ok (.invokevirtual 48, 3) := by decide +kernel
theorem dX0_nourish_104 : decode cX0_nourish 104 = .ok (.aload_n 0, 1) := by decide +kernel
theorem dX0_nourish_105 : decode cX0_nourish 105 = .ok (.getfield 15, 3) := by decide +kernel
theorem dX0_nourish_108 : decode cX0_nourish 108 = .ok (.iload_n 1, 1) := by decide +kernel
theorem dX0_nourish_109 : decode cX0_nourish 109 = .ok (.iconst 2, 1) := by decide +kernel
theorem dX0_nourish_110 : decode cX0_nourish 110 = .ok (.invokevirtual 52, 3) := by decide +kernel
theorem dX0_nourish_113 : decode cX0_nourish 113 = .ok (.iload_n 3, 1) := by decide +kernel
theorem dX0_nourish_114 : decode cX0_nourish 114 = .ok (.ireturn, 1) := by decide +kernel
def f_X0_nourish_104 (N : Nat) (d_n : Int32) (d_for : Nat → Int32) (t_code : Nat → Int32) (t_st : Nat → Int32) (t_en : Nat → Int32) (u_code : Nat → Int32) (u_st : Nat → Int32) (u_en : Nat → Int32) (w_code : Nat → Int32) (w_st : Nat → Int32) (w_en : Nat → Int32) (x_code : Nat → Int32) (x_st : Nat → Int32) (x_en : Nat → Int32) (f_row : Nat → Int32) (f_fears : Nat → Int32) (r_tx : Int32) (r_rul : Int32) (l_names : Nat → Int32) (l_stack : Nat → Int32) (x1 : Int32) (x3 : Int32) : Option (Int32 × (Nat → Int32) × (Nat → Int32) × (Nat → Int32)) := ob1 (f_X1_write N f_row x1 (2 : Int32)) fun f_row_110 => some (x3, f_row_110, l_names, l_stack)
def f_X0_nourish (N : Nat) (d_n : Int32) (d_for : Nat → Int32) (t_code : Nat → Int32) (t_st : Nat → Int32) (t_en : Nat → Int32) (u_code : Nat → Int32) (u_st : Nat → Int32) (u_en : Nat → Int32) (w_code : Nat → Int32) (w_st : Nat → Int32) (w_en : Nat → Int32) (x_code : Nat → Int32) (x_st : Nat → Int32) (x_en : Nat → Int32) (f_row : Nat → Int32) (f_fears : Nat → Int32) (r_tx : Int32) (r_rul : Int32) (l_names : Nat → Int32) (l_stack : Nat → Int32) (p1 : Int32) (p2 : Int32) : Option (Int32 × (Nat → Int32) × (Nat → Int32) × (Nat → Int32)) := ob1 (f_X0_meets N f_row p2 p1) fun r3 => if r3 = 0 then (some ((-1 : Int32), f_row, l_names, l_stack)) else (ob1 (f_X1_set N f_row p1 (4 : Int32) (0 : Int32)) fun f_row_18 => ob1 (f_X1_get N f_row_18 p2 (3 : Int32)) fun r27 => ob1 (f_X0_outlaw N f_row_18 p2) fun r33 => if r33 = 0 then (ob1 (f_X1_get N f_row_18 p1 (0 : Int32)) fun r45 => ob3 (f_X3_rule N d_n d_for t_code t_st t_en u_code u_st u_en w_code w_st w_en x_code x_st x_en f_row_18 f_fears r_tx l_names l_stack r_rul (1 : Int32) p1 r45) fun r69 l_names_69 l_stack_69 => ob2 (f_X1_drawByTen N f_row_18) fun r78 f_row_78 => if r69 ≤ r78 then (f_X0_nourish_104 N d_n d_for t_code t_st t_en u_code u_st u_en w_code w_st w_en x_code x_st x_en f_row_78 f_fears r_tx r_rul l_names_69 l_stack_69 p1 r27) else (ob1 (f_X1_set N f_row_78 p2 (3 : Int32) (mnI (r27 + (1 : Int32)) (4 : Int32))) fun f_row_101 => f_X0_nourish_104 N d_n d_for t_code t_st t_en u_code u_st u_en w_code w_st w_en x_code x_st x_en f_row_101 f_fears r_tx r_rul l_names_69 l_stack_69 p1 (mnI (r27 + (1 : Int32)) (4 : Int32)))) else (f_X0_nourish_104 N d_n d_for t_code t_st t_en u_code u_st u_en w_code w_st w_en x_code x_st x_en f_row_18 f_fears r_tx r_rul l_names l_stack p1 r27))
set_option maxHeartbeats 4000000 in
set_option maxRecDepth 100000 in
theorem k_X0_nourish (l : Launch) (N : Nat) (D : va_G) (cI cJ cZ cB cT : ClassId) (qd0 : Nat) (qd1 : Nat) (qt0 : Nat) (qt1 : Nat) (qt2 : Nat) (qt3 : Nat) (qu0 : Nat) (qu1 : Nat) (qu2 : Nat) (qu3 : Nat) (qw0 : Nat) (qw1 : Nat) (qw2 : Nat) (qw3 : Nat) (qx0 : Nat) (qx1 : Nat) (qx2 : Nat) (qx3 : Nat) (qT : Nat) (qf0 : Nat) (qf1 : Nat) (qf2 : Nat) (qr0 : Nat) (qL1 : Nat) (qL2 : Nat) (qL0 : Nat) (qD0 : Nat) (qd2 : Nat) (qt4 : Nat) (qu4 : Nat) (qw4 : Nat) (qx4 : Nat) (qf3 : Nat) (qG1 : Nat) (qG2 : Nat) (qG3 : Nat) (d_n : Int32) (d_for : Nat → Int32) (t_cl : Int32) (t_ln : Int32) (t_pt : Int32) (t_code : Nat → Int32) (t_st : Nat → Int32) (t_en : Nat → Int32) (u_cl : Int32) (u_ln : Int32) (u_pt : Int32) (u_code : Nat → Int32) (u_st : Nat → Int32) (u_en : Nat → Int32) (w_cl : Int32) (w_ln : Int32) (w_pt : Int32) (w_code : Nat → Int32) (w_st : Nat → Int32) (w_en : Nat → Int32) (x_cl : Int32) (x_ln : Int32) (x_pt : Int32) (x_code : Nat → Int32) (x_st : Nat → Int32) (x_en : Nat → Int32) (f_row : Nat → Int32) (f_fears : Nat → Int32) (r_tx : Int32) (r_rul : Int32) (l_names : Nat → Int32) (l_stack : Nat → Int32) (p1 : Int32) (p2 : Int32) (o_r : Int32) (o_f_row : Nat → Int32) (o_l_names : Nat → Int32) (o_l_stack : Nat → Int32) (hf : f_X0_nourish N d_n d_for t_code t_st t_en u_code u_st u_en w_code w_st w_en x_code x_st x_en f_row f_fears r_tx r_rul l_names l_stack p1 p2 = some (o_r, o_f_row, o_l_names, o_l_stack)) : ∀ sz, Met l yX0_nourish (mw yX0_nourish cX0_nourish 6 (some .int)) ({ frames := 3, cells := 0, slots := 0, locals := 100 } : Room) (mPreE D (mT cI cJ cZ cB cT) (W_DD_0t1_3t6_8t11_13t16_18t21_23t26_31t35 qd0 qd1 qt0 qt1 qt2 qt3 qu0 qu1 qu2 qu3 qw0 qw1 qw2 qw3 qx0 qx1 qx2 qx3 qT qf0 qf1 qf2 qr0 qL1 qL2 qL0 qD0 qd2 qt4 qu4 qw4 qx4 qf3 qG1 qG2 qG3 cI cJ cZ cB cT d_n d_for t_cl t_ln t_pt t_code t_st t_en u_cl u_ln u_pt u_code u_st u_en w_cl w_ln w_pt w_code w_st w_en x_cl x_ln x_pt x_code x_st x_en f_row f_fears r_tx r_rul l_names l_stack) sz [.ref qD0, .int p1, .int p2]) ((mQi D (W_DD_0t1_3t6_8t11_13t16_18t21_23t26_31t35 qd0 qd1 qt0 qt1 qt2 qt3 qu0 qu1 qu2 qu3 qw0 qw1 qw2 qw3 qx0 qx1 qx2 qx3 qT qf0 qf1 qf2 qr0 qL1 qL2 qL0 qD0 qd2 qt4 qu4 qw4 qx4 qf3 qG1 qG2 qG3 cI cJ cZ cB cT d_n d_for t_cl t_ln t_pt t_code t_st t_en u_cl u_ln u_pt u_code u_st u_en w_cl w_ln w_pt w_code w_st w_en x_cl x_ln x_pt x_code x_st x_en o_f_row f_fears r_tx r_rul o_l_names o_l_stack) o_r True) (va_A (W_DD_0t1_3t6_8t11_13t16_18t21_23t26_31t35 qd0 qd1 qt0 qt1 qt2 qt3 qu0 qu1 qu2 qu3 qw0 qw1 qw2 qw3 qx0 qx1 qx2 qx3 qT qf0 qf1 qf2 qr0 qL1 qL2 qL0 qD0 qd2 qt4 qu4 qw4 qx4 qf3 qG1 qG2 qG3 cI cJ cZ cB cT d_n d_for t_cl t_ln t_pt t_code t_st t_en u_cl u_ln u_pt u_code u_st u_en w_cl w_ln w_pt w_code w_st w_en x_cl x_ln x_pt x_code x_st x_en f_row f_fears r_tx r_rul l_names l_stack) sz)) 0 0 (va_A (W_DD_0t1_3t6_8t11_13t16_18t21_23t26_31t35 qd0 qd1 qt0 qt1 qt2 qt3 qu0 qu1 qu2 qu3 qw0 qw1 qw2 qw3 qx0 qx1 qx2 qx3 qT qf0 qf1 qf2 qr0 qL1 qL2 qL0 qD0 qd2 qt4 qu4 qw4 qx4 qf3 qG1 qG2 qG3 cI cJ cZ cB cT d_n d_for t_cl t_ln t_pt t_code t_st t_en u_cl u_ln u_pt u_code u_st u_en w_cl w_ln w_pt w_code w_st w_en x_cl x_ln x_pt x_code x_st x_en f_row f_fears r_tx r_rul l_names l_stack) sz) := by
  refine mMetE (Qc := (mQi D (W_DD_0t1_3t6_8t11_13t16_18t21_23t26_31t35 qd0 qd1 qt0 qt1 qt2 qt3 qu0 qu1 qu2 qu3 qw0 qw1 qw2 qw3 qx0 qx1 qx2 qx3 qT qf0 qf1 qf2 qr0 qL1 qL2 qL0 qD0 qd2 qt4 qu4 qw4 qx4 qf3 qG1 qG2 qG3 cI cJ cZ cB cT d_n d_for t_cl t_ln t_pt t_code t_st t_en u_cl u_ln u_pt u_code u_st u_en w_cl w_ln w_pt w_code w_st w_en x_cl x_ln x_pt x_code x_st x_en o_f_row f_fears r_tx r_rul o_l_names o_l_stack) o_r True)) (by decide) (Nat.le_of_ble_eq_true rfl) (fun p e s m below meth c A ls hx hb hr hml hts hown hlocks hK hA hP hD hl hE => ?_)
  have hown : s.vm.findClass RX0 = some m.cls := hown
  have hl : lv_has ls 6 [(0, .ref qD0), (1, .int p1), (2, .int p2)] := hl
  have hS : va_S A s.heap s.heap [] := va_S.rf
  obtain ⟨⟨tM, hZM, hTM⟩, ⟨tL, hZL, hTL⟩, ⟨hNX4, hNX10⟩, tS, tV, hRS, hZC, hZF, hKS⟩ := id hE
  have b104 : ∀ (f_row : Nat → Int32) (l_names : Nat → Int32) (l_stack : Nat → Int32) (x1 : Int32) (x3 : Int32) (H : Heap) (locs : List Loc) (ls : Array Slot), f_X0_nourish_104 N d_n d_for t_code t_st t_en u_code u_st u_en w_code w_st w_en x_code x_st x_en f_row f_fears r_tx r_rul l_names l_stack x1 x3 = some (o_r, o_f_row, o_l_names, o_l_stack) → va_P D vwCl (W_DD_0t1_3t6_8t11_13t16_18t21_23t26_31t35 qd0 qd1 qt0 qt1 qt2 qt3 qu0 qu1 qu2 qu3 qw0 qw1 qw2 qw3 qx0 qx1 qx2 qx3 qT qf0 qf1 qf2 qr0 qL1 qL2 qL0 qD0 qd2 qt4 qu4 qw4 qx4 qf3 qG1 qG2 qG3 cI cJ cZ cB cT d_n d_for t_cl t_ln t_pt t_code t_st t_en u_cl u_ln u_pt u_code u_st u_en w_cl w_ln w_pt w_code w_st w_en x_cl x_ln x_pt x_code x_st x_en f_row f_fears r_tx r_rul l_names l_stack) H → va_D A (W_DD_0t1_3t6_8t11_13t16_18t21_23t26_31t35 qd0 qd1 qt0 qt1 qt2 qt3 qu0 qu1 qu2 qu3 qw0 qw1 qw2 qw3 qx0 qx1 qx2 qx3 qT qf0 qf1 qf2 qr0 qL1 qL2 qL0 qD0 qd2 qt4 qu4 qw4 qx4 qf3 qG1 qG2 qG3 cI cJ cZ cB cT d_n d_for t_cl t_ln t_pt t_code t_st t_en u_cl u_ln u_pt u_code u_st u_en w_cl w_ln w_pt w_code w_st w_en x_cl x_ln x_pt x_code x_st x_en f_row f_fears r_tx r_rul l_names l_stack) → va_S A s.heap H locs → lv_has ls 6 [(0, .ref qD0), (1, .int x1), (3, .int x3)] → W p l e ({ frames := 3, cells := 0, slots := 0, locals := 100 } : Room) s m ([.ref qD0, .int p1, .int p2] : List Value).toArray below meth c H locs 0 0 (MQ below ((mQi D (W_DD_0t1_3t6_8t11_13t16_18t21_23t26_31t35 qd0 qd1 qt0 qt1 qt2 qt3 qu0 qu1 qu2 qu3 qw0 qw1 qw2 qw3 qx0 qx1 qx2 qx3 qT qf0 qf1 qf2 qr0 qL1 qL2 qL0 qD0 qd2 qt4 qu4 qw4 qx4 qf3 qG1 qG2 qG3 cI cJ cZ cB cT d_n d_for t_cl t_ln t_pt t_code t_st t_en u_cl u_ln u_pt u_code u_st u_en w_cl w_ln w_pt w_code w_st w_en x_cl x_ln x_pt x_code x_st x_en o_f_row f_fears r_tx r_rul o_l_names o_l_stack) o_r True) A) ([.ref qD0, .int p1, .int p2] : List Value).toArray s 0 0 A) (F0 m 104 ls []) := by
    intro f_row l_names l_stack x1 x3 H locs ls hf hP hD hS hl
    unfold f_X0_nourish_104 at hf
    refine lv_aload_n hx hb dX0_nourish_104 rfl (lv_at hl 0 rfl) ?_
    refine gfX0_15 hx hb hts hown hK hP 26 rfl rfl dX0_nourish_105 ?_
    refine lv_iload_n hx hb dX0_nourish_108 rfl (lv_at hl 1 rfl) ?_
    refine lv_iconst (v := (2 : Int32)) hx hb dX0_nourish_109 (by decide) ?_
    obtain ⟨f_row_110, hg110, hf⟩ := ob1_some hf
    refine mcV_v (wr := [(qd0, .inr (2, [.int d_n, .ref qd1, .ref qd2])), (qd1, .inl (cI, 8, .inl d_for)), (qt0, .inr (9, [.int t_cl, .int t_ln, .int t_pt, .ref qt1, .ref qt2, .ref qt3, .ref qt4])), (qt1, .inl (cI, 301, .inl t_code)), (qt2, .inl (cI, 4, .inl t_st)), (qt3, .inl (cI, 4, .inl t_en)), (qu0, .inr (9, [.int u_cl, .int u_ln, .int u_pt, .ref qu1, .ref qu2, .ref qu3, .ref qu4])), (qu1, .inl (cI, 301, .inl u_code)), (qu2, .inl (cI, 4, .inl u_st)), (qu3, .inl (cI, 4, .inl u_en)), (qw0, .inr (9, [.int w_cl, .int w_ln, .int w_pt, .ref qw1, .ref qw2, .ref qw3, .ref qw4])), (qw1, .inl (cI, 301, .inl w_code)), (qw2, .inl (cI, 4, .inl w_st)), (qw3, .inl (cI, 4, .inl w_en)), (qx0, .inr (9, [.int x_cl, .int x_ln, .int x_pt, .ref qx1, .ref qx2, .ref qx3, .ref qx4])), (qx1, .inl (cI, 301, .inl x_code)), (qx2, .inl (cI, 4, .inl x_st)), (qx3, .inl (cI, 4, .inl x_en)), (qT, .inl (cT, 4, .inr (.inr (.inr (.inr (fT qt0 qu0 qw0 qx0)))))), (qf2, .inl (cI, 6, .inl f_fears)), (qr0, .inr (6, [.ref qd0, .ref qG1, .ref qG2, .ref qG3, .int r_tx, .int r_rul])), (qL1, .inl (cI, 10, .inl l_names)), (qL2, .inl (cI, 64, .inl l_stack)), (qL0, .inr (3, [.ref qr0, .ref qT, .ref qL1, .ref qL2])), (qD0, .inr (0, [.ref qr0, .ref qf0, .ref qL0]))]) (As := [.int x1, .int (2 : Int32)]) (rest := []) hx hb hml hown hts hK hP hD hS hA (k_X1_write l N D cI cJ cZ cB cT qf0 qf1 qf2 qf3 f_row x1 (2 : Int32) f_row_110 hg110) (kwX0_52 hts rfl rfl ⟨Nat.le_of_ble_eq_true rfl, Nat.le_of_ble_eq_true rfl⟩) [19, 20] [0, 1, 2, 3, 4, 5, 6, 7, 8, 9, 10, 11, 12, 13, 14, 15, 16, 17, 18, 21, 22, 23, 24, 25, 26] rfl rfl rfl (by decide) rfl 0 rfl rfl rfl rfl hl.1 rfl (Nat.le_of_ble_eq_true rfl) dX0_nourish_110 ⟨Nat.zero_le _, Nat.zero_le _⟩ (fun H locs hP hD hS => ?_)
    have hP := mP_sub (wc := (W_DD_0t1_3t6_8t11_13t16_18t21_23t26_31t35 qd0 qd1 qt0 qt1 qt2 qt3 qu0 qu1 qu2 qu3 qw0 qw1 qw2 qw3 qx0 qx1 qx2 qx3 qT qf0 qf1 qf2 qr0 qL1 qL2 qL0 qD0 qd2 qt4 qu4 qw4 qx4 qf3 qG1 qG2 qG3 cI cJ cZ cB cT d_n d_for t_cl t_ln t_pt t_code t_st t_en u_cl u_ln u_pt u_code u_st u_en w_cl w_ln w_pt w_code w_st w_en x_cl x_ln x_pt x_code x_st x_en f_row_110 f_fears r_tx r_rul l_names l_stack)) hP [0, 1, 2, 3, 4, 5, 6, 7, 8, 9, 10, 11, 12, 13, 14, 15, 16, 17, 18, 25, 26, 19, 20, 21, 22, 23, 24] rfl
    have hD := hD.sub (ws' := (W_DD_0t1_3t6_8t11_13t16_18t21_23t26_31t35 qd0 qd1 qt0 qt1 qt2 qt3 qu0 qu1 qu2 qu3 qw0 qw1 qw2 qw3 qx0 qx1 qx2 qx3 qT qf0 qf1 qf2 qr0 qL1 qL2 qL0 qD0 qd2 qt4 qu4 qw4 qx4 qf3 qG1 qG2 qG3 cI cJ cZ cB cT d_n d_for t_cl t_ln t_pt t_code t_st t_en u_cl u_ln u_pt u_code u_st u_en w_cl w_ln w_pt w_code w_st w_en x_cl x_ln x_pt x_code x_st x_en f_row_110 f_fears r_tx r_rul l_names l_stack)) [0, 1, 2, 3, 4, 5, 6, 7, 8, 9, 10, 11, 12, 13, 14, 15, 16, 17, 18, 25, 26, 19, 20, 21, 22, 23, 24] rfl rfl
    refine lv_iload_n hx hb dX0_nourish_113 rfl (lv_at hl 2 rfl) ?_
    cases hf
    exact mret_i hx hb hr hlocks hP hD hS dX0_nourish_114 rfl trivial
  unfold f_X0_nourish at hf
  refine lv_aload_n hx hb dX0_nourish_0 rfl (lv_at hl 0 rfl) ?_
  refine lv_iload_n hx hb dX0_nourish_1 rfl (lv_at hl 2 rfl) ?_
  refine lv_iload_n hx hb dX0_nourish_2 rfl (lv_at hl 1 rfl) ?_
  obtain ⟨r3, hg3, hf⟩ := ob1_some hf
  refine mcV_i (wr := [(qd0, .inr (2, [.int d_n, .ref qd1, .ref qd2])), (qd1, .inl (cI, 8, .inl d_for)), (qt0, .inr (9, [.int t_cl, .int t_ln, .int t_pt, .ref qt1, .ref qt2, .ref qt3, .ref qt4])), (qt1, .inl (cI, 301, .inl t_code)), (qt2, .inl (cI, 4, .inl t_st)), (qt3, .inl (cI, 4, .inl t_en)), (qu0, .inr (9, [.int u_cl, .int u_ln, .int u_pt, .ref qu1, .ref qu2, .ref qu3, .ref qu4])), (qu1, .inl (cI, 301, .inl u_code)), (qu2, .inl (cI, 4, .inl u_st)), (qu3, .inl (cI, 4, .inl u_en)), (qw0, .inr (9, [.int w_cl, .int w_ln, .int w_pt, .ref qw1, .ref qw2, .ref qw3, .ref qw4])), (qw1, .inl (cI, 301, .inl w_code)), (qw2, .inl (cI, 4, .inl w_st)), (qw3, .inl (cI, 4, .inl w_en)), (qx0, .inr (9, [.int x_cl, .int x_ln, .int x_pt, .ref qx1, .ref qx2, .ref qx3, .ref qx4])), (qx1, .inl (cI, 301, .inl x_code)), (qx2, .inl (cI, 4, .inl x_st)), (qx3, .inl (cI, 4, .inl x_en)), (qT, .inl (cT, 4, .inr (.inr (.inr (.inr (fT qt0 qu0 qw0 qx0)))))), (qf2, .inl (cI, 6, .inl f_fears)), (qr0, .inr (6, [.ref qd0, .ref qG1, .ref qG2, .ref qG3, .int r_tx, .int r_rul])), (qL1, .inl (cI, 10, .inl l_names)), (qL2, .inl (cI, 64, .inl l_stack)), (qL0, .inr (3, [.ref qr0, .ref qT, .ref qL1, .ref qL2]))]) (As := [.int p2, .int p1]) (rest := []) hx hb hml hown hts hK hP hD hS hA (k_X0_meets l N D cI cJ cZ cB cT qf0 qf1 qD0 qf2 qf3 qr0 qL0 f_row p2 p1 r3 hg3) (kwX0_64 hts rfl rfl ⟨Nat.le_of_ble_eq_true rfl, Nat.le_of_ble_eq_true rfl⟩) [19, 20, 26] [0, 1, 2, 3, 4, 5, 6, 7, 8, 9, 10, 11, 12, 13, 14, 15, 16, 17, 18, 21, 22, 23, 24, 25] rfl rfl rfl (by decide) rfl 2 rfl rfl rfl rfl hl.1 rfl (Nat.le_of_ble_eq_true rfl) dX0_nourish_3 ⟨Nat.zero_le _, Nat.zero_le _⟩ (fun hB3 H locs hP hD hS => ?_)
  have hP := mP_sub (wc := (W_DD_0t1_3t6_8t11_13t16_18t21_23t26_31t35 qd0 qd1 qt0 qt1 qt2 qt3 qu0 qu1 qu2 qu3 qw0 qw1 qw2 qw3 qx0 qx1 qx2 qx3 qT qf0 qf1 qf2 qr0 qL1 qL2 qL0 qD0 qd2 qt4 qu4 qw4 qx4 qf3 qG1 qG2 qG3 cI cJ cZ cB cT d_n d_for t_cl t_ln t_pt t_code t_st t_en u_cl u_ln u_pt u_code u_st u_en w_cl w_ln w_pt w_code w_st w_en x_cl x_ln x_pt x_code x_st x_en f_row f_fears r_tx r_rul l_names l_stack)) hP [0, 1, 2, 3, 4, 5, 6, 7, 8, 9, 10, 11, 12, 13, 14, 15, 16, 17, 18, 24, 25, 19, 20, 21, 22, 23, 26] rfl
  have hD := hD.sub (ws' := (W_DD_0t1_3t6_8t11_13t16_18t21_23t26_31t35 qd0 qd1 qt0 qt1 qt2 qt3 qu0 qu1 qu2 qu3 qw0 qw1 qw2 qw3 qx0 qx1 qx2 qx3 qT qf0 qf1 qf2 qr0 qL1 qL2 qL0 qD0 qd2 qt4 qu4 qw4 qx4 qf3 qG1 qG2 qG3 cI cJ cZ cB cT d_n d_for t_cl t_ln t_pt t_code t_st t_en u_cl u_ln u_pt u_code u_st u_en w_cl w_ln w_pt w_code w_st w_en x_cl x_ln x_pt x_code x_st x_en f_row f_fears r_tx r_rul l_names l_stack)) [0, 1, 2, 3, 4, 5, 6, 7, 8, 9, 10, 11, 12, 13, 14, 15, 16, 17, 18, 24, 25, 19, 20, 21, 22, 23, 26] rfl rfl
  refine xif_ne hx hb 11 dX0_nourish_6 (by decide) hf (fun hf => ?_) (fun hf => ?_)
  · refine lv_iconst (v := (-1 : Int32)) hx hb dX0_nourish_9 (by decide) ?_
    cases hf
    exact mret_i hx hb hr hlocks hP hD hS dX0_nourish_10 rfl trivial
  · refine lv_aload_n hx hb dX0_nourish_11 rfl (lv_at hl 0 rfl) ?_
    refine gfX0_15 hx hb hts hown hK hP 26 rfl rfl dX0_nourish_12 ?_
    refine lv_iload_n hx hb dX0_nourish_15 rfl (lv_at hl 1 rfl) ?_
    refine lv_iconst (v := (4 : Int32)) hx hb dX0_nourish_16 (by decide) ?_
    refine lv_iconst (v := (0 : Int32)) hx hb dX0_nourish_17 (by decide) ?_
    obtain ⟨f_row_18, hg18, hf⟩ := ob1_some hf
    refine mcV_v (wr := [(qd0, .inr (2, [.int d_n, .ref qd1, .ref qd2])), (qd1, .inl (cI, 8, .inl d_for)), (qt0, .inr (9, [.int t_cl, .int t_ln, .int t_pt, .ref qt1, .ref qt2, .ref qt3, .ref qt4])), (qt1, .inl (cI, 301, .inl t_code)), (qt2, .inl (cI, 4, .inl t_st)), (qt3, .inl (cI, 4, .inl t_en)), (qu0, .inr (9, [.int u_cl, .int u_ln, .int u_pt, .ref qu1, .ref qu2, .ref qu3, .ref qu4])), (qu1, .inl (cI, 301, .inl u_code)), (qu2, .inl (cI, 4, .inl u_st)), (qu3, .inl (cI, 4, .inl u_en)), (qw0, .inr (9, [.int w_cl, .int w_ln, .int w_pt, .ref qw1, .ref qw2, .ref qw3, .ref qw4])), (qw1, .inl (cI, 301, .inl w_code)), (qw2, .inl (cI, 4, .inl w_st)), (qw3, .inl (cI, 4, .inl w_en)), (qx0, .inr (9, [.int x_cl, .int x_ln, .int x_pt, .ref qx1, .ref qx2, .ref qx3, .ref qx4])), (qx1, .inl (cI, 301, .inl x_code)), (qx2, .inl (cI, 4, .inl x_st)), (qx3, .inl (cI, 4, .inl x_en)), (qT, .inl (cT, 4, .inr (.inr (.inr (.inr (fT qt0 qu0 qw0 qx0)))))), (qf2, .inl (cI, 6, .inl f_fears)), (qr0, .inr (6, [.ref qd0, .ref qG1, .ref qG2, .ref qG3, .int r_tx, .int r_rul])), (qL1, .inl (cI, 10, .inl l_names)), (qL2, .inl (cI, 64, .inl l_stack)), (qL0, .inr (3, [.ref qr0, .ref qT, .ref qL1, .ref qL2])), (qD0, .inr (0, [.ref qr0, .ref qf0, .ref qL0]))]) (As := [.int p1, .int (4 : Int32), .int (0 : Int32)]) (rest := []) hx hb hml hown hts hK hP hD hS hA (k_X1_set l N D cI cJ cZ cB cT qf0 qf1 qf2 qf3 f_row p1 (4 : Int32) (0 : Int32) f_row_18 hg18) (kwX0_48 hts rfl rfl ⟨Nat.le_of_ble_eq_true rfl, Nat.le_of_ble_eq_true rfl⟩) [19, 20] [0, 1, 2, 3, 4, 5, 6, 7, 8, 9, 10, 11, 12, 13, 14, 15, 16, 17, 18, 21, 22, 23, 24, 25, 26] rfl rfl rfl (by decide) rfl 0 rfl rfl rfl rfl hl.1 rfl (Nat.le_of_ble_eq_true rfl) dX0_nourish_18 ⟨Nat.zero_le _, Nat.zero_le _⟩ (fun H locs hP hD hS => ?_)
    have hP := mP_sub (wc := (W_DD_0t1_3t6_8t11_13t16_18t21_23t26_31t35 qd0 qd1 qt0 qt1 qt2 qt3 qu0 qu1 qu2 qu3 qw0 qw1 qw2 qw3 qx0 qx1 qx2 qx3 qT qf0 qf1 qf2 qr0 qL1 qL2 qL0 qD0 qd2 qt4 qu4 qw4 qx4 qf3 qG1 qG2 qG3 cI cJ cZ cB cT d_n d_for t_cl t_ln t_pt t_code t_st t_en u_cl u_ln u_pt u_code u_st u_en w_cl w_ln w_pt w_code w_st w_en x_cl x_ln x_pt x_code x_st x_en f_row_18 f_fears r_tx r_rul l_names l_stack)) hP [0, 1, 2, 3, 4, 5, 6, 7, 8, 9, 10, 11, 12, 13, 14, 15, 16, 17, 18, 25, 26, 19, 20, 21, 22, 23, 24] rfl
    have hD := hD.sub (ws' := (W_DD_0t1_3t6_8t11_13t16_18t21_23t26_31t35 qd0 qd1 qt0 qt1 qt2 qt3 qu0 qu1 qu2 qu3 qw0 qw1 qw2 qw3 qx0 qx1 qx2 qx3 qT qf0 qf1 qf2 qr0 qL1 qL2 qL0 qD0 qd2 qt4 qu4 qw4 qx4 qf3 qG1 qG2 qG3 cI cJ cZ cB cT d_n d_for t_cl t_ln t_pt t_code t_st t_en u_cl u_ln u_pt u_code u_st u_en w_cl w_ln w_pt w_code w_st w_en x_cl x_ln x_pt x_code x_st x_en f_row_18 f_fears r_tx r_rul l_names l_stack)) [0, 1, 2, 3, 4, 5, 6, 7, 8, 9, 10, 11, 12, 13, 14, 15, 16, 17, 18, 25, 26, 19, 20, 21, 22, 23, 24] rfl rfl
    refine lv_aload_n hx hb dX0_nourish_21 rfl (lv_at hl 0 rfl) ?_
    refine gfX0_15 hx hb hts hown hK hP 26 rfl rfl dX0_nourish_22 ?_
    refine lv_iload_n hx hb dX0_nourish_25 rfl (lv_at hl 2 rfl) ?_
    refine lv_iconst (v := (3 : Int32)) hx hb dX0_nourish_26 (by decide) ?_
    obtain ⟨r27, hg27, hf⟩ := ob1_some hf
    refine mcV_i (wr := [(qd0, .inr (2, [.int d_n, .ref qd1, .ref qd2])), (qd1, .inl (cI, 8, .inl d_for)), (qt0, .inr (9, [.int t_cl, .int t_ln, .int t_pt, .ref qt1, .ref qt2, .ref qt3, .ref qt4])), (qt1, .inl (cI, 301, .inl t_code)), (qt2, .inl (cI, 4, .inl t_st)), (qt3, .inl (cI, 4, .inl t_en)), (qu0, .inr (9, [.int u_cl, .int u_ln, .int u_pt, .ref qu1, .ref qu2, .ref qu3, .ref qu4])), (qu1, .inl (cI, 301, .inl u_code)), (qu2, .inl (cI, 4, .inl u_st)), (qu3, .inl (cI, 4, .inl u_en)), (qw0, .inr (9, [.int w_cl, .int w_ln, .int w_pt, .ref qw1, .ref qw2, .ref qw3, .ref qw4])), (qw1, .inl (cI, 301, .inl w_code)), (qw2, .inl (cI, 4, .inl w_st)), (qw3, .inl (cI, 4, .inl w_en)), (qx0, .inr (9, [.int x_cl, .int x_ln, .int x_pt, .ref qx1, .ref qx2, .ref qx3, .ref qx4])), (qx1, .inl (cI, 301, .inl x_code)), (qx2, .inl (cI, 4, .inl x_st)), (qx3, .inl (cI, 4, .inl x_en)), (qT, .inl (cT, 4, .inr (.inr (.inr (.inr (fT qt0 qu0 qw0 qx0)))))), (qf2, .inl (cI, 6, .inl f_fears)), (qr0, .inr (6, [.ref qd0, .ref qG1, .ref qG2, .ref qG3, .int r_tx, .int r_rul])), (qL1, .inl (cI, 10, .inl l_names)), (qL2, .inl (cI, 64, .inl l_stack)), (qL0, .inr (3, [.ref qr0, .ref qT, .ref qL1, .ref qL2])), (qD0, .inr (0, [.ref qr0, .ref qf0, .ref qL0]))]) (As := [.int p2, .int (3 : Int32)]) (rest := []) hx hb hml hown hts hK hP hD hS hA (k_X1_get l N D cI cJ cZ cB cT qf0 qf1 qf2 qf3 f_row_18 p2 (3 : Int32) r27 hg27) (kwX0_29 hts rfl rfl ⟨Nat.le_of_ble_eq_true rfl, Nat.le_of_ble_eq_true rfl⟩) [19, 20] [0, 1, 2, 3, 4, 5, 6, 7, 8, 9, 10, 11, 12, 13, 14, 15, 16, 17, 18, 21, 22, 23, 24, 25, 26] rfl rfl rfl (by decide) rfl 0 rfl rfl rfl rfl hl.1 rfl (Nat.le_of_ble_eq_true rfl) dX0_nourish_27 ⟨Nat.zero_le _, Nat.zero_le _⟩ (fun hB27 H locs hP hD hS => ?_)
    have hP := mP_sub (wc := (W_DD_0t1_3t6_8t11_13t16_18t21_23t26_31t35 qd0 qd1 qt0 qt1 qt2 qt3 qu0 qu1 qu2 qu3 qw0 qw1 qw2 qw3 qx0 qx1 qx2 qx3 qT qf0 qf1 qf2 qr0 qL1 qL2 qL0 qD0 qd2 qt4 qu4 qw4 qx4 qf3 qG1 qG2 qG3 cI cJ cZ cB cT d_n d_for t_cl t_ln t_pt t_code t_st t_en u_cl u_ln u_pt u_code u_st u_en w_cl w_ln w_pt w_code w_st w_en x_cl x_ln x_pt x_code x_st x_en f_row_18 f_fears r_tx r_rul l_names l_stack)) hP [0, 1, 2, 3, 4, 5, 6, 7, 8, 9, 10, 11, 12, 13, 14, 15, 16, 17, 18, 25, 26, 19, 20, 21, 22, 23, 24] rfl
    have hD := hD.sub (ws' := (W_DD_0t1_3t6_8t11_13t16_18t21_23t26_31t35 qd0 qd1 qt0 qt1 qt2 qt3 qu0 qu1 qu2 qu3 qw0 qw1 qw2 qw3 qx0 qx1 qx2 qx3 qT qf0 qf1 qf2 qr0 qL1 qL2 qL0 qD0 qd2 qt4 qu4 qw4 qx4 qf3 qG1 qG2 qG3 cI cJ cZ cB cT d_n d_for t_cl t_ln t_pt t_code t_st t_en u_cl u_ln u_pt u_code u_st u_en w_cl w_ln w_pt w_code w_st w_en x_cl x_ln x_pt x_code x_st x_en f_row_18 f_fears r_tx r_rul l_names l_stack)) [0, 1, 2, 3, 4, 5, 6, 7, 8, 9, 10, 11, 12, 13, 14, 15, 16, 17, 18, 25, 26, 19, 20, 21, 22, 23, 24] rfl rfl
    refine lv_istore_n (lv' := [(3, .int r27), (0, .ref qD0), (1, .int p1), (2, .int p2)]) hx hb dX0_nourish_30 rfl hl (by decide) rfl (fun ls hl => ?_)
    refine lv_aload_n hx hb dX0_nourish_31 rfl (lv_at hl 1 rfl) ?_
    refine lv_iload_n hx hb dX0_nourish_32 rfl (lv_at hl 3 rfl) ?_
    obtain ⟨r33, hg33, hf⟩ := ob1_some hf
    refine mcV_i (wr := [(qd0, .inr (2, [.int d_n, .ref qd1, .ref qd2])), (qd1, .inl (cI, 8, .inl d_for)), (qt0, .inr (9, [.int t_cl, .int t_ln, .int t_pt, .ref qt1, .ref qt2, .ref qt3, .ref qt4])), (qt1, .inl (cI, 301, .inl t_code)), (qt2, .inl (cI, 4, .inl t_st)), (qt3, .inl (cI, 4, .inl t_en)), (qu0, .inr (9, [.int u_cl, .int u_ln, .int u_pt, .ref qu1, .ref qu2, .ref qu3, .ref qu4])), (qu1, .inl (cI, 301, .inl u_code)), (qu2, .inl (cI, 4, .inl u_st)), (qu3, .inl (cI, 4, .inl u_en)), (qw0, .inr (9, [.int w_cl, .int w_ln, .int w_pt, .ref qw1, .ref qw2, .ref qw3, .ref qw4])), (qw1, .inl (cI, 301, .inl w_code)), (qw2, .inl (cI, 4, .inl w_st)), (qw3, .inl (cI, 4, .inl w_en)), (qx0, .inr (9, [.int x_cl, .int x_ln, .int x_pt, .ref qx1, .ref qx2, .ref qx3, .ref qx4])), (qx1, .inl (cI, 301, .inl x_code)), (qx2, .inl (cI, 4, .inl x_st)), (qx3, .inl (cI, 4, .inl x_en)), (qT, .inl (cT, 4, .inr (.inr (.inr (.inr (fT qt0 qu0 qw0 qx0)))))), (qf2, .inl (cI, 6, .inl f_fears)), (qr0, .inr (6, [.ref qd0, .ref qG1, .ref qG2, .ref qG3, .int r_tx, .int r_rul])), (qL1, .inl (cI, 10, .inl l_names)), (qL2, .inl (cI, 64, .inl l_stack)), (qL0, .inr (3, [.ref qr0, .ref qT, .ref qL1, .ref qL2]))]) (As := [.int p2]) (rest := []) hx hb hml hown hts hK hP hD hS hA (k_X0_outlaw l N D cI cJ cZ cB cT qf0 qf1 qD0 qf2 qf3 qr0 qL0 f_row_18 p2 r33 hg33) (kwX0_33 hts rfl rfl ⟨Nat.le_of_ble_eq_true rfl, Nat.le_of_ble_eq_true rfl⟩) [19, 20, 26] [0, 1, 2, 3, 4, 5, 6, 7, 8, 9, 10, 11, 12, 13, 14, 15, 16, 17, 18, 21, 22, 23, 24, 25] rfl rfl rfl (by decide) rfl 2 rfl rfl rfl rfl hl.1 rfl (Nat.le_of_ble_eq_true rfl) dX0_nourish_33 ⟨Nat.zero_le _, Nat.zero_le _⟩ (fun hB33 H locs hP hD hS => ?_)
    have hP := mP_sub (wc := (W_DD_0t1_3t6_8t11_13t16_18t21_23t26_31t35 qd0 qd1 qt0 qt1 qt2 qt3 qu0 qu1 qu2 qu3 qw0 qw1 qw2 qw3 qx0 qx1 qx2 qx3 qT qf0 qf1 qf2 qr0 qL1 qL2 qL0 qD0 qd2 qt4 qu4 qw4 qx4 qf3 qG1 qG2 qG3 cI cJ cZ cB cT d_n d_for t_cl t_ln t_pt t_code t_st t_en u_cl u_ln u_pt u_code u_st u_en w_cl w_ln w_pt w_code w_st w_en x_cl x_ln x_pt x_code x_st x_en f_row_18 f_fears r_tx r_rul l_names l_stack)) hP [0, 1, 2, 3, 4, 5, 6, 7, 8, 9, 10, 11, 12, 13, 14, 15, 16, 17, 18, 24, 25, 19, 20, 21, 22, 23, 26] rfl
    have hD := hD.sub (ws' := (W_DD_0t1_3t6_8t11_13t16_18t21_23t26_31t35 qd0 qd1 qt0 qt1 qt2 qt3 qu0 qu1 qu2 qu3 qw0 qw1 qw2 qw3 qx0 qx1 qx2 qx3 qT qf0 qf1 qf2 qr0 qL1 qL2 qL0 qD0 qd2 qt4 qu4 qw4 qx4 qf3 qG1 qG2 qG3 cI cJ cZ cB cT d_n d_for t_cl t_ln t_pt t_code t_st t_en u_cl u_ln u_pt u_code u_st u_en w_cl w_ln w_pt w_code w_st w_en x_cl x_ln x_pt x_code x_st x_en f_row_18 f_fears r_tx r_rul l_names l_stack)) [0, 1, 2, 3, 4, 5, 6, 7, 8, 9, 10, 11, 12, 13, 14, 15, 16, 17, 18, 24, 25, 19, 20, 21, 22, 23, 26] rfl rfl
    refine xif_ne hx hb 104 dX0_nourish_36 (by decide) hf (fun hf => ?_) (fun hf => ?_)
    · refine lv_aload_n hx hb dX0_nourish_39 rfl (lv_at hl 1 rfl) ?_
      refine gfX0_15 hx hb hts hown hK hP 26 rfl rfl dX0_nourish_40 ?_
      refine lv_iload_n hx hb dX0_nourish_43 rfl (lv_at hl 2 rfl) ?_
      refine lv_iconst (v := (0 : Int32)) hx hb dX0_nourish_44 (by decide) ?_
      obtain ⟨r45, hg45, hf⟩ := ob1_some hf
      refine mcV_i (wr := [(qd0, .inr (2, [.int d_n, .ref qd1, .ref qd2])), (qd1, .inl (cI, 8, .inl d_for)), (qt0, .inr (9, [.int t_cl, .int t_ln, .int t_pt, .ref qt1, .ref qt2, .ref qt3, .ref qt4])), (qt1, .inl (cI, 301, .inl t_code)), (qt2, .inl (cI, 4, .inl t_st)), (qt3, .inl (cI, 4, .inl t_en)), (qu0, .inr (9, [.int u_cl, .int u_ln, .int u_pt, .ref qu1, .ref qu2, .ref qu3, .ref qu4])), (qu1, .inl (cI, 301, .inl u_code)), (qu2, .inl (cI, 4, .inl u_st)), (qu3, .inl (cI, 4, .inl u_en)), (qw0, .inr (9, [.int w_cl, .int w_ln, .int w_pt, .ref qw1, .ref qw2, .ref qw3, .ref qw4])), (qw1, .inl (cI, 301, .inl w_code)), (qw2, .inl (cI, 4, .inl w_st)), (qw3, .inl (cI, 4, .inl w_en)), (qx0, .inr (9, [.int x_cl, .int x_ln, .int x_pt, .ref qx1, .ref qx2, .ref qx3, .ref qx4])), (qx1, .inl (cI, 301, .inl x_code)), (qx2, .inl (cI, 4, .inl x_st)), (qx3, .inl (cI, 4, .inl x_en)), (qT, .inl (cT, 4, .inr (.inr (.inr (.inr (fT qt0 qu0 qw0 qx0)))))), (qf2, .inl (cI, 6, .inl f_fears)), (qr0, .inr (6, [.ref qd0, .ref qG1, .ref qG2, .ref qG3, .int r_tx, .int r_rul])), (qL1, .inl (cI, 10, .inl l_names)), (qL2, .inl (cI, 64, .inl l_stack)), (qL0, .inr (3, [.ref qr0, .ref qT, .ref qL1, .ref qL2])), (qD0, .inr (0, [.ref qr0, .ref qf0, .ref qL0]))]) (As := [.int p1, .int (0 : Int32)]) (rest := []) hx hb hml hown hts hK hP hD hS hA (k_X1_get l N D cI cJ cZ cB cT qf0 qf1 qf2 qf3 f_row_18 p1 (0 : Int32) r45 hg45) (kwX0_29 hts rfl rfl ⟨Nat.le_of_ble_eq_true rfl, Nat.le_of_ble_eq_true rfl⟩) [19, 20] [0, 1, 2, 3, 4, 5, 6, 7, 8, 9, 10, 11, 12, 13, 14, 15, 16, 17, 18, 21, 22, 23, 24, 25, 26] rfl rfl rfl (by decide) rfl 0 rfl rfl rfl rfl hl.1 rfl (Nat.le_of_ble_eq_true rfl) dX0_nourish_45 ⟨Nat.zero_le _, Nat.zero_le _⟩ (fun hB45 H locs hP hD hS => ?_)
      have hP := mP_sub (wc := (W_DD_0t1_3t6_8t11_13t16_18t21_23t26_31t35 qd0 qd1 qt0 qt1 qt2 qt3 qu0 qu1 qu2 qu3 qw0 qw1 qw2 qw3 qx0 qx1 qx2 qx3 qT qf0 qf1 qf2 qr0 qL1 qL2 qL0 qD0 qd2 qt4 qu4 qw4 qx4 qf3 qG1 qG2 qG3 cI cJ cZ cB cT d_n d_for t_cl t_ln t_pt t_code t_st t_en u_cl u_ln u_pt u_code u_st u_en w_cl w_ln w_pt w_code w_st w_en x_cl x_ln x_pt x_code x_st x_en f_row_18 f_fears r_tx r_rul l_names l_stack)) hP [0, 1, 2, 3, 4, 5, 6, 7, 8, 9, 10, 11, 12, 13, 14, 15, 16, 17, 18, 25, 26, 19, 20, 21, 22, 23, 24] rfl
      have hD := hD.sub (ws' := (W_DD_0t1_3t6_8t11_13t16_18t21_23t26_31t35 qd0 qd1 qt0 qt1 qt2 qt3 qu0 qu1 qu2 qu3 qw0 qw1 qw2 qw3 qx0 qx1 qx2 qx3 qT qf0 qf1 qf2 qr0 qL1 qL2 qL0 qD0 qd2 qt4 qu4 qw4 qx4 qf3 qG1 qG2 qG3 cI cJ cZ cB cT d_n d_for t_cl t_ln t_pt t_code t_st t_en u_cl u_ln u_pt u_code u_st u_en w_cl w_ln w_pt w_code w_st w_en x_cl x_ln x_pt x_code x_st x_en f_row_18 f_fears r_tx r_rul l_names l_stack)) [0, 1, 2, 3, 4, 5, 6, 7, 8, 9, 10, 11, 12, 13, 14, 15, 16, 17, 18, 25, 26, 19, 20, 21, 22, 23, 24] rfl rfl
      refine lv_istore (lv' := [(4, .int r45), (3, .int r27), (0, .ref qD0), (1, .int p1), (2, .int p2)]) hx hb dX0_nourish_48 hl (by decide) rfl (fun ls hl => ?_)
      refine lv_aload_n hx hb dX0_nourish_50 rfl (lv_at hl 2 rfl) ?_
      refine gfX0_19 hx hb hts hown hK hP 26 rfl rfl dX0_nourish_51 ?_
      refine lv_aload_n hx hb dX0_nourish_54 rfl (lv_at hl 2 rfl) ?_
      refine gfX0_9 hx hb hts hown hK hP 26 rfl rfl dX0_nourish_55 ?_
      refine gfX0_67 hx hb hts hown hK hP 22 rfl rfl dX0_nourish_58 ?_
      refine lv_iconst (v := (1 : Int32)) hx hb dX0_nourish_61 (by decide) ?_
      refine lv_aload_n hx hb dX0_nourish_62 rfl (lv_at hl 2 rfl) ?_
      refine gfX0_15 hx hb hts hown hK hP 26 rfl rfl dX0_nourish_63 ?_
      refine lv_iload_n hx hb dX0_nourish_66 rfl (lv_at hl 3 rfl) ?_
      refine lv_iload hx hb dX0_nourish_67 (lv_at hl 0 rfl) ?_
      obtain ⟨r69, l_names_69, l_stack_69, hg69, hf⟩ := ob3_some hf
      refine mcVE_i (wr := [(qD0, .inr (0, [.ref qr0, .ref qf0, .ref qL0]))]) (As := [.int r_rul, .int (1 : Int32), .ref qf0, .int p1, .int r45]) (rest := []) hx hb hml hown hts hK hP hD hS hA hE (k_X3_rule l N D cI cJ cZ cB cT qd0 qd1 qt0 qt1 qt2 qt3 qu0 qu1 qu2 qu3 qw0 qw1 qw2 qw3 qx0 qx1 qx2 qx3 qT qf0 qf1 qf2 qr0 qL1 qL2 qL0 qd2 qt4 qu4 qw4 qx4 qf3 qG1 qG2 qG3 d_n d_for t_cl t_ln t_pt t_code t_st t_en u_cl u_ln u_pt u_code u_st u_en w_cl w_ln w_pt w_code w_st w_en x_cl x_ln x_pt x_code x_st x_en f_row_18 f_fears r_tx r_rul l_names l_stack r_rul (1 : Int32) p1 r45 r69 l_names_69 l_stack_69 hg69) (kwX0_71 hts rfl rfl ⟨Nat.le_of_ble_eq_true rfl, Nat.le_of_ble_eq_true rfl⟩) [0, 1, 2, 3, 4, 5, 6, 7, 8, 9, 10, 11, 12, 13, 14, 15, 16, 17, 18, 19, 20, 21, 22, 23, 24, 25] [26] rfl rfl rfl (by decide) rfl 25 rfl rfl rfl rfl hl.1 rfl (Nat.le_of_ble_eq_true rfl) dX0_nourish_69 ⟨Nat.zero_le _, Nat.zero_le _⟩ (fun hB69 H locs hP hD hS => ?_)
      have hP := mP_sub (wc := (W_DD_0t1_3t6_8t11_13t16_18t21_23t26_31t35 qd0 qd1 qt0 qt1 qt2 qt3 qu0 qu1 qu2 qu3 qw0 qw1 qw2 qw3 qx0 qx1 qx2 qx3 qT qf0 qf1 qf2 qr0 qL1 qL2 qL0 qD0 qd2 qt4 qu4 qw4 qx4 qf3 qG1 qG2 qG3 cI cJ cZ cB cT d_n d_for t_cl t_ln t_pt t_code t_st t_en u_cl u_ln u_pt u_code u_st u_en w_cl w_ln w_pt w_code w_st w_en x_cl x_ln x_pt x_code x_st x_en f_row_18 f_fears r_tx r_rul l_names_69 l_stack_69)) hP [1, 2, 3, 4, 5, 6, 7, 8, 9, 10, 11, 12, 13, 14, 15, 16, 17, 18, 19, 20, 21, 22, 23, 24, 25, 26, 0] rfl
      have hD := hD.sub (ws' := (W_DD_0t1_3t6_8t11_13t16_18t21_23t26_31t35 qd0 qd1 qt0 qt1 qt2 qt3 qu0 qu1 qu2 qu3 qw0 qw1 qw2 qw3 qx0 qx1 qx2 qx3 qT qf0 qf1 qf2 qr0 qL1 qL2 qL0 qD0 qd2 qt4 qu4 qw4 qx4 qf3 qG1 qG2 qG3 cI cJ cZ cB cT d_n d_for t_cl t_ln t_pt t_code t_st t_en u_cl u_ln u_pt u_code u_st u_en w_cl w_ln w_pt w_code w_st w_en x_cl x_ln x_pt x_code x_st x_en f_row_18 f_fears r_tx r_rul l_names_69 l_stack_69)) [1, 2, 3, 4, 5, 6, 7, 8, 9, 10, 11, 12, 13, 14, 15, 16, 17, 18, 19, 20, 21, 22, 23, 24, 25, 26, 0] rfl rfl
      refine lv_istore (lv' := [(5, .int r69), (4, .int r45), (3, .int r27), (0, .ref qD0), (1, .int p1), (2, .int p2)]) hx hb dX0_nourish_72 hl (by decide) rfl (fun ls hl => ?_)
      refine lv_aload_n hx hb dX0_nourish_74 rfl (lv_at hl 3 rfl) ?_
      refine gfX0_15 hx hb hts hown hK hP 26 rfl rfl dX0_nourish_75 ?_
      obtain ⟨r78, f_row_78, hg78, hf⟩ := ob2_some hf
      refine mcV_i (wr := [(qd0, .inr (2, [.int d_n, .ref qd1, .ref qd2])), (qd1, .inl (cI, 8, .inl d_for)), (qt0, .inr (9, [.int t_cl, .int t_ln, .int t_pt, .ref qt1, .ref qt2, .ref qt3, .ref qt4])), (qt1, .inl (cI, 301, .inl t_code)), (qt2, .inl (cI, 4, .inl t_st)), (qt3, .inl (cI, 4, .inl t_en)), (qu0, .inr (9, [.int u_cl, .int u_ln, .int u_pt, .ref qu1, .ref qu2, .ref qu3, .ref qu4])), (qu1, .inl (cI, 301, .inl u_code)), (qu2, .inl (cI, 4, .inl u_st)), (qu3, .inl (cI, 4, .inl u_en)), (qw0, .inr (9, [.int w_cl, .int w_ln, .int w_pt, .ref qw1, .ref qw2, .ref qw3, .ref qw4])), (qw1, .inl (cI, 301, .inl w_code)), (qw2, .inl (cI, 4, .inl w_st)), (qw3, .inl (cI, 4, .inl w_en)), (qx0, .inr (9, [.int x_cl, .int x_ln, .int x_pt, .ref qx1, .ref qx2, .ref qx3, .ref qx4])), (qx1, .inl (cI, 301, .inl x_code)), (qx2, .inl (cI, 4, .inl x_st)), (qx3, .inl (cI, 4, .inl x_en)), (qT, .inl (cT, 4, .inr (.inr (.inr (.inr (fT qt0 qu0 qw0 qx0)))))), (qf2, .inl (cI, 6, .inl f_fears)), (qr0, .inr (6, [.ref qd0, .ref qG1, .ref qG2, .ref qG3, .int r_tx, .int r_rul])), (qL1, .inl (cI, 10, .inl l_names_69)), (qL2, .inl (cI, 64, .inl l_stack_69)), (qL0, .inr (3, [.ref qr0, .ref qT, .ref qL1, .ref qL2])), (qD0, .inr (0, [.ref qr0, .ref qf0, .ref qL0]))]) (As := []) (rest := []) hx hb hml hown hts hK hP hD hS hA (k_X1_drawByTen l N D cI cJ cZ cB cT qf0 qf1 qf2 qf3 f_row_18 r78 f_row_78 hg78) (kwX0_77 hts rfl rfl ⟨Nat.le_of_ble_eq_true rfl, Nat.le_of_ble_eq_true rfl⟩) [19, 20] [0, 1, 2, 3, 4, 5, 6, 7, 8, 9, 10, 11, 12, 13, 14, 15, 16, 17, 18, 21, 22, 23, 24, 25, 26] rfl rfl rfl (by decide) rfl 0 rfl rfl rfl rfl hl.1 rfl (Nat.le_of_ble_eq_true rfl) dX0_nourish_78 ⟨Nat.zero_le _, Nat.zero_le _⟩ (fun hB78 H locs hP hD hS => ?_)
      have hP := mP_sub (wc := (W_DD_0t1_3t6_8t11_13t16_18t21_23t26_31t35 qd0 qd1 qt0 qt1 qt2 qt3 qu0 qu1 qu2 qu3 qw0 qw1 qw2 qw3 qx0 qx1 qx2 qx3 qT qf0 qf1 qf2 qr0 qL1 qL2 qL0 qD0 qd2 qt4 qu4 qw4 qx4 qf3 qG1 qG2 qG3 cI cJ cZ cB cT d_n d_for t_cl t_ln t_pt t_code t_st t_en u_cl u_ln u_pt u_code u_st u_en w_cl w_ln w_pt w_code w_st w_en x_cl x_ln x_pt x_code x_st x_en f_row_78 f_fears r_tx r_rul l_names_69 l_stack_69)) hP [0, 1, 2, 3, 4, 5, 6, 7, 8, 9, 10, 11, 12, 13, 14, 15, 16, 17, 18, 25, 26, 19, 20, 21, 22, 23, 24] rfl
      have hD := hD.sub (ws' := (W_DD_0t1_3t6_8t11_13t16_18t21_23t26_31t35 qd0 qd1 qt0 qt1 qt2 qt3 qu0 qu1 qu2 qu3 qw0 qw1 qw2 qw3 qx0 qx1 qx2 qx3 qT qf0 qf1 qf2 qr0 qL1 qL2 qL0 qD0 qd2 qt4 qu4 qw4 qx4 qf3 qG1 qG2 qG3 cI cJ cZ cB cT d_n d_for t_cl t_ln t_pt t_code t_st t_en u_cl u_ln u_pt u_code u_st u_en w_cl w_ln w_pt w_code w_st w_en x_cl x_ln x_pt x_code x_st x_en f_row_78 f_fears r_tx r_rul l_names_69 l_stack_69)) [0, 1, 2, 3, 4, 5, 6, 7, 8, 9, 10, 11, 12, 13, 14, 15, 16, 17, 18, 25, 26, 19, 20, 21, 22, 23, 24] rfl rfl
      refine lv_iload hx hb dX0_nourish_81 (lv_at hl 0 rfl) ?_
      refine xicmp_ge hx hb 104 dX0_nourish_83 (by decide) hf (fun hf => ?_) (fun hf => ?_)
      · exact b104 f_row_78 l_names_69 l_stack_69 p1 r27 _ _ _ hf hP hD hS (lv_sub hl [3, 4, 2] rfl)
      · refine lv_iload_n hx hb dX0_nourish_86 rfl (lv_at hl 2 rfl) ?_
        refine lv_iconst (v := (1 : Int32)) hx hb dX0_nourish_87 (by decide) ?_
        refine lv_iadd hx hb dX0_nourish_88 ?_
        refine lv_iconst (v := (4 : Int32)) hx hb dX0_nourish_89 (by decide) ?_
        refine xmin hx hb hml hl.1 hown hts mtX0_81 (Nat.le_of_ble_eq_true rfl) (Nat.le_of_ble_eq_true rfl) ⟨Nat.zero_le _, Nat.zero_le _⟩ dX0_nourish_90 ?_
        refine lv_istore_n (lv' := [(3, .int (mnI (r27 + (1 : Int32)) (4 : Int32))), (5, .int r69), (4, .int r45), (0, .ref qD0), (1, .int p1), (2, .int p2)]) hx hb dX0_nourish_93 rfl hl (by decide) rfl (fun ls hl => ?_)
        refine lv_aload_n hx hb dX0_nourish_94 rfl (lv_at hl 3 rfl) ?_
        refine gfX0_15 hx hb hts hown hK hP 26 rfl rfl dX0_nourish_95 ?_
        refine lv_iload_n hx hb dX0_nourish_98 rfl (lv_at hl 5 rfl) ?_
        refine lv_iconst (v := (3 : Int32)) hx hb dX0_nourish_99 (by decide) ?_
        refine lv_iload_n hx hb dX0_nourish_100 rfl (lv_at hl 0 rfl) ?_
        obtain ⟨f_row_101, hg101, hf⟩ := ob1_some hf
        refine mcV_v (wr := [(qd0, .inr (2, [.int d_n, .ref qd1, .ref qd2])), (qd1, .inl (cI, 8, .inl d_for)), (qt0, .inr (9, [.int t_cl, .int t_ln, .int t_pt, .ref qt1, .ref qt2, .ref qt3, .ref qt4])), (qt1, .inl (cI, 301, .inl t_code)), (qt2, .inl (cI, 4, .inl t_st)), (qt3, .inl (cI, 4, .inl t_en)), (qu0, .inr (9, [.int u_cl, .int u_ln, .int u_pt, .ref qu1, .ref qu2, .ref qu3, .ref qu4])), (qu1, .inl (cI, 301, .inl u_code)), (qu2, .inl (cI, 4, .inl u_st)), (qu3, .inl (cI, 4, .inl u_en)), (qw0, .inr (9, [.int w_cl, .int w_ln, .int w_pt, .ref qw1, .ref qw2, .ref qw3, .ref qw4])), (qw1, .inl (cI, 301, .inl w_code)), (qw2, .inl (cI, 4, .inl w_st)), (qw3, .inl (cI, 4, .inl w_en)), (qx0, .inr (9, [.int x_cl, .int x_ln, .int x_pt, .ref qx1, .ref qx2, .ref qx3, .ref qx4])), (qx1, .inl (cI, 301, .inl x_code)), (qx2, .inl (cI, 4, .inl x_st)), (qx3, .inl (cI, 4, .inl x_en)), (qT, .inl (cT, 4, .inr (.inr (.inr (.inr (fT qt0 qu0 qw0 qx0)))))), (qf2, .inl (cI, 6, .inl f_fears)), (qr0, .inr (6, [.ref qd0, .ref qG1, .ref qG2, .ref qG3, .int r_tx, .int r_rul])), (qL1, .inl (cI, 10, .inl l_names_69)), (qL2, .inl (cI, 64, .inl l_stack_69)), (qL0, .inr (3, [.ref qr0, .ref qT, .ref qL1, .ref qL2])), (qD0, .inr (0, [.ref qr0, .ref qf0, .ref qL0]))]) (As := [.int p2, .int (3 : Int32), .int (mnI (r27 + (1 : Int32)) (4 : Int32))]) (rest := []) hx hb hml hown hts hK hP hD hS hA (k_X1_set l N D cI cJ cZ cB cT qf0 qf1 qf2 qf3 f_row_78 p2 (3 : Int32) (mnI (r27 + (1 : Int32)) (4 : Int32)) f_row_101 hg101) (kwX0_48 hts rfl rfl ⟨Nat.le_of_ble_eq_true rfl, Nat.le_of_ble_eq_true rfl⟩) [19, 20] [0, 1, 2, 3, 4, 5, 6, 7, 8, 9, 10, 11, 12, 13, 14, 15, 16, 17, 18, 21, 22, 23, 24, 25, 26] rfl rfl rfl (by decide) rfl 0 rfl rfl rfl rfl hl.1 rfl (Nat.le_of_ble_eq_true rfl) dX0_nourish_101 ⟨Nat.zero_le _, Nat.zero_le _⟩ (fun H locs hP hD hS => ?_)
        have hP := mP_sub (wc := (W_DD_0t1_3t6_8t11_13t16_18t21_23t26_31t35 qd0 qd1 qt0 qt1 qt2 qt3 qu0 qu1 qu2 qu3 qw0 qw1 qw2 qw3 qx0 qx1 qx2 qx3 qT qf0 qf1 qf2 qr0 qL1 qL2 qL0 qD0 qd2 qt4 qu4 qw4 qx4 qf3 qG1 qG2 qG3 cI cJ cZ cB cT d_n d_for t_cl t_ln t_pt t_code t_st t_en u_cl u_ln u_pt u_code u_st u_en w_cl w_ln w_pt w_code w_st w_en x_cl x_ln x_pt x_code x_st x_en f_row_101 f_fears r_tx r_rul l_names_69 l_stack_69)) hP [0, 1, 2, 3, 4, 5, 6, 7, 8, 9, 10, 11, 12, 13, 14, 15, 16, 17, 18, 25, 26, 19, 20, 21, 22, 23, 24] rfl
        have hD := hD.sub (ws' := (W_DD_0t1_3t6_8t11_13t16_18t21_23t26_31t35 qd0 qd1 qt0 qt1 qt2 qt3 qu0 qu1 qu2 qu3 qw0 qw1 qw2 qw3 qx0 qx1 qx2 qx3 qT qf0 qf1 qf2 qr0 qL1 qL2 qL0 qD0 qd2 qt4 qu4 qw4 qx4 qf3 qG1 qG2 qG3 cI cJ cZ cB cT d_n d_for t_cl t_ln t_pt t_code t_st t_en u_cl u_ln u_pt u_code u_st u_en w_cl w_ln w_pt w_code w_st w_en x_cl x_ln x_pt x_code x_st x_en f_row_101 f_fears r_tx r_rul l_names_69 l_stack_69)) [0, 1, 2, 3, 4, 5, 6, 7, 8, 9, 10, 11, 12, 13, 14, 15, 16, 17, 18, 25, 26, 19, 20, 21, 22, 23, 24] rfl rfl
        exact b104 f_row_101 l_names_69 l_stack_69 p1 (mnI (r27 + (1 : Int32)) (4 : Int32)) _ _ _ hf hP hD hS (lv_sub hl [3, 4, 0] rfl)
    · exact b104 f_row_18 l_names l_stack p1 r27 _ _ _ hf hP hD hS (lv_sub hl [1, 2, 0] rfl)
