theorem dX8_spells_0 : decode cX8_spells 0 = .ok (.iconst 0, 1) := by decide +kernel
theorem dX8_spells_1 : decode cX8_spells 1 = .ok (.istore 4, 2) := by decide +kernel
theorem dX8_spells_3 : decode cX8_spells 3 = .ok (.iload 4, 2) := by decide +kernel
theorem dX8_spells_5 : decode cX8_spells 5 = .ok (.iload_n 3, 1) := by decide +kernel
theorem dX8_spells_6 : decode cX8_spells 6 = .ok (.if_icmp .ge 43, 3) := by decide +kernel
theorem dX8_spells_9 : decode cX8_spells 9 = .ok (.iload_n 2, 1) := by decide +kernel
theorem dX8_spells_10 : decode cX8_spells 10 = .ok (.iload 4, 2) := by decide +kernel
theorem dX8_spells_12 : decode cX8_spells 12 = .ok (.iadd, 1) := by decide +kernel
theorem dX8_spells_13 : decode cX8_spells 13 = .ok (.ldc 65, 2) := by decide +kernel
theorem dX8_spells_15 : decode cX8_spells 15 = .ok (.invokevirtual 67, 3) := by decide +kernel
theorem dX8_spells_18 : decode cX8_spells 18 = .ok (.if_icmp .ge 31, 3) := by decide +kernel
theorem dX8_spells_21 : decode cX8_spells 21 = .ok (.ldc 65, 2) := by decide +kernel
theorem dX8_spells_23 : decode cX8_spells 23 = .ok (.iload_n 2, 1) := by decide +kernel
theorem dX8_spells_24 : decode cX8_spells 24 = .ok (.iload 4, 2) := by decide +kernel
theorem dX8_spells_26 : decode cX8_spells 26 = .ok (.iadd, 1) := by decide +kernel
theorem dX8_spells_27 : decode cX8_spells 27 = .ok (.invokevirtual 72, 3) := by decide +kernel
theorem dX8_spells_30 : decode cX8_spells 30 = .ok (.aload_n 0, 1) := by decide +kernel
theorem dX8_spells_31 : decode cX8_spells 31 = .ok (.iload_n 1, 1) := by decide +kernel
theorem dX8_spells_32 : decode cX8_spells 32 = .ok (.iload 4, 2) := by decide +kernel
theorem dX8_spells_34 : decode cX8_spells 34 = .ok (.iadd, 1) := by decide +kernel
theorem dX8_spells_35 : decode cX8_spells 35 = .ok (.invokevirtual 32, 3) := by decide +kernel
theorem dX8_spells_38 : decode cX8_spells 38 = .ok (.if_icmp .eq 5, 3) := by decide +kernel
theorem dX8_spells_41 : decode cX8_spells 41 = .ok (.iconst 0, 1) := by decide +kernel
theorem dX8_spells_42 : decode cX8_spells 42 = .ok (.ireturn, 1) := by decide +kernel
theorem dX8_spells_43 : decode cX8_spells 43 = .ok (.iinc 4 1, 3) := by decide +kernel
theorem dX8_spells_46 : decode cX8_spells 46 = .ok (.goto (-43), 3) := by decide +kernel
theorem dX8_spells_49 : decode cX8_spells 49 = .ok (.iconst 1, 1) := by decide +kernel
theorem dX8_spells_50 : decode cX8_spells 50 = .ok (.ireturn, 1) := by decide +kernel
def f_X8_spells_3 (N : Nat) : Nat → Int32 → (Nat → Int32) → Int32 → Int32 → Int32 → Int32 → Option (Int32)
  | 0, _, _, _, _, _, _ => none
  | n + 1, t_len, t_by, x1, x2, x3, x4 => if x3 ≤ x4 then (some (1 : Int32)) else (if (169 : Int32) ≤ (x2 + x4) then (some (1 : Int32)) else (gA wordsF 169 (x2 + x4) fun v27 => ob1 (f_X8_byteAt N t_len t_by (x1 + x4)) fun r35 => if v27 = r35 then ((f_X8_spells_3 N n) t_len t_by x1 x2 x3 (x4 + (1 : Int32))) else (some (0 : Int32))))
def f_X8_spells (N : Nat) (t_len : Int32) (t_by : Nat → Int32) (p1 : Int32) (p2 : Int32) (p3 : Int32) : Option (Int32) := f_X8_spells_3 N N t_len t_by p1 p2 p3 (0 : Int32)
set_option maxHeartbeats 4000000 in
set_option maxRecDepth 100000 in
theorem k_X8_spells (l : Launch) (N : Nat) (D : va_G) (cI cJ cZ cB cT : ClassId) (qt0 : Nat) (qt1 : Nat) (qt2 : Nat) (qt3 : Nat) (qt4 : Nat) (t_len : Int32) (t_tok : Int32) (t_by : Nat → Int32) (p1 : Int32) (p2 : Int32) (p3 : Int32) (o_r : Int32) (hf : f_X8_spells N t_len t_by p1 p2 p3 = some o_r) : ∀ sz, Met l yX8_spells (mw yX8_spells cX8_spells 5 (some .boolean)) ({ frames := 4, cells := 0, slots := 0, locals := 85 } : Room) (mPreE D (mT cI cJ cZ cB cT) (W_TP_0t1 qt0 qt1 qt2 qt3 qt4 cI cJ cZ cB cT t_len t_tok t_by) sz [.ref qt0, .int p1, .int p2, .int p3]) ((mQi D (W_TP_0t1 qt0 qt1 qt2 qt3 qt4 cI cJ cZ cB cT t_len t_tok t_by) o_r (mB o_r)) (va_A (W_TP_0t1 qt0 qt1 qt2 qt3 qt4 cI cJ cZ cB cT t_len t_tok t_by) sz)) 0 0 (va_A (W_TP_0t1 qt0 qt1 qt2 qt3 qt4 cI cJ cZ cB cT t_len t_tok t_by) sz) := by
  refine mMetE (Qc := (mQi D (W_TP_0t1 qt0 qt1 qt2 qt3 qt4 cI cJ cZ cB cT t_len t_tok t_by) o_r (mB o_r))) (by decide) (Nat.le_of_ble_eq_true rfl) (fun p e s m below meth c A ls hx hb hr hml hts hown hlocks hK hA hP hD hl hE => ?_)
  have hown : s.vm.findClass RX8 = some m.cls := hown
  have hl : lv_has ls 5 [(0, .ref qt0), (1, .int p1), (2, .int p2), (3, .int p3)] := hl
  have hS : va_S A s.heap s.heap [] := va_S.rf
  obtain ⟨⟨tM, hZM, hTM⟩, ⟨tL, hZL, hTL⟩, ⟨hNX4, hNX10⟩, tS, tV, hRS, hZC, hZF, hKS⟩ := id hE
  have b3 : ∀ n3 : Nat, ∀ (x1 : Int32) (x2 : Int32) (x3 : Int32) (x4 : Int32) (H : Heap) (locs : List Loc) (ls : Array Slot), f_X8_spells_3 N n3 t_len t_by x1 x2 x3 x4 = some o_r → va_P D vwCl (W_TP_0t1 qt0 qt1 qt2 qt3 qt4 cI cJ cZ cB cT t_len t_tok t_by) H → va_D A (W_TP_0t1 qt0 qt1 qt2 qt3 qt4 cI cJ cZ cB cT t_len t_tok t_by) → va_S A s.heap H locs → lv_has ls 5 [(0, .ref qt0), (1, .int x1), (2, .int x2), (3, .int x3), (4, .int x4)] → W p l e ({ frames := 4, cells := 0, slots := 0, locals := 85 } : Room) s m ([.ref qt0, .int p1, .int p2, .int p3] : List Value).toArray below meth c H locs 0 0 (MQ below ((mQi D (W_TP_0t1 qt0 qt1 qt2 qt3 qt4 cI cJ cZ cB cT t_len t_tok t_by) o_r (mB o_r)) A) ([.ref qt0, .int p1, .int p2, .int p3] : List Value).toArray s 0 0 A) (F0 m 3 ls []) := by
    intro n3
    induction n3 with
    | zero =>
      intro x1 x2 x3 x4 H locs ls hf hP hD hS hl
      simp [f_X8_spells_3] at hf
    | succ n3 ih3 =>
      intro x1 x2 x3 x4 H locs ls hf hP hD hS hl
      rw [f_X8_spells_3.eq_2] at hf
      refine lv_iload hx hb dX8_spells_3 (lv_at hl 4 rfl) ?_
      refine lv_iload_n hx hb dX8_spells_5 rfl (lv_at hl 3 rfl) ?_
      refine xicmp_ge hx hb 49 dX8_spells_6 (by decide) hf (fun hf => ?_) (fun hf => ?_)
      · refine lv_iconst (v := (1 : Int32)) hx hb dX8_spells_49 (by decide) ?_
        cases hf
        exact mret_z hx hb hr hlocks hP hD hS dX8_spells_50 rfl rfl
      · refine lv_iload_n hx hb dX8_spells_9 rfl (lv_at hl 2 rfl) ?_
        refine lv_iload hx hb dX8_spells_10 (lv_at hl 4 rfl) ?_
        refine lv_iadd hx hb dX8_spells_12 ?_
        refine va_ldcS hx hb hown hRS dX8_spells_13 ?_
        refine mcV0S_i (As := []) (rest := [.int (x2 + x4)]) hx hb hml hown hts hK hP hD hS hA ⟨hZC, hZF, hKS⟩ (k_J0_length l N D cI cJ cZ cB cT tS tV) (kwX8_67 hts rfl rfl ⟨Nat.le_of_ble_eq_true rfl, Nat.le_of_ble_eq_true rfl⟩) rfl hl.1 rfl (Nat.le_of_ble_eq_true rfl) dX8_spells_15 ⟨Nat.zero_le _, Nat.zero_le _⟩ (fun _ H locs hP hD hS => ?_)
        refine xicmp_ge hx hb 49 dX8_spells_18 (by decide) hf (fun hf => ?_) (fun hf => ?_)
        · refine lv_iconst (v := (1 : Int32)) hx hb dX8_spells_49 (by decide) ?_
          cases hf
          exact mret_z hx hb hr hlocks hP hD hS dX8_spells_50 rfl rfl
        · refine va_ldcS hx hb hown hRS dX8_spells_21 ?_
          refine lv_iload_n hx hb dX8_spells_23 rfl (lv_at hl 2 rfl) ?_
          refine lv_iload hx hb dX8_spells_24 (lv_at hl 4 rfl) ?_
          refine lv_iadd hx hb dX8_spells_26 ?_
          obtain ⟨hin27, hf⟩ := gA_some hf
          refine mcV0S_i (As := [.int (x2 + x4)]) (rest := []) hx hb hml hown hts hK hP hD hS hA ⟨hZC, hZF, hKS⟩ (k_J0_charAt l N D cI cJ cZ cB cT tS tV (x2 + x4) hin27) (kwX8_72 hts rfl rfl ⟨Nat.le_of_ble_eq_true rfl, Nat.le_of_ble_eq_true rfl⟩) rfl hl.1 rfl (Nat.le_of_ble_eq_true rfl) dX8_spells_27 ⟨Nat.zero_le _, Nat.zero_le _⟩ (fun _ H locs hP hD hS => ?_)
          generalize wordsF ((x2 + x4)).toNatClampNeg = v27 at hf ⊢
          refine lv_aload_n hx hb dX8_spells_30 rfl (lv_at hl 0 rfl) ?_
          refine lv_iload_n hx hb dX8_spells_31 rfl (lv_at hl 1 rfl) ?_
          refine lv_iload hx hb dX8_spells_32 (lv_at hl 4 rfl) ?_
          refine lv_iadd hx hb dX8_spells_34 ?_
          obtain ⟨r35, hg35, hf⟩ := ob1_some hf
          refine mcV1_i (As := [.int (x1 + x4)]) (rest := [.int v27]) hx hb hml hown hts hK hP hD hS hA (k_X8_byteAt l N D cI cJ cZ cB cT qt0 qt1 qt2 qt3 qt4 t_len t_tok t_by (x1 + x4) r35 hg35) (kwX8_32 hts rfl rfl ⟨Nat.le_of_ble_eq_true rfl, Nat.le_of_ble_eq_true rfl⟩) 0 rfl rfl rfl rfl hl.1 rfl (Nat.le_of_ble_eq_true rfl) dX8_spells_35 ⟨Nat.zero_le _, Nat.zero_le _⟩ (fun hB35 H locs hP hD hS => ?_)
          have hP : va_P D vwCl (W_TP_0t1 qt0 qt1 qt2 qt3 qt4 cI cJ cZ cB cT t_len t_tok t_by) H := hP
          have hD : va_D A (W_TP_0t1 qt0 qt1 qt2 qt3 qt4 cI cJ cZ cB cT t_len t_tok t_by) := hD
          refine xicmp_eq hx hb 43 dX8_spells_38 (by decide) hf (fun hf => ?_) (fun hf => ?_)
          · refine lv_iinc (v := (x4 + (1 : Int32))) (lv' := [(4, .int (x4 + (1 : Int32))), (0, .ref qt0), (1, .int x1), (2, .int x2), (3, .int x3)]) hx hb dX8_spells_43 hl (k := 4) rfl rfl (by decide) rfl (fun ls hl => ?_)
            refine lv_goto (tgt := 3) hx hb dX8_spells_46 (by decide) ?_
            exact ih3 x1 x2 x3 (x4 + (1 : Int32)) _ _ _ hf hP hD hS (lv_sub hl [1, 2, 3, 4, 0] rfl)
          · refine lv_iconst (v := (0 : Int32)) hx hb dX8_spells_41 (by decide) ?_
            cases hf
            exact mret_z hx hb hr hlocks hP hD hS dX8_spells_42 rfl rfl
  unfold f_X8_spells at hf
  refine lv_iconst (v := (0 : Int32)) hx hb dX8_spells_0 (by decide) ?_
  refine lv_istore (lv' := [(4, .int (0 : Int32)), (0, .ref qt0), (1, .int p1), (2, .int p2), (3, .int p3)]) hx hb dX8_spells_1 hl (by decide) rfl (fun ls hl => ?_)
  exact b3 N p1 p2 p3 (0 : Int32) _ _ _ hf hP hD hS (lv_sub hl [1, 2, 3, 4, 0] rfl)
theorem dX8_wordOf_0 : decode cX8_wordOf 0 = .ok (.iconst 0, 1) := by decide +kernel
theorem dX8_wordOf_1 : decode cX8_wordOf 1 = .ok (.istore_n 3, 1) := by decide +kernel
theorem dX8_wordOf_2 : decode cX8_wordOf 2 = .ok (.iconst 0, 1) := by decide +kernel
theorem dX8_wordOf_3 : decode cX8_wordOf 3 = .ok (.istore 4, 2) := by decide +kernel
theorem dX8_wordOf_5 : decode cX8_wordOf 5 = .ok (.iconst 0, 1) := by decide +kernel
theorem dX8_wordOf_6 : decode cX8_wordOf 6 = .ok (.istore 5, 2) := by decide +kernel
theorem dX8_wordOf_8 : decode cX8_wordOf 8 = .ok (.iload 5, 2) := by decide +kernel
theorem dX8_wordOf_10 : decode cX8_wordOf 10 = .ok (.ldc 65, 2) := by decide +kernel
theorem dX8_wordOf_12 : decode cX8_wordOf 12 = .ok (.invokevirtual 67, 3) := by decide +kernel
theorem dX8_wordOf_15 : decode cX8_wordOf 15 = .ok (.if_icmp .ge 61, 3) := by decide +kernel
theorem dX8_wordOf_18 : decode cX8_wordOf 18 = .ok (.ldc 65, 2) := by decide +kernel
theorem dX8_wordOf_20 : decode cX8_wordOf 20 = .ok (.iload 5, 2) := by decide +kernel
theorem dX8_wordOf_22 : decode cX8_wordOf 22 = .ok (.invokevirtual 72, 3) := by decide +kernel
theorem dX8_wordOf_25 : decode cX8_wordOf 25 = .ok (.bipush 32, 2) := by decide +kernel
theorem dX8_wordOf_27 : decode cX8_wordOf 27 = .ok (.if_icmp .eq 6, 3) := by decide +kernel
theorem dX8_wordOf_30 : decode cX8_wordOf 30 = .ok (.goto 40, 3) := by decide +kernel
theorem dX8_wordOf_33 : decode cX8_wordOf 33 = .ok (.iload 5, 2) := by decide +kernel
theorem dX8_wordOf_35 : decode cX8_wordOf 35 = .ok (.iload 4, 2) := by decide +kernel
theorem dX8_wordOf_37 : decode cX8_wordOf 37 = .ok (.isub, 1) := by decide +kernel
theorem dX8_wordOf_38 : decode cX8_wordOf 38 = .ok (.iload_n 2, 1) := by decide +kernel
theorem dX8_wordOf_39 : decode cX8_wordOf 39 = .ok (.iload_n 1, 1) := by decide +kernel
theorem dX8_wordOf_40 : decode cX8_wordOf 40 = .ok (.isub, 1) := by decide +kernel
theorem dX8_wordOf_41 : decode cX8_wordOf 41 = .ok (.if_icmp .ne 20, 3) := by decide +kernel
theorem dX8_wordOf_44 : decode cX8_wordOf 44 = .ok (.aload_n 0, 1) := by decide +kernel
theorem dX8_wordOf_45 : decode cX8_wordOf 45 = .ok (.iload_n 1, 1) := by decide +kernel
theorem dX8_wordOf_46 : decode cX8_wordOf 46 = .ok (.iload 4, 2) := by decide +kernel
theorem dX8_wordOf_48 : decode cX8_wordOf 48 = .ok (.iload 5, 2) := by decide +kernel
theorem dX8_wordOf_50 : decode cX8_wordOf 50 = .ok (.iload 4, 2) := by decide +kernel
theorem dX8_wordOf_52 : decode cX8_wordOf 52 = .ok (.isub, 1) := by decide +kernel
theorem dX8_wordOf_53 : decode cX8_wordOf 53 = .ok (.invokevirtual 76, 3) := by decide +kernel
theorem dX8_wordOf_56 : decode cX8_wordOf 56 = .ok (.ifCond .eq 5, 3) := by decide +kernel
theorem dX8_wordOf_59 : decode cX8_wordOf 59 = .ok (.iload_n 3, 1) := by decide +kernel
theorem dX8_wordOf_60 : decode cX8_wordOf 60 = .ok (.ireturn, 1) := by decide +kernel
theorem dX8_wordOf_61 : decode cX8_wordOf 61 = .ok (.iinc 3 1, 3) := by decide +kernel
theorem dX8_wordOf_64 : decode cX8_wordOf 64 = .ok (.iload 5, 2) := by decide +kernel
theorem dX8_wordOf_66 : decode cX8_wordOf 66 = .ok (.iconst 1, 1) := by decide +kernel
theorem dX8_wordOf_67 : decode cX8_wordOf 67 = .ok (.iadd, 1) := by decide +kernel
theorem dX8_wordOf_68 : decode cX8_wordOf 68 = .ok (.istore 4, 2) := by decide +kernel
theorem dX8_wordOf_70 : decode cX8_wordOf 70 = .ok (.iinc 5 1, 3) := by decide +kernel
theorem dX8_wordOf_73 : decode cX8_wordOf 73 = .ok (.goto (-65), 3) := by decide +kernel
theorem dX8_wordOf_76 : decode cX8_wordOf 76 = .ok (.bipush 48, 2) := by decide +kernel
theorem dX8_wordOf_78 : decode cX8_wordOf 78 = .ok (.ireturn, 1) := by decide +kernel
def f_X8_wordOf_70 (N : Nat) (k_8 : Int32 → (Nat → Int32) → Int32 → Int32 → Int32 → Int32 → Int32 → Option (Int32)) (t_len : Int32) (t_by : Nat → Int32) (x1 : Int32) (x2 : Int32) (x3 : Int32) (x4 : Int32) (x5 : Int32) : Option (Int32) := k_8 t_len t_by x1 x2 x3 x4 (x5 + (1 : Int32))
def f_X8_wordOf_61 (N : Nat) (k_8 : Int32 → (Nat → Int32) → Int32 → Int32 → Int32 → Int32 → Int32 → Option (Int32)) (t_len : Int32) (t_by : Nat → Int32) (x1 : Int32) (x2 : Int32) (x3 : Int32) (x5 : Int32) : Option (Int32) := f_X8_wordOf_70 N k_8 t_len t_by x1 x2 (x3 + (1 : Int32)) (x5 + (1 : Int32)) x5
def f_X8_wordOf_8 (N : Nat) : Nat → Int32 → (Nat → Int32) → Int32 → Int32 → Int32 → Int32 → Int32 → Option (Int32)
  | 0, _, _, _, _, _, _, _ => none
  | n + 1, t_len, t_by, x1, x2, x3, x4, x5 => if (169 : Int32) ≤ x5 then (some (48 : Int32)) else (gA wordsF 169 x5 fun v22 => if v22 = (32 : Int32) then (if (x5 - x4) = (x2 - x1) then (ob1 (f_X8_spells N t_len t_by x1 x4 (x5 - x4)) fun r53 => if r53 = 0 then (f_X8_wordOf_61 N (f_X8_wordOf_8 N n) t_len t_by x1 x2 x3 x5) else (some x3)) else (f_X8_wordOf_61 N (f_X8_wordOf_8 N n) t_len t_by x1 x2 x3 x5)) else (f_X8_wordOf_70 N (f_X8_wordOf_8 N n) t_len t_by x1 x2 x3 x4 x5))
def f_X8_wordOf (N : Nat) (t_len : Int32) (t_by : Nat → Int32) (p1 : Int32) (p2 : Int32) : Option (Int32) := f_X8_wordOf_8 N N t_len t_by p1 p2 (0 : Int32) (0 : Int32) (0 : Int32)
set_option maxHeartbeats 4000000 in
set_option maxRecDepth 100000 in
theorem k_X8_wordOf (l : Launch) (N : Nat) (D : va_G) (cI cJ cZ cB cT : ClassId) (qt0 : Nat) (qt1 : Nat) (qt2 : Nat) (qt3 : Nat) (qt4 : Nat) (t_len : Int32) (t_tok : Int32) (t_by : Nat → Int32) (p1 : Int32) (p2 : Int32) (o_r : Int32) (hf : f_X8_wordOf N t_len t_by p1 p2 = some o_r) : ∀ sz, Met l yX8_wordOf (mw yX8_wordOf cX8_wordOf 6 (some .int)) ({ frames := 5, cells := 0, slots := 0, locals := 109 } : Room) (mPreE D (mT cI cJ cZ cB cT) (W_TP_0t1 qt0 qt1 qt2 qt3 qt4 cI cJ cZ cB cT t_len t_tok t_by) sz [.ref qt0, .int p1, .int p2]) ((mQi D (W_TP_0t1 qt0 qt1 qt2 qt3 qt4 cI cJ cZ cB cT t_len t_tok t_by) o_r True) (va_A (W_TP_0t1 qt0 qt1 qt2 qt3 qt4 cI cJ cZ cB cT t_len t_tok t_by) sz)) 0 0 (va_A (W_TP_0t1 qt0 qt1 qt2 qt3 qt4 cI cJ cZ cB cT t_len t_tok t_by) sz) := by
  refine mMetE (Qc := (mQi D (W_TP_0t1 qt0 qt1 qt2 qt3 qt4 cI cJ cZ cB cT t_len t_tok t_by) o_r True)) (by decide) (Nat.le_of_ble_eq_true rfl) (fun p e s m below meth c A ls hx hb hr hml hts hown hlocks hK hA hP hD hl hE => ?_)
  have hown : s.vm.findClass RX8 = some m.cls := hown
  have hl : lv_has ls 6 [(0, .ref qt0), (1, .int p1), (2, .int p2)] := hl
  have hS : va_S A s.heap s.heap [] := va_S.rf
  obtain ⟨⟨tM, hZM, hTM⟩, ⟨tL, hZL, hTL⟩, ⟨hNX4, hNX10⟩, tS, tV, hRS, hZC, hZF, hKS⟩ := id hE
  have b8 : ∀ n8 : Nat, ∀ (x1 : Int32) (x2 : Int32) (x3 : Int32) (x4 : Int32) (x5 : Int32) (H : Heap) (locs : List Loc) (ls : Array Slot), f_X8_wordOf_8 N n8 t_len t_by x1 x2 x3 x4 x5 = some o_r → va_P D vwCl (W_TP_0t1 qt0 qt1 qt2 qt3 qt4 cI cJ cZ cB cT t_len t_tok t_by) H → va_D A (W_TP_0t1 qt0 qt1 qt2 qt3 qt4 cI cJ cZ cB cT t_len t_tok t_by) → va_S A s.heap H locs → lv_has ls 6 [(0, .ref qt0), (1, .int x1), (2, .int x2), (3, .int x3), (4, .int x4), (5, .int x5)] → W p l e ({ frames := 5, cells := 0, slots := 0, locals := 109 } : Room) s m ([.ref qt0, .int p1, .int p2] : List Value).toArray below meth c H locs 0 0 (MQ below ((mQi D (W_TP_0t1 qt0 qt1 qt2 qt3 qt4 cI cJ cZ cB cT t_len t_tok t_by) o_r True) A) ([.ref qt0, .int p1, .int p2] : List Value).toArray s 0 0 A) (F0 m 8 ls []) := by
    intro n8
    induction n8 with
    | zero =>
      intro x1 x2 x3 x4 x5 H locs ls hf hP hD hS hl
      simp [f_X8_wordOf_8] at hf
    | succ n8 ih8 =>
      have b70 : ∀ (x1 : Int32) (x2 : Int32) (x3 : Int32) (x4 : Int32) (x5 : Int32) (H : Heap) (locs : List Loc) (ls : Array Slot), f_X8_wordOf_70 N (f_X8_wordOf_8 N n8) t_len t_by x1 x2 x3 x4 x5 = some o_r → va_P D vwCl (W_TP_0t1 qt0 qt1 qt2 qt3 qt4 cI cJ cZ cB cT t_len t_tok t_by) H → va_D A (W_TP_0t1 qt0 qt1 qt2 qt3 qt4 cI cJ cZ cB cT t_len t_tok t_by) → va_S A s.heap H locs → lv_has ls 6 [(0, .ref qt0), (1, .int x1), (2, .int x2), (3, .int x3), (4, .int x4), (5, .int x5)] → W p l e ({ frames := 5, cells := 0, slots := 0, locals := 109 } : Room) s m ([.ref qt0, .int p1, .int p2] : List Value).toArray below meth c H locs 0 0 (MQ below ((mQi D (W_TP_0t1 qt0 qt1 qt2 qt3 qt4 cI cJ cZ cB cT t_len t_tok t_by) o_r True) A) ([.ref qt0, .int p1, .int p2] : List Value).toArray s 0 0 A) (F0 m 70 ls []) := by
        intro x1 x2 x3 x4 x5 H locs ls hf hP hD hS hl
        unfold f_X8_wordOf_70 at hf
        refine lv_iinc (v := (x5 + (1 : Int32))) (lv' := [(5, .int (x5 + (1 : Int32))), (0, .ref qt0), (1, .int x1), (2, .int x2), (3, .int x3), (4, .int x4)]) hx hb dX8_wordOf_70 hl (k := 5) rfl rfl (by decide) rfl (fun ls hl => ?_)
        refine lv_goto (tgt := 8) hx hb dX8_wordOf_73 (by decide) ?_
        exact ih8 x1 x2 x3 x4 (x5 + (1 : Int32)) _ _ _ hf hP hD hS (lv_sub hl [1, 2, 3, 4, 5, 0] rfl)
      have b61 : ∀ (x1 : Int32) (x2 : Int32) (x3 : Int32) (x5 : Int32) (H : Heap) (locs : List Loc) (ls : Array Slot), f_X8_wordOf_61 N (f_X8_wordOf_8 N n8) t_len t_by x1 x2 x3 x5 = some o_r → va_P D vwCl (W_TP_0t1 qt0 qt1 qt2 qt3 qt4 cI cJ cZ cB cT t_len t_tok t_by) H → va_D A (W_TP_0t1 qt0 qt1 qt2 qt3 qt4 cI cJ cZ cB cT t_len t_tok t_by) → va_S A s.heap H locs → lv_has ls 6 [(0, .ref qt0), (1, .int x1), (2, .int x2), (3, .int x3), (5, .int x5)] → W p l e ({ frames := 5, cells := 0, slots := 0, locals := 109 } : Room) s m ([.ref qt0, .int p1, .int p2] : List Value).toArray below meth c H locs 0 0 (MQ below ((mQi D (W_TP_0t1 qt0 qt1 qt2 qt3 qt4 cI cJ cZ cB cT t_len t_tok t_by) o_r True) A) ([.ref qt0, .int p1, .int p2] : List Value).toArray s 0 0 A) (F0 m 61 ls []) := by
        intro x1 x2 x3 x5 H locs ls hf hP hD hS hl
        unfold f_X8_wordOf_61 at hf
        refine lv_iinc (v := (x3 + (1 : Int32))) (lv' := [(3, .int (x3 + (1 : Int32))), (0, .ref qt0), (1, .int x1), (2, .int x2), (5, .int x5)]) hx hb dX8_wordOf_61 hl (k := 3) rfl rfl (by decide) rfl (fun ls hl => ?_)
        refine lv_iload hx hb dX8_wordOf_64 (lv_at hl 4 rfl) ?_
        refine lv_iconst (v := (1 : Int32)) hx hb dX8_wordOf_66 (by decide) ?_
        refine lv_iadd hx hb dX8_wordOf_67 ?_
        refine lv_istore (lv' := [(4, .int (x5 + (1 : Int32))), (3, .int (x3 + (1 : Int32))), (0, .ref qt0), (1, .int x1), (2, .int x2), (5, .int x5)]) hx hb dX8_wordOf_68 hl (by decide) rfl (fun ls hl => ?_)
        exact b70 x1 x2 (x3 + (1 : Int32)) (x5 + (1 : Int32)) x5 _ _ _ hf hP hD hS (lv_sub hl [2, 3, 4, 1, 0, 5] rfl)
      intro x1 x2 x3 x4 x5 H locs ls hf hP hD hS hl
      rw [f_X8_wordOf_8.eq_2] at hf
      refine lv_iload hx hb dX8_wordOf_8 (lv_at hl 5 rfl) ?_
      refine va_ldcS hx hb hown hRS dX8_wordOf_10 ?_
      refine mcV0S_i (As := []) (rest := [.int x5]) hx hb hml hown hts hK hP hD hS hA ⟨hZC, hZF, hKS⟩ (k_J0_length l N D cI cJ cZ cB cT tS tV) (kwX8_67 hts rfl rfl ⟨Nat.le_of_ble_eq_true rfl, Nat.le_of_ble_eq_true rfl⟩) rfl hl.1 rfl (Nat.le_of_ble_eq_true rfl) dX8_wordOf_12 ⟨Nat.zero_le _, Nat.zero_le _⟩ (fun _ H locs hP hD hS => ?_)
      refine xicmp_ge hx hb 76 dX8_wordOf_15 (by decide) hf (fun hf => ?_) (fun hf => ?_)
      · refine lv_bipush (v := (48 : Int32)) hx hb dX8_wordOf_76 (by decide) ?_
        cases hf
        exact mret_i hx hb hr hlocks hP hD hS dX8_wordOf_78 rfl trivial
      · refine va_ldcS hx hb hown hRS dX8_wordOf_18 ?_
        refine lv_iload hx hb dX8_wordOf_20 (lv_at hl 5 rfl) ?_
        obtain ⟨hin22, hf⟩ := gA_some hf
        refine mcV0S_i (As := [.int x5]) (rest := []) hx hb hml hown hts hK hP hD hS hA ⟨hZC, hZF, hKS⟩ (k_J0_charAt l N D cI cJ cZ cB cT tS tV x5 hin22) (kwX8_72 hts rfl rfl ⟨Nat.le_of_ble_eq_true rfl, Nat.le_of_ble_eq_true rfl⟩) rfl hl.1 rfl (Nat.le_of_ble_eq_true rfl) dX8_wordOf_22 ⟨Nat.zero_le _, Nat.zero_le _⟩ (fun _ H locs hP hD hS => ?_)
        generalize wordsF (x5).toNatClampNeg = v22 at hf ⊢
        refine lv_bipush (v := (32 : Int32)) hx hb dX8_wordOf_25 (by decide) ?_
        refine xicmp_eq hx hb 33 dX8_wordOf_27 (by decide) hf (fun hf => ?_) (fun hf => ?_)
        · refine lv_iload hx hb dX8_wordOf_33 (lv_at hl 5 rfl) ?_
          refine lv_iload hx hb dX8_wordOf_35 (lv_at hl 4 rfl) ?_
          refine lv_isub hx hb dX8_wordOf_37 ?_
          refine lv_iload_n hx hb dX8_wordOf_38 rfl (lv_at hl 2 rfl) ?_
          refine lv_iload_n hx hb dX8_wordOf_39 rfl (lv_at hl 1 rfl) ?_
          refine lv_isub hx hb dX8_wordOf_40 ?_
          refine xicmp_ne hx hb 61 dX8_wordOf_41 (by decide) hf (fun hf => ?_) (fun hf => ?_)
          · refine lv_aload_n hx hb dX8_wordOf_44 rfl (lv_at hl 0 rfl) ?_
            refine lv_iload_n hx hb dX8_wordOf_45 rfl (lv_at hl 1 rfl) ?_
            refine lv_iload hx hb dX8_wordOf_46 (lv_at hl 4 rfl) ?_
            refine lv_iload hx hb dX8_wordOf_48 (lv_at hl 5 rfl) ?_
            refine lv_iload hx hb dX8_wordOf_50 (lv_at hl 4 rfl) ?_
            refine lv_isub hx hb dX8_wordOf_52 ?_
            obtain ⟨r53, hg53, hf⟩ := ob1_some hf
            refine mcV1E_i (As := [.int x1, .int x4, .int (x5 - x4)]) (rest := []) hx hb hml hown hts hK hP hD hS hA hE (k_X8_spells l N D cI cJ cZ cB cT qt0 qt1 qt2 qt3 qt4 t_len t_tok t_by x1 x4 (x5 - x4) r53 hg53) (kwX8_76 hts rfl rfl ⟨Nat.le_of_ble_eq_true rfl, Nat.le_of_ble_eq_true rfl⟩) 0 rfl rfl rfl rfl hl.1 rfl (Nat.le_of_ble_eq_true rfl) dX8_wordOf_53 ⟨Nat.zero_le _, Nat.zero_le _⟩ (fun hB53 H locs hP hD hS => ?_)
            have hP : va_P D vwCl (W_TP_0t1 qt0 qt1 qt2 qt3 qt4 cI cJ cZ cB cT t_len t_tok t_by) H := hP
            have hD : va_D A (W_TP_0t1 qt0 qt1 qt2 qt3 qt4 cI cJ cZ cB cT t_len t_tok t_by) := hD
            refine xif_eq hx hb 61 dX8_wordOf_56 (by decide) hf (fun hf => ?_) (fun hf => ?_)
            · exact b61 x1 x2 x3 x5 _ _ _ hf hP hD hS (lv_sub hl [0, 1, 2, 3, 5] rfl)
            · refine lv_iload_n hx hb dX8_wordOf_59 rfl (lv_at hl 3 rfl) ?_
              cases hf
              exact mret_i hx hb hr hlocks hP hD hS dX8_wordOf_60 rfl trivial
          · exact b61 x1 x2 x3 x5 _ _ _ hf hP hD hS (lv_sub hl [0, 1, 2, 3, 5] rfl)
        · refine lv_goto (tgt := 70) hx hb dX8_wordOf_30 (by decide) ?_
          exact b70 x1 x2 x3 x4 x5 _ _ _ hf hP hD hS (lv_sub hl [0, 1, 2, 3, 4, 5] rfl)
  unfold f_X8_wordOf at hf
  refine lv_iconst (v := (0 : Int32)) hx hb dX8_wordOf_0 (by decide) ?_
  refine lv_istore_n (lv' := [(3, .int (0 : Int32)), (0, .ref qt0), (1, .int p1), (2, .int p2)]) hx hb dX8_wordOf_1 rfl hl (by decide) rfl (fun ls hl => ?_)
  refine lv_iconst (v := (0 : Int32)) hx hb dX8_wordOf_2 (by decide) ?_
  refine lv_istore (lv' := [(4, .int (0 : Int32)), (3, .int (0 : Int32)), (0, .ref qt0), (1, .int p1), (2, .int p2)]) hx hb dX8_wordOf_3 hl (by decide) rfl (fun ls hl => ?_)
  refine lv_iconst (v := (0 : Int32)) hx hb dX8_wordOf_5 (by decide) ?_
  refine lv_istore (lv' := [(5, .int (0 : Int32)), (4, .int (0 : Int32)), (3, .int (0 : Int32)), (0, .ref qt0), (1, .int p1), (2, .int p2)]) hx hb dX8_wordOf_6 hl (by decide) rfl (fun ls hl => ?_)
  exact b8 N p1 p2 (0 : Int32) (0 : Int32) (0 : Int32) _ _ _ hf hP hD hS (lv_sub hl [3, 4, 5, 2, 1, 0] rfl)
theorem dX8_cutToken_0 : decode cX8_cutToken 0 = .ok (.aload_n 0, 1) := by decide +kernel
theorem dX8_cutToken_1 : decode cX8_cutToken 1 = .ok (.iload_n 1, 1) := by decide +kernel
theorem dX8_cutToken_2 : decode cX8_cutToken 2 = .ok (.invokevirtual 32, 3) := by decide +kernel
theorem dX8_cutToken_5 : decode cX8_cutToken 5 = .ok (.istore_n 2, 1) := by decide +kernel
theorem dX8_cutToken_6 : decode cX8_cutToken 6 = .ok (.iload_n 1, 1) := by decide +kernel
theorem dX8_cutToken_7 : decode cX8_cutToken 7 = .ok (.iconst 1, 1) := by decide +kernel
theorem dX8_cutToken_8 : decode cX8_cutToken 8 = .ok (.iadd, 1) := by decide +kernel
theorem dX8_cutToken_9 : decode cX8_cutToken 9 = .ok (.istore_n 3, 1) := by decide +kernel
theorem dX8_cutToken_10 : decode cX8_cutToken 10 = .ok (.iload_n 2, 1) := by decide +kernel
theorem dX8_cutToken_11 : decode cX8_cutToken 11 = .ok (.invokestatic 47, 3) := by decide +kernel
theorem dX8_cutToken_14 : decode cX8_cutToken 14 = .ok (.ifCond .eq 43, 3) := by decide +kernel
theorem dX8_cutToken_17 : decode cX8_cutToken 17 = .ok (.iload_n 3, 1) := by decide +kernel
theorem dX8_cutToken_18 : decode cX8_cutToken 18 = .ok (.aload_n 0, 1) := by decide +kernel
theorem dX8_cutToken_19 : decode cX8_cutToken 19 = .ok (.getfield 9, 3) := by decide +kernel
theorem dX8_cutToken_22 : decode cX8_cutToken 22 = .ok (.if_icmp .ge 20, 3) := by decide +kernel
theorem dX8_cutToken_25 : decode cX8_cutToken 25 = .ok (.aload_n 0, 1) := by decide +kernel
theorem dX8_cutToken_26 : decode cX8_cutToken 26 = .ok (.iload_n 3, 1) := by decide +kernel
theorem dX8_cutToken_27 : decode cX8_cutToken 27 = .ok (.invokevirtual 32, 3) := by decide +kernel
theorem dX8_cutToken_30 : decode cX8_cutToken 30 = .ok (.invokestatic 47, 3) := by decide +kernel
theorem dX8_cutToken_33 : decode cX8_cutToken 33 = .ok (.ifCond .eq 9, 3) := by decide +kernel
theorem dX8_cutToken_36 : decode cX8_cutToken 36 = .ok (.iinc 3 1, 3) := by decide +kernel
theorem dX8_cutToken_39 : decode cX8_cutToken 39 = .ok (.goto (-22), 3) := by decide +kernel
theorem dX8_cutToken_42 : decode cX8_cutToken 42 = .ok (.aload_n 0, 1) := by decide +kernel
theorem dX8_cutToken_43 : decode cX8_cutToken 43 = .ok (.aload_n 0, 1) := by decide +kernel
theorem dX8_cutToken_44 : decode cX8_cutToken 44 = .ok (.iload_n 1, 1) := by decide +kernel
theorem dX8_cutToken_45 : decode cX8_cutToken 45 = .ok (.iload_n 3, 1) := by decide +kernel
theorem dX8_cutToken_46 : decode cX8_cutToken 46 = .ok (.invokevirtual 50, 3) := by decide +kernel
theorem dX8_cutToken_49 : decode cX8_cutToken 49 = .ok (.iload_n 1, 1) := by decide +kernel
theorem dX8_cutToken_50 : decode cX8_cutToken 50 = .ok (.iconst 0, 1) := by decide +kernel
theorem dX8_cutToken_51 : decode cX8_cutToken 51 = .ok (.invokevirtual 43, 3) := by decide +kernel
theorem dX8_cutToken_54 : decode cX8_cutToken 54 = .ok (.goto 112, 3) := by decide +kernel
theorem dX8_cutToken_57 : decode cX8_cutToken 57 = .ok (.iload_n 2, 1) := by decide +kernel
theorem dX8_cutToken_58 : decode cX8_cutToken 58 = .ok (.invokestatic 54, 3) := by decide +kernel
theorem dX8_cutToken_61 : decode cX8_cutToken 61 = .ok (.ifCond .eq 68, 3) := by decide +kernel
theorem dX8_cutToken_64 : decode cX8_cutToken 64 = .ok (.iload_n 2, 1) := by decide +kernel
theorem dX8_cutToken_65 : decode cX8_cutToken 65 = .ok (.bipush 48, 2) := by decide +kernel
theorem dX8_cutToken_67 : decode cX8_cutToken 67 = .ok (.isub, 1) := by decide +kernel
theorem dX8_cutToken_68 : decode cX8_cutToken 68 = .ok (.istore 4, 2) := by decide +kernel
theorem dX8_cutToken_70 : decode cX8_cutToken 70 = .ok (.iload_n 3, 1) := by decide +kernel
theorem dX8_cutToken_71 : decode cX8_cutToken 71 = .ok (.aload_n 0, 1) := by decide +kernel
theorem dX8_cutToken_72 : decode cX8_cutToken 72 = .ok (.getfield 9, 3) := by decide +kernel
theorem dX8_cutToken_75 : decode cX8_cutToken 75 = .ok (.if_icmp .ge 42, 3) := by decide +kernel
theorem dX8_cutToken_78 : decode cX8_cutToken 78 = .ok (.aload_n 0, 1) := by decide +kernel
theorem dX8_cutToken_79 : decode cX8_cutToken 79 = .ok (.iload_n 3, 1) := by decide +kernel
theorem dX8_cutToken_80 : decode cX8_cutToken 80 = .ok (.invokevirtual 32, 3) := by decide +kernel
theorem dX8_cutToken_83 : decode cX8_cutToken 83 = .ok (.invokestatic 54, 3) := by decide +kernel
theorem dX8_cutToken_86 : decode cX8_cutToken 86 = .ok (.ifCond .eq 31, 3) := by decide +kernel
theorem dX8_cutToken_89 : decode cX8_cutToken 89 = .ok (.iload 4, 2) := by decide +kernel
theorem dX8_cutToken_91 : decode cX8_cutToken 91 = .ok (.bipush 10, 2) := by decide +kernel
theorem dX8_cutToken_93 : decode cX8_cutToken 93 = .ok (.imul, 1) := by decide +kernel
theorem dX8_cutToken_94 : decode cX8_cutToken 94 = .ok (.aload_n 0, 1) := by decide +kernel
theorem dX8_cutToken_95 : decode cX8_cutToken 95 = .ok (.iload_n 3, 1) := by decide +kernel
theorem dX8_cutToken_96 : decode cX8_cutToken 96 = .ok (.invokevirtual 32, 3) := by decide +kernel
theorem dX8_cutToken_99 : decode cX8_cutToken 99 = .ok (.iadd, 1) := by decide +kernel
theorem dX8_cutToken_100 : decode cX8_cutToken 100 = .ok (.bipush 48, 2) := by decide +kernel
theorem dX8_cutToken_102 : decode cX8_cutToken 102 = .ok (.isub, 1) := by decide +kernel
theorem dX8_cutToken_103 : decode cX8_cutToken 103 = .ok (.sipush 10000, 3) := by decide +kernel
theorem dX8_cutToken_106 : decode cX8_cutToken 106 = .ok (.invokestatic 57, 3) := by decide +kernel
theorem dX8_cutToken_109 : decode cX8_cutToken 109 = .ok (.istore 4, 2) := by decide +kernel
theorem dX8_cutToken_111 : decode cX8_cutToken 111 = .ok (.iinc 3 1, 3) := by decide +kernel
theorem dX8_cutToken_114 : decode cX8_cutToken 114 = .ok (.goto (-44), 3) := by decide +kernel
theorem dX8_cutToken_117 : decode cX8_cutToken 117 = .ok (.aload_n 0, 1) := by decide +kernel
theorem dX8_cutToken_118 : decode cX8_cutToken 118 = .ok (.bipush 46, 2) := by decide +kernel
theorem dX8_cutToken_120 : decode cX8_cutToken 120 = .ok (.iload_n 1, 1) := by decide +kernel
theorem dX8_cutToken_121 : decode cX8_cutToken 121 = .ok (.iload 4, 2) := by decide +kernel
theorem dX8_cutToken_123 : decode cX8_cutToken 123 = .ok (.invokevirtual 43, 3) := by decide +kernel
theorem dX8_cutToken_126 : decode cX8_cutToken 126 = .ok (.goto 40, 3) := by decide +kernel
theorem dX8_cutToken_129 : decode cX8_cutToken 129 = .ok (.aload_n 0, 1) := by decide +kernel
theorem dX8_cutToken_130 : decode cX8_cutToken 130 = .ok (.iload_n 1, 1) := by decide +kernel
theorem dX8_cutToken_131 : decode cX8_cutToken 131 = .ok (.invokevirtual 62, 3) := by decide +kernel
theorem dX8_cutToken_134 : decode cX8_cutToken 134 = .ok (.istore 4, 2) := by decide +kernel
theorem dX8_cutToken_136 : decode cX8_cutToken 136 = .ok (.aload_n 0, 1) := by decide +kernel
theorem dX8_cutToken_137 : decode cX8_cutToken 137 = .ok (.iload 4, 2) := by decide +kernel
theorem dX8_cutToken_139 : decode cX8_cutToken 139 = .ok (.iload_n 1, 1) := by decide +kernel
theorem dX8_cutToken_140 : decode cX8_cutToken 140 = .ok (.iconst 0, 1) := by decide +kernel
theorem dX8_cutToken_141 : decode cX8_cutToken 141 = .ok (.invokevirtual 43, 3) := by decide +kernel
theorem dX8_cutToken_144 : decode cX8_cutToken 144 = .ok (.iload_n 3, 1) := by decide +kernel
theorem dX8_cutToken_145 : decode cX8_cutToken 145 = .ok (.iload 4, 2) := by decide +kernel
theorem dX8_cutToken_147 : decode cX8_cutToken 147 = .ok (.bipush 33, 2) := by decide +kernel
theorem dX8_cutToken_149 : decode cX8_cutToken 149 = .ok (.if_icmp .eq 10, 3) := by decide +kernel
theorem dX8_cutToken_152 : decode cX8_cutToken 152 = .ok (.iload 4, 2) := by decide +kernel
theorem dX8_cutToken_154 : decode cX8_cutToken 154 = .ok (.bipush 34, 2) := by decide +kernel
theorem dX8_cutToken_156 : decode cX8_cutToken 156 = .ok (.if_icmp .ne 7, 3) := by decide +kernel
theorem dX8_cutToken_159 : decode cX8_cutToken 159 = .ok (.iconst 1, 1) := by decide +kernel
theorem dX8_cutToken_160 : decode cX8_cutToken 160 = .ok (.goto 4, 3) := by decide +kernel
theorem dX8_cutToken_163 : decode cX8_cutToken 163 = .ok (.iconst 0, 1) := by decide +kernel
theorem dX8_cutToken_164 : decode cX8_cutToken 164 = .ok (.iadd, 1) := by decide +kernel
theorem dX8_cutToken_165 : decode cX8_cutToken 165 = .ok (.istore_n 3, 1) := by decide +kernel
theorem dX8_cutToken_166 : decode cX8_cutToken 166 = .ok (.iload_n 3, 1) := by decide +kernel
theorem dX8_cutToken_167 : decode cX8_cutToken 167 = .ok (.ireturn, 1) := by decide +kernel
def f_X8_cutToken_164 (N : Nat) (t_len : Int32) (t_tok : Int32) (t_by : Nat → Int32) (t_ki : Nat → Int32) (t_pl : Nat → Int32) (t_nu : Nat → Int32) (s0 : Int32) (s1 : Int32) : Option (Int32 × Int32 × (Nat → Int32) × (Nat → Int32) × (Nat → Int32)) := some ((s0 + s1), t_tok, t_ki, t_pl, t_nu)
def f_X8_cutToken_159 (N : Nat) (t_len : Int32) (t_tok : Int32) (t_by : Nat → Int32) (t_ki : Nat → Int32) (t_pl : Nat → Int32) (t_nu : Nat → Int32) (s0 : Int32) : Option (Int32 × Int32 × (Nat → Int32) × (Nat → Int32) × (Nat → Int32)) := f_X8_cutToken_164 N t_len t_tok t_by t_ki t_pl t_nu s0 (1 : Int32)
def f_X8_cutToken_117 (N : Nat) (t_len : Int32) (t_tok : Int32) (t_by : Nat → Int32) (t_ki : Nat → Int32) (t_pl : Nat → Int32) (t_nu : Nat → Int32) (x1 : Int32) (x3 : Int32) (x4 : Int32) : Option (Int32 × Int32 × (Nat → Int32) × (Nat → Int32) × (Nat → Int32)) := ob4 (f_X8_put N t_tok t_ki t_pl t_nu (46 : Int32) x1 x4) fun t_tok_123 t_ki_123 t_pl_123 t_nu_123 => some (x3, t_tok_123, t_ki_123, t_pl_123, t_nu_123)
def f_X8_cutToken_70 (N : Nat) : Nat → Int32 → Int32 → (Nat → Int32) → (Nat → Int32) → (Nat → Int32) → (Nat → Int32) → Int32 → Int32 → Int32 → Option (Int32 × Int32 × (Nat → Int32) × (Nat → Int32) × (Nat → Int32))
  | 0, _, _, _, _, _, _, _, _, _ => none
  | n + 1, t_len, t_tok, t_by, t_ki, t_pl, t_nu, x1, x3, x4 => if t_len ≤ x3 then (f_X8_cutToken_117 N t_len t_tok t_by t_ki t_pl t_nu x1 x3 x4) else (ob1 (f_X8_byteAt N t_len t_by x3) fun r80 => ob1 (f_X8_isDigit N r80) fun r83 => if r83 = 0 then (f_X8_cutToken_117 N t_len t_tok t_by t_ki t_pl t_nu x1 x3 x4) else (ob1 (f_X8_byteAt N t_len t_by x3) fun r96 => (f_X8_cutToken_70 N n) t_len t_tok t_by t_ki t_pl t_nu x1 (x3 + (1 : Int32)) (mnI (((x4 * (10 : Int32)) + r96) - (48 : Int32)) (10000 : Int32))))
def f_X8_cutToken_42 (N : Nat) (t_len : Int32) (t_tok : Int32) (t_by : Nat → Int32) (t_ki : Nat → Int32) (t_pl : Nat → Int32) (t_nu : Nat → Int32) (x1 : Int32) (x3 : Int32) : Option (Int32 × Int32 × (Nat → Int32) × (Nat → Int32) × (Nat → Int32)) := ob1 (f_X8_wordOf N t_len t_by x1 x3) fun r46 => ob4 (f_X8_put N t_tok t_ki t_pl t_nu r46 x1 (0 : Int32)) fun t_tok_51 t_ki_51 t_pl_51 t_nu_51 => some (x3, t_tok_51, t_ki_51, t_pl_51, t_nu_51)
def f_X8_cutToken_17 (N : Nat) : Nat → Int32 → Int32 → (Nat → Int32) → (Nat → Int32) → (Nat → Int32) → (Nat → Int32) → Int32 → Int32 → Option (Int32 × Int32 × (Nat → Int32) × (Nat → Int32) × (Nat → Int32))
  | 0, _, _, _, _, _, _, _, _ => none
  | n + 1, t_len, t_tok, t_by, t_ki, t_pl, t_nu, x1, x3 => if t_len ≤ x3 then (f_X8_cutToken_42 N t_len t_tok t_by t_ki t_pl t_nu x1 x3) else (ob1 (f_X8_byteAt N t_len t_by x3) fun r27 => ob1 (f_X8_isLetter N r27) fun r30 => if r30 = 0 then (f_X8_cutToken_42 N t_len t_tok t_by t_ki t_pl t_nu x1 x3) else ((f_X8_cutToken_17 N n) t_len t_tok t_by t_ki t_pl t_nu x1 (x3 + (1 : Int32))))
def f_X8_cutToken (N : Nat) (t_len : Int32) (t_tok : Int32) (t_by : Nat → Int32) (t_ki : Nat → Int32) (t_pl : Nat → Int32) (t_nu : Nat → Int32) (p1 : Int32) : Option (Int32 × Int32 × (Nat → Int32) × (Nat → Int32) × (Nat → Int32)) := ob1 (f_X8_byteAt N t_len t_by p1) fun r2 => ob1 (f_X8_isLetter N r2) fun r11 => if r11 = 0 then (ob1 (f_X8_isDigit N r2) fun r58 => if r58 = 0 then (ob1 (f_X8_signAt N t_len t_by p1) fun r131 => ob4 (f_X8_put N t_tok t_ki t_pl t_nu r131 p1 (0 : Int32)) fun t_tok_141 t_ki_141 t_pl_141 t_nu_141 => if r131 = (33 : Int32) then (f_X8_cutToken_159 N t_len t_tok_141 t_by t_ki_141 t_pl_141 t_nu_141 (p1 + (1 : Int32))) else (if r131 = (34 : Int32) then (f_X8_cutToken_159 N t_len t_tok_141 t_by t_ki_141 t_pl_141 t_nu_141 (p1 + (1 : Int32))) else (f_X8_cutToken_164 N t_len t_tok_141 t_by t_ki_141 t_pl_141 t_nu_141 (p1 + (1 : Int32)) (0 : Int32)))) else (f_X8_cutToken_70 N N t_len t_tok t_by t_ki t_pl t_nu p1 (p1 + (1 : Int32)) (r2 - (48 : Int32)))) else (f_X8_cutToken_17 N N t_len t_tok t_by t_ki t_pl t_nu p1 (p1 + (1 : Int32)))
set_option maxHeartbeats 4000000 in
set_option maxRecDepth 100000 in
theorem k_X8_cutToken (l : Launch) (N : Nat) (D : va_G) (cI cJ cZ cB cT : ClassId) (qt0 : Nat) (qt1 : Nat) (qt2 : Nat) (qt3 : Nat) (qt4 : Nat) (t_len : Int32) (t_tok : Int32) (t_by : Nat → Int32) (t_ki : Nat → Int32) (t_pl : Nat → Int32) (t_nu : Nat → Int32) (p1 : Int32) (o_r : Int32) (o_t_tok : Int32) (o_t_ki : Nat → Int32) (o_t_pl : Nat → Int32) (o_t_nu : Nat → Int32) (hf : f_X8_cutToken N t_len t_tok t_by t_ki t_pl t_nu p1 = some (o_r, o_t_tok, o_t_ki, o_t_pl, o_t_nu)) : ∀ sz, Met l yX8_cutToken (mw yX8_cutToken cX8_cutToken 5 (some .int)) ({ frames := 6, cells := 0, slots := 0, locals := 134 } : Room) (mPreE D (mT cI cJ cZ cB cT) (W_TP_0t4 qt0 qt1 qt2 qt3 qt4 cI cJ cZ cB cT t_len t_tok t_by t_ki t_pl t_nu) sz [.ref qt0, .int p1]) ((mQi D (W_TP_0t4 qt0 qt1 qt2 qt3 qt4 cI cJ cZ cB cT t_len o_t_tok t_by o_t_ki o_t_pl o_t_nu) o_r True) (va_A (W_TP_0t4 qt0 qt1 qt2 qt3 qt4 cI cJ cZ cB cT t_len t_tok t_by t_ki t_pl t_nu) sz)) 0 0 (va_A (W_TP_0t4 qt0 qt1 qt2 qt3 qt4 cI cJ cZ cB cT t_len t_tok t_by t_ki t_pl t_nu) sz) := by
  refine mMetE (Qc := (mQi D (W_TP_0t4 qt0 qt1 qt2 qt3 qt4 cI cJ cZ cB cT t_len o_t_tok t_by o_t_ki o_t_pl o_t_nu) o_r True)) (by decide) (Nat.le_of_ble_eq_true rfl) (fun p e s m below meth c A ls hx hb hr hml hts hown hlocks hK hA hP hD hl hE => ?_)
  have hown : s.vm.findClass RX8 = some m.cls := hown
  have hl : lv_has ls 5 [(0, .ref qt0), (1, .int p1)] := hl
  have hS : va_S A s.heap s.heap [] := va_S.rf
  obtain ⟨⟨tM, hZM, hTM⟩, ⟨tL, hZL, hTL⟩, ⟨hNX4, hNX10⟩, tS, tV, hRS, hZC, hZF, hKS⟩ := id hE
  have b164 : ∀ (t_tok : Int32) (t_ki : Nat → Int32) (t_pl : Nat → Int32) (t_nu : Nat → Int32) (s0 : Int32) (s1 : Int32) (H : Heap) (locs : List Loc) (ls : Array Slot), f_X8_cutToken_164 N t_len t_tok t_by t_ki t_pl t_nu s0 s1 = some (o_r, o_t_tok, o_t_ki, o_t_pl, o_t_nu) → va_P D vwCl (W_TP_0t4 qt0 qt1 qt2 qt3 qt4 cI cJ cZ cB cT t_len t_tok t_by t_ki t_pl t_nu) H → va_D A (W_TP_0t4 qt0 qt1 qt2 qt3 qt4 cI cJ cZ cB cT t_len t_tok t_by t_ki t_pl t_nu) → va_S A s.heap H locs → lv_has ls 5 [] → W p l e ({ frames := 6, cells := 0, slots := 0, locals := 134 } : Room) s m ([.ref qt0, .int p1] : List Value).toArray below meth c H locs 0 0 (MQ below ((mQi D (W_TP_0t4 qt0 qt1 qt2 qt3 qt4 cI cJ cZ cB cT t_len o_t_tok t_by o_t_ki o_t_pl o_t_nu) o_r True) A) ([.ref qt0, .int p1] : List Value).toArray s 0 0 A) (F0 m 164 ls [.int s1, .int s0]) := by
    intro t_tok t_ki t_pl t_nu s0 s1 H locs ls hf hP hD hS hl
    unfold f_X8_cutToken_164 at hf
    refine lv_iadd hx hb dX8_cutToken_164 ?_
    refine lv_istore_n (lv' := [(3, .int (s0 + s1))]) hx hb dX8_cutToken_165 rfl hl (by decide) rfl (fun ls hl => ?_)
    refine lv_iload_n hx hb dX8_cutToken_166 rfl (lv_at hl 0 rfl) ?_
    cases hf
    exact mret_i hx hb hr hlocks hP hD hS dX8_cutToken_167 rfl trivial
  have b159 : ∀ (t_tok : Int32) (t_ki : Nat → Int32) (t_pl : Nat → Int32) (t_nu : Nat → Int32) (s0 : Int32) (H : Heap) (locs : List Loc) (ls : Array Slot), f_X8_cutToken_159 N t_len t_tok t_by t_ki t_pl t_nu s0 = some (o_r, o_t_tok, o_t_ki, o_t_pl, o_t_nu) → va_P D vwCl (W_TP_0t4 qt0 qt1 qt2 qt3 qt4 cI cJ cZ cB cT t_len t_tok t_by t_ki t_pl t_nu) H → va_D A (W_TP_0t4 qt0 qt1 qt2 qt3 qt4 cI cJ cZ cB cT t_len t_tok t_by t_ki t_pl t_nu) → va_S A s.heap H locs → lv_has ls 5 [] → W p l e ({ frames := 6, cells := 0, slots := 0, locals := 134 } : Room) s m ([.ref qt0, .int p1] : List Value).toArray below meth c H locs 0 0 (MQ below ((mQi D (W_TP_0t4 qt0 qt1 qt2 qt3 qt4 cI cJ cZ cB cT t_len o_t_tok t_by o_t_ki o_t_pl o_t_nu) o_r True) A) ([.ref qt0, .int p1] : List Value).toArray s 0 0 A) (F0 m 159 ls [.int s0]) := by
    intro t_tok t_ki t_pl t_nu s0 H locs ls hf hP hD hS hl
    unfold f_X8_cutToken_159 at hf
    refine lv_iconst (v := (1 : Int32)) hx hb dX8_cutToken_159 (by decide) ?_
    refine lv_goto (tgt := 164) hx hb dX8_cutToken_160 (by decide) ?_
    exact b164 t_tok t_ki t_pl t_nu s0 (1 : Int32) _ _ _ hf hP hD hS (lv_sub hl [] rfl)
  have b117 : ∀ (t_tok : Int32) (t_ki : Nat → Int32) (t_pl : Nat → Int32) (t_nu : Nat → Int32) (x1 : Int32) (x3 : Int32) (x4 : Int32) (H : Heap) (locs : List Loc) (ls : Array Slot), f_X8_cutToken_117 N t_len t_tok t_by t_ki t_pl t_nu x1 x3 x4 = some (o_r, o_t_tok, o_t_ki, o_t_pl, o_t_nu) → va_P D vwCl (W_TP_0t4 qt0 qt1 qt2 qt3 qt4 cI cJ cZ cB cT t_len t_tok t_by t_ki t_pl t_nu) H → va_D A (W_TP_0t4 qt0 qt1 qt2 qt3 qt4 cI cJ cZ cB cT t_len t_tok t_by t_ki t_pl t_nu) → va_S A s.heap H locs → lv_has ls 5 [(0, .ref qt0), (1, .int x1), (3, .int x3), (4, .int x4)] → W p l e ({ frames := 6, cells := 0, slots := 0, locals := 134 } : Room) s m ([.ref qt0, .int p1] : List Value).toArray below meth c H locs 0 0 (MQ below ((mQi D (W_TP_0t4 qt0 qt1 qt2 qt3 qt4 cI cJ cZ cB cT t_len o_t_tok t_by o_t_ki o_t_pl o_t_nu) o_r True) A) ([.ref qt0, .int p1] : List Value).toArray s 0 0 A) (F0 m 117 ls []) := by
    intro t_tok t_ki t_pl t_nu x1 x3 x4 H locs ls hf hP hD hS hl
    unfold f_X8_cutToken_117 at hf
    refine lv_aload_n hx hb dX8_cutToken_117 rfl (lv_at hl 0 rfl) ?_
    refine lv_bipush (v := (46 : Int32)) hx hb dX8_cutToken_118 (by decide) ?_
    refine lv_iload_n hx hb dX8_cutToken_120 rfl (lv_at hl 1 rfl) ?_
    refine lv_iload hx hb dX8_cutToken_121 (lv_at hl 3 rfl) ?_
    obtain ⟨t_tok_123, t_ki_123, t_pl_123, t_nu_123, hg123, hf⟩ := ob4_some hf
    refine mcV_v (wr := [(qt1, .inl (cB, 300, .inl t_by))]) (As := [.int (46 : Int32), .int x1, .int x4]) (rest := []) hx hb hml hown hts hK hP hD hS hA (k_X8_put l N D cI cJ cZ cB cT qt0 qt2 qt3 qt4 qt1 t_len t_tok t_ki t_pl t_nu (46 : Int32) x1 x4 t_tok_123 t_ki_123 t_pl_123 t_nu_123 hg123) (kwX8_43 hts rfl rfl ⟨Nat.le_of_ble_eq_true rfl, Nat.le_of_ble_eq_true rfl⟩) [0, 2, 3, 4] [1] rfl rfl rfl (by decide) rfl 0 rfl rfl rfl rfl hl.1 rfl (Nat.le_of_ble_eq_true rfl) dX8_cutToken_123 ⟨Nat.zero_le _, Nat.zero_le _⟩ (fun H locs hP hD hS => ?_)
    have hP := mP_sub (wc := (W_TP_0t4 qt0 qt1 qt2 qt3 qt4 cI cJ cZ cB cT t_len t_tok_123 t_by t_ki_123 t_pl_123 t_nu_123)) hP [1, 0, 2, 3, 4] rfl
    have hD := hD.sub (ws' := (W_TP_0t4 qt0 qt1 qt2 qt3 qt4 cI cJ cZ cB cT t_len t_tok_123 t_by t_ki_123 t_pl_123 t_nu_123)) [1, 0, 2, 3, 4] rfl rfl
    refine lv_goto (tgt := 166) hx hb dX8_cutToken_126 (by decide) ?_
    refine lv_iload_n hx hb dX8_cutToken_166 rfl (lv_at hl 2 rfl) ?_
    cases hf
    exact mret_i hx hb hr hlocks hP hD hS dX8_cutToken_167 rfl trivial
  have b70 : ∀ n70 : Nat, ∀ (t_tok : Int32) (t_ki : Nat → Int32) (t_pl : Nat → Int32) (t_nu : Nat → Int32) (x1 : Int32) (x3 : Int32) (x4 : Int32) (H : Heap) (locs : List Loc) (ls : Array Slot), f_X8_cutToken_70 N n70 t_len t_tok t_by t_ki t_pl t_nu x1 x3 x4 = some (o_r, o_t_tok, o_t_ki, o_t_pl, o_t_nu) → va_P D vwCl (W_TP_0t4 qt0 qt1 qt2 qt3 qt4 cI cJ cZ cB cT t_len t_tok t_by t_ki t_pl t_nu) H → va_D A (W_TP_0t4 qt0 qt1 qt2 qt3 qt4 cI cJ cZ cB cT t_len t_tok t_by t_ki t_pl t_nu) → va_S A s.heap H locs → lv_has ls 5 [(0, .ref qt0), (1, .int x1), (3, .int x3), (4, .int x4)] → W p l e ({ frames := 6, cells := 0, slots := 0, locals := 134 } : Room) s m ([.ref qt0, .int p1] : List Value).toArray below meth c H locs 0 0 (MQ below ((mQi D (W_TP_0t4 qt0 qt1 qt2 qt3 qt4 cI cJ cZ cB cT t_len o_t_tok t_by o_t_ki o_t_pl o_t_nu) o_r True) A) ([.ref qt0, .int p1] : List Value).toArray s 0 0 A) (F0 m 70 ls []) := by
    intro n70
    induction n70 with
    | zero =>
      intro t_tok t_ki t_pl t_nu x1 x3 x4 H locs ls hf hP hD hS hl
      simp [f_X8_cutToken_70] at hf
    | succ n70 ih70 =>
      intro t_tok t_ki t_pl t_nu x1 x3 x4 H locs ls hf hP hD hS hl
      rw [f_X8_cutToken_70.eq_2] at hf
      refine lv_iload_n hx hb dX8_cutToken_70 rfl (lv_at hl 2 rfl) ?_
      refine lv_aload_n hx hb dX8_cutToken_71 rfl (lv_at hl 0 rfl) ?_
      refine gfX8_9 hx hb hts hown hK hP 0 rfl rfl dX8_cutToken_72 ?_
      refine xicmp_ge hx hb 117 dX8_cutToken_75 (by decide) hf (fun hf => ?_) (fun hf => ?_)
      · exact b117 t_tok t_ki t_pl t_nu x1 x3 x4 _ _ _ hf hP hD hS (lv_sub hl [0, 1, 2, 3] rfl)
      · refine lv_aload_n hx hb dX8_cutToken_78 rfl (lv_at hl 0 rfl) ?_
        refine lv_iload_n hx hb dX8_cutToken_79 rfl (lv_at hl 2 rfl) ?_
        obtain ⟨r80, hg80, hf⟩ := ob1_some hf
        refine mcV_i (wr := [(qt2, .inl (cI, 301, .inl t_ki)), (qt3, .inl (cI, 301, .inl t_pl)), (qt4, .inl (cI, 301, .inl t_nu))]) (As := [.int x3]) (rest := []) hx hb hml hown hts hK hP hD hS hA (k_X8_byteAt l N D cI cJ cZ cB cT qt0 qt1 qt2 qt3 qt4 t_len t_tok t_by x3 r80 hg80) (kwX8_32 hts rfl rfl ⟨Nat.le_of_ble_eq_true rfl, Nat.le_of_ble_eq_true rfl⟩) [0, 1] [2, 3, 4] rfl rfl rfl (by decide) rfl 0 rfl rfl rfl rfl hl.1 rfl (Nat.le_of_ble_eq_true rfl) dX8_cutToken_80 ⟨Nat.zero_le _, Nat.zero_le _⟩ (fun hB80 H locs hP hD hS => ?_)
        have hP := mP_sub (wc := (W_TP_0t4 qt0 qt1 qt2 qt3 qt4 cI cJ cZ cB cT t_len t_tok t_by t_ki t_pl t_nu)) hP [3, 4, 0, 1, 2] rfl
        have hD := hD.sub (ws' := (W_TP_0t4 qt0 qt1 qt2 qt3 qt4 cI cJ cZ cB cT t_len t_tok t_by t_ki t_pl t_nu)) [3, 4, 0, 1, 2] rfl rfl
        obtain ⟨r83, hg83, hf⟩ := ob1_some hf
        refine mcS0_i (As := [.int r80]) (rest := []) hx hb hml hown hts hK hP hD hS hA (k_X8_isDigit l N D cI cJ cZ cB cT r80 r83 hg83) (kwX8_54 hts rfl rfl ⟨Nat.le_of_ble_eq_true rfl, Nat.le_of_ble_eq_true rfl⟩) rfl hl.1 rfl (Nat.le_of_ble_eq_true rfl) dX8_cutToken_83 ⟨Nat.zero_le _, Nat.zero_le _⟩ (fun hB83 H locs hP hD hS => ?_)
        refine xif_eq hx hb 117 dX8_cutToken_86 (by decide) hf (fun hf => ?_) (fun hf => ?_)
        · exact b117 t_tok t_ki t_pl t_nu x1 x3 x4 _ _ _ hf hP hD hS (lv_sub hl [0, 1, 2, 3] rfl)
        · refine lv_iload hx hb dX8_cutToken_89 (lv_at hl 3 rfl) ?_
          refine lv_bipush (v := (10 : Int32)) hx hb dX8_cutToken_91 (by decide) ?_
          refine lv_imul hx hb dX8_cutToken_93 ?_
          refine lv_aload_n hx hb dX8_cutToken_94 rfl (lv_at hl 0 rfl) ?_
          refine lv_iload_n hx hb dX8_cutToken_95 rfl (lv_at hl 2 rfl) ?_
          obtain ⟨r96, hg96, hf⟩ := ob1_some hf
          refine mcV_i (wr := [(qt2, .inl (cI, 301, .inl t_ki)), (qt3, .inl (cI, 301, .inl t_pl)), (qt4, .inl (cI, 301, .inl t_nu))]) (As := [.int x3]) (rest := [.int (x4 * (10 : Int32))]) hx hb hml hown hts hK hP hD hS hA (k_X8_byteAt l N D cI cJ cZ cB cT qt0 qt1 qt2 qt3 qt4 t_len t_tok t_by x3 r96 hg96) (kwX8_32 hts rfl rfl ⟨Nat.le_of_ble_eq_true rfl, Nat.le_of_ble_eq_true rfl⟩) [0, 1] [2, 3, 4] rfl rfl rfl (by decide) rfl 0 rfl rfl rfl rfl hl.1 rfl (Nat.le_of_ble_eq_true rfl) dX8_cutToken_96 ⟨Nat.zero_le _, Nat.zero_le _⟩ (fun hB96 H locs hP hD hS => ?_)
          have hP := mP_sub (wc := (W_TP_0t4 qt0 qt1 qt2 qt3 qt4 cI cJ cZ cB cT t_len t_tok t_by t_ki t_pl t_nu)) hP [3, 4, 0, 1, 2] rfl
          have hD := hD.sub (ws' := (W_TP_0t4 qt0 qt1 qt2 qt3 qt4 cI cJ cZ cB cT t_len t_tok t_by t_ki t_pl t_nu)) [3, 4, 0, 1, 2] rfl rfl
          refine lv_iadd hx hb dX8_cutToken_99 ?_
          refine lv_bipush (v := (48 : Int32)) hx hb dX8_cutToken_100 (by decide) ?_
          refine lv_isub hx hb dX8_cutToken_102 ?_
          refine lv_sipush (v := (10000 : Int32)) hx hb dX8_cutToken_103 (by decide) ?_
          refine xmin hx hb hml hl.1 hown hts mtX8_57 (Nat.le_of_ble_eq_true rfl) (Nat.le_of_ble_eq_true rfl) ⟨Nat.zero_le _, Nat.zero_le _⟩ dX8_cutToken_106 ?_
          refine lv_istore (lv' := [(4, .int (mnI (((x4 * (10 : Int32)) + r96) - (48 : Int32)) (10000 : Int32))), (0, .ref qt0), (1, .int x1), (3, .int x3)]) hx hb dX8_cutToken_109 hl (by decide) rfl (fun ls hl => ?_)
          refine lv_iinc (v := (x3 + (1 : Int32))) (lv' := [(3, .int (x3 + (1 : Int32))), (4, .int (mnI (((x4 * (10 : Int32)) + r96) - (48 : Int32)) (10000 : Int32))), (0, .ref qt0), (1, .int x1)]) hx hb dX8_cutToken_111 hl (k := 3) rfl rfl (by decide) rfl (fun ls hl => ?_)
          refine lv_goto (tgt := 70) hx hb dX8_cutToken_114 (by decide) ?_
          exact ih70 t_tok t_ki t_pl t_nu x1 (x3 + (1 : Int32)) (mnI (((x4 * (10 : Int32)) + r96) - (48 : Int32)) (10000 : Int32)) _ _ _ hf hP hD hS (lv_sub hl [2, 3, 0, 1] rfl)
  have b42 : ∀ (t_tok : Int32) (t_ki : Nat → Int32) (t_pl : Nat → Int32) (t_nu : Nat → Int32) (x1 : Int32) (x3 : Int32) (H : Heap) (locs : List Loc) (ls : Array Slot), f_X8_cutToken_42 N t_len t_tok t_by t_ki t_pl t_nu x1 x3 = some (o_r, o_t_tok, o_t_ki, o_t_pl, o_t_nu) → va_P D vwCl (W_TP_0t4 qt0 qt1 qt2 qt3 qt4 cI cJ cZ cB cT t_len t_tok t_by t_ki t_pl t_nu) H → va_D A (W_TP_0t4 qt0 qt1 qt2 qt3 qt4 cI cJ cZ cB cT t_len t_tok t_by t_ki t_pl t_nu) → va_S A s.heap H locs → lv_has ls 5 [(0, .ref qt0), (1, .int x1), (3, .int x3)] → W p l e ({ frames := 6, cells := 0, slots := 0, locals := 134 } : Room) s m ([.ref qt0, .int p1] : List Value).toArray below meth c H locs 0 0 (MQ below ((mQi D (W_TP_0t4 qt0 qt1 qt2 qt3 qt4 cI cJ cZ cB cT t_len o_t_tok t_by o_t_ki o_t_pl o_t_nu) o_r True) A) ([.ref qt0, .int p1] : List Value).toArray s 0 0 A) (F0 m 42 ls []) := by
    intro t_tok t_ki t_pl t_nu x1 x3 H locs ls hf hP hD hS hl
    unfold f_X8_cutToken_42 at hf
    refine lv_aload_n hx hb dX8_cutToken_42 rfl (lv_at hl 0 rfl) ?_
    refine lv_aload_n hx hb dX8_cutToken_43 rfl (lv_at hl 0 rfl) ?_
    refine lv_iload_n hx hb dX8_cutToken_44 rfl (lv_at hl 1 rfl) ?_
    refine lv_iload_n hx hb dX8_cutToken_45 rfl (lv_at hl 2 rfl) ?_
    obtain ⟨r46, hg46, hf⟩ := ob1_some hf
    refine mcVE_i (wr := [(qt2, .inl (cI, 301, .inl t_ki)), (qt3, .inl (cI, 301, .inl t_pl)), (qt4, .inl (cI, 301, .inl t_nu))]) (As := [.int x1, .int x3]) (rest := [.ref qt0]) hx hb hml hown hts hK hP hD hS hA hE (k_X8_wordOf l N D cI cJ cZ cB cT qt0 qt1 qt2 qt3 qt4 t_len t_tok t_by x1 x3 r46 hg46) (kwX8_50 hts rfl rfl ⟨Nat.le_of_ble_eq_true rfl, Nat.le_of_ble_eq_true rfl⟩) [0, 1] [2, 3, 4] rfl rfl rfl (by decide) rfl 0 rfl rfl rfl rfl hl.1 rfl (Nat.le_of_ble_eq_true rfl) dX8_cutToken_46 ⟨Nat.zero_le _, Nat.zero_le _⟩ (fun hB46 H locs hP hD hS => ?_)
    have hP := mP_sub (wc := (W_TP_0t4 qt0 qt1 qt2 qt3 qt4 cI cJ cZ cB cT t_len t_tok t_by t_ki t_pl t_nu)) hP [3, 4, 0, 1, 2] rfl
    have hD := hD.sub (ws' := (W_TP_0t4 qt0 qt1 qt2 qt3 qt4 cI cJ cZ cB cT t_len t_tok t_by t_ki t_pl t_nu)) [3, 4, 0, 1, 2] rfl rfl
    refine lv_iload_n hx hb dX8_cutToken_49 rfl (lv_at hl 1 rfl) ?_
    refine lv_iconst (v := (0 : Int32)) hx hb dX8_cutToken_50 (by decide) ?_
    obtain ⟨t_tok_51, t_ki_51, t_pl_51, t_nu_51, hg51, hf⟩ := ob4_some hf
    refine mcV_v (wr := [(qt1, .inl (cB, 300, .inl t_by))]) (As := [.int r46, .int x1, .int (0 : Int32)]) (rest := []) hx hb hml hown hts hK hP hD hS hA (k_X8_put l N D cI cJ cZ cB cT qt0 qt2 qt3 qt4 qt1 t_len t_tok t_ki t_pl t_nu r46 x1 (0 : Int32) t_tok_51 t_ki_51 t_pl_51 t_nu_51 hg51) (kwX8_43 hts rfl rfl ⟨Nat.le_of_ble_eq_true rfl, Nat.le_of_ble_eq_true rfl⟩) [0, 2, 3, 4] [1] rfl rfl rfl (by decide) rfl 0 rfl rfl rfl rfl hl.1 rfl (Nat.le_of_ble_eq_true rfl) dX8_cutToken_51 ⟨Nat.zero_le _, Nat.zero_le _⟩ (fun H locs hP hD hS => ?_)
    have hP := mP_sub (wc := (W_TP_0t4 qt0 qt1 qt2 qt3 qt4 cI cJ cZ cB cT t_len t_tok_51 t_by t_ki_51 t_pl_51 t_nu_51)) hP [1, 0, 2, 3, 4] rfl
    have hD := hD.sub (ws' := (W_TP_0t4 qt0 qt1 qt2 qt3 qt4 cI cJ cZ cB cT t_len t_tok_51 t_by t_ki_51 t_pl_51 t_nu_51)) [1, 0, 2, 3, 4] rfl rfl
    refine lv_goto (tgt := 166) hx hb dX8_cutToken_54 (by decide) ?_
    refine lv_iload_n hx hb dX8_cutToken_166 rfl (lv_at hl 2 rfl) ?_
    cases hf
    exact mret_i hx hb hr hlocks hP hD hS dX8_cutToken_167 rfl trivial
  have b17 : ∀ n17 : Nat, ∀ (t_tok : Int32) (t_ki : Nat → Int32) (t_pl : Nat → Int32) (t_nu : Nat → Int32) (x1 : Int32) (x3 : Int32) (H : Heap) (locs : List Loc) (ls : Array Slot), f_X8_cutToken_17 N n17 t_len t_tok t_by t_ki t_pl t_nu x1 x3 = some (o_r, o_t_tok, o_t_ki, o_t_pl, o_t_nu) → va_P D vwCl (W_TP_0t4 qt0 qt1 qt2 qt3 qt4 cI cJ cZ cB cT t_len t_tok t_by t_ki t_pl t_nu) H → va_D A (W_TP_0t4 qt0 qt1 qt2 qt3 qt4 cI cJ cZ cB cT t_len t_tok t_by t_ki t_pl t_nu) → va_S A s.heap H locs → lv_has ls 5 [(0, .ref qt0), (1, .int x1), (3, .int x3)] → W p l e ({ frames := 6, cells := 0, slots := 0, locals := 134 } : Room) s m ([.ref qt0, .int p1] : List Value).toArray below meth c H locs 0 0 (MQ below ((mQi D (W_TP_0t4 qt0 qt1 qt2 qt3 qt4 cI cJ cZ cB cT t_len o_t_tok t_by o_t_ki o_t_pl o_t_nu) o_r True) A) ([.ref qt0, .int p1] : List Value).toArray s 0 0 A) (F0 m 17 ls []) := by
    intro n17
    induction n17 with
    | zero =>
      intro t_tok t_ki t_pl t_nu x1 x3 H locs ls hf hP hD hS hl
      simp [f_X8_cutToken_17] at hf
    | succ n17 ih17 =>
      intro t_tok t_ki t_pl t_nu x1 x3 H locs ls hf hP hD hS hl
      rw [f_X8_cutToken_17.eq_2] at hf
      refine lv_iload_n hx hb dX8_cutToken_17 rfl (lv_at hl 2 rfl) ?_
      refine lv_aload_n hx hb dX8_cutToken_18 rfl (lv_at hl 0 rfl) ?_
      refine gfX8_9 hx hb hts hown hK hP 0 rfl rfl dX8_cutToken_19 ?_
      refine xicmp_ge hx hb 42 dX8_cutToken_22 (by decide) hf (fun hf => ?_) (fun hf => ?_)
      · exact b42 t_tok t_ki t_pl t_nu x1 x3 _ _ _ hf hP hD hS (lv_sub hl [0, 1, 2] rfl)
      · refine lv_aload_n hx hb dX8_cutToken_25 rfl (lv_at hl 0 rfl) ?_
        refine lv_iload_n hx hb dX8_cutToken_26 rfl (lv_at hl 2 rfl) ?_
        obtain ⟨r27, hg27, hf⟩ := ob1_some hf
        refine mcV_i (wr := [(qt2, .inl (cI, 301, .inl t_ki)), (qt3, .inl (cI, 301, .inl t_pl)), (qt4, .inl (cI, 301, .inl t_nu))]) (As := [.int x3]) (rest := []) hx hb hml hown hts hK hP hD hS hA (k_X8_byteAt l N D cI cJ cZ cB cT qt0 qt1 qt2 qt3 qt4 t_len t_tok t_by x3 r27 hg27) (kwX8_32 hts rfl rfl ⟨Nat.le_of_ble_eq_true rfl, Nat.le_of_ble_eq_true rfl⟩) [0, 1] [2, 3, 4] rfl rfl rfl (by decide) rfl 0 rfl rfl rfl rfl hl.1 rfl (Nat.le_of_ble_eq_true rfl) dX8_cutToken_27 ⟨Nat.zero_le _, Nat.zero_le _⟩ (fun hB27 H locs hP hD hS => ?_)
        have hP := mP_sub (wc := (W_TP_0t4 qt0 qt1 qt2 qt3 qt4 cI cJ cZ cB cT t_len t_tok t_by t_ki t_pl t_nu)) hP [3, 4, 0, 1, 2] rfl
        have hD := hD.sub (ws' := (W_TP_0t4 qt0 qt1 qt2 qt3 qt4 cI cJ cZ cB cT t_len t_tok t_by t_ki t_pl t_nu)) [3, 4, 0, 1, 2] rfl rfl
        obtain ⟨r30, hg30, hf⟩ := ob1_some hf
        refine mcS0_i (As := [.int r27]) (rest := []) hx hb hml hown hts hK hP hD hS hA (k_X8_isLetter l N D cI cJ cZ cB cT r27 r30 hg30) (kwX8_47 hts rfl rfl ⟨Nat.le_of_ble_eq_true rfl, Nat.le_of_ble_eq_true rfl⟩) rfl hl.1 rfl (Nat.le_of_ble_eq_true rfl) dX8_cutToken_30 ⟨Nat.zero_le _, Nat.zero_le _⟩ (fun hB30 H locs hP hD hS => ?_)
        refine xif_eq hx hb 42 dX8_cutToken_33 (by decide) hf (fun hf => ?_) (fun hf => ?_)
        · exact b42 t_tok t_ki t_pl t_nu x1 x3 _ _ _ hf hP hD hS (lv_sub hl [0, 1, 2] rfl)
        · refine lv_iinc (v := (x3 + (1 : Int32))) (lv' := [(3, .int (x3 + (1 : Int32))), (0, .ref qt0), (1, .int x1)]) hx hb dX8_cutToken_36 hl (k := 2) rfl rfl (by decide) rfl (fun ls hl => ?_)
          refine lv_goto (tgt := 17) hx hb dX8_cutToken_39 (by decide) ?_
          exact ih17 t_tok t_ki t_pl t_nu x1 (x3 + (1 : Int32)) _ _ _ hf hP hD hS (lv_sub hl [1, 2, 0] rfl)
  unfold f_X8_cutToken at hf
  refine lv_aload_n hx hb dX8_cutToken_0 rfl (lv_at hl 0 rfl) ?_
  refine lv_iload_n hx hb dX8_cutToken_1 rfl (lv_at hl 1 rfl) ?_
  obtain ⟨r2, hg2, hf⟩ := ob1_some hf
  refine mcV_i (wr := [(qt2, .inl (cI, 301, .inl t_ki)), (qt3, .inl (cI, 301, .inl t_pl)), (qt4, .inl (cI, 301, .inl t_nu))]) (As := [.int p1]) (rest := []) hx hb hml hown hts hK hP hD hS hA (k_X8_byteAt l N D cI cJ cZ cB cT qt0 qt1 qt2 qt3 qt4 t_len t_tok t_by p1 r2 hg2) (kwX8_32 hts rfl rfl ⟨Nat.le_of_ble_eq_true rfl, Nat.le_of_ble_eq_true rfl⟩) [0, 1] [2, 3, 4] rfl rfl rfl (by decide) rfl 0 rfl rfl rfl rfl hl.1 rfl (Nat.le_of_ble_eq_true rfl) dX8_cutToken_2 ⟨Nat.zero_le _, Nat.zero_le _⟩ (fun hB2 H locs hP hD hS => ?_)
  have hP := mP_sub (wc := (W_TP_0t4 qt0 qt1 qt2 qt3 qt4 cI cJ cZ cB cT t_len t_tok t_by t_ki t_pl t_nu)) hP [3, 4, 0, 1, 2] rfl
  have hD := hD.sub (ws' := (W_TP_0t4 qt0 qt1 qt2 qt3 qt4 cI cJ cZ cB cT t_len t_tok t_by t_ki t_pl t_nu)) [3, 4, 0, 1, 2] rfl rfl
  refine lv_istore_n (lv' := [(2, .int r2), (0, .ref qt0), (1, .int p1)]) hx hb dX8_cutToken_5 rfl hl (by decide) rfl (fun ls hl => ?_)
  refine lv_iload_n hx hb dX8_cutToken_6 rfl (lv_at hl 2 rfl) ?_
  refine lv_iconst (v := (1 : Int32)) hx hb dX8_cutToken_7 (by decide) ?_
  refine lv_iadd hx hb dX8_cutToken_8 ?_
  refine lv_istore_n (lv' := [(3, .int (p1 + (1 : Int32))), (2, .int r2), (0, .ref qt0), (1, .int p1)]) hx hb dX8_cutToken_9 rfl hl (by decide) rfl (fun ls hl => ?_)
  refine lv_iload_n hx hb dX8_cutToken_10 rfl (lv_at hl 1 rfl) ?_
  obtain ⟨r11, hg11, hf⟩ := ob1_some hf
  refine mcS0_i (As := [.int r2]) (rest := []) hx hb hml hown hts hK hP hD hS hA (k_X8_isLetter l N D cI cJ cZ cB cT r2 r11 hg11) (kwX8_47 hts rfl rfl ⟨Nat.le_of_ble_eq_true rfl, Nat.le_of_ble_eq_true rfl⟩) rfl hl.1 rfl (Nat.le_of_ble_eq_true rfl) dX8_cutToken_11 ⟨Nat.zero_le _, Nat.zero_le _⟩ (fun hB11 H locs hP hD hS => ?_)
  refine xif_eq hx hb 57 dX8_cutToken_14 (by decide) hf (fun hf => ?_) (fun hf => ?_)
  · refine lv_iload_n hx hb dX8_cutToken_57 rfl (lv_at hl 1 rfl) ?_
    obtain ⟨r58, hg58, hf⟩ := ob1_some hf
    refine mcS0_i (As := [.int r2]) (rest := []) hx hb hml hown hts hK hP hD hS hA (k_X8_isDigit l N D cI cJ cZ cB cT r2 r58 hg58) (kwX8_54 hts rfl rfl ⟨Nat.le_of_ble_eq_true rfl, Nat.le_of_ble_eq_true rfl⟩) rfl hl.1 rfl (Nat.le_of_ble_eq_true rfl) dX8_cutToken_58 ⟨Nat.zero_le _, Nat.zero_le _⟩ (fun hB58 H locs hP hD hS => ?_)
    refine xif_eq hx hb 129 dX8_cutToken_61 (by decide) hf (fun hf => ?_) (fun hf => ?_)
    · refine lv_aload_n hx hb dX8_cutToken_129 rfl (lv_at hl 2 rfl) ?_
      refine lv_iload_n hx hb dX8_cutToken_130 rfl (lv_at hl 3 rfl) ?_
      obtain ⟨r131, hg131, hf⟩ := ob1_some hf
      refine mcV_i (wr := [(qt2, .inl (cI, 301, .inl t_ki)), (qt3, .inl (cI, 301, .inl t_pl)), (qt4, .inl (cI, 301, .inl t_nu))]) (As := [.int p1]) (rest := []) hx hb hml hown hts hK hP hD hS hA (k_X8_signAt l N D cI cJ cZ cB cT qt0 qt1 qt2 qt3 qt4 t_len t_tok t_by p1 r131 hg131) (kwX8_62 hts rfl rfl ⟨Nat.le_of_ble_eq_true rfl, Nat.le_of_ble_eq_true rfl⟩) [0, 1] [2, 3, 4] rfl rfl rfl (by decide) rfl 0 rfl rfl rfl rfl hl.1 rfl (Nat.le_of_ble_eq_true rfl) dX8_cutToken_131 ⟨Nat.zero_le _, Nat.zero_le _⟩ (fun hB131 H locs hP hD hS => ?_)
      have hP := mP_sub (wc := (W_TP_0t4 qt0 qt1 qt2 qt3 qt4 cI cJ cZ cB cT t_len t_tok t_by t_ki t_pl t_nu)) hP [3, 4, 0, 1, 2] rfl
      have hD := hD.sub (ws' := (W_TP_0t4 qt0 qt1 qt2 qt3 qt4 cI cJ cZ cB cT t_len t_tok t_by t_ki t_pl t_nu)) [3, 4, 0, 1, 2] rfl rfl
      refine lv_istore (lv' := [(4, .int r131), (3, .int (p1 + (1 : Int32))), (2, .int r2), (0, .ref qt0), (1, .int p1)]) hx hb dX8_cutToken_134 hl (by decide) rfl (fun ls hl => ?_)
      refine lv_aload_n hx hb dX8_cutToken_136 rfl (lv_at hl 3 rfl) ?_
      refine lv_iload hx hb dX8_cutToken_137 (lv_at hl 0 rfl) ?_
      refine lv_iload_n hx hb dX8_cutToken_139 rfl (lv_at hl 4 rfl) ?_
      refine lv_iconst (v := (0 : Int32)) hx hb dX8_cutToken_140 (by decide) ?_
      obtain ⟨t_tok_141, t_ki_141, t_pl_141, t_nu_141, hg141, hf⟩ := ob4_some hf
      refine mcV_v (wr := [(qt1, .inl (cB, 300, .inl t_by))]) (As := [.int r131, .int p1, .int (0 : Int32)]) (rest := []) hx hb hml hown hts hK hP hD hS hA (k_X8_put l N D cI cJ cZ cB cT qt0 qt2 qt3 qt4 qt1 t_len t_tok t_ki t_pl t_nu r131 p1 (0 : Int32) t_tok_141 t_ki_141 t_pl_141 t_nu_141 hg141) (kwX8_43 hts rfl rfl ⟨Nat.le_of_ble_eq_true rfl, Nat.le_of_ble_eq_true rfl⟩) [0, 2, 3, 4] [1] rfl rfl rfl (by decide) rfl 0 rfl rfl rfl rfl hl.1 rfl (Nat.le_of_ble_eq_true rfl) dX8_cutToken_141 ⟨Nat.zero_le _, Nat.zero_le _⟩ (fun H locs hP hD hS => ?_)
      have hP := mP_sub (wc := (W_TP_0t4 qt0 qt1 qt2 qt3 qt4 cI cJ cZ cB cT t_len t_tok_141 t_by t_ki_141 t_pl_141 t_nu_141)) hP [1, 0, 2, 3, 4] rfl
      have hD := hD.sub (ws' := (W_TP_0t4 qt0 qt1 qt2 qt3 qt4 cI cJ cZ cB cT t_len t_tok_141 t_by t_ki_141 t_pl_141 t_nu_141)) [1, 0, 2, 3, 4] rfl rfl
      refine lv_iload_n hx hb dX8_cutToken_144 rfl (lv_at hl 1 rfl) ?_
      refine lv_iload hx hb dX8_cutToken_145 (lv_at hl 0 rfl) ?_
      refine lv_bipush (v := (33 : Int32)) hx hb dX8_cutToken_147 (by decide) ?_
      refine xicmp_eq hx hb 159 dX8_cutToken_149 (by decide) hf (fun hf => ?_) (fun hf => ?_)
      · exact b159 t_tok_141 t_ki_141 t_pl_141 t_nu_141 (p1 + (1 : Int32)) _ _ _ hf hP hD hS (lv_sub hl [] rfl)
      · refine lv_iload hx hb dX8_cutToken_152 (lv_at hl 0 rfl) ?_
        refine lv_bipush (v := (34 : Int32)) hx hb dX8_cutToken_154 (by decide) ?_
        refine xicmp_ne hx hb 163 dX8_cutToken_156 (by decide) hf (fun hf => ?_) (fun hf => ?_)
        · exact b159 t_tok_141 t_ki_141 t_pl_141 t_nu_141 (p1 + (1 : Int32)) _ _ _ hf hP hD hS (lv_sub hl [] rfl)
        · refine lv_iconst (v := (0 : Int32)) hx hb dX8_cutToken_163 (by decide) ?_
          exact b164 t_tok_141 t_ki_141 t_pl_141 t_nu_141 (p1 + (1 : Int32)) (0 : Int32) _ _ _ hf hP hD hS (lv_sub hl [] rfl)
    · refine lv_iload_n hx hb dX8_cutToken_64 rfl (lv_at hl 1 rfl) ?_
      refine lv_bipush (v := (48 : Int32)) hx hb dX8_cutToken_65 (by decide) ?_
      refine lv_isub hx hb dX8_cutToken_67 ?_
      refine lv_istore (lv' := [(4, .int (r2 - (48 : Int32))), (3, .int (p1 + (1 : Int32))), (2, .int r2), (0, .ref qt0), (1, .int p1)]) hx hb dX8_cutToken_68 hl (by decide) rfl (fun ls hl => ?_)
      exact b70 N t_tok t_ki t_pl t_nu p1 (p1 + (1 : Int32)) (r2 - (48 : Int32)) _ _ _ hf hP hD hS (lv_sub hl [3, 4, 1, 0] rfl)
  · exact b17 N t_tok t_ki t_pl t_nu p1 (p1 + (1 : Int32)) _ _ _ hf hP hD hS (lv_sub hl [2, 3, 0] rfl)
theorem dX8_split_0 : decode cX8_split 0 = .ok (.aload_n 0, 1) := by decide +kernel
theorem dX8_split_1 : decode cX8_split 1 = .ok (.iconst 0, 1) := by decide +kernel
theorem dX8_split_2 : decode cX8_split 2 = .ok (.putfield 15, 3) := by decide +kernel
theorem dX8_split_5 : decode cX8_split 5 = .ok (.iconst 0, 1) := by decide +kernel
theorem dX8_split_6 : decode cX8_split 6 = .ok (.istore_n 1, 1) := by decide +kernel
theorem dX8_split_7 : decode cX8_split 7 = .ok (.iconst 0, 1) := by decide +kernel
theorem dX8_split_8 : decode cX8_split 8 = .ok (.istore_n 2, 1) := by decide +kernel
theorem dX8_split_9 : decode cX8_split 9 = .ok (.iload_n 2, 1) := by decide +kernel
theorem dX8_split_10 : decode cX8_split 10 = .ok (.sipush 300, 3) := by decide +kernel
theorem dX8_split_13 : decode cX8_split 13 = .ok (.if_icmp .ge 40, 3) := by decide +kernel
theorem dX8_split_16 : decode cX8_split 16 = .ok (.iload_n 1, 1) := by decide +kernel
theorem dX8_split_17 : decode cX8_split 17 = .ok (.aload_n 0, 1) := by decide +kernel
theorem dX8_split_18 : decode cX8_split 18 = .ok (.getfield 9, 3) := by decide +kernel
theorem dX8_split_21 : decode cX8_split 21 = .ok (.if_icmp .ge 32, 3) := by decide +kernel
theorem dX8_split_24 : decode cX8_split 24 = .ok (.aload_n 0, 1) := by decide +kernel
theorem dX8_split_25 : decode cX8_split 25 = .ok (.iload_n 1, 1) := by decide +kernel
theorem dX8_split_26 : decode cX8_split 26 = .ok (.invokevirtual 32, 3) := by decide +kernel
theorem dX8_split_29 : decode cX8_split 29 = .ok (.invokestatic 36, 3) := by decide +kernel
theorem dX8_split_32 : decode cX8_split 32 = .ok (.ifCond .eq 9, 3) := by decide +kernel
theorem dX8_split_35 : decode cX8_split 35 = .ok (.iload_n 1, 1) := by decide +kernel
theorem dX8_split_36 : decode cX8_split 36 = .ok (.iconst 1, 1) := by decide +kernel
theorem dX8_split_37 : decode cX8_split 37 = .ok (.iadd, 1) := by decide +kernel
theorem dX8_split_38 : decode cX8_split 38 = .ok (.goto 8, 3) := by decide +kernel
theorem dX8_split_41 : decode cX8_split 41 = .ok (.aload_n 0, 1) := by decide +kernel
theorem dX8_split_42 : decode cX8_split 42 = .ok (.iload_n 1, 1) := by decide +kernel
theorem dX8_split_43 : decode cX8_split 43 = .ok (.invokevirtual 40, 3) := by decide +kernel
theorem dX8_split_46 : decode cX8_split 46 = .ok (.istore_n 1, 1) := by decide +kernel
theorem dX8_split_47 : decode cX8_split 47 = .ok (.iinc 2 1, 3) := by decide +kernel
theorem dX8_split_50 : decode cX8_split 50 = .ok (.goto (-41), 3) := by decide +kernel
theorem dX8_split_53 : decode cX8_split 53 = .ok (.aload_n 0, 1) := by decide +kernel
theorem dX8_split_54 : decode cX8_split 54 = .ok (.bipush 47, 2) := by decide +kernel
theorem dX8_split_56 : decode cX8_split 56 = .ok (.aload_n 0, 1) := by decide +kernel
theorem dX8_split_57 : decode cX8_split 57 = .ok (.getfield 9, 3) := by decide +kernel
theorem dX8_split_60 : decode cX8_split 60 = .ok (.iconst 0, 1) := by decide +kernel
theorem dX8_split_61 : decode cX8_split 61 = .ok (.invokevirtual 43, 3) := by decide +kernel
theorem dX8_split_64 : decode cX8_split 64 = .ok (.return_, 1) := by decide +kernel
def f_X8_split_53 (N : Nat) (t_len : Int32) (t_tok : Int32) (t_by : Nat → Int32) (t_ki : Nat → Int32) (t_pl : Nat → Int32) (t_nu : Nat → Int32) : Option (Int32 × (Nat → Int32) × (Nat → Int32) × (Nat → Int32)) := ob4 (f_X8_put N t_tok t_ki t_pl t_nu (47 : Int32) t_len (0 : Int32)) fun t_tok_61 t_ki_61 t_pl_61 t_nu_61 => some (t_tok_61, t_ki_61, t_pl_61, t_nu_61)
def f_X8_split_46 (N : Nat) (k_9 : Int32 → Int32 → (Nat → Int32) → (Nat → Int32) → (Nat → Int32) → (Nat → Int32) → Int32 → Int32 → Option (Int32 × (Nat → Int32) × (Nat → Int32) × (Nat → Int32))) (t_len : Int32) (t_tok : Int32) (t_by : Nat → Int32) (t_ki : Nat → Int32) (t_pl : Nat → Int32) (t_nu : Nat → Int32) (x2 : Int32) (s0 : Int32) : Option (Int32 × (Nat → Int32) × (Nat → Int32) × (Nat → Int32)) := k_9 t_len t_tok t_by t_ki t_pl t_nu s0 (x2 + (1 : Int32))
def f_X8_split_9 (N : Nat) : Nat → Int32 → Int32 → (Nat → Int32) → (Nat → Int32) → (Nat → Int32) → (Nat → Int32) → Int32 → Int32 → Option (Int32 × (Nat → Int32) × (Nat → Int32) × (Nat → Int32))
  | 0, _, _, _, _, _, _, _, _ => none
  | n + 1, t_len, t_tok, t_by, t_ki, t_pl, t_nu, x1, x2 => if (300 : Int32) ≤ x2 then (f_X8_split_53 N t_len t_tok t_by t_ki t_pl t_nu) else (if t_len ≤ x1 then (f_X8_split_53 N t_len t_tok t_by t_ki t_pl t_nu) else (ob1 (f_X8_byteAt N t_len t_by x1) fun r26 => ob1 (f_X8_isBlank N r26) fun r29 => if r29 = 0 then (ob5 (f_X8_cutToken N t_len t_tok t_by t_ki t_pl t_nu x1) fun r43 t_tok_43 t_ki_43 t_pl_43 t_nu_43 => f_X8_split_46 N (f_X8_split_9 N n) t_len t_tok_43 t_by t_ki_43 t_pl_43 t_nu_43 x2 r43) else (f_X8_split_46 N (f_X8_split_9 N n) t_len t_tok t_by t_ki t_pl t_nu x2 (x1 + (1 : Int32)))))
def f_X8_split (N : Nat) (t_len : Int32) (t_tok : Int32) (t_by : Nat → Int32) (t_ki : Nat → Int32) (t_pl : Nat → Int32) (t_nu : Nat → Int32) : Option (Int32 × (Nat → Int32) × (Nat → Int32) × (Nat → Int32)) := f_X8_split_9 N N t_len (0 : Int32) t_by t_ki t_pl t_nu (0 : Int32) (0 : Int32)
set_option maxHeartbeats 4000000 in
set_option maxRecDepth 100000 in
theorem k_X8_split (l : Launch) (N : Nat) (D : va_G) (cI cJ cZ cB cT : ClassId) (qt0 : Nat) (qt1 : Nat) (qt2 : Nat) (qt3 : Nat) (qt4 : Nat) (t_len : Int32) (t_tok : Int32) (t_by : Nat → Int32) (t_ki : Nat → Int32) (t_pl : Nat → Int32) (t_nu : Nat → Int32) (o_t_tok : Int32) (o_t_ki : Nat → Int32) (o_t_pl : Nat → Int32) (o_t_nu : Nat → Int32) (hf : f_X8_split N t_len t_tok t_by t_ki t_pl t_nu = some (o_t_tok, o_t_ki, o_t_pl, o_t_nu)) : ∀ sz, Met l yX8_split (mw yX8_split cX8_split 3 none) ({ frames := 7, cells := 0, slots := 0, locals := 158 } : Room) (mPreE D (mT cI cJ cZ cB cT) (W_TP_0t4 qt0 qt1 qt2 qt3 qt4 cI cJ cZ cB cT t_len t_tok t_by t_ki t_pl t_nu) sz [.ref qt0]) ((mQv D (W_TP_0t4 qt0 qt1 qt2 qt3 qt4 cI cJ cZ cB cT t_len o_t_tok t_by o_t_ki o_t_pl o_t_nu)) (va_A (W_TP_0t4 qt0 qt1 qt2 qt3 qt4 cI cJ cZ cB cT t_len t_tok t_by t_ki t_pl t_nu) sz)) 0 0 (va_A (W_TP_0t4 qt0 qt1 qt2 qt3 qt4 cI cJ cZ cB cT t_len t_tok t_by t_ki t_pl t_nu) sz) := by
  refine mMetE (Qc := (mQv D (W_TP_0t4 qt0 qt1 qt2 qt3 qt4 cI cJ cZ cB cT t_len o_t_tok t_by o_t_ki o_t_pl o_t_nu))) (by decide) (Nat.le_of_ble_eq_true rfl) (fun p e s m below meth c A ls hx hb hr hml hts hown hlocks hK hA hP hD hl hE => ?_)
  have hown : s.vm.findClass RX8 = some m.cls := hown
  have hl : lv_has ls 3 [(0, .ref qt0)] := hl
  have hS : va_S A s.heap s.heap [] := va_S.rf
  obtain ⟨⟨tM, hZM, hTM⟩, ⟨tL, hZL, hTL⟩, ⟨hNX4, hNX10⟩, tS, tV, hRS, hZC, hZF, hKS⟩ := id hE
  have b53 : ∀ (t_tok : Int32) (t_ki : Nat → Int32) (t_pl : Nat → Int32) (t_nu : Nat → Int32) (H : Heap) (locs : List Loc) (ls : Array Slot), f_X8_split_53 N t_len t_tok t_by t_ki t_pl t_nu = some (o_t_tok, o_t_ki, o_t_pl, o_t_nu) → va_P D vwCl (W_TP_0t4 qt0 qt1 qt2 qt3 qt4 cI cJ cZ cB cT t_len t_tok t_by t_ki t_pl t_nu) H → va_D A (W_TP_0t4 qt0 qt1 qt2 qt3 qt4 cI cJ cZ cB cT t_len t_tok t_by t_ki t_pl t_nu) → va_S A s.heap H locs → lv_has ls 3 [(0, .ref qt0)] → W p l e ({ frames := 7, cells := 0, slots := 0, locals := 158 } : Room) s m ([.ref qt0] : List Value).toArray below meth c H locs 0 0 (MQ below ((mQv D (W_TP_0t4 qt0 qt1 qt2 qt3 qt4 cI cJ cZ cB cT t_len o_t_tok t_by o_t_ki o_t_pl o_t_nu)) A) ([.ref qt0] : List Value).toArray s 0 0 A) (F0 m 53 ls []) := by
    intro t_tok t_ki t_pl t_nu H locs ls hf hP hD hS hl
    unfold f_X8_split_53 at hf
    refine lv_aload_n hx hb dX8_split_53 rfl (lv_at hl 0 rfl) ?_
    refine lv_bipush (v := (47 : Int32)) hx hb dX8_split_54 (by decide) ?_
    refine lv_aload_n hx hb dX8_split_56 rfl (lv_at hl 0 rfl) ?_
    refine gfX8_9 hx hb hts hown hK hP 0 rfl rfl dX8_split_57 ?_
    refine lv_iconst (v := (0 : Int32)) hx hb dX8_split_60 (by decide) ?_
    obtain ⟨t_tok_61, t_ki_61, t_pl_61, t_nu_61, hg61, hf⟩ := ob4_some hf
    refine mcV_v (wr := [(qt1, .inl (cB, 300, .inl t_by))]) (As := [.int (47 : Int32), .int t_len, .int (0 : Int32)]) (rest := []) hx hb hml hown hts hK hP hD hS hA (k_X8_put l N D cI cJ cZ cB cT qt0 qt2 qt3 qt4 qt1 t_len t_tok t_ki t_pl t_nu (47 : Int32) t_len (0 : Int32) t_tok_61 t_ki_61 t_pl_61 t_nu_61 hg61) (kwX8_43 hts rfl rfl ⟨Nat.le_of_ble_eq_true rfl, Nat.le_of_ble_eq_true rfl⟩) [0, 2, 3, 4] [1] rfl rfl rfl (by decide) rfl 0 rfl rfl rfl rfl hl.1 rfl (Nat.le_of_ble_eq_true rfl) dX8_split_61 ⟨Nat.zero_le _, Nat.zero_le _⟩ (fun H locs hP hD hS => ?_)
    have hP := mP_sub (wc := (W_TP_0t4 qt0 qt1 qt2 qt3 qt4 cI cJ cZ cB cT t_len t_tok_61 t_by t_ki_61 t_pl_61 t_nu_61)) hP [1, 0, 2, 3, 4] rfl
    have hD := hD.sub (ws' := (W_TP_0t4 qt0 qt1 qt2 qt3 qt4 cI cJ cZ cB cT t_len t_tok_61 t_by t_ki_61 t_pl_61 t_nu_61)) [1, 0, 2, 3, 4] rfl rfl
    cases hf
    exact mret_v hx hb hr hlocks hP hD hS dX8_split_64
  have b9 : ∀ n9 : Nat, ∀ (t_tok : Int32) (t_ki : Nat → Int32) (t_pl : Nat → Int32) (t_nu : Nat → Int32) (x1 : Int32) (x2 : Int32) (H : Heap) (locs : List Loc) (ls : Array Slot), f_X8_split_9 N n9 t_len t_tok t_by t_ki t_pl t_nu x1 x2 = some (o_t_tok, o_t_ki, o_t_pl, o_t_nu) → va_P D vwCl (W_TP_0t4 qt0 qt1 qt2 qt3 qt4 cI cJ cZ cB cT t_len t_tok t_by t_ki t_pl t_nu) H → va_D A (W_TP_0t4 qt0 qt1 qt2 qt3 qt4 cI cJ cZ cB cT t_len t_tok t_by t_ki t_pl t_nu) → va_S A s.heap H locs → lv_has ls 3 [(0, .ref qt0), (1, .int x1), (2, .int x2)] → W p l e ({ frames := 7, cells := 0, slots := 0, locals := 158 } : Room) s m ([.ref qt0] : List Value).toArray below meth c H locs 0 0 (MQ below ((mQv D (W_TP_0t4 qt0 qt1 qt2 qt3 qt4 cI cJ cZ cB cT t_len o_t_tok t_by o_t_ki o_t_pl o_t_nu)) A) ([.ref qt0] : List Value).toArray s 0 0 A) (F0 m 9 ls []) := by
    intro n9
    induction n9 with
    | zero =>
      intro t_tok t_ki t_pl t_nu x1 x2 H locs ls hf hP hD hS hl
      simp [f_X8_split_9] at hf
    | succ n9 ih9 =>
      have b46 : ∀ (t_tok : Int32) (t_ki : Nat → Int32) (t_pl : Nat → Int32) (t_nu : Nat → Int32) (x2 : Int32) (s0 : Int32) (H : Heap) (locs : List Loc) (ls : Array Slot), f_X8_split_46 N (f_X8_split_9 N n9) t_len t_tok t_by t_ki t_pl t_nu x2 s0 = some (o_t_tok, o_t_ki, o_t_pl, o_t_nu) → va_P D vwCl (W_TP_0t4 qt0 qt1 qt2 qt3 qt4 cI cJ cZ cB cT t_len t_tok t_by t_ki t_pl t_nu) H → va_D A (W_TP_0t4 qt0 qt1 qt2 qt3 qt4 cI cJ cZ cB cT t_len t_tok t_by t_ki t_pl t_nu) → va_S A s.heap H locs → lv_has ls 3 [(0, .ref qt0), (2, .int x2)] → W p l e ({ frames := 7, cells := 0, slots := 0, locals := 158 } : Room) s m ([.ref qt0] : List Value).toArray below meth c H locs 0 0 (MQ below ((mQv D (W_TP_0t4 qt0 qt1 qt2 qt3 qt4 cI cJ cZ cB cT t_len o_t_tok t_by o_t_ki o_t_pl o_t_nu)) A) ([.ref qt0] : List Value).toArray s 0 0 A) (F0 m 46 ls [.int s0]) := by
        intro t_tok t_ki t_pl t_nu x2 s0 H locs ls hf hP hD hS hl
        unfold f_X8_split_46 at hf
        refine lv_istore_n (lv' := [(1, .int s0), (0, .ref qt0), (2, .int x2)]) hx hb dX8_split_46 rfl hl (by decide) rfl (fun ls hl => ?_)
        refine lv_iinc (v := (x2 + (1 : Int32))) (lv' := [(2, .int (x2 + (1 : Int32))), (1, .int s0), (0, .ref qt0)]) hx hb dX8_split_47 hl (k := 2) rfl rfl (by decide) rfl (fun ls hl => ?_)
        refine lv_goto (tgt := 9) hx hb dX8_split_50 (by decide) ?_
        exact ih9 t_tok t_ki t_pl t_nu s0 (x2 + (1 : Int32)) _ _ _ hf hP hD hS (lv_sub hl [2, 1, 0] rfl)
      intro t_tok t_ki t_pl t_nu x1 x2 H locs ls hf hP hD hS hl
      rw [f_X8_split_9.eq_2] at hf
      refine lv_iload_n hx hb dX8_split_9 rfl (lv_at hl 2 rfl) ?_
      refine lv_sipush (v := (300 : Int32)) hx hb dX8_split_10 (by decide) ?_
      refine xicmp_ge hx hb 53 dX8_split_13 (by decide) hf (fun hf => ?_) (fun hf => ?_)
      · exact b53 t_tok t_ki t_pl t_nu _ _ _ hf hP hD hS (lv_sub hl [0] rfl)
      · refine lv_iload_n hx hb dX8_split_16 rfl (lv_at hl 1 rfl) ?_
        refine lv_aload_n hx hb dX8_split_17 rfl (lv_at hl 0 rfl) ?_
        refine gfX8_9 hx hb hts hown hK hP 0 rfl rfl dX8_split_18 ?_
        refine xicmp_ge hx hb 53 dX8_split_21 (by decide) hf (fun hf => ?_) (fun hf => ?_)
        · exact b53 t_tok t_ki t_pl t_nu _ _ _ hf hP hD hS (lv_sub hl [0] rfl)
        · refine lv_aload_n hx hb dX8_split_24 rfl (lv_at hl 0 rfl) ?_
          refine lv_iload_n hx hb dX8_split_25 rfl (lv_at hl 1 rfl) ?_
          obtain ⟨r26, hg26, hf⟩ := ob1_some hf
          refine mcV_i (wr := [(qt2, .inl (cI, 301, .inl t_ki)), (qt3, .inl (cI, 301, .inl t_pl)), (qt4, .inl (cI, 301, .inl t_nu))]) (As := [.int x1]) (rest := []) hx hb hml hown hts hK hP hD hS hA (k_X8_byteAt l N D cI cJ cZ cB cT qt0 qt1 qt2 qt3 qt4 t_len t_tok t_by x1 r26 hg26) (kwX8_32 hts rfl rfl ⟨Nat.le_of_ble_eq_true rfl, Nat.le_of_ble_eq_true rfl⟩) [0, 1] [2, 3, 4] rfl rfl rfl (by decide) rfl 0 rfl rfl rfl rfl hl.1 rfl (Nat.le_of_ble_eq_true rfl) dX8_split_26 ⟨Nat.zero_le _, Nat.zero_le _⟩ (fun hB26 H locs hP hD hS => ?_)
          have hP := mP_sub (wc := (W_TP_0t4 qt0 qt1 qt2 qt3 qt4 cI cJ cZ cB cT t_len t_tok t_by t_ki t_pl t_nu)) hP [3, 4, 0, 1, 2] rfl
          have hD := hD.sub (ws' := (W_TP_0t4 qt0 qt1 qt2 qt3 qt4 cI cJ cZ cB cT t_len t_tok t_by t_ki t_pl t_nu)) [3, 4, 0, 1, 2] rfl rfl
          obtain ⟨r29, hg29, hf⟩ := ob1_some hf
          refine mcS0_i (As := [.int r26]) (rest := []) hx hb hml hown hts hK hP hD hS hA (k_X8_isBlank l N D cI cJ cZ cB cT r26 r29 hg29) (kwX8_36 hts rfl rfl ⟨Nat.le_of_ble_eq_true rfl, Nat.le_of_ble_eq_true rfl⟩) rfl hl.1 rfl (Nat.le_of_ble_eq_true rfl) dX8_split_29 ⟨Nat.zero_le _, Nat.zero_le _⟩ (fun hB29 H locs hP hD hS => ?_)
          refine xif_eq hx hb 41 dX8_split_32 (by decide) hf (fun hf => ?_) (fun hf => ?_)
          · refine lv_aload_n hx hb dX8_split_41 rfl (lv_at hl 0 rfl) ?_
            refine lv_iload_n hx hb dX8_split_42 rfl (lv_at hl 1 rfl) ?_
            obtain ⟨r43, t_tok_43, t_ki_43, t_pl_43, t_nu_43, hg43, hf⟩ := ob5_some hf
            refine mcV1E_i (As := [.int x1]) (rest := []) hx hb hml hown hts hK hP hD hS hA hE (k_X8_cutToken l N D cI cJ cZ cB cT qt0 qt1 qt2 qt3 qt4 t_len t_tok t_by t_ki t_pl t_nu x1 r43 t_tok_43 t_ki_43 t_pl_43 t_nu_43 hg43) (kwX8_40 hts rfl rfl ⟨Nat.le_of_ble_eq_true rfl, Nat.le_of_ble_eq_true rfl⟩) 0 rfl rfl rfl rfl hl.1 rfl (Nat.le_of_ble_eq_true rfl) dX8_split_43 ⟨Nat.zero_le _, Nat.zero_le _⟩ (fun hB43 H locs hP hD hS => ?_)
            have hP : va_P D vwCl (W_TP_0t4 qt0 qt1 qt2 qt3 qt4 cI cJ cZ cB cT t_len t_tok_43 t_by t_ki_43 t_pl_43 t_nu_43) H := hP
            have hD : va_D A (W_TP_0t4 qt0 qt1 qt2 qt3 qt4 cI cJ cZ cB cT t_len t_tok_43 t_by t_ki_43 t_pl_43 t_nu_43) := hD
            exact b46 t_tok_43 t_ki_43 t_pl_43 t_nu_43 x2 r43 _ _ _ hf hP hD hS (lv_sub hl [0, 2] rfl)
          · refine lv_iload_n hx hb dX8_split_35 rfl (lv_at hl 1 rfl) ?_
            refine lv_iconst (v := (1 : Int32)) hx hb dX8_split_36 (by decide) ?_
            refine lv_iadd hx hb dX8_split_37 ?_
            refine lv_goto (tgt := 46) hx hb dX8_split_38 (by decide) ?_
            exact b46 t_tok t_ki t_pl t_nu x2 (x1 + (1 : Int32)) _ _ _ hf hP hD hS (lv_sub hl [0, 2] rfl)
  unfold f_X8_split at hf
  refine lv_aload_n hx hb dX8_split_0 rfl (lv_at hl 0 rfl) ?_
  refine lv_iconst (v := (0 : Int32)) hx hb dX8_split_1 (by decide) ?_
  refine pfX8_15 hx hb hts hown hK hP hD hS 0 rfl (Nat.le_of_ble_eq_true rfl) dX8_split_2 (fun H locs hP hD hS => ?_)
  have hP : va_P D vwCl (W_TP_0t4 qt0 qt1 qt2 qt3 qt4 cI cJ cZ cB cT t_len (0 : Int32) t_by t_ki t_pl t_nu) H := hP
  have hD : va_D A (W_TP_0t4 qt0 qt1 qt2 qt3 qt4 cI cJ cZ cB cT t_len (0 : Int32) t_by t_ki t_pl t_nu) := hD
  refine lv_iconst (v := (0 : Int32)) hx hb dX8_split_5 (by decide) ?_
  refine lv_istore_n (lv' := [(1, .int (0 : Int32)), (0, .ref qt0)]) hx hb dX8_split_6 rfl hl (by decide) rfl (fun ls hl => ?_)
  refine lv_iconst (v := (0 : Int32)) hx hb dX8_split_7 (by decide) ?_
  refine lv_istore_n (lv' := [(2, .int (0 : Int32)), (1, .int (0 : Int32)), (0, .ref qt0)]) hx hb dX8_split_8 rfl hl (by decide) rfl (fun ls hl => ?_)
  exact b9 N (0 : Int32) t_ki t_pl t_nu (0 : Int32) (0 : Int32) _ _ _ hf hP hD hS (lv_sub hl [2, 1, 0] rfl)
theorem dX5_read_0 : decode cX5_read 0 = .ok (.aload_n 1, 1) := by decide +kernel
theorem dX5_read_1 : decode cX5_read 1 = .ok (.ifnonnull 5, 3) := by decide +kernel
theorem dX5_read_4 : decode cX5_read 4 = .ok (.iconst 0, 1) := by decide +kernel
theorem dX5_read_5 : decode cX5_read 5 = .ok (.ireturn, 1) := by decide +kernel
theorem dX5_read_6 : decode cX5_read 6 = .ok (.aload_n 0, 1) := by decide +kernel
theorem dX5_read_7 : decode cX5_read 7 = .ok (.aload_n 1, 1) := by decide +kernel
theorem dX5_read_8 : decode cX5_read 8 = .ok (.putfield 18, 3) := by decide +kernel
theorem dX5_read_11 : decode cX5_read 11 = .ok (.aload_n 0, 1) := by decide +kernel
theorem dX5_read_12 : decode cX5_read 12 = .ok (.getfield 18, 3) := by decide +kernel
theorem dX5_read_15 : decode cX5_read 15 = .ok (.invokevirtual 32, 3) := by decide +kernel
theorem dX5_read_18 : decode cX5_read 18 = .ok (.aload_n 0, 1) := by decide +kernel
theorem dX5_read_19 : decode cX5_read 19 = .ok (.getfield 28, 3) := by decide +kernel
theorem dX5_read_22 : decode cX5_read 22 = .ok (.invokevirtual 37, 3) := by decide +kernel
theorem dX5_read_25 : decode cX5_read 25 = .ok (.aload_n 0, 1) := by decide +kernel
theorem dX5_read_26 : decode cX5_read 26 = .ok (.iconst 0, 1) := by decide +kernel
theorem dX5_read_27 : decode cX5_read 27 = .ok (.putfield 22, 3) := by decide +kernel
theorem dX5_read_30 : decode cX5_read 30 = .ok (.aload_n 0, 1) := by decide +kernel
theorem dX5_read_31 : decode cX5_read 31 = .ok (.iconst 0, 1) := by decide +kernel
theorem dX5_read_32 : decode cX5_read 32 = .ok (.putfield 9, 3) := by decide +kernel
theorem dX5_read_35 : decode cX5_read 35 = .ok (.aload_n 0, 1) := by decide +kernel
theorem dX5_read_36 : decode cX5_read 36 = .ok (.iconst (-1), 1) := by decide +kernel
theorem dX5_read_37 : decode cX5_read 37 = .ok (.putfield 15, 3) := by decide +kernel
theorem dX5_read_40 : decode cX5_read 40 = .ok (.iconst 0, 1) := by decide +kernel
theorem dX5_read_41 : decode cX5_read 41 = .ok (.istore_n 2, 1) := by decide +kernel
theorem dX5_read_42 : decode cX5_read 42 = .ok (.iload_n 2, 1) := by decide +kernel
theorem dX5_read_43 : decode cX5_read 43 = .ok (.bipush 24, 2) := by decide +kernel
theorem dX5_read_45 : decode cX5_read 45 = .ok (.if_icmp .gt 28, 3) := by decide +kernel
theorem dX5_read_48 : decode cX5_read 48 = .ok (.aload_n 0, 1) := by decide +kernel
theorem dX5_read_49 : decode cX5_read 49 = .ok (.invokevirtual 42, 3) := by decide +kernel
theorem dX5_read_52 : decode cX5_read 52 = .ok (.bipush 47, 2) := by decide +kernel
theorem dX5_read_54 : decode cX5_read 54 = .ok (.if_icmp .eq 19, 3) := by decide +kernel
theorem dX5_read_57 : decode cX5_read 57 = .ok (.aload_n 0, 1) := by decide +kernel
theorem dX5_read_58 : decode cX5_read 58 = .ok (.iload_n 2, 1) := by decide +kernel
theorem dX5_read_59 : decode cX5_read 59 = .ok (.invokevirtual 46, 3) := by decide +kernel
theorem dX5_read_62 : decode cX5_read 62 = .ok (.ifCond .ne 5, 3) := by decide +kernel
theorem dX5_read_65 : decode cX5_read 65 = .ok (.iconst 0, 1) := by decide +kernel
theorem dX5_read_66 : decode cX5_read 66 = .ok (.ireturn, 1) := by decide +kernel
theorem dX5_read_67 : decode cX5_read 67 = .ok (.iinc 2 1, 3) := by decide +kernel
theorem dX5_read_70 : decode cX5_read 70 = .ok (.goto (-28), 3) := by decide +kernel
theorem dX5_read_73 : decode cX5_read 73 = .ok (.iconst 1, 1) := by decide +kernel
theorem dX5_read_74 : decode cX5_read 74 = .ok (.ireturn, 1) := by decide +kernel
def f_X5_read_42 (N : Nat) : Nat → Int32 → Int32 → (Nat → Int32) → (Nat → Int32) → (Nat → Int32) → (Nat → Int32) → Int32 → Int32 → Int32 → (Nat → Int32) → (Nat → Int32) → (Nat → Int32) → (Nat → Int32) → Int32 → Int32 → Int32 → Int32 → Int32 → Option (Int32 × Int32 × (Nat → Int32) × (Nat → Int32) × (Nat → Int32) × Int32 × Int32 × Int32 × (Nat → Int32) × (Nat → Int32) × (Nat → Int32) × (Nat → Int32) × Int32 × Int32 × Int32 × Int32)
  | 0, _, _, _, _, _, _, _, _, _, _, _, _, _, _, _, _, _, _ => none
  | n + 1, b_len, b_tok, b_by, b_ki, b_pl, b_nu, x_cl, x_ln, x_pt, x_code, x_st, x_en, x_rows, e_fault, e_place, e_at, e_law, x2 => if (24 : Int32) < x2 then (some ((1 : Int32), b_tok, b_ki, b_pl, b_nu, x_cl, x_ln, x_pt, x_code, x_st, x_en, x_rows, e_fault, e_place, e_at, e_law)) else (ob1 (f_X5_token N b_tok b_ki e_at) fun r49 => if r49 = (47 : Int32) then (some ((1 : Int32), b_tok, b_ki, b_pl, b_nu, x_cl, x_ln, x_pt, x_code, x_st, x_en, x_rows, e_fault, e_place, e_at, e_law)) else (ob12 (f_X5_clause N b_len b_tok b_ki b_pl b_nu x_cl x_ln x_pt x_code x_st x_en x_rows e_fault e_place e_at e_law x2) fun r59 x_cl_59 x_ln_59 x_pt_59 x_code_59 x_st_59 x_en_59 x_rows_59 e_fault_59 e_place_59 e_at_59 e_law_59 => if r59 = 0 then (some ((0 : Int32), b_tok, b_ki, b_pl, b_nu, x_cl_59, x_ln_59, x_pt_59, x_code_59, x_st_59, x_en_59, x_rows_59, e_fault_59, e_place_59, e_at_59, e_law_59)) else ((f_X5_read_42 N n) b_len b_tok b_by b_ki b_pl b_nu x_cl_59 x_ln_59 x_pt_59 x_code_59 x_st_59 x_en_59 x_rows_59 e_fault_59 e_place_59 e_at_59 e_law_59 (x2 + (1 : Int32)))))
def f_X5_read (N : Nat) (b_len : Int32) (b_tok : Int32) (b_by : Nat → Int32) (b_ki : Nat → Int32) (b_pl : Nat → Int32) (b_nu : Nat → Int32) (x_cl : Int32) (x_ln : Int32) (x_pt : Int32) (x_code : Nat → Int32) (x_st : Nat → Int32) (x_en : Nat → Int32) (x_rows : Nat → Int32) (e_fault : Int32) (e_place : Int32) (e_at : Int32) (e_law : Int32) : Option (Int32 × Int32 × (Nat → Int32) × (Nat → Int32) × (Nat → Int32) × Int32 × Int32 × Int32 × (Nat → Int32) × (Nat → Int32) × (Nat → Int32) × (Nat → Int32) × Int32 × Int32 × Int32 × Int32) := ob5 (f_X9_empty N x_cl x_ln x_pt x_st x_en) fun x_cl_15 x_ln_15 x_pt_15 x_st_15 x_en_15 => ob4 (f_X8_split N b_len b_tok b_by b_ki b_pl b_nu) fun b_tok_22 b_ki_22 b_pl_22 b_nu_22 => f_X5_read_42 N N b_len b_tok_22 b_by b_ki_22 b_pl_22 b_nu_22 x_cl_15 x_ln_15 x_pt_15 x_code x_st_15 x_en_15 x_rows (0 : Int32) (-1 : Int32) (0 : Int32) e_law (0 : Int32)
set_option maxHeartbeats 4000000 in
set_option maxRecDepth 100000 in
theorem k_X5_read (l : Launch) (N : Nat) (D : va_G) (cI cJ cZ cB cT : ClassId) (qb0 : Nat) (qb1 : Nat) (qb2 : Nat) (qb3 : Nat) (qb4 : Nat) (qx0 : Nat) (qx1 : Nat) (qx2 : Nat) (qx3 : Nat) (qx4 : Nat) (qe0 : Nat) (b_len : Int32) (b_tok : Int32) (b_by : Nat → Int32) (b_ki : Nat → Int32) (b_pl : Nat → Int32) (b_nu : Nat → Int32) (x_cl : Int32) (x_ln : Int32) (x_pt : Int32) (x_code : Nat → Int32) (x_st : Nat → Int32) (x_en : Nat → Int32) (x_rows : Nat → Int32) (e_fault : Int32) (e_place : Int32) (e_text : Value) (e_at : Int32) (e_law : Int32) (o_r : Int32) (o_b_tok : Int32) (o_b_ki : Nat → Int32) (o_b_pl : Nat → Int32) (o_b_nu : Nat → Int32) (o_x_cl : Int32) (o_x_ln : Int32) (o_x_pt : Int32) (o_x_code : Nat → Int32) (o_x_st : Nat → Int32) (o_x_en : Nat → Int32) (o_x_rows : Nat → Int32) (o_e_fault : Int32) (o_e_place : Int32) (o_e_at : Int32) (o_e_law : Int32) (hf : f_X5_read N b_len b_tok b_by b_ki b_pl b_nu x_cl x_ln x_pt x_code x_st x_en x_rows e_fault e_place e_at e_law = some (o_r, o_b_tok, o_b_ki, o_b_pl, o_b_nu, o_x_cl, o_x_ln, o_x_pt, o_x_code, o_x_st, o_x_en, o_x_rows, o_e_fault, o_e_place, o_e_at, o_e_law)) : ∀ sz, Met l yX5_read (mw yX5_read cX5_read 3 (some .boolean)) ({ frames := 109, cells := 0, slots := 0, locals := 4227 } : Room) (mPreE D (mT cI cJ cZ cB cT) (W_RDR_0t10 qb0 qb1 qb2 qb3 qb4 qx0 qx1 qx2 qx3 qx4 qe0 cI cJ cZ cB cT b_len b_tok b_by b_ki b_pl b_nu x_cl x_ln x_pt x_code x_st x_en x_rows e_fault e_place e_text e_at e_law) sz [.ref qe0, .ref qx0]) ((mQi D (W_RDR_0t10 qb0 qb1 qb2 qb3 qb4 qx0 qx1 qx2 qx3 qx4 qe0 cI cJ cZ cB cT b_len o_b_tok b_by o_b_ki o_b_pl o_b_nu o_x_cl o_x_ln o_x_pt o_x_code o_x_st o_x_en o_x_rows o_e_fault o_e_place (.ref qx0 : Value) o_e_at o_e_law) o_r (mB o_r)) (va_A (W_RDR_0t10 qb0 qb1 qb2 qb3 qb4 qx0 qx1 qx2 qx3 qx4 qe0 cI cJ cZ cB cT b_len b_tok b_by b_ki b_pl b_nu x_cl x_ln x_pt x_code x_st x_en x_rows e_fault e_place e_text e_at e_law) sz)) 0 0 (va_A (W_RDR_0t10 qb0 qb1 qb2 qb3 qb4 qx0 qx1 qx2 qx3 qx4 qe0 cI cJ cZ cB cT b_len b_tok b_by b_ki b_pl b_nu x_cl x_ln x_pt x_code x_st x_en x_rows e_fault e_place e_text e_at e_law) sz) := by
  refine mMetE (Qc := (mQi D (W_RDR_0t10 qb0 qb1 qb2 qb3 qb4 qx0 qx1 qx2 qx3 qx4 qe0 cI cJ cZ cB cT b_len o_b_tok b_by o_b_ki o_b_pl o_b_nu o_x_cl o_x_ln o_x_pt o_x_code o_x_st o_x_en o_x_rows o_e_fault o_e_place (.ref qx0 : Value) o_e_at o_e_law) o_r (mB o_r))) (by decide) (Nat.le_of_ble_eq_true rfl) (fun p e s m below meth c A ls hx hb hr hml hts hown hlocks hK hA hP hD hl hE => ?_)
  have hown : s.vm.findClass RX5 = some m.cls := hown
  have hl : lv_has ls 3 [(0, .ref qe0), (1, .ref qx0)] := hl
  have hS : va_S A s.heap s.heap [] := va_S.rf
  obtain ⟨⟨tM, hZM, hTM⟩, ⟨tL, hZL, hTL⟩, ⟨hNX4, hNX10⟩, tS, tV, hRS, hZC, hZF, hKS⟩ := id hE
  have b42 : ∀ n42 : Nat, ∀ (b_tok : Int32) (b_ki : Nat → Int32) (b_pl : Nat → Int32) (b_nu : Nat → Int32) (x_cl : Int32) (x_ln : Int32) (x_pt : Int32) (x_code : Nat → Int32) (x_st : Nat → Int32) (x_en : Nat → Int32) (x_rows : Nat → Int32) (e_fault : Int32) (e_place : Int32) (e_at : Int32) (e_law : Int32) (x2 : Int32) (H : Heap) (locs : List Loc) (ls : Array Slot), f_X5_read_42 N n42 b_len b_tok b_by b_ki b_pl b_nu x_cl x_ln x_pt x_code x_st x_en x_rows e_fault e_place e_at e_law x2 = some (o_r, o_b_tok, o_b_ki, o_b_pl, o_b_nu, o_x_cl, o_x_ln, o_x_pt, o_x_code, o_x_st, o_x_en, o_x_rows, o_e_fault, o_e_place, o_e_at, o_e_law) → va_P D vwCl (W_RDR_0t10 qb0 qb1 qb2 qb3 qb4 qx0 qx1 qx2 qx3 qx4 qe0 cI cJ cZ cB cT b_len b_tok b_by b_ki b_pl b_nu x_cl x_ln x_pt x_code x_st x_en x_rows e_fault e_place (.ref qx0 : Value) e_at e_law) H → va_D A (W_RDR_0t10 qb0 qb1 qb2 qb3 qb4 qx0 qx1 qx2 qx3 qx4 qe0 cI cJ cZ cB cT b_len b_tok b_by b_ki b_pl b_nu x_cl x_ln x_pt x_code x_st x_en x_rows e_fault e_place (.ref qx0 : Value) e_at e_law) → va_S A s.heap H locs → lv_has ls 3 [(0, .ref qe0), (2, .int x2)] → W p l e ({ frames := 109, cells := 0, slots := 0, locals := 4227 } : Room) s m ([.ref qe0, .ref qx0] : List Value).toArray below meth c H locs 0 0 (MQ below ((mQi D (W_RDR_0t10 qb0 qb1 qb2 qb3 qb4 qx0 qx1 qx2 qx3 qx4 qe0 cI cJ cZ cB cT b_len o_b_tok b_by o_b_ki o_b_pl o_b_nu o_x_cl o_x_ln o_x_pt o_x_code o_x_st o_x_en o_x_rows o_e_fault o_e_place (.ref qx0 : Value) o_e_at o_e_law) o_r (mB o_r)) A) ([.ref qe0, .ref qx0] : List Value).toArray s 0 0 A) (F0 m 42 ls []) := by
    intro n42
    induction n42 with
    | zero =>
      intro b_tok b_ki b_pl b_nu x_cl x_ln x_pt x_code x_st x_en x_rows e_fault e_place e_at e_law x2 H locs ls hf hP hD hS hl
      simp [f_X5_read_42] at hf
    | succ n42 ih42 =>
      intro b_tok b_ki b_pl b_nu x_cl x_ln x_pt x_code x_st x_en x_rows e_fault e_place e_at e_law x2 H locs ls hf hP hD hS hl
      rw [f_X5_read_42.eq_2] at hf
      refine lv_iload_n hx hb dX5_read_42 rfl (lv_at hl 1 rfl) ?_
      refine lv_bipush (v := (24 : Int32)) hx hb dX5_read_43 (by decide) ?_
      refine xicmp_gt hx hb 73 dX5_read_45 (by decide) hf (fun hf => ?_) (fun hf => ?_)
      · refine lv_iconst (v := (1 : Int32)) hx hb dX5_read_73 (by decide) ?_
        cases hf
        exact mret_z hx hb hr hlocks hP hD hS dX5_read_74 rfl rfl
      · refine lv_aload_n hx hb dX5_read_48 rfl (lv_at hl 0 rfl) ?_
        obtain ⟨r49, hg49, hf⟩ := ob1_some hf
        refine mcV_i (wr := [(qb1, .inl (cB, 300, .inl b_by)), (qb3, .inl (cI, 301, .inl b_pl)), (qb4, .inl (cI, 301, .inl b_nu)), (qx0, .inr (9, [.int x_cl, .int x_ln, .int x_pt, .ref qx1, .ref qx2, .ref qx3, .ref qx4])), (qx1, .inl (cI, 301, .inl x_code)), (qx2, .inl (cI, 4, .inl x_st)), (qx3, .inl (cI, 4, .inl x_en)), (qx4, .inl (cI, 120, .inl x_rows))]) (As := []) (rest := []) hx hb hml hown hts hK hP hD hS hA (k_X5_token l N D cI cJ cZ cB cT qb0 qb2 qe0 qb1 qb3 qb4 qx0 b_len b_tok b_ki e_fault e_place e_at e_law r49 hg49) (kwX5_42 hts rfl rfl ⟨Nat.le_of_ble_eq_true rfl, Nat.le_of_ble_eq_true rfl⟩) [0, 2, 10] [1, 3, 4, 5, 6, 7, 8, 9] rfl rfl rfl (by decide) rfl 2 rfl rfl rfl rfl hl.1 rfl (Nat.le_of_ble_eq_true rfl) dX5_read_49 ⟨Nat.zero_le _, Nat.zero_le _⟩ (fun hB49 H locs hP hD hS => ?_)
        have hP := mP_sub (wc := (W_RDR_0t10 qb0 qb1 qb2 qb3 qb4 qx0 qx1 qx2 qx3 qx4 qe0 cI cJ cZ cB cT b_len b_tok b_by b_ki b_pl b_nu x_cl x_ln x_pt x_code x_st x_en x_rows e_fault e_place (.ref qx0 : Value) e_at e_law)) hP [8, 0, 9, 1, 2, 3, 4, 5, 6, 7, 10] rfl
        have hD := hD.sub (ws' := (W_RDR_0t10 qb0 qb1 qb2 qb3 qb4 qx0 qx1 qx2 qx3 qx4 qe0 cI cJ cZ cB cT b_len b_tok b_by b_ki b_pl b_nu x_cl x_ln x_pt x_code x_st x_en x_rows e_fault e_place (.ref qx0 : Value) e_at e_law)) [8, 0, 9, 1, 2, 3, 4, 5, 6, 7, 10] rfl rfl
        refine lv_bipush (v := (47 : Int32)) hx hb dX5_read_52 (by decide) ?_
        refine xicmp_eq hx hb 73 dX5_read_54 (by decide) hf (fun hf => ?_) (fun hf => ?_)
        · refine lv_iconst (v := (1 : Int32)) hx hb dX5_read_73 (by decide) ?_
          cases hf
          exact mret_z hx hb hr hlocks hP hD hS dX5_read_74 rfl rfl
        · refine lv_aload_n hx hb dX5_read_57 rfl (lv_at hl 0 rfl) ?_
          refine lv_iload_n hx hb dX5_read_58 rfl (lv_at hl 1 rfl) ?_
          obtain ⟨r59, x_cl_59, x_ln_59, x_pt_59, x_code_59, x_st_59, x_en_59, x_rows_59, e_fault_59, e_place_59, e_at_59, e_law_59, hg59, hf⟩ := ob12_some hf
          refine mcVE_i (wr := [(qb1, .inl (cB, 300, .inl b_by))]) (As := [.int x2]) (rest := []) hx hb hml hown hts hK hP hD hS hA hE (k_X5_clause l N D cI cJ cZ cB cT qb0 qb2 qb3 qb4 qx0 qx1 qx2 qx3 qx4 qe0 qb1 b_len b_tok b_ki b_pl b_nu x_cl x_ln x_pt x_code x_st x_en x_rows e_fault e_place e_at e_law x2 r59 x_cl_59 x_ln_59 x_pt_59 x_code_59 x_st_59 x_en_59 x_rows_59 e_fault_59 e_place_59 e_at_59 e_law_59 hg59) (kwX5_46 hts rfl rfl ⟨Nat.le_of_ble_eq_true rfl, Nat.le_of_ble_eq_true rfl⟩) [0, 2, 3, 4, 5, 6, 7, 8, 9, 10] [1] rfl rfl rfl (by decide) rfl 9 rfl rfl rfl rfl hl.1 rfl (Nat.le_of_ble_eq_true rfl) dX5_read_59 ⟨Nat.zero_le _, Nat.zero_le _⟩ (fun hB59 H locs hP hD hS => ?_)
          have hP := mP_sub (wc := (W_RDR_0t10 qb0 qb1 qb2 qb3 qb4 qx0 qx1 qx2 qx3 qx4 qe0 cI cJ cZ cB cT b_len b_tok b_by b_ki b_pl b_nu x_cl_59 x_ln_59 x_pt_59 x_code_59 x_st_59 x_en_59 x_rows_59 e_fault_59 e_place_59 (.ref qx0 : Value) e_at_59 e_law_59)) hP [1, 0, 2, 3, 4, 5, 6, 7, 8, 9, 10] rfl
          have hD := hD.sub (ws' := (W_RDR_0t10 qb0 qb1 qb2 qb3 qb4 qx0 qx1 qx2 qx3 qx4 qe0 cI cJ cZ cB cT b_len b_tok b_by b_ki b_pl b_nu x_cl_59 x_ln_59 x_pt_59 x_code_59 x_st_59 x_en_59 x_rows_59 e_fault_59 e_place_59 (.ref qx0 : Value) e_at_59 e_law_59)) [1, 0, 2, 3, 4, 5, 6, 7, 8, 9, 10] rfl rfl
          refine xif_ne hx hb 67 dX5_read_62 (by decide) hf (fun hf => ?_) (fun hf => ?_)
          · refine lv_iconst (v := (0 : Int32)) hx hb dX5_read_65 (by decide) ?_
            cases hf
            exact mret_z hx hb hr hlocks hP hD hS dX5_read_66 rfl rfl
          · refine lv_iinc (v := (x2 + (1 : Int32))) (lv' := [(2, .int (x2 + (1 : Int32))), (0, .ref qe0)]) hx hb dX5_read_67 hl (k := 1) rfl rfl (by decide) rfl (fun ls hl => ?_)
            refine lv_goto (tgt := 42) hx hb dX5_read_70 (by decide) ?_
            exact ih42 b_tok b_ki b_pl b_nu x_cl_59 x_ln_59 x_pt_59 x_code_59 x_st_59 x_en_59 x_rows_59 e_fault_59 e_place_59 e_at_59 e_law_59 (x2 + (1 : Int32)) _ _ _ hf hP hD hS (lv_sub hl [1, 0] rfl)
  unfold f_X5_read at hf
  refine lv_aload_n hx hb dX5_read_0 rfl (lv_at hl 1 rfl) ?_
  refine lv_ifnonnull (tgt := 6) hx hb dX5_read_1 (by decide) ?_
  refine lv_aload_n hx hb dX5_read_6 rfl (lv_at hl 0 rfl) ?_
  refine lv_aload_n hx hb dX5_read_7 rfl (lv_at hl 1 rfl) ?_
  refine pfX5_18 hx hb hts hown hK hP hD hS 10 rfl (Nat.le_of_ble_eq_true rfl) dX5_read_8 (fun H locs hP hD hS => ?_)
  have hP : va_P D vwCl (W_RDR_0t10 qb0 qb1 qb2 qb3 qb4 qx0 qx1 qx2 qx3 qx4 qe0 cI cJ cZ cB cT b_len b_tok b_by b_ki b_pl b_nu x_cl x_ln x_pt x_code x_st x_en x_rows e_fault e_place (.ref qx0 : Value) e_at e_law) H := hP
  have hD : va_D A (W_RDR_0t10 qb0 qb1 qb2 qb3 qb4 qx0 qx1 qx2 qx3 qx4 qe0 cI cJ cZ cB cT b_len b_tok b_by b_ki b_pl b_nu x_cl x_ln x_pt x_code x_st x_en x_rows e_fault e_place (.ref qx0 : Value) e_at e_law) := hD
  refine lv_aload_n hx hb dX5_read_11 rfl (lv_at hl 0 rfl) ?_
  refine gfX5_18 hx hb hts hown hK hP 10 rfl rfl dX5_read_12 ?_
  obtain ⟨x_cl_15, x_ln_15, x_pt_15, x_st_15, x_en_15, hg15, hf⟩ := ob5_some hf
  refine mcV_v (wr := [(qb0, .inr (8, [.int b_len, .int b_tok, .ref qb1, .ref qb2, .ref qb3, .ref qb4])), (qb1, .inl (cB, 300, .inl b_by)), (qb2, .inl (cI, 301, .inl b_ki)), (qb3, .inl (cI, 301, .inl b_pl)), (qb4, .inl (cI, 301, .inl b_nu)), (qx1, .inl (cI, 301, .inl x_code)), (qx4, .inl (cI, 120, .inl x_rows)), (qe0, .inr (5, [.int e_fault, .int e_place, .ref qb0, (.ref qx0 : Value), .int e_at, .int e_law]))]) (As := []) (rest := []) hx hb hml hown hts hK hP hD hS hA (k_X9_empty l N D cI cJ cZ cB cT qx0 qx2 qx3 qx1 qx4 x_cl x_ln x_pt x_st x_en x_cl_15 x_ln_15 x_pt_15 x_st_15 x_en_15 hg15) (kwX5_32 hts rfl rfl ⟨Nat.le_of_ble_eq_true rfl, Nat.le_of_ble_eq_true rfl⟩) [5, 7, 8] [0, 1, 2, 3, 4, 6, 9, 10] rfl rfl rfl (by decide) rfl 0 rfl rfl rfl rfl hl.1 rfl (Nat.le_of_ble_eq_true rfl) dX5_read_15 ⟨Nat.zero_le _, Nat.zero_le _⟩ (fun H locs hP hD hS => ?_)
  have hP := mP_sub (wc := (W_RDR_0t10 qb0 qb1 qb2 qb3 qb4 qx0 qx1 qx2 qx3 qx4 qe0 cI cJ cZ cB cT b_len b_tok b_by b_ki b_pl b_nu x_cl_15 x_ln_15 x_pt_15 x_code x_st_15 x_en_15 x_rows e_fault e_place (.ref qx0 : Value) e_at e_law)) hP [0, 1, 2, 3, 4, 8, 5, 9, 10, 6, 7] rfl
  have hD := hD.sub (ws' := (W_RDR_0t10 qb0 qb1 qb2 qb3 qb4 qx0 qx1 qx2 qx3 qx4 qe0 cI cJ cZ cB cT b_len b_tok b_by b_ki b_pl b_nu x_cl_15 x_ln_15 x_pt_15 x_code x_st_15 x_en_15 x_rows e_fault e_place (.ref qx0 : Value) e_at e_law)) [0, 1, 2, 3, 4, 8, 5, 9, 10, 6, 7] rfl rfl
  refine lv_aload_n hx hb dX5_read_18 rfl (lv_at hl 0 rfl) ?_
  refine gfX5_28 hx hb hts hown hK hP 10 rfl rfl dX5_read_19 ?_
  obtain ⟨b_tok_22, b_ki_22, b_pl_22, b_nu_22, hg22, hf⟩ := ob4_some hf
  refine mcVE_v (wr := [(qx0, .inr (9, [.int x_cl_15, .int x_ln_15, .int x_pt_15, .ref qx1, .ref qx2, .ref qx3, .ref qx4])), (qx1, .inl (cI, 301, .inl x_code)), (qx2, .inl (cI, 4, .inl x_st_15)), (qx3, .inl (cI, 4, .inl x_en_15)), (qx4, .inl (cI, 120, .inl x_rows)), (qe0, .inr (5, [.int e_fault, .int e_place, .ref qb0, (.ref qx0 : Value), .int e_at, .int e_law]))]) (As := []) (rest := []) hx hb hml hown hts hK hP hD hS hA hE (k_X8_split l N D cI cJ cZ cB cT qb0 qb1 qb2 qb3 qb4 b_len b_tok b_by b_ki b_pl b_nu b_tok_22 b_ki_22 b_pl_22 b_nu_22 hg22) (kwX5_37 hts rfl rfl ⟨Nat.le_of_ble_eq_true rfl, Nat.le_of_ble_eq_true rfl⟩) [0, 1, 2, 3, 4] [5, 6, 7, 8, 9, 10] rfl rfl rfl (by decide) rfl 0 rfl rfl rfl rfl hl.1 rfl (Nat.le_of_ble_eq_true rfl) dX5_read_22 ⟨Nat.zero_le _, Nat.zero_le _⟩ (fun H locs hP hD hS => ?_)
  have hP := mP_sub (wc := (W_RDR_0t10 qb0 qb1 qb2 qb3 qb4 qx0 qx1 qx2 qx3 qx4 qe0 cI cJ cZ cB cT b_len b_tok_22 b_by b_ki_22 b_pl_22 b_nu_22 x_cl_15 x_ln_15 x_pt_15 x_code x_st_15 x_en_15 x_rows e_fault e_place (.ref qx0 : Value) e_at e_law)) hP [6, 7, 8, 9, 10, 0, 1, 2, 3, 4, 5] rfl
  have hD := hD.sub (ws' := (W_RDR_0t10 qb0 qb1 qb2 qb3 qb4 qx0 qx1 qx2 qx3 qx4 qe0 cI cJ cZ cB cT b_len b_tok_22 b_by b_ki_22 b_pl_22 b_nu_22 x_cl_15 x_ln_15 x_pt_15 x_code x_st_15 x_en_15 x_rows e_fault e_place (.ref qx0 : Value) e_at e_law)) [6, 7, 8, 9, 10, 0, 1, 2, 3, 4, 5] rfl rfl
  refine lv_aload_n hx hb dX5_read_25 rfl (lv_at hl 0 rfl) ?_
  refine lv_iconst (v := (0 : Int32)) hx hb dX5_read_26 (by decide) ?_
  refine pfX5_22 hx hb hts hown hK hP hD hS 10 rfl (Nat.le_of_ble_eq_true rfl) dX5_read_27 (fun H locs hP hD hS => ?_)
  have hP : va_P D vwCl (W_RDR_0t10 qb0 qb1 qb2 qb3 qb4 qx0 qx1 qx2 qx3 qx4 qe0 cI cJ cZ cB cT b_len b_tok_22 b_by b_ki_22 b_pl_22 b_nu_22 x_cl_15 x_ln_15 x_pt_15 x_code x_st_15 x_en_15 x_rows e_fault e_place (.ref qx0 : Value) (0 : Int32) e_law) H := hP
  have hD : va_D A (W_RDR_0t10 qb0 qb1 qb2 qb3 qb4 qx0 qx1 qx2 qx3 qx4 qe0 cI cJ cZ cB cT b_len b_tok_22 b_by b_ki_22 b_pl_22 b_nu_22 x_cl_15 x_ln_15 x_pt_15 x_code x_st_15 x_en_15 x_rows e_fault e_place (.ref qx0 : Value) (0 : Int32) e_law) := hD
  refine lv_aload_n hx hb dX5_read_30 rfl (lv_at hl 0 rfl) ?_
  refine lv_iconst (v := (0 : Int32)) hx hb dX5_read_31 (by decide) ?_
  refine pfX5_9 hx hb hts hown hK hP hD hS 10 rfl (Nat.le_of_ble_eq_true rfl) dX5_read_32 (fun H locs hP hD hS => ?_)
  have hP : va_P D vwCl (W_RDR_0t10 qb0 qb1 qb2 qb3 qb4 qx0 qx1 qx2 qx3 qx4 qe0 cI cJ cZ cB cT b_len b_tok_22 b_by b_ki_22 b_pl_22 b_nu_22 x_cl_15 x_ln_15 x_pt_15 x_code x_st_15 x_en_15 x_rows (0 : Int32) e_place (.ref qx0 : Value) (0 : Int32) e_law) H := hP
  have hD : va_D A (W_RDR_0t10 qb0 qb1 qb2 qb3 qb4 qx0 qx1 qx2 qx3 qx4 qe0 cI cJ cZ cB cT b_len b_tok_22 b_by b_ki_22 b_pl_22 b_nu_22 x_cl_15 x_ln_15 x_pt_15 x_code x_st_15 x_en_15 x_rows (0 : Int32) e_place (.ref qx0 : Value) (0 : Int32) e_law) := hD
  refine lv_aload_n hx hb dX5_read_35 rfl (lv_at hl 0 rfl) ?_
  refine lv_iconst (v := (-1 : Int32)) hx hb dX5_read_36 (by decide) ?_
  refine pfX5_15 hx hb hts hown hK hP hD hS 10 rfl (Nat.le_of_ble_eq_true rfl) dX5_read_37 (fun H locs hP hD hS => ?_)
  have hP : va_P D vwCl (W_RDR_0t10 qb0 qb1 qb2 qb3 qb4 qx0 qx1 qx2 qx3 qx4 qe0 cI cJ cZ cB cT b_len b_tok_22 b_by b_ki_22 b_pl_22 b_nu_22 x_cl_15 x_ln_15 x_pt_15 x_code x_st_15 x_en_15 x_rows (0 : Int32) (-1 : Int32) (.ref qx0 : Value) (0 : Int32) e_law) H := hP
  have hD : va_D A (W_RDR_0t10 qb0 qb1 qb2 qb3 qb4 qx0 qx1 qx2 qx3 qx4 qe0 cI cJ cZ cB cT b_len b_tok_22 b_by b_ki_22 b_pl_22 b_nu_22 x_cl_15 x_ln_15 x_pt_15 x_code x_st_15 x_en_15 x_rows (0 : Int32) (-1 : Int32) (.ref qx0 : Value) (0 : Int32) e_law) := hD
  refine lv_iconst (v := (0 : Int32)) hx hb dX5_read_40 (by decide) ?_
  refine lv_istore_n (lv' := [(2, .int (0 : Int32)), (0, .ref qe0), (1, .ref qx0)]) hx hb dX5_read_41 rfl hl (by decide) rfl (fun ls hl => ?_)
  exact b42 N b_tok_22 b_ki_22 b_pl_22 b_nu_22 x_cl_15 x_ln_15 x_pt_15 x_code x_st_15 x_en_15 x_rows (0 : Int32) (-1 : Int32) (0 : Int32) e_law (0 : Int32) _ _ _ hf hP hD hS (lv_sub hl [1, 0] rfl)
