theorem dX11_heirs_0 : decode cX11_heirs 0 = .ok (.aload_n 0, 1) := by decide +kernel
theorem dX11_heirs_1 : decode cX11_heirs 1 = .ok (.getfield 54, 3) := by decide +kernel
theorem dX11_heirs_4 : decode cX11_heirs 4 = .ok (.iload_n 1, 1) := by decide +kernel
theorem dX11_heirs_5 : decode cX11_heirs 5 = .ok (.invokevirtual 238, 3) := by decide +kernel
theorem dX11_heirs_8 : decode cX11_heirs 8 = .ok (.ifCond .ne 5, 3) := by decide +kernel
theorem dX11_heirs_11 : decode cX11_heirs 11 = .ok (.iconst (-1), 1) := by decide +kernel
theorem dX11_heirs_12 : decode cX11_heirs 12 = .ok (.ireturn, 1) := by decide +kernel
theorem dX11_heirs_13 : decode cX11_heirs 13 = .ok (.aload_n 0, 1) := by decide +kernel
theorem dX11_heirs_14 : decode cX11_heirs 14 = .ok (.getfield 54, 3) := by decide +kernel
theorem dX11_heirs_17 : decode cX11_heirs 17 = .ok (.aload_n 0, 1) := by decide +kernel
theorem dX11_heirs_18 : decode cX11_heirs 18 = .ok (.getfield 54, 3) := by decide +kernel
theorem dX11_heirs_21 : decode cX11_heirs 21 = .ok (.iload_n 1, 1) := by decide +kernel
theorem dX11_heirs_22 : decode cX11_heirs 22 = .ok (.iconst 0, 1) := by decide +kernel
theorem dX11_heirs_23 : decode cX11_heirs 23 = .ok (.invokevirtual 239, 3) := by decide +kernel
theorem dX11_heirs_26 : decode cX11_heirs 26 = .ok (.iload_n 1, 1) := by decide +kernel
theorem dX11_heirs_27 : decode cX11_heirs 27 = .ok (.invokevirtual 249, 3) := by decide +kernel
theorem dX11_heirs_30 : decode cX11_heirs 30 = .ok (.ireturn, 1) := by decide +kernel
def f_X11_heirs (N : Nat) (f_row : Nat → Int32) (p1 : Int32) : Option (Int32) := ob1 (f_X1_told N f_row p1) fun r5 => if r5 = 0 then (some (-1 : Int32)) else (ob1 (f_X1_get N f_row p1 (0 : Int32)) fun r23 => ob1 (f_X1_othersIn N f_row r23 p1) fun r27 => some r27)
set_option maxHeartbeats 4000000 in
set_option maxRecDepth 100000 in
theorem k_X11_heirs (l : Launch) (N : Nat) (D : va_G) (cI cJ cZ cB cT : ClassId) (qf0 : Nat) (qf1 : Nat) (qX0 : Nat) (qf2 : Nat) (qf3 : Nat) (qr0 : Nat) (qk0 : Nat) (qT : Nat) (qb0 : Nat) (qe0 : Nat) (qL0 : Nat) (qd0 : Nat) (qn0 : Nat) (qz0 : Nat) (qD0 : Nat) (qh0 : Nat) (qD1 : Nat) (qv0 : Nat) (f_row : Nat → Int32) (p1 : Int32) (o_r : Int32) (hf : f_X11_heirs N f_row p1 = some o_r) : ∀ sz, Met l yX11_heirs (mw yX11_heirs cX11_heirs 2 (some .int)) ({ frames := 1, cells := 0, slots := 0, locals := 25 } : Room) (mPre D (mT cI cJ cZ cB cT) (W_X_3t4_76 qf0 qf1 qX0 qf2 qf3 qr0 qk0 qT qb0 qe0 qL0 qd0 qn0 qz0 qD0 qh0 qD1 qv0 cI cJ cZ cB cT f_row) sz [.ref qX0, .int p1]) ((mQi D (W_X_3t4_76 qf0 qf1 qX0 qf2 qf3 qr0 qk0 qT qb0 qe0 qL0 qd0 qn0 qz0 qD0 qh0 qD1 qv0 cI cJ cZ cB cT f_row) o_r True) (va_A (W_X_3t4_76 qf0 qf1 qX0 qf2 qf3 qr0 qk0 qT qb0 qe0 qL0 qd0 qn0 qz0 qD0 qh0 qD1 qv0 cI cJ cZ cB cT f_row) sz)) 0 0 (va_A (W_X_3t4_76 qf0 qf1 qX0 qf2 qf3 qr0 qk0 qT qb0 qe0 qL0 qd0 qn0 qz0 qD0 qh0 qD1 qv0 cI cJ cZ cB cT f_row) sz) := by
  refine mMet (Qc := (mQi D (W_X_3t4_76 qf0 qf1 qX0 qf2 qf3 qr0 qk0 qT qb0 qe0 qL0 qd0 qn0 qz0 qD0 qh0 qD1 qv0 cI cJ cZ cB cT f_row) o_r True)) (by decide) (Nat.le_of_ble_eq_true rfl) (fun p e s m below meth c A ls hx hb hr hml hts hown hlocks hK hA hP hD hl => ?_)
  have hown : s.vm.findClass RX11 = some m.cls := hown
  have hl : lv_has ls 2 [(0, .ref qX0), (1, .int p1)] := hl
  have hS : va_S A s.heap s.heap [] := va_S.rf
  unfold f_X11_heirs at hf
  refine lv_aload_n hx hb dX11_heirs_0 rfl (lv_at hl 0 rfl) ?_
  refine gfX11_54 hx hb hts hown hK hP 2 rfl rfl dX11_heirs_1 ?_
  refine lv_iload_n hx hb dX11_heirs_4 rfl (lv_at hl 1 rfl) ?_
  obtain ⟨r5, hg5, hf⟩ := ob1_some hf
  refine mcV_i (wr := [(qX0, .inr (11, [.ref qr0, .ref qk0, .ref qT, .ref qb0, .ref qe0, .ref qL0, .ref qf0, .ref qd0, .ref qn0, .ref qz0, .ref qD0, .ref qh0, .ref qD1, .ref qv0]))]) (As := [.int p1]) (rest := []) hx hb hml hown hts hK hP hD hS hA (k_X1_told l N D cI cJ cZ cB cT qf0 qf1 qf2 qf3 f_row p1 r5 hg5) (kwX11_238 hts rfl rfl ⟨Nat.le_of_ble_eq_true rfl, Nat.le_of_ble_eq_true rfl⟩) [0, 1] [2] rfl rfl rfl (by decide) rfl 0 rfl rfl rfl rfl hl.1 rfl (Nat.le_of_ble_eq_true rfl) dX11_heirs_5 ⟨Nat.zero_le _, Nat.zero_le _⟩ (fun hB5 H locs hP hD hS => ?_)
  have hP := mP_sub (wc := (W_X_3t4_76 qf0 qf1 qX0 qf2 qf3 qr0 qk0 qT qb0 qe0 qL0 qd0 qn0 qz0 qD0 qh0 qD1 qv0 cI cJ cZ cB cT f_row)) hP [1, 2, 0] rfl
  have hD := hD.sub (ws' := (W_X_3t4_76 qf0 qf1 qX0 qf2 qf3 qr0 qk0 qT qb0 qe0 qL0 qd0 qn0 qz0 qD0 qh0 qD1 qv0 cI cJ cZ cB cT f_row)) [1, 2, 0] rfl rfl
  refine xif_ne hx hb 13 dX11_heirs_8 (by decide) hf (fun hf => ?_) (fun hf => ?_)
  · refine lv_iconst (v := (-1 : Int32)) hx hb dX11_heirs_11 (by decide) ?_
    cases hf
    exact mret_i hx hb hr hlocks hP hD hS dX11_heirs_12 rfl trivial
  · refine lv_aload_n hx hb dX11_heirs_13 rfl (lv_at hl 0 rfl) ?_
    refine gfX11_54 hx hb hts hown hK hP 2 rfl rfl dX11_heirs_14 ?_
    refine lv_aload_n hx hb dX11_heirs_17 rfl (lv_at hl 0 rfl) ?_
    refine gfX11_54 hx hb hts hown hK hP 2 rfl rfl dX11_heirs_18 ?_
    refine lv_iload_n hx hb dX11_heirs_21 rfl (lv_at hl 1 rfl) ?_
    refine lv_iconst (v := (0 : Int32)) hx hb dX11_heirs_22 (by decide) ?_
    obtain ⟨r23, hg23, hf⟩ := ob1_some hf
    refine mcV_i (wr := [(qX0, .inr (11, [.ref qr0, .ref qk0, .ref qT, .ref qb0, .ref qe0, .ref qL0, .ref qf0, .ref qd0, .ref qn0, .ref qz0, .ref qD0, .ref qh0, .ref qD1, .ref qv0]))]) (As := [.int p1, .int (0 : Int32)]) (rest := [.ref qf0]) hx hb hml hown hts hK hP hD hS hA (k_X1_get l N D cI cJ cZ cB cT qf0 qf1 qf2 qf3 f_row p1 (0 : Int32) r23 hg23) (kwX11_239 hts rfl rfl ⟨Nat.le_of_ble_eq_true rfl, Nat.le_of_ble_eq_true rfl⟩) [0, 1] [2] rfl rfl rfl (by decide) rfl 0 rfl rfl rfl rfl hl.1 rfl (Nat.le_of_ble_eq_true rfl) dX11_heirs_23 ⟨Nat.zero_le _, Nat.zero_le _⟩ (fun hB23 H locs hP hD hS => ?_)
    have hP := mP_sub (wc := (W_X_3t4_76 qf0 qf1 qX0 qf2 qf3 qr0 qk0 qT qb0 qe0 qL0 qd0 qn0 qz0 qD0 qh0 qD1 qv0 cI cJ cZ cB cT f_row)) hP [1, 2, 0] rfl
    have hD := hD.sub (ws' := (W_X_3t4_76 qf0 qf1 qX0 qf2 qf3 qr0 qk0 qT qb0 qe0 qL0 qd0 qn0 qz0 qD0 qh0 qD1 qv0 cI cJ cZ cB cT f_row)) [1, 2, 0] rfl rfl
    refine lv_iload_n hx hb dX11_heirs_26 rfl (lv_at hl 1 rfl) ?_
    obtain ⟨r27, hg27, hf⟩ := ob1_some hf
    refine mcV_i (wr := [(qX0, .inr (11, [.ref qr0, .ref qk0, .ref qT, .ref qb0, .ref qe0, .ref qL0, .ref qf0, .ref qd0, .ref qn0, .ref qz0, .ref qD0, .ref qh0, .ref qD1, .ref qv0]))]) (As := [.int r23, .int p1]) (rest := []) hx hb hml hown hts hK hP hD hS hA (k_X1_othersIn l N D cI cJ cZ cB cT qf0 qf1 qf2 qf3 f_row r23 p1 r27 hg27) (kwX11_249 hts rfl rfl ⟨Nat.le_of_ble_eq_true rfl, Nat.le_of_ble_eq_true rfl⟩) [0, 1] [2] rfl rfl rfl (by decide) rfl 0 rfl rfl rfl rfl hl.1 rfl (Nat.le_of_ble_eq_true rfl) dX11_heirs_27 ⟨Nat.zero_le _, Nat.zero_le _⟩ (fun hB27 H locs hP hD hS => ?_)
    have hP := mP_sub (wc := (W_X_3t4_76 qf0 qf1 qX0 qf2 qf3 qr0 qk0 qT qb0 qe0 qL0 qd0 qn0 qz0 qD0 qh0 qD1 qv0 cI cJ cZ cB cT f_row)) hP [1, 2, 0] rfl
    have hD := hD.sub (ws' := (W_X_3t4_76 qf0 qf1 qX0 qf2 qf3 qr0 qk0 qT qb0 qe0 qL0 qd0 qn0 qz0 qD0 qh0 qD1 qv0 cI cJ cZ cB cT f_row)) [1, 2, 0] rfl rfl
    cases hf
    exact mret_i hx hb hr hlocks hP hD hS dX11_heirs_30 rfl trivial
theorem dX11_feared_0 : decode cX11_feared 0 = .ok (.aload_n 0, 1) := by decide +kernel
theorem dX11_feared_1 : decode cX11_feared 1 = .ok (.getfield 54, 3) := by decide +kernel
theorem dX11_feared_4 : decode cX11_feared 4 = .ok (.invokevirtual 362, 3) := by decide +kernel
theorem dX11_feared_7 : decode cX11_feared 7 = .ok (.istore_n 1, 1) := by decide +kernel
theorem dX11_feared_8 : decode cX11_feared 8 = .ok (.iconst (-1), 1) := by decide +kernel
theorem dX11_feared_9 : decode cX11_feared 9 = .ok (.istore_n 2, 1) := by decide +kernel
theorem dX11_feared_10 : decode cX11_feared 10 = .ok (.iconst 0, 1) := by decide +kernel
theorem dX11_feared_11 : decode cX11_feared 11 = .ok (.istore_n 3, 1) := by decide +kernel
theorem dX11_feared_12 : decode cX11_feared 12 = .ok (.iconst 0, 1) := by decide +kernel
theorem dX11_feared_13 : decode cX11_feared 13 = .ok (.istore 4, 2) := by decide +kernel
theorem dX11_feared_15 : decode cX11_feared 15 = .ok (.iload 4, 2) := by decide +kernel
theorem dX11_feared_17 : decode cX11_feared 17 = .ok (.aload_n 0, 1) := by decide +kernel
theorem dX11_feared_18 : decode cX11_feared 18 = .ok (.getfield 54, 3) := by decide +kernel
theorem dX11_feared_21 : decode cX11_feared 21 = .ok (.invokevirtual 217, 3) := by decide +kernel
theorem dX11_feared_24 : decode cX11_feared 24 = .ok (.if_icmp .ge 69, 3) := by decide +kernel
theorem dX11_feared_27 : decode cX11_feared 27 = .ok (.aload_n 0, 1) := by decide +kernel
theorem dX11_feared_28 : decode cX11_feared 28 = .ok (.getfield 54, 3) := by decide +kernel
theorem dX11_feared_31 : decode cX11_feared 31 = .ok (.iload 4, 2) := by decide +kernel
theorem dX11_feared_33 : decode cX11_feared 33 = .ok (.bipush 6, 2) := by decide +kernel
theorem dX11_feared_35 : decode cX11_feared 35 = .ok (.invokevirtual 239, 3) := by decide +kernel
theorem dX11_feared_38 : decode cX11_feared 38 = .ok (.iconst 3, 1) := by decide +kernel
theorem dX11_feared_39 : decode cX11_feared 39 = .ok (.if_icmp .ne 6, 3) := by decide +kernel
theorem dX11_feared_42 : decode cX11_feared 42 = .ok (.goto 45, 3) := by decide +kernel
theorem dX11_feared_45 : decode cX11_feared 45 = .ok (.aload_n 0, 1) := by decide +kernel
theorem dX11_feared_46 : decode cX11_feared 46 = .ok (.getfield 54, 3) := by decide +kernel
theorem dX11_feared_49 : decode cX11_feared 49 = .ok (.aload_n 0, 1) := by decide +kernel
theorem dX11_feared_50 : decode cX11_feared 50 = .ok (.getfield 54, 3) := by decide +kernel
theorem dX11_feared_53 : decode cX11_feared 53 = .ok (.iload 4, 2) := by decide +kernel
theorem dX11_feared_55 : decode cX11_feared 55 = .ok (.iconst 0, 1) := by decide +kernel
theorem dX11_feared_56 : decode cX11_feared 56 = .ok (.invokevirtual 239, 3) := by decide +kernel
theorem dX11_feared_59 : decode cX11_feared 59 = .ok (.iload 4, 2) := by decide +kernel
theorem dX11_feared_61 : decode cX11_feared 61 = .ok (.invokevirtual 249, 3) := by decide +kernel
theorem dX11_feared_64 : decode cX11_feared 64 = .ok (.istore 5, 2) := by decide +kernel
theorem dX11_feared_66 : decode cX11_feared 66 = .ok (.iload 5, 2) := by decide +kernel
theorem dX11_feared_68 : decode cX11_feared 68 = .ok (.iload_n 1, 1) := by decide +kernel
theorem dX11_feared_69 : decode cX11_feared 69 = .ok (.iand, 1) := by decide +kernel
theorem dX11_feared_70 : decode cX11_feared 70 = .ok (.invokestatic 252, 3) := by decide +kernel
theorem dX11_feared_73 : decode cX11_feared 73 = .ok (.istore 6, 2) := by decide +kernel
theorem dX11_feared_75 : decode cX11_feared 75 = .ok (.iload 6, 2) := by decide +kernel
theorem dX11_feared_77 : decode cX11_feared 77 = .ok (.iload_n 3, 1) := by decide +kernel
theorem dX11_feared_78 : decode cX11_feared 78 = .ok (.if_icmp .le 9, 3) := by decide +kernel
theorem dX11_feared_81 : decode cX11_feared 81 = .ok (.iload 6, 2) := by decide +kernel
theorem dX11_feared_83 : decode cX11_feared 83 = .ok (.istore_n 3, 1) := by decide +kernel
theorem dX11_feared_84 : decode cX11_feared 84 = .ok (.iload 4, 2) := by decide +kernel
theorem dX11_feared_86 : decode cX11_feared 86 = .ok (.istore_n 2, 1) := by decide +kernel
theorem dX11_feared_87 : decode cX11_feared 87 = .ok (.iinc 4 1, 3) := by decide +kernel
theorem dX11_feared_90 : decode cX11_feared 90 = .ok (.goto (-75), 3) := by decide +kernel
theorem dX11_feared_93 : decode cX11_feared 93 = .ok (.iload_n 2, 1) := by decide +kernel
theorem dX11_feared_94 : decode cX11_feared 94 = .ok (.ireturn, 1) := by decide +kernel
def f_X11_feared_87 (N : Nat) (k_15 : (Nat → Int32) → Int32 → Int32 → Int32 → Int32 → Option (Int32)) (f_row : Nat → Int32) (x1 : Int32) (x2 : Int32) (x3 : Int32) (x4 : Int32) : Option (Int32) := k_15 f_row x1 x2 x3 (x4 + (1 : Int32))
def f_X11_feared_15 (N : Nat) : Nat → (Nat → Int32) → Int32 → Int32 → Int32 → Int32 → Option (Int32)
  | 0, _, _, _, _, _ => none
  | n + 1, f_row, x1, x2, x3, x4 => ob1 (f_X1_count N f_row) fun r21 => if r21 ≤ x4 then (some x2) else (ob1 (f_X1_get N f_row x4 (6 : Int32)) fun r35 => if r35 = (3 : Int32) then (f_X11_feared_87 N (f_X11_feared_15 N n) f_row x1 x2 x3 x4) else (ob1 (f_X1_get N f_row x4 (0 : Int32)) fun r56 => ob1 (f_X1_othersIn N f_row r56 x4) fun r61 => ob1 (f_J6_bitCount_0f7a4 N (r61 &&& x1)) fun r70 => if r70 ≤ x3 then (f_X11_feared_87 N (f_X11_feared_15 N n) f_row x1 x2 x3 x4) else (f_X11_feared_87 N (f_X11_feared_15 N n) f_row x1 x4 r70 x4)))
def f_X11_feared (N : Nat) (f_row : Nat → Int32) : Option (Int32) := ob1 (f_X1_outlaws N f_row) fun r4 => f_X11_feared_15 N N f_row r4 (-1 : Int32) (0 : Int32) (0 : Int32)
set_option maxHeartbeats 4000000 in
set_option maxRecDepth 100000 in
theorem k_X11_feared (l : Launch) (N : Nat) (D : va_G) (cI cJ cZ cB cT : ClassId) (qf0 : Nat) (qf1 : Nat) (qX0 : Nat) (qf2 : Nat) (qf3 : Nat) (qr0 : Nat) (qk0 : Nat) (qT : Nat) (qb0 : Nat) (qe0 : Nat) (qL0 : Nat) (qd0 : Nat) (qn0 : Nat) (qz0 : Nat) (qD0 : Nat) (qh0 : Nat) (qD1 : Nat) (qv0 : Nat) (f_row : Nat → Int32) (o_r : Int32) (hf : f_X11_feared N f_row = some o_r) : ∀ sz, Met l yX11_feared (mw yX11_feared cX11_feared 7 (some .int)) ({ frames := 2, cells := 0, slots := 0, locals := 45 } : Room) (mPre D (mT cI cJ cZ cB cT) (W_X_3t4_76 qf0 qf1 qX0 qf2 qf3 qr0 qk0 qT qb0 qe0 qL0 qd0 qn0 qz0 qD0 qh0 qD1 qv0 cI cJ cZ cB cT f_row) sz [.ref qX0]) ((mQi D (W_X_3t4_76 qf0 qf1 qX0 qf2 qf3 qr0 qk0 qT qb0 qe0 qL0 qd0 qn0 qz0 qD0 qh0 qD1 qv0 cI cJ cZ cB cT f_row) o_r True) (va_A (W_X_3t4_76 qf0 qf1 qX0 qf2 qf3 qr0 qk0 qT qb0 qe0 qL0 qd0 qn0 qz0 qD0 qh0 qD1 qv0 cI cJ cZ cB cT f_row) sz)) 0 0 (va_A (W_X_3t4_76 qf0 qf1 qX0 qf2 qf3 qr0 qk0 qT qb0 qe0 qL0 qd0 qn0 qz0 qD0 qh0 qD1 qv0 cI cJ cZ cB cT f_row) sz) := by
  refine mMet (Qc := (mQi D (W_X_3t4_76 qf0 qf1 qX0 qf2 qf3 qr0 qk0 qT qb0 qe0 qL0 qd0 qn0 qz0 qD0 qh0 qD1 qv0 cI cJ cZ cB cT f_row) o_r True)) (by decide) (Nat.le_of_ble_eq_true rfl) (fun p e s m below meth c A ls hx hb hr hml hts hown hlocks hK hA hP hD hl => ?_)
  have hown : s.vm.findClass RX11 = some m.cls := hown
  have hl : lv_has ls 7 [(0, .ref qX0)] := hl
  have hS : va_S A s.heap s.heap [] := va_S.rf
  have b15 : ∀ n15 : Nat, ∀ (x1 : Int32) (x2 : Int32) (x3 : Int32) (x4 : Int32) (H : Heap) (locs : List Loc) (ls : Array Slot), f_X11_feared_15 N n15 f_row x1 x2 x3 x4 = some o_r → va_P D vwCl (W_X_3t4_76 qf0 qf1 qX0 qf2 qf3 qr0 qk0 qT qb0 qe0 qL0 qd0 qn0 qz0 qD0 qh0 qD1 qv0 cI cJ cZ cB cT f_row) H → va_D A (W_X_3t4_76 qf0 qf1 qX0 qf2 qf3 qr0 qk0 qT qb0 qe0 qL0 qd0 qn0 qz0 qD0 qh0 qD1 qv0 cI cJ cZ cB cT f_row) → va_S A s.heap H locs → lv_has ls 7 [(0, .ref qX0), (1, .int x1), (2, .int x2), (3, .int x3), (4, .int x4)] → W p l e ({ frames := 2, cells := 0, slots := 0, locals := 45 } : Room) s m ([.ref qX0] : List Value).toArray below meth c H locs 0 0 (MQ below ((mQi D (W_X_3t4_76 qf0 qf1 qX0 qf2 qf3 qr0 qk0 qT qb0 qe0 qL0 qd0 qn0 qz0 qD0 qh0 qD1 qv0 cI cJ cZ cB cT f_row) o_r True) A) ([.ref qX0] : List Value).toArray s 0 0 A) (F0 m 15 ls []) := by
    intro n15
    induction n15 with
    | zero =>
      intro x1 x2 x3 x4 H locs ls hf hP hD hS hl
      simp [f_X11_feared_15] at hf
    | succ n15 ih15 =>
      have b87 : ∀ (x1 : Int32) (x2 : Int32) (x3 : Int32) (x4 : Int32) (H : Heap) (locs : List Loc) (ls : Array Slot), f_X11_feared_87 N (f_X11_feared_15 N n15) f_row x1 x2 x3 x4 = some o_r → va_P D vwCl (W_X_3t4_76 qf0 qf1 qX0 qf2 qf3 qr0 qk0 qT qb0 qe0 qL0 qd0 qn0 qz0 qD0 qh0 qD1 qv0 cI cJ cZ cB cT f_row) H → va_D A (W_X_3t4_76 qf0 qf1 qX0 qf2 qf3 qr0 qk0 qT qb0 qe0 qL0 qd0 qn0 qz0 qD0 qh0 qD1 qv0 cI cJ cZ cB cT f_row) → va_S A s.heap H locs → lv_has ls 7 [(0, .ref qX0), (1, .int x1), (2, .int x2), (3, .int x3), (4, .int x4)] → W p l e ({ frames := 2, cells := 0, slots := 0, locals := 45 } : Room) s m ([.ref qX0] : List Value).toArray below meth c H locs 0 0 (MQ below ((mQi D (W_X_3t4_76 qf0 qf1 qX0 qf2 qf3 qr0 qk0 qT qb0 qe0 qL0 qd0 qn0 qz0 qD0 qh0 qD1 qv0 cI cJ cZ cB cT f_row) o_r True) A) ([.ref qX0] : List Value).toArray s 0 0 A) (F0 m 87 ls []) := by
        intro x1 x2 x3 x4 H locs ls hf hP hD hS hl
        unfold f_X11_feared_87 at hf
        refine lv_iinc (v := (x4 + (1 : Int32))) (lv' := [(4, .int (x4 + (1 : Int32))), (0, .ref qX0), (1, .int x1), (2, .int x2), (3, .int x3)]) hx hb dX11_feared_87 hl (k := 4) rfl rfl (by decide) rfl (fun ls hl => ?_)
        refine lv_goto (tgt := 15) hx hb dX11_feared_90 (by decide) ?_
        exact ih15 x1 x2 x3 (x4 + (1 : Int32)) _ _ _ hf hP hD hS (lv_sub hl [1, 2, 3, 4, 0] rfl)
      intro x1 x2 x3 x4 H locs ls hf hP hD hS hl
      rw [f_X11_feared_15.eq_2] at hf
      refine lv_iload hx hb dX11_feared_15 (lv_at hl 4 rfl) ?_
      refine lv_aload_n hx hb dX11_feared_17 rfl (lv_at hl 0 rfl) ?_
      refine gfX11_54 hx hb hts hown hK hP 2 rfl rfl dX11_feared_18 ?_
      obtain ⟨r21, hg21, hf⟩ := ob1_some hf
      refine mcV_i (wr := [(qX0, .inr (11, [.ref qr0, .ref qk0, .ref qT, .ref qb0, .ref qe0, .ref qL0, .ref qf0, .ref qd0, .ref qn0, .ref qz0, .ref qD0, .ref qh0, .ref qD1, .ref qv0]))]) (As := []) (rest := [.int x4]) hx hb hml hown hts hK hP hD hS hA (k_X1_count l N D cI cJ cZ cB cT qf0 qf1 qf2 qf3 f_row r21 hg21) (kwX11_217 hts rfl rfl ⟨Nat.le_of_ble_eq_true rfl, Nat.le_of_ble_eq_true rfl⟩) [0, 1] [2] rfl rfl rfl (by decide) rfl 0 rfl rfl rfl rfl hl.1 rfl (Nat.le_of_ble_eq_true rfl) dX11_feared_21 ⟨Nat.zero_le _, Nat.zero_le _⟩ (fun hB21 H locs hP hD hS => ?_)
      have hP := mP_sub (wc := (W_X_3t4_76 qf0 qf1 qX0 qf2 qf3 qr0 qk0 qT qb0 qe0 qL0 qd0 qn0 qz0 qD0 qh0 qD1 qv0 cI cJ cZ cB cT f_row)) hP [1, 2, 0] rfl
      have hD := hD.sub (ws' := (W_X_3t4_76 qf0 qf1 qX0 qf2 qf3 qr0 qk0 qT qb0 qe0 qL0 qd0 qn0 qz0 qD0 qh0 qD1 qv0 cI cJ cZ cB cT f_row)) [1, 2, 0] rfl rfl
      refine xicmp_ge hx hb 93 dX11_feared_24 (by decide) hf (fun hf => ?_) (fun hf => ?_)
      · refine lv_iload_n hx hb dX11_feared_93 rfl (lv_at hl 2 rfl) ?_
        cases hf
        exact mret_i hx hb hr hlocks hP hD hS dX11_feared_94 rfl trivial
      · refine lv_aload_n hx hb dX11_feared_27 rfl (lv_at hl 0 rfl) ?_
        refine gfX11_54 hx hb hts hown hK hP 2 rfl rfl dX11_feared_28 ?_
        refine lv_iload hx hb dX11_feared_31 (lv_at hl 4 rfl) ?_
        refine lv_bipush (v := (6 : Int32)) hx hb dX11_feared_33 (by decide) ?_
        obtain ⟨r35, hg35, hf⟩ := ob1_some hf
        refine mcV_i (wr := [(qX0, .inr (11, [.ref qr0, .ref qk0, .ref qT, .ref qb0, .ref qe0, .ref qL0, .ref qf0, .ref qd0, .ref qn0, .ref qz0, .ref qD0, .ref qh0, .ref qD1, .ref qv0]))]) (As := [.int x4, .int (6 : Int32)]) (rest := []) hx hb hml hown hts hK hP hD hS hA (k_X1_get l N D cI cJ cZ cB cT qf0 qf1 qf2 qf3 f_row x4 (6 : Int32) r35 hg35) (kwX11_239 hts rfl rfl ⟨Nat.le_of_ble_eq_true rfl, Nat.le_of_ble_eq_true rfl⟩) [0, 1] [2] rfl rfl rfl (by decide) rfl 0 rfl rfl rfl rfl hl.1 rfl (Nat.le_of_ble_eq_true rfl) dX11_feared_35 ⟨Nat.zero_le _, Nat.zero_le _⟩ (fun hB35 H locs hP hD hS => ?_)
        have hP := mP_sub (wc := (W_X_3t4_76 qf0 qf1 qX0 qf2 qf3 qr0 qk0 qT qb0 qe0 qL0 qd0 qn0 qz0 qD0 qh0 qD1 qv0 cI cJ cZ cB cT f_row)) hP [1, 2, 0] rfl
        have hD := hD.sub (ws' := (W_X_3t4_76 qf0 qf1 qX0 qf2 qf3 qr0 qk0 qT qb0 qe0 qL0 qd0 qn0 qz0 qD0 qh0 qD1 qv0 cI cJ cZ cB cT f_row)) [1, 2, 0] rfl rfl
        refine lv_iconst (v := (3 : Int32)) hx hb dX11_feared_38 (by decide) ?_
        refine xicmp_ne hx hb 45 dX11_feared_39 (by decide) hf (fun hf => ?_) (fun hf => ?_)
        · refine lv_goto (tgt := 87) hx hb dX11_feared_42 (by decide) ?_
          exact b87 x1 x2 x3 x4 _ _ _ hf hP hD hS (lv_sub hl [0, 1, 2, 3, 4] rfl)
        · refine lv_aload_n hx hb dX11_feared_45 rfl (lv_at hl 0 rfl) ?_
          refine gfX11_54 hx hb hts hown hK hP 2 rfl rfl dX11_feared_46 ?_
          refine lv_aload_n hx hb dX11_feared_49 rfl (lv_at hl 0 rfl) ?_
          refine gfX11_54 hx hb hts hown hK hP 2 rfl rfl dX11_feared_50 ?_
          refine lv_iload hx hb dX11_feared_53 (lv_at hl 4 rfl) ?_
          refine lv_iconst (v := (0 : Int32)) hx hb dX11_feared_55 (by decide) ?_
          obtain ⟨r56, hg56, hf⟩ := ob1_some hf
          refine mcV_i (wr := [(qX0, .inr (11, [.ref qr0, .ref qk0, .ref qT, .ref qb0, .ref qe0, .ref qL0, .ref qf0, .ref qd0, .ref qn0, .ref qz0, .ref qD0, .ref qh0, .ref qD1, .ref qv0]))]) (As := [.int x4, .int (0 : Int32)]) (rest := [.ref qf0]) hx hb hml hown hts hK hP hD hS hA (k_X1_get l N D cI cJ cZ cB cT qf0 qf1 qf2 qf3 f_row x4 (0 : Int32) r56 hg56) (kwX11_239 hts rfl rfl ⟨Nat.le_of_ble_eq_true rfl, Nat.le_of_ble_eq_true rfl⟩) [0, 1] [2] rfl rfl rfl (by decide) rfl 0 rfl rfl rfl rfl hl.1 rfl (Nat.le_of_ble_eq_true rfl) dX11_feared_56 ⟨Nat.zero_le _, Nat.zero_le _⟩ (fun hB56 H locs hP hD hS => ?_)
          have hP := mP_sub (wc := (W_X_3t4_76 qf0 qf1 qX0 qf2 qf3 qr0 qk0 qT qb0 qe0 qL0 qd0 qn0 qz0 qD0 qh0 qD1 qv0 cI cJ cZ cB cT f_row)) hP [1, 2, 0] rfl
          have hD := hD.sub (ws' := (W_X_3t4_76 qf0 qf1 qX0 qf2 qf3 qr0 qk0 qT qb0 qe0 qL0 qd0 qn0 qz0 qD0 qh0 qD1 qv0 cI cJ cZ cB cT f_row)) [1, 2, 0] rfl rfl
          refine lv_iload hx hb dX11_feared_59 (lv_at hl 4 rfl) ?_
          obtain ⟨r61, hg61, hf⟩ := ob1_some hf
          refine mcV_i (wr := [(qX0, .inr (11, [.ref qr0, .ref qk0, .ref qT, .ref qb0, .ref qe0, .ref qL0, .ref qf0, .ref qd0, .ref qn0, .ref qz0, .ref qD0, .ref qh0, .ref qD1, .ref qv0]))]) (As := [.int r56, .int x4]) (rest := []) hx hb hml hown hts hK hP hD hS hA (k_X1_othersIn l N D cI cJ cZ cB cT qf0 qf1 qf2 qf3 f_row r56 x4 r61 hg61) (kwX11_249 hts rfl rfl ⟨Nat.le_of_ble_eq_true rfl, Nat.le_of_ble_eq_true rfl⟩) [0, 1] [2] rfl rfl rfl (by decide) rfl 0 rfl rfl rfl rfl hl.1 rfl (Nat.le_of_ble_eq_true rfl) dX11_feared_61 ⟨Nat.zero_le _, Nat.zero_le _⟩ (fun hB61 H locs hP hD hS => ?_)
          have hP := mP_sub (wc := (W_X_3t4_76 qf0 qf1 qX0 qf2 qf3 qr0 qk0 qT qb0 qe0 qL0 qd0 qn0 qz0 qD0 qh0 qD1 qv0 cI cJ cZ cB cT f_row)) hP [1, 2, 0] rfl
          have hD := hD.sub (ws' := (W_X_3t4_76 qf0 qf1 qX0 qf2 qf3 qr0 qk0 qT qb0 qe0 qL0 qd0 qn0 qz0 qD0 qh0 qD1 qv0 cI cJ cZ cB cT f_row)) [1, 2, 0] rfl rfl
          refine lv_istore (lv' := [(5, .int r61), (0, .ref qX0), (1, .int x1), (2, .int x2), (3, .int x3), (4, .int x4)]) hx hb dX11_feared_64 hl (by decide) rfl (fun ls hl => ?_)
          refine lv_iload hx hb dX11_feared_66 (lv_at hl 0 rfl) ?_
          refine lv_iload_n hx hb dX11_feared_68 rfl (lv_at hl 2 rfl) ?_
          refine lv_iand hx hb dX11_feared_69 ?_
          obtain ⟨r70, hg70, hf⟩ := ob1_some hf
          refine mcS0_i (As := [.int (r61 &&& x1)]) (rest := []) hx hb hml hown hts hK hP hD hS hA (k_J6_bitCount_0f7a4 l N D cI cJ cZ cB cT (r61 &&& x1) r70 hg70) (kwX11_252 hts rfl rfl ⟨Nat.le_of_ble_eq_true rfl, Nat.le_of_ble_eq_true rfl⟩) rfl hl.1 rfl (Nat.le_of_ble_eq_true rfl) dX11_feared_70 ⟨Nat.zero_le _, Nat.zero_le _⟩ (fun hB70 H locs hP hD hS => ?_)
          refine lv_istore (lv' := [(6, .int r70), (5, .int r61), (0, .ref qX0), (1, .int x1), (2, .int x2), (3, .int x3), (4, .int x4)]) hx hb dX11_feared_73 hl (by decide) rfl (fun ls hl => ?_)
          refine lv_iload hx hb dX11_feared_75 (lv_at hl 0 rfl) ?_
          refine lv_iload_n hx hb dX11_feared_77 rfl (lv_at hl 5 rfl) ?_
          refine xicmp_le hx hb 87 dX11_feared_78 (by decide) hf (fun hf => ?_) (fun hf => ?_)
          · exact b87 x1 x2 x3 x4 _ _ _ hf hP hD hS (lv_sub hl [2, 3, 4, 5, 6] rfl)
          · refine lv_iload hx hb dX11_feared_81 (lv_at hl 0 rfl) ?_
            refine lv_istore_n (lv' := [(3, .int r70), (6, .int r70), (5, .int r61), (0, .ref qX0), (1, .int x1), (2, .int x2), (4, .int x4)]) hx hb dX11_feared_83 rfl hl (by decide) rfl (fun ls hl => ?_)
            refine lv_iload hx hb dX11_feared_84 (lv_at hl 6 rfl) ?_
            refine lv_istore_n (lv' := [(2, .int x4), (3, .int r70), (6, .int r70), (5, .int r61), (0, .ref qX0), (1, .int x1), (4, .int x4)]) hx hb dX11_feared_86 rfl hl (by decide) rfl (fun ls hl => ?_)
            exact b87 x1 x4 r70 x4 _ _ _ hf hP hD hS (lv_sub hl [4, 5, 0, 1, 6] rfl)
  unfold f_X11_feared at hf
  refine lv_aload_n hx hb dX11_feared_0 rfl (lv_at hl 0 rfl) ?_
  refine gfX11_54 hx hb hts hown hK hP 2 rfl rfl dX11_feared_1 ?_
  obtain ⟨r4, hg4, hf⟩ := ob1_some hf
  refine mcV_i (wr := [(qX0, .inr (11, [.ref qr0, .ref qk0, .ref qT, .ref qb0, .ref qe0, .ref qL0, .ref qf0, .ref qd0, .ref qn0, .ref qz0, .ref qD0, .ref qh0, .ref qD1, .ref qv0]))]) (As := []) (rest := []) hx hb hml hown hts hK hP hD hS hA (k_X1_outlaws l N D cI cJ cZ cB cT qf0 qf1 qf2 qf3 f_row r4 hg4) (kwX11_362 hts rfl rfl ⟨Nat.le_of_ble_eq_true rfl, Nat.le_of_ble_eq_true rfl⟩) [0, 1] [2] rfl rfl rfl (by decide) rfl 0 rfl rfl rfl rfl hl.1 rfl (Nat.le_of_ble_eq_true rfl) dX11_feared_4 ⟨Nat.zero_le _, Nat.zero_le _⟩ (fun hB4 H locs hP hD hS => ?_)
  have hP := mP_sub (wc := (W_X_3t4_76 qf0 qf1 qX0 qf2 qf3 qr0 qk0 qT qb0 qe0 qL0 qd0 qn0 qz0 qD0 qh0 qD1 qv0 cI cJ cZ cB cT f_row)) hP [1, 2, 0] rfl
  have hD := hD.sub (ws' := (W_X_3t4_76 qf0 qf1 qX0 qf2 qf3 qr0 qk0 qT qb0 qe0 qL0 qd0 qn0 qz0 qD0 qh0 qD1 qv0 cI cJ cZ cB cT f_row)) [1, 2, 0] rfl rfl
  refine lv_istore_n (lv' := [(1, .int r4), (0, .ref qX0)]) hx hb dX11_feared_7 rfl hl (by decide) rfl (fun ls hl => ?_)
  refine lv_iconst (v := (-1 : Int32)) hx hb dX11_feared_8 (by decide) ?_
  refine lv_istore_n (lv' := [(2, .int (-1 : Int32)), (1, .int r4), (0, .ref qX0)]) hx hb dX11_feared_9 rfl hl (by decide) rfl (fun ls hl => ?_)
  refine lv_iconst (v := (0 : Int32)) hx hb dX11_feared_10 (by decide) ?_
  refine lv_istore_n (lv' := [(3, .int (0 : Int32)), (2, .int (-1 : Int32)), (1, .int r4), (0, .ref qX0)]) hx hb dX11_feared_11 rfl hl (by decide) rfl (fun ls hl => ?_)
  refine lv_iconst (v := (0 : Int32)) hx hb dX11_feared_12 (by decide) ?_
  refine lv_istore (lv' := [(4, .int (0 : Int32)), (3, .int (0 : Int32)), (2, .int (-1 : Int32)), (1, .int r4), (0, .ref qX0)]) hx hb dX11_feared_13 hl (by decide) rfl (fun ls hl => ?_)
  exact b15 N r4 (-1 : Int32) (0 : Int32) (0 : Int32) _ _ _ hf hP hD hS (lv_sub hl [4, 3, 2, 1, 0] rfl)
theorem dX11_wolves_0 : decode cX11_wolves 0 = .ok (.aload_n 0, 1) := by decide +kernel
theorem dX11_wolves_1 : decode cX11_wolves 1 = .ok (.getfield 54, 3) := by decide +kernel
theorem dX11_wolves_4 : decode cX11_wolves 4 = .ok (.invokevirtual 362, 3) := by decide +kernel
theorem dX11_wolves_7 : decode cX11_wolves 7 = .ok (.ireturn, 1) := by decide +kernel
def f_X11_wolves (N : Nat) (f_row : Nat → Int32) : Option (Int32) := ob1 (f_X1_outlaws N f_row) fun r4 => some r4
set_option maxHeartbeats 4000000 in
set_option maxRecDepth 100000 in
theorem k_X11_wolves (l : Launch) (N : Nat) (D : va_G) (cI cJ cZ cB cT : ClassId) (qf0 : Nat) (qf1 : Nat) (qX0 : Nat) (qf2 : Nat) (qf3 : Nat) (qr0 : Nat) (qk0 : Nat) (qT : Nat) (qb0 : Nat) (qe0 : Nat) (qL0 : Nat) (qd0 : Nat) (qn0 : Nat) (qz0 : Nat) (qD0 : Nat) (qh0 : Nat) (qD1 : Nat) (qv0 : Nat) (f_row : Nat → Int32) (o_r : Int32) (hf : f_X11_wolves N f_row = some o_r) : ∀ sz, Met l yX11_wolves (mw yX11_wolves cX11_wolves 1 (some .int)) ({ frames := 2, cells := 0, slots := 0, locals := 45 } : Room) (mPre D (mT cI cJ cZ cB cT) (W_X_3t4_76 qf0 qf1 qX0 qf2 qf3 qr0 qk0 qT qb0 qe0 qL0 qd0 qn0 qz0 qD0 qh0 qD1 qv0 cI cJ cZ cB cT f_row) sz [.ref qX0]) ((mQi D (W_X_3t4_76 qf0 qf1 qX0 qf2 qf3 qr0 qk0 qT qb0 qe0 qL0 qd0 qn0 qz0 qD0 qh0 qD1 qv0 cI cJ cZ cB cT f_row) o_r True) (va_A (W_X_3t4_76 qf0 qf1 qX0 qf2 qf3 qr0 qk0 qT qb0 qe0 qL0 qd0 qn0 qz0 qD0 qh0 qD1 qv0 cI cJ cZ cB cT f_row) sz)) 0 0 (va_A (W_X_3t4_76 qf0 qf1 qX0 qf2 qf3 qr0 qk0 qT qb0 qe0 qL0 qd0 qn0 qz0 qD0 qh0 qD1 qv0 cI cJ cZ cB cT f_row) sz) := by
  refine mMet (Qc := (mQi D (W_X_3t4_76 qf0 qf1 qX0 qf2 qf3 qr0 qk0 qT qb0 qe0 qL0 qd0 qn0 qz0 qD0 qh0 qD1 qv0 cI cJ cZ cB cT f_row) o_r True)) (by decide) (Nat.le_of_ble_eq_true rfl) (fun p e s m below meth c A ls hx hb hr hml hts hown hlocks hK hA hP hD hl => ?_)
  have hown : s.vm.findClass RX11 = some m.cls := hown
  have hl : lv_has ls 1 [(0, .ref qX0)] := hl
  have hS : va_S A s.heap s.heap [] := va_S.rf
  unfold f_X11_wolves at hf
  refine lv_aload_n hx hb dX11_wolves_0 rfl (lv_at hl 0 rfl) ?_
  refine gfX11_54 hx hb hts hown hK hP 2 rfl rfl dX11_wolves_1 ?_
  obtain ⟨r4, hg4, hf⟩ := ob1_some hf
  refine mcV_i (wr := [(qX0, .inr (11, [.ref qr0, .ref qk0, .ref qT, .ref qb0, .ref qe0, .ref qL0, .ref qf0, .ref qd0, .ref qn0, .ref qz0, .ref qD0, .ref qh0, .ref qD1, .ref qv0]))]) (As := []) (rest := []) hx hb hml hown hts hK hP hD hS hA (k_X1_outlaws l N D cI cJ cZ cB cT qf0 qf1 qf2 qf3 f_row r4 hg4) (kwX11_362 hts rfl rfl ⟨Nat.le_of_ble_eq_true rfl, Nat.le_of_ble_eq_true rfl⟩) [0, 1] [2] rfl rfl rfl (by decide) rfl 0 rfl rfl rfl rfl hl.1 rfl (Nat.le_of_ble_eq_true rfl) dX11_wolves_4 ⟨Nat.zero_le _, Nat.zero_le _⟩ (fun hB4 H locs hP hD hS => ?_)
  have hP := mP_sub (wc := (W_X_3t4_76 qf0 qf1 qX0 qf2 qf3 qr0 qk0 qT qb0 qe0 qL0 qd0 qn0 qz0 qD0 qh0 qD1 qv0 cI cJ cZ cB cT f_row)) hP [1, 2, 0] rfl
  have hD := hD.sub (ws' := (W_X_3t4_76 qf0 qf1 qX0 qf2 qf3 qr0 qk0 qT qb0 qe0 qL0 qd0 qn0 qz0 qD0 qh0 qD1 qv0 cI cJ cZ cB cT f_row)) [1, 2, 0] rfl rfl
  cases hf
  exact mret_i hx hb hr hlocks hP hD hS dX11_wolves_7 rfl trivial
theorem dX11_paid_0 : decode cX11_paid 0 = .ok (.iload_n 1, 1) := by decide +kernel
theorem dX11_paid_1 : decode cX11_paid 1 = .ok (.iconst (-1), 1) := by decide +kernel
theorem dX11_paid_2 : decode cX11_paid 2 = .ok (.if_icmp .ne 12, 3) := by decide +kernel
theorem dX11_paid_5 : decode cX11_paid 5 = .ok (.aload_n 0, 1) := by decide +kernel
theorem dX11_paid_6 : decode cX11_paid 6 = .ok (.getfield 64, 3) := by decide +kernel
theorem dX11_paid_9 : decode cX11_paid 9 = .ok (.invokevirtual 365, 3) := by decide +kernel
theorem dX11_paid_12 : decode cX11_paid 12 = .ok (.iconst 0, 1) := by decide +kernel
theorem dX11_paid_13 : decode cX11_paid 13 = .ok (.ireturn, 1) := by decide +kernel
theorem dX11_paid_14 : decode cX11_paid 14 = .ok (.aload_n 0, 1) := by decide +kernel
theorem dX11_paid_15 : decode cX11_paid 15 = .ok (.getfield 54, 3) := by decide +kernel
theorem dX11_paid_18 : decode cX11_paid 18 = .ok (.iload_n 1, 1) := by decide +kernel
theorem dX11_paid_19 : decode cX11_paid 19 = .ok (.invokevirtual 238, 3) := by decide +kernel
theorem dX11_paid_22 : decode cX11_paid 22 = .ok (.ifCond .eq 14, 3) := by decide +kernel
theorem dX11_paid_25 : decode cX11_paid 25 = .ok (.iload_n 2, 1) := by decide +kernel
theorem dX11_paid_26 : decode cX11_paid 26 = .ok (.ifCond .lt 10, 3) := by decide +kernel
theorem dX11_paid_29 : decode cX11_paid 29 = .ok (.iload_n 2, 1) := by decide +kernel
theorem dX11_paid_30 : decode cX11_paid 30 = .ok (.sipush 9999, 3) := by decide +kernel
theorem dX11_paid_33 : decode cX11_paid 33 = .ok (.if_icmp .le 6, 3) := by decide +kernel
theorem dX11_paid_36 : decode cX11_paid 36 = .ok (.bipush (-2), 2) := by decide +kernel
theorem dX11_paid_38 : decode cX11_paid 38 = .ok (.ireturn, 1) := by decide +kernel
theorem dX11_paid_39 : decode cX11_paid 39 = .ok (.aload_n 0, 1) := by decide +kernel
theorem dX11_paid_40 : decode cX11_paid 40 = .ok (.getfield 64, 3) := by decide +kernel
theorem dX11_paid_43 : decode cX11_paid 43 = .ok (.iload_n 1, 1) := by decide +kernel
theorem dX11_paid_44 : decode cX11_paid 44 = .ok (.iload_n 2, 1) := by decide +kernel
theorem dX11_paid_45 : decode cX11_paid 45 = .ok (.invokevirtual 368, 3) := by decide +kernel
theorem dX11_paid_48 : decode cX11_paid 48 = .ok (.ireturn, 1) := by decide +kernel
def f_X11_paid (N : Nat) (f_row : Nat → Int32) (n_pay : Int32) (n_py : Nat → Int32) (n_pr : Nat → Int32) (p1 : Int32) (p2 : Int32) : Option (Int32 × Int32 × (Nat → Int32) × (Nat → Int32)) := if p1 = (-1 : Int32) then (ob1 (f_X4_forgetPaid N n_pay) fun n_pay_9 => some ((0 : Int32), n_pay_9, n_py, n_pr)) else (ob1 (f_X1_told N f_row p1) fun r19 => if r19 = 0 then (some ((-2 : Int32), n_pay, n_py, n_pr)) else (if p2 < 0 then (some ((-2 : Int32), n_pay, n_py, n_pr)) else (if p2 ≤ (9999 : Int32) then (ob4 (f_X4_notePaid N n_pay n_py n_pr p1 p2) fun r45 n_pay_45 n_py_45 n_pr_45 => some (r45, n_pay_45, n_py_45, n_pr_45)) else (some ((-2 : Int32), n_pay, n_py, n_pr)))))
set_option maxHeartbeats 4000000 in
set_option maxRecDepth 100000 in
theorem k_X11_paid (l : Launch) (N : Nat) (D : va_G) (cI cJ cZ cB cT : ClassId) (qf0 : Nat) (qf1 : Nat) (qn0 : Nat) (qn5 : Nat) (qn6 : Nat) (qX0 : Nat) (qf2 : Nat) (qf3 : Nat) (qn1 : Nat) (qn2 : Nat) (qn3 : Nat) (qn4 : Nat) (qr0 : Nat) (qk0 : Nat) (qT : Nat) (qb0 : Nat) (qe0 : Nat) (qL0 : Nat) (qd0 : Nat) (qz0 : Nat) (qD0 : Nat) (qh0 : Nat) (qD1 : Nat) (qv0 : Nat) (f_row : Nat → Int32) (n_calls : Int32) (n_bord : Int32) (n_rep : Int32) (n_unl : Int32) (n_pay : Int32) (n_py : Nat → Int32) (n_pr : Nat → Int32) (p1 : Int32) (p2 : Int32) (o_r : Int32) (o_n_pay : Int32) (o_n_py : Nat → Int32) (o_n_pr : Nat → Int32) (hf : f_X11_paid N f_row n_pay n_py n_pr p1 p2 = some (o_r, o_n_pay, o_n_py, o_n_pr)) : ∀ sz, Met l yX11_paid (mw yX11_paid cX11_paid 3 (some .int)) ({ frames := 1, cells := 0, slots := 0, locals := 22 } : Room) (mPre D (mT cI cJ cZ cB cT) (W_X_3t4_9_14t15_76 qf0 qf1 qn0 qn5 qn6 qX0 qf2 qf3 qn1 qn2 qn3 qn4 qr0 qk0 qT qb0 qe0 qL0 qd0 qz0 qD0 qh0 qD1 qv0 cI cJ cZ cB cT f_row n_calls n_bord n_rep n_unl n_pay n_py n_pr) sz [.ref qX0, .int p1, .int p2]) ((mQi D (W_X_3t4_9_14t15_76 qf0 qf1 qn0 qn5 qn6 qX0 qf2 qf3 qn1 qn2 qn3 qn4 qr0 qk0 qT qb0 qe0 qL0 qd0 qz0 qD0 qh0 qD1 qv0 cI cJ cZ cB cT f_row n_calls n_bord n_rep n_unl o_n_pay o_n_py o_n_pr) o_r True) (va_A (W_X_3t4_9_14t15_76 qf0 qf1 qn0 qn5 qn6 qX0 qf2 qf3 qn1 qn2 qn3 qn4 qr0 qk0 qT qb0 qe0 qL0 qd0 qz0 qD0 qh0 qD1 qv0 cI cJ cZ cB cT f_row n_calls n_bord n_rep n_unl n_pay n_py n_pr) sz)) 0 0 (va_A (W_X_3t4_9_14t15_76 qf0 qf1 qn0 qn5 qn6 qX0 qf2 qf3 qn1 qn2 qn3 qn4 qr0 qk0 qT qb0 qe0 qL0 qd0 qz0 qD0 qh0 qD1 qv0 cI cJ cZ cB cT f_row n_calls n_bord n_rep n_unl n_pay n_py n_pr) sz) := by
  refine mMet (Qc := (mQi D (W_X_3t4_9_14t15_76 qf0 qf1 qn0 qn5 qn6 qX0 qf2 qf3 qn1 qn2 qn3 qn4 qr0 qk0 qT qb0 qe0 qL0 qd0 qz0 qD0 qh0 qD1 qv0 cI cJ cZ cB cT f_row n_calls n_bord n_rep n_unl o_n_pay o_n_py o_n_pr) o_r True)) (by decide) (Nat.le_of_ble_eq_true rfl) (fun p e s m below meth c A ls hx hb hr hml hts hown hlocks hK hA hP hD hl => ?_)
  have hown : s.vm.findClass RX11 = some m.cls := hown
  have hl : lv_has ls 3 [(0, .ref qX0), (1, .int p1), (2, .int p2)] := hl
  have hS : va_S A s.heap s.heap [] := va_S.rf
  unfold f_X11_paid at hf
  refine lv_iload_n hx hb dX11_paid_0 rfl (lv_at hl 1 rfl) ?_
  refine lv_iconst (v := (-1 : Int32)) hx hb dX11_paid_1 (by decide) ?_
  refine xicmp_ne hx hb 14 dX11_paid_2 (by decide) hf (fun hf => ?_) (fun hf => ?_)
  · refine lv_aload_n hx hb dX11_paid_5 rfl (lv_at hl 0 rfl) ?_
    refine gfX11_64 hx hb hts hown hK hP 5 rfl rfl dX11_paid_6 ?_
    obtain ⟨n_pay_9, hg9, hf⟩ := ob1_some hf
    refine mcV_v (wr := [(qf0, .inr (1, [.ref qf1, .ref qf2, .ref qf3])), (qf1, .inl (cI, 76, .inl f_row)), (qn5, .inl (cI, 8, .inl n_py)), (qn6, .inl (cI, 8, .inl n_pr)), (qX0, .inr (11, [.ref qr0, .ref qk0, .ref qT, .ref qb0, .ref qe0, .ref qL0, .ref qf0, .ref qd0, .ref qn0, .ref qz0, .ref qD0, .ref qh0, .ref qD1, .ref qv0]))]) (As := []) (rest := []) hx hb hml hown hts hK hP hD hS hA (k_X4_forgetPaid l N D cI cJ cZ cB cT qn0 qn1 qn2 qn3 qn4 qn5 qn6 n_calls n_bord n_rep n_unl n_pay n_pay_9 hg9) (kwX11_365 hts rfl rfl ⟨Nat.le_of_ble_eq_true rfl, Nat.le_of_ble_eq_true rfl⟩) [2] [0, 1, 3, 4, 5] rfl rfl rfl (by decide) rfl 0 rfl rfl rfl rfl hl.1 rfl (Nat.le_of_ble_eq_true rfl) dX11_paid_9 ⟨Nat.zero_le _, Nat.zero_le _⟩ (fun H locs hP hD hS => ?_)
    have hP := mP_sub (wc := (W_X_3t4_9_14t15_76 qf0 qf1 qn0 qn5 qn6 qX0 qf2 qf3 qn1 qn2 qn3 qn4 qr0 qk0 qT qb0 qe0 qL0 qd0 qz0 qD0 qh0 qD1 qv0 cI cJ cZ cB cT f_row n_calls n_bord n_rep n_unl n_pay_9 n_py n_pr)) hP [0, 1, 5, 2, 3, 4] rfl
    have hD := hD.sub (ws' := (W_X_3t4_9_14t15_76 qf0 qf1 qn0 qn5 qn6 qX0 qf2 qf3 qn1 qn2 qn3 qn4 qr0 qk0 qT qb0 qe0 qL0 qd0 qz0 qD0 qh0 qD1 qv0 cI cJ cZ cB cT f_row n_calls n_bord n_rep n_unl n_pay_9 n_py n_pr)) [0, 1, 5, 2, 3, 4] rfl rfl
    refine lv_iconst (v := (0 : Int32)) hx hb dX11_paid_12 (by decide) ?_
    cases hf
    exact mret_i hx hb hr hlocks hP hD hS dX11_paid_13 rfl trivial
  · refine lv_aload_n hx hb dX11_paid_14 rfl (lv_at hl 0 rfl) ?_
    refine gfX11_54 hx hb hts hown hK hP 5 rfl rfl dX11_paid_15 ?_
    refine lv_iload_n hx hb dX11_paid_18 rfl (lv_at hl 1 rfl) ?_
    obtain ⟨r19, hg19, hf⟩ := ob1_some hf
    refine mcV_i (wr := [(qn0, .inr (4, [.int n_calls, .int n_bord, .int n_rep, .int n_unl, .int n_pay, .ref qn1, .ref qn2, .ref qn3, .ref qn4, .ref qn5, .ref qn6])), (qn5, .inl (cI, 8, .inl n_py)), (qn6, .inl (cI, 8, .inl n_pr)), (qX0, .inr (11, [.ref qr0, .ref qk0, .ref qT, .ref qb0, .ref qe0, .ref qL0, .ref qf0, .ref qd0, .ref qn0, .ref qz0, .ref qD0, .ref qh0, .ref qD1, .ref qv0]))]) (As := [.int p1]) (rest := []) hx hb hml hown hts hK hP hD hS hA (k_X1_told l N D cI cJ cZ cB cT qf0 qf1 qf2 qf3 f_row p1 r19 hg19) (kwX11_238 hts rfl rfl ⟨Nat.le_of_ble_eq_true rfl, Nat.le_of_ble_eq_true rfl⟩) [0, 1] [2, 3, 4, 5] rfl rfl rfl (by decide) rfl 0 rfl rfl rfl rfl hl.1 rfl (Nat.le_of_ble_eq_true rfl) dX11_paid_19 ⟨Nat.zero_le _, Nat.zero_le _⟩ (fun hB19 H locs hP hD hS => ?_)
    have hP := mP_sub (wc := (W_X_3t4_9_14t15_76 qf0 qf1 qn0 qn5 qn6 qX0 qf2 qf3 qn1 qn2 qn3 qn4 qr0 qk0 qT qb0 qe0 qL0 qd0 qz0 qD0 qh0 qD1 qv0 cI cJ cZ cB cT f_row n_calls n_bord n_rep n_unl n_pay n_py n_pr)) hP [4, 5, 0, 1, 2, 3] rfl
    have hD := hD.sub (ws' := (W_X_3t4_9_14t15_76 qf0 qf1 qn0 qn5 qn6 qX0 qf2 qf3 qn1 qn2 qn3 qn4 qr0 qk0 qT qb0 qe0 qL0 qd0 qz0 qD0 qh0 qD1 qv0 cI cJ cZ cB cT f_row n_calls n_bord n_rep n_unl n_pay n_py n_pr)) [4, 5, 0, 1, 2, 3] rfl rfl
    refine xif_eq hx hb 36 dX11_paid_22 (by decide) hf (fun hf => ?_) (fun hf => ?_)
    · refine lv_bipush (v := (-2 : Int32)) hx hb dX11_paid_36 (by decide) ?_
      cases hf
      exact mret_i hx hb hr hlocks hP hD hS dX11_paid_38 rfl trivial
    · refine lv_iload_n hx hb dX11_paid_25 rfl (lv_at hl 2 rfl) ?_
      refine xif_lt hx hb 36 dX11_paid_26 (by decide) hf (fun hf => ?_) (fun hf => ?_)
      · refine lv_bipush (v := (-2 : Int32)) hx hb dX11_paid_36 (by decide) ?_
        cases hf
        exact mret_i hx hb hr hlocks hP hD hS dX11_paid_38 rfl trivial
      · refine lv_iload_n hx hb dX11_paid_29 rfl (lv_at hl 2 rfl) ?_
        refine lv_sipush (v := (9999 : Int32)) hx hb dX11_paid_30 (by decide) ?_
        refine xicmp_le hx hb 39 dX11_paid_33 (by decide) hf (fun hf => ?_) (fun hf => ?_)
        · refine lv_aload_n hx hb dX11_paid_39 rfl (lv_at hl 0 rfl) ?_
          refine gfX11_64 hx hb hts hown hK hP 5 rfl rfl dX11_paid_40 ?_
          refine lv_iload_n hx hb dX11_paid_43 rfl (lv_at hl 1 rfl) ?_
          refine lv_iload_n hx hb dX11_paid_44 rfl (lv_at hl 2 rfl) ?_
          obtain ⟨r45, n_pay_45, n_py_45, n_pr_45, hg45, hf⟩ := ob4_some hf
          refine mcV_i (wr := [(qf0, .inr (1, [.ref qf1, .ref qf2, .ref qf3])), (qf1, .inl (cI, 76, .inl f_row)), (qX0, .inr (11, [.ref qr0, .ref qk0, .ref qT, .ref qb0, .ref qe0, .ref qL0, .ref qf0, .ref qd0, .ref qn0, .ref qz0, .ref qD0, .ref qh0, .ref qD1, .ref qv0]))]) (As := [.int p1, .int p2]) (rest := []) hx hb hml hown hts hK hP hD hS hA (k_X4_notePaid l N D cI cJ cZ cB cT qn0 qn5 qn6 qn1 qn2 qn3 qn4 n_calls n_bord n_rep n_unl n_pay n_py n_pr p1 p2 r45 n_pay_45 n_py_45 n_pr_45 hg45) (kwX11_368 hts rfl rfl ⟨Nat.le_of_ble_eq_true rfl, Nat.le_of_ble_eq_true rfl⟩) [2, 3, 4] [0, 1, 5] rfl rfl rfl (by decide) rfl 0 rfl rfl rfl rfl hl.1 rfl (Nat.le_of_ble_eq_true rfl) dX11_paid_45 ⟨Nat.zero_le _, Nat.zero_le _⟩ (fun hB45 H locs hP hD hS => ?_)
          have hP := mP_sub (wc := (W_X_3t4_9_14t15_76 qf0 qf1 qn0 qn5 qn6 qX0 qf2 qf3 qn1 qn2 qn3 qn4 qr0 qk0 qT qb0 qe0 qL0 qd0 qz0 qD0 qh0 qD1 qv0 cI cJ cZ cB cT f_row n_calls n_bord n_rep n_unl n_pay_45 n_py_45 n_pr_45)) hP [0, 1, 3, 4, 5, 2] rfl
          have hD := hD.sub (ws' := (W_X_3t4_9_14t15_76 qf0 qf1 qn0 qn5 qn6 qX0 qf2 qf3 qn1 qn2 qn3 qn4 qr0 qk0 qT qb0 qe0 qL0 qd0 qz0 qD0 qh0 qD1 qv0 cI cJ cZ cB cT f_row n_calls n_bord n_rep n_unl n_pay_45 n_py_45 n_pr_45)) [0, 1, 3, 4, 5, 2] rfl rfl
          cases hf
          exact mret_i hx hb hr hlocks hP hD hS dX11_paid_48 rfl trivial
        · refine lv_bipush (v := (-2 : Int32)) hx hb dX11_paid_36 (by decide) ?_
          cases hf
          exact mret_i hx hb hr hlocks hP hD hS dX11_paid_38 rfl trivial
theorem dX11_explains_0 : decode cX11_explains 0 = .ok (.iconst 0, 1) := by decide +kernel
theorem dX11_explains_1 : decode cX11_explains 1 = .ok (.istore_n 2, 1) := by decide +kernel
theorem dX11_explains_2 : decode cX11_explains 2 = .ok (.iload_n 2, 1) := by decide +kernel
theorem dX11_explains_3 : decode cX11_explains 3 = .ok (.aload_n 0, 1) := by decide +kernel
theorem dX11_explains_4 : decode cX11_explains 4 = .ok (.getfield 64, 3) := by decide +kernel
theorem dX11_explains_7 : decode cX11_explains 7 = .ok (.getfield 374, 3) := by decide +kernel
theorem dX11_explains_10 : decode cX11_explains 10 = .ok (.if_icmp .ge 58, 3) := by decide +kernel
theorem dX11_explains_13 : decode cX11_explains 13 = .ok (.aload_n 0, 1) := by decide +kernel
theorem dX11_explains_14 : decode cX11_explains 14 = .ok (.getfield 64, 3) := by decide +kernel
theorem dX11_explains_17 : decode cX11_explains 17 = .ok (.iload_n 2, 1) := by decide +kernel
theorem dX11_explains_18 : decode cX11_explains 18 = .ok (.invokevirtual 377, 3) := by decide +kernel
theorem dX11_explains_21 : decode cX11_explains 21 = .ok (.istore_n 3, 1) := by decide +kernel
theorem dX11_explains_22 : decode cX11_explains 22 = .ok (.aload_n 0, 1) := by decide +kernel
theorem dX11_explains_23 : decode cX11_explains 23 = .ok (.getfield 54, 3) := by decide +kernel
theorem dX11_explains_26 : decode cX11_explains 26 = .ok (.iload_n 3, 1) := by decide +kernel
theorem dX11_explains_27 : decode cX11_explains 27 = .ok (.iconst 0, 1) := by decide +kernel
theorem dX11_explains_28 : decode cX11_explains 28 = .ok (.invokevirtual 239, 3) := by decide +kernel
theorem dX11_explains_31 : decode cX11_explains 31 = .ok (.istore 4, 2) := by decide +kernel
theorem dX11_explains_33 : decode cX11_explains 33 = .ok (.aload_n 0, 1) := by decide +kernel
theorem dX11_explains_34 : decode cX11_explains 34 = .ok (.getfield 46, 3) := by decide +kernel
theorem dX11_explains_37 : decode cX11_explains 37 = .ok (.iload_n 1, 1) := by decide +kernel
theorem dX11_explains_38 : decode cX11_explains 38 = .ok (.iconst 2, 1) := by decide +kernel
theorem dX11_explains_39 : decode cX11_explains 39 = .ok (.aload_n 0, 1) := by decide +kernel
theorem dX11_explains_40 : decode cX11_explains 40 = .ok (.getfield 54, 3) := by decide +kernel
theorem dX11_explains_43 : decode cX11_explains 43 = .ok (.iload_n 3, 1) := by decide +kernel
theorem dX11_explains_44 : decode cX11_explains 44 = .ok (.iload 4, 2) := by decide +kernel
theorem dX11_explains_46 : decode cX11_explains 46 = .ok (.invokevirtual 245, 3) := by decide +kernel
theorem dX11_explains_49 : decode cX11_explains 49 = .ok (.aload_n 0, 1) := by decide +kernel
theorem dX11_explains_50 : decode cX11_explains 50 = .ok (.getfield 64, 3) := by decide +kernel
theorem dX11_explains_53 : decode cX11_explains 53 = .ok (.iload_n 2, 1) := by decide +kernel
theorem dX11_explains_54 : decode cX11_explains 54 = .ok (.invokevirtual 380, 3) := by decide +kernel
theorem dX11_explains_57 : decode cX11_explains 57 = .ok (.if_icmp .eq 5, 3) := by decide +kernel
theorem dX11_explains_60 : decode cX11_explains 60 = .ok (.iconst 0, 1) := by decide +kernel
theorem dX11_explains_61 : decode cX11_explains 61 = .ok (.ireturn, 1) := by decide +kernel
theorem dX11_explains_62 : decode cX11_explains 62 = .ok (.iinc 2 1, 3) := by decide +kernel
theorem dX11_explains_65 : decode cX11_explains 65 = .ok (.goto (-63), 3) := by decide +kernel
theorem dX11_explains_68 : decode cX11_explains 68 = .ok (.iconst 1, 1) := by decide +kernel
theorem dX11_explains_69 : decode cX11_explains 69 = .ok (.ireturn, 1) := by decide +kernel
def f_X11_explains_2 (N : Nat) : Nat → Int32 → (Nat → Int32) → (Nat → Int32) → (Nat → Int32) → Int32 → (Nat → Int32) → (Nat → Int32) → Int32 → (Nat → Int32) → (Nat → Int32) → (Nat → Int32) → (Nat → Int32) → (Nat → Int32) → (Nat → Int32) → (Nat → Int32) → (Nat → Int32) → (Nat → Int32) → (Nat → Int32) → (Nat → Int32) → (Nat → Int32) → (Nat → Int32) → (Nat → Int32) → Int32 → Int32 → Option (Int32 × (Nat → Int32) × (Nat → Int32))
  | 0, _, _, _, _, _, _, _, _, _, _, _, _, _, _, _, _, _, _, _, _, _, _, _, _ => none
  | n + 1, d_n, d_for, f_row, f_fears, n_pay, n_py, n_pr, r_tx, t_code, t_st, t_en, u_code, u_st, u_en, w_code, w_st, w_en, x_code, x_st, x_en, l_names, l_stack, x1, x2 => if n_pay ≤ x2 then (some ((1 : Int32), l_names, l_stack)) else (ob1 (f_X4_payer N n_pay n_py x2) fun r18 => ob1 (f_X1_get N f_row r18 (0 : Int32)) fun r28 => ob3 (f_X3_rule N d_n d_for t_code t_st t_en u_code u_st u_en w_code w_st w_en x_code x_st x_en f_row f_fears r_tx l_names l_stack x1 (2 : Int32) r18 r28) fun r46 l_names_46 l_stack_46 => ob1 (f_X4_payment N n_pay n_pr x2) fun r54 => if r46 = r54 then ((f_X11_explains_2 N n) d_n d_for f_row f_fears n_pay n_py n_pr r_tx t_code t_st t_en u_code u_st u_en w_code w_st w_en x_code x_st x_en l_names_46 l_stack_46 x1 (x2 + (1 : Int32))) else (some ((0 : Int32), l_names_46, l_stack_46)))
def f_X11_explains (N : Nat) (d_n : Int32) (d_for : Nat → Int32) (f_row : Nat → Int32) (f_fears : Nat → Int32) (n_pay : Int32) (n_py : Nat → Int32) (n_pr : Nat → Int32) (r_tx : Int32) (t_code : Nat → Int32) (t_st : Nat → Int32) (t_en : Nat → Int32) (u_code : Nat → Int32) (u_st : Nat → Int32) (u_en : Nat → Int32) (w_code : Nat → Int32) (w_st : Nat → Int32) (w_en : Nat → Int32) (x_code : Nat → Int32) (x_st : Nat → Int32) (x_en : Nat → Int32) (l_names : Nat → Int32) (l_stack : Nat → Int32) (p1 : Int32) : Option (Int32 × (Nat → Int32) × (Nat → Int32)) := f_X11_explains_2 N N d_n d_for f_row f_fears n_pay n_py n_pr r_tx t_code t_st t_en u_code u_st u_en w_code w_st w_en x_code x_st x_en l_names l_stack p1 (0 : Int32)
set_option maxHeartbeats 4000000 in
set_option maxRecDepth 100000 in
theorem k_X11_explains (l : Launch) (N : Nat) (D : va_G) (cI cJ cZ cB cT : ClassId) (qd0 : Nat) (qd1 : Nat) (qf0 : Nat) (qf1 : Nat) (qf2 : Nat) (qn0 : Nat) (qn5 : Nat) (qn6 : Nat) (qr0 : Nat) (qt0 : Nat) (qt1 : Nat) (qt2 : Nat) (qt3 : Nat) (qu0 : Nat) (qu1 : Nat) (qu2 : Nat) (qu3 : Nat) (qw0 : Nat) (qw1 : Nat) (qw2 : Nat) (qw3 : Nat) (qx0 : Nat) (qx1 : Nat) (qx2 : Nat) (qx3 : Nat) (qT : Nat) (qL1 : Nat) (qL2 : Nat) (qL0 : Nat) (qX0 : Nat) (qd2 : Nat) (qf3 : Nat) (qn1 : Nat) (qn2 : Nat) (qn3 : Nat) (qn4 : Nat) (qz0 : Nat) (qt4 : Nat) (qu4 : Nat) (qw4 : Nat) (qx4 : Nat) (qk0 : Nat) (qb0 : Nat) (qe0 : Nat) (qD0 : Nat) (qh0 : Nat) (qD1 : Nat) (qv0 : Nat) (d_n : Int32) (d_for : Nat → Int32) (f_row : Nat → Int32) (f_fears : Nat → Int32) (n_calls : Int32) (n_bord : Int32) (n_rep : Int32) (n_unl : Int32) (n_pay : Int32) (n_py : Nat → Int32) (n_pr : Nat → Int32) (r_tx : Int32) (r_rul : Int32) (t_cl : Int32) (t_ln : Int32) (t_pt : Int32) (t_code : Nat → Int32) (t_st : Nat → Int32) (t_en : Nat → Int32) (u_cl : Int32) (u_ln : Int32) (u_pt : Int32) (u_code : Nat → Int32) (u_st : Nat → Int32) (u_en : Nat → Int32) (w_cl : Int32) (w_ln : Int32) (w_pt : Int32) (w_code : Nat → Int32) (w_st : Nat → Int32) (w_en : Nat → Int32) (x_cl : Int32) (x_ln : Int32) (x_pt : Int32) (x_code : Nat → Int32) (x_st : Nat → Int32) (x_en : Nat → Int32) (l_names : Nat → Int32) (l_stack : Nat → Int32) (p1 : Int32) (o_r : Int32) (o_l_names : Nat → Int32) (o_l_stack : Nat → Int32) (hf : f_X11_explains N d_n d_for f_row f_fears n_pay n_py n_pr r_tx t_code t_st t_en u_code u_st u_en w_code w_st w_en x_code x_st x_en l_names l_stack p1 = some (o_r, o_l_names, o_l_stack)) : ∀ sz, Met l yX11_explains (mw yX11_explains cX11_explains 5 (some .boolean)) ({ frames := 4, cells := 0, slots := 0, locals := 119 } : Room) (mPreE D (mT cI cJ cZ cB cT) (W_X_0t1_3t5_9_14t16_34t37_39t42_44t47_49t52_54_61t63_76 qd0 qd1 qf0 qf1 qf2 qn0 qn5 qn6 qr0 qt0 qt1 qt2 qt3 qu0 qu1 qu2 qu3 qw0 qw1 qw2 qw3 qx0 qx1 qx2 qx3 qT qL1 qL2 qL0 qX0 qd2 qf3 qn1 qn2 qn3 qn4 qz0 qt4 qu4 qw4 qx4 qk0 qb0 qe0 qD0 qh0 qD1 qv0 cI cJ cZ cB cT d_n d_for f_row f_fears n_calls n_bord n_rep n_unl n_pay n_py n_pr r_tx r_rul t_cl t_ln t_pt t_code t_st t_en u_cl u_ln u_pt u_code u_st u_en w_cl w_ln w_pt w_code w_st w_en x_cl x_ln x_pt x_code x_st x_en l_names l_stack) sz [.ref qX0, .int p1]) ((mQi D (W_X_0t1_3t5_9_14t16_34t37_39t42_44t47_49t52_54_61t63_76 qd0 qd1 qf0 qf1 qf2 qn0 qn5 qn6 qr0 qt0 qt1 qt2 qt3 qu0 qu1 qu2 qu3 qw0 qw1 qw2 qw3 qx0 qx1 qx2 qx3 qT qL1 qL2 qL0 qX0 qd2 qf3 qn1 qn2 qn3 qn4 qz0 qt4 qu4 qw4 qx4 qk0 qb0 qe0 qD0 qh0 qD1 qv0 cI cJ cZ cB cT d_n d_for f_row f_fears n_calls n_bord n_rep n_unl n_pay n_py n_pr r_tx r_rul t_cl t_ln t_pt t_code t_st t_en u_cl u_ln u_pt u_code u_st u_en w_cl w_ln w_pt w_code w_st w_en x_cl x_ln x_pt x_code x_st x_en o_l_names o_l_stack) o_r (mB o_r)) (va_A (W_X_0t1_3t5_9_14t16_34t37_39t42_44t47_49t52_54_61t63_76 qd0 qd1 qf0 qf1 qf2 qn0 qn5 qn6 qr0 qt0 qt1 qt2 qt3 qu0 qu1 qu2 qu3 qw0 qw1 qw2 qw3 qx0 qx1 qx2 qx3 qT qL1 qL2 qL0 qX0 qd2 qf3 qn1 qn2 qn3 qn4 qz0 qt4 qu4 qw4 qx4 qk0 qb0 qe0 qD0 qh0 qD1 qv0 cI cJ cZ cB cT d_n d_for f_row f_fears n_calls n_bord n_rep n_unl n_pay n_py n_pr r_tx r_rul t_cl t_ln t_pt t_code t_st t_en u_cl u_ln u_pt u_code u_st u_en w_cl w_ln w_pt w_code w_st w_en x_cl x_ln x_pt x_code x_st x_en l_names l_stack) sz)) 0 0 (va_A (W_X_0t1_3t5_9_14t16_34t37_39t42_44t47_49t52_54_61t63_76 qd0 qd1 qf0 qf1 qf2 qn0 qn5 qn6 qr0 qt0 qt1 qt2 qt3 qu0 qu1 qu2 qu3 qw0 qw1 qw2 qw3 qx0 qx1 qx2 qx3 qT qL1 qL2 qL0 qX0 qd2 qf3 qn1 qn2 qn3 qn4 qz0 qt4 qu4 qw4 qx4 qk0 qb0 qe0 qD0 qh0 qD1 qv0 cI cJ cZ cB cT d_n d_for f_row f_fears n_calls n_bord n_rep n_unl n_pay n_py n_pr r_tx r_rul t_cl t_ln t_pt t_code t_st t_en u_cl u_ln u_pt u_code u_st u_en w_cl w_ln w_pt w_code w_st w_en x_cl x_ln x_pt x_code x_st x_en l_names l_stack) sz) := by
  refine mMetE (Qc := (mQi D (W_X_0t1_3t5_9_14t16_34t37_39t42_44t47_49t52_54_61t63_76 qd0 qd1 qf0 qf1 qf2 qn0 qn5 qn6 qr0 qt0 qt1 qt2 qt3 qu0 qu1 qu2 qu3 qw0 qw1 qw2 qw3 qx0 qx1 qx2 qx3 qT qL1 qL2 qL0 qX0 qd2 qf3 qn1 qn2 qn3 qn4 qz0 qt4 qu4 qw4 qx4 qk0 qb0 qe0 qD0 qh0 qD1 qv0 cI cJ cZ cB cT d_n d_for f_row f_fears n_calls n_bord n_rep n_unl n_pay n_py n_pr r_tx r_rul t_cl t_ln t_pt t_code t_st t_en u_cl u_ln u_pt u_code u_st u_en w_cl w_ln w_pt w_code w_st w_en x_cl x_ln x_pt x_code x_st x_en o_l_names o_l_stack) o_r (mB o_r))) (by decide) (Nat.le_of_ble_eq_true rfl) (fun p e s m below meth c A ls hx hb hr hml hts hown hlocks hK hA hP hD hl hE => ?_)
  have hown : s.vm.findClass RX11 = some m.cls := hown
  have hl : lv_has ls 5 [(0, .ref qX0), (1, .int p1)] := hl
  have hS : va_S A s.heap s.heap [] := va_S.rf
  obtain ⟨⟨tM, hZM, hTM⟩, ⟨tL, hZL, hTL⟩, ⟨hNX4, hNX10⟩, tS, tV, hRS, hZC, hZF, hKS⟩ := id hE
  have b2 : ∀ n2 : Nat, ∀ (l_names : Nat → Int32) (l_stack : Nat → Int32) (x1 : Int32) (x2 : Int32) (H : Heap) (locs : List Loc) (ls : Array Slot), f_X11_explains_2 N n2 d_n d_for f_row f_fears n_pay n_py n_pr r_tx t_code t_st t_en u_code u_st u_en w_code w_st w_en x_code x_st x_en l_names l_stack x1 x2 = some (o_r, o_l_names, o_l_stack) → va_P D vwCl (W_X_0t1_3t5_9_14t16_34t37_39t42_44t47_49t52_54_61t63_76 qd0 qd1 qf0 qf1 qf2 qn0 qn5 qn6 qr0 qt0 qt1 qt2 qt3 qu0 qu1 qu2 qu3 qw0 qw1 qw2 qw3 qx0 qx1 qx2 qx3 qT qL1 qL2 qL0 qX0 qd2 qf3 qn1 qn2 qn3 qn4 qz0 qt4 qu4 qw4 qx4 qk0 qb0 qe0 qD0 qh0 qD1 qv0 cI cJ cZ cB cT d_n d_for f_row f_fears n_calls n_bord n_rep n_unl n_pay n_py n_pr r_tx r_rul t_cl t_ln t_pt t_code t_st t_en u_cl u_ln u_pt u_code u_st u_en w_cl w_ln w_pt w_code w_st w_en x_cl x_ln x_pt x_code x_st x_en l_names l_stack) H → va_D A (W_X_0t1_3t5_9_14t16_34t37_39t42_44t47_49t52_54_61t63_76 qd0 qd1 qf0 qf1 qf2 qn0 qn5 qn6 qr0 qt0 qt1 qt2 qt3 qu0 qu1 qu2 qu3 qw0 qw1 qw2 qw3 qx0 qx1 qx2 qx3 qT qL1 qL2 qL0 qX0 qd2 qf3 qn1 qn2 qn3 qn4 qz0 qt4 qu4 qw4 qx4 qk0 qb0 qe0 qD0 qh0 qD1 qv0 cI cJ cZ cB cT d_n d_for f_row f_fears n_calls n_bord n_rep n_unl n_pay n_py n_pr r_tx r_rul t_cl t_ln t_pt t_code t_st t_en u_cl u_ln u_pt u_code u_st u_en w_cl w_ln w_pt w_code w_st w_en x_cl x_ln x_pt x_code x_st x_en l_names l_stack) → va_S A s.heap H locs → lv_has ls 5 [(0, .ref qX0), (1, .int x1), (2, .int x2)] → W p l e ({ frames := 4, cells := 0, slots := 0, locals := 119 } : Room) s m ([.ref qX0, .int p1] : List Value).toArray below meth c H locs 0 0 (MQ below ((mQi D (W_X_0t1_3t5_9_14t16_34t37_39t42_44t47_49t52_54_61t63_76 qd0 qd1 qf0 qf1 qf2 qn0 qn5 qn6 qr0 qt0 qt1 qt2 qt3 qu0 qu1 qu2 qu3 qw0 qw1 qw2 qw3 qx0 qx1 qx2 qx3 qT qL1 qL2 qL0 qX0 qd2 qf3 qn1 qn2 qn3 qn4 qz0 qt4 qu4 qw4 qx4 qk0 qb0 qe0 qD0 qh0 qD1 qv0 cI cJ cZ cB cT d_n d_for f_row f_fears n_calls n_bord n_rep n_unl n_pay n_py n_pr r_tx r_rul t_cl t_ln t_pt t_code t_st t_en u_cl u_ln u_pt u_code u_st u_en w_cl w_ln w_pt w_code w_st w_en x_cl x_ln x_pt x_code x_st x_en o_l_names o_l_stack) o_r (mB o_r)) A) ([.ref qX0, .int p1] : List Value).toArray s 0 0 A) (F0 m 2 ls []) := by
    intro n2
    induction n2 with
    | zero =>
      intro l_names l_stack x1 x2 H locs ls hf hP hD hS hl
      simp [f_X11_explains_2] at hf
    | succ n2 ih2 =>
      intro l_names l_stack x1 x2 H locs ls hf hP hD hS hl
      rw [f_X11_explains_2.eq_2] at hf
      refine lv_iload_n hx hb dX11_explains_2 rfl (lv_at hl 2 rfl) ?_
      refine lv_aload_n hx hb dX11_explains_3 rfl (lv_at hl 0 rfl) ?_
      refine gfX11_64 hx hb hts hown hK hP 29 rfl rfl dX11_explains_4 ?_
      refine gfX11_374 hx hb hts hown hK hP 5 rfl rfl dX11_explains_7 ?_
      refine xicmp_ge hx hb 68 dX11_explains_10 (by decide) hf (fun hf => ?_) (fun hf => ?_)
      · refine lv_iconst (v := (1 : Int32)) hx hb dX11_explains_68 (by decide) ?_
        cases hf
        exact mret_z hx hb hr hlocks hP hD hS dX11_explains_69 rfl rfl
      · refine lv_aload_n hx hb dX11_explains_13 rfl (lv_at hl 0 rfl) ?_
        refine gfX11_64 hx hb hts hown hK hP 29 rfl rfl dX11_explains_14 ?_
        refine lv_iload_n hx hb dX11_explains_17 rfl (lv_at hl 2 rfl) ?_
        obtain ⟨r18, hg18, hf⟩ := ob1_some hf
        refine mcV_i (wr := [(qd0, .inr (2, [.int d_n, .ref qd1, .ref qd2])), (qd1, .inl (cI, 8, .inl d_for)), (qf0, .inr (1, [.ref qf1, .ref qf2, .ref qf3])), (qf1, .inl (cI, 76, .inl f_row)), (qf2, .inl (cI, 6, .inl f_fears)), (qn6, .inl (cI, 8, .inl n_pr)), (qr0, .inr (6, [.ref qd0, .ref qf0, .ref qz0, .ref qn0, .int r_tx, .int r_rul])), (qt0, .inr (9, [.int t_cl, .int t_ln, .int t_pt, .ref qt1, .ref qt2, .ref qt3, .ref qt4])), (qt1, .inl (cI, 301, .inl t_code)), (qt2, .inl (cI, 4, .inl t_st)), (qt3, .inl (cI, 4, .inl t_en)), (qu0, .inr (9, [.int u_cl, .int u_ln, .int u_pt, .ref qu1, .ref qu2, .ref qu3, .ref qu4])), (qu1, .inl (cI, 301, .inl u_code)), (qu2, .inl (cI, 4, .inl u_st)), (qu3, .inl (cI, 4, .inl u_en)), (qw0, .inr (9, [.int w_cl, .int w_ln, .int w_pt, .ref qw1, .ref qw2, .ref qw3, .ref qw4])), (qw1, .inl (cI, 301, .inl w_code)), (qw2, .inl (cI, 4, .inl w_st)), (qw3, .inl (cI, 4, .inl w_en)), (qx0, .inr (9, [.int x_cl, .int x_ln, .int x_pt, .ref qx1, .ref qx2, .ref qx3, .ref qx4])), (qx1, .inl (cI, 301, .inl x_code)), (qx2, .inl (cI, 4, .inl x_st)), (qx3, .inl (cI, 4, .inl x_en)), (qT, .inl (cT, 4, .inr (.inr (.inr (.inr (fT qt0 qu0 qw0 qx0)))))), (qL1, .inl (cI, 10, .inl l_names)), (qL2, .inl (cI, 64, .inl l_stack)), (qL0, .inr (3, [.ref qr0, .ref qT, .ref qL1, .ref qL2])), (qX0, .inr (11, [.ref qr0, .ref qk0, .ref qT, .ref qb0, .ref qe0, .ref qL0, .ref qf0, .ref qd0, .ref qn0, .ref qz0, .ref qD0, .ref qh0, .ref qD1, .ref qv0]))]) (As := [.int x2]) (rest := []) hx hb hml hown hts hK hP hD hS hA (k_X4_payer l N D cI cJ cZ cB cT qn0 qn5 qn1 qn2 qn3 qn4 qn6 n_calls n_bord n_rep n_unl n_pay n_py x2 r18 hg18) (kwX11_377 hts rfl rfl ⟨Nat.le_of_ble_eq_true rfl, Nat.le_of_ble_eq_true rfl⟩) [5, 6] [0, 1, 2, 3, 4, 7, 8, 9, 10, 11, 12, 13, 14, 15, 16, 17, 18, 19, 20, 21, 22, 23, 24, 25, 26, 27, 28, 29] rfl rfl rfl (by decide) rfl 0 rfl rfl rfl rfl hl.1 rfl (Nat.le_of_ble_eq_true rfl) dX11_explains_18 ⟨Nat.zero_le _, Nat.zero_le _⟩ (fun hB18 H locs hP hD hS => ?_)
        have hP := mP_sub (wc := (W_X_0t1_3t5_9_14t16_34t37_39t42_44t47_49t52_54_61t63_76 qd0 qd1 qf0 qf1 qf2 qn0 qn5 qn6 qr0 qt0 qt1 qt2 qt3 qu0 qu1 qu2 qu3 qw0 qw1 qw2 qw3 qx0 qx1 qx2 qx3 qT qL1 qL2 qL0 qX0 qd2 qf3 qn1 qn2 qn3 qn4 qz0 qt4 qu4 qw4 qx4 qk0 qb0 qe0 qD0 qh0 qD1 qv0 cI cJ cZ cB cT d_n d_for f_row f_fears n_calls n_bord n_rep n_unl n_pay n_py n_pr r_tx r_rul t_cl t_ln t_pt t_code t_st t_en u_cl u_ln u_pt u_code u_st u_en w_cl w_ln w_pt w_code w_st w_en x_cl x_ln x_pt x_code x_st x_en l_names l_stack)) hP [0, 1, 2, 3, 4, 28, 29, 5, 6, 7, 8, 9, 10, 11, 12, 13, 14, 15, 16, 17, 18, 19, 20, 21, 22, 23, 24, 25, 26, 27] rfl
        have hD := hD.sub (ws' := (W_X_0t1_3t5_9_14t16_34t37_39t42_44t47_49t52_54_61t63_76 qd0 qd1 qf0 qf1 qf2 qn0 qn5 qn6 qr0 qt0 qt1 qt2 qt3 qu0 qu1 qu2 qu3 qw0 qw1 qw2 qw3 qx0 qx1 qx2 qx3 qT qL1 qL2 qL0 qX0 qd2 qf3 qn1 qn2 qn3 qn4 qz0 qt4 qu4 qw4 qx4 qk0 qb0 qe0 qD0 qh0 qD1 qv0 cI cJ cZ cB cT d_n d_for f_row f_fears n_calls n_bord n_rep n_unl n_pay n_py n_pr r_tx r_rul t_cl t_ln t_pt t_code t_st t_en u_cl u_ln u_pt u_code u_st u_en w_cl w_ln w_pt w_code w_st w_en x_cl x_ln x_pt x_code x_st x_en l_names l_stack)) [0, 1, 2, 3, 4, 28, 29, 5, 6, 7, 8, 9, 10, 11, 12, 13, 14, 15, 16, 17, 18, 19, 20, 21, 22, 23, 24, 25, 26, 27] rfl rfl
        refine lv_istore_n (lv' := [(3, .int r18), (0, .ref qX0), (1, .int x1), (2, .int x2)]) hx hb dX11_explains_21 rfl hl (by decide) rfl (fun ls hl => ?_)
        refine lv_aload_n hx hb dX11_explains_22 rfl (lv_at hl 1 rfl) ?_
        refine gfX11_54 hx hb hts hown hK hP 29 rfl rfl dX11_explains_23 ?_
        refine lv_iload_n hx hb dX11_explains_26 rfl (lv_at hl 0 rfl) ?_
        refine lv_iconst (v := (0 : Int32)) hx hb dX11_explains_27 (by decide) ?_
        obtain ⟨r28, hg28, hf⟩ := ob1_some hf
        refine mcV_i (wr := [(qd0, .inr (2, [.int d_n, .ref qd1, .ref qd2])), (qd1, .inl (cI, 8, .inl d_for)), (qf2, .inl (cI, 6, .inl f_fears)), (qn0, .inr (4, [.int n_calls, .int n_bord, .int n_rep, .int n_unl, .int n_pay, .ref qn1, .ref qn2, .ref qn3, .ref qn4, .ref qn5, .ref qn6])), (qn5, .inl (cI, 8, .inl n_py)), (qn6, .inl (cI, 8, .inl n_pr)), (qr0, .inr (6, [.ref qd0, .ref qf0, .ref qz0, .ref qn0, .int r_tx, .int r_rul])), (qt0, .inr (9, [.int t_cl, .int t_ln, .int t_pt, .ref qt1, .ref qt2, .ref qt3, .ref qt4])), (qt1, .inl (cI, 301, .inl t_code)), (qt2, .inl (cI, 4, .inl t_st)), (qt3, .inl (cI, 4, .inl t_en)), (qu0, .inr (9, [.int u_cl, .int u_ln, .int u_pt, .ref qu1, .ref qu2, .ref qu3, .ref qu4])), (qu1, .inl (cI, 301, .inl u_code)), (qu2, .inl (cI, 4, .inl u_st)), (qu3, .inl (cI, 4, .inl u_en)), (qw0, .inr (9, [.int w_cl, .int w_ln, .int w_pt, .ref qw1, .ref qw2, .ref qw3, .ref qw4])), (qw1, .inl (cI, 301, .inl w_code)), (qw2, .inl (cI, 4, .inl w_st)), (qw3, .inl (cI, 4, .inl w_en)), (qx0, .inr (9, [.int x_cl, .int x_ln, .int x_pt, .ref qx1, .ref qx2, .ref qx3, .ref qx4])), (qx1, .inl (cI, 301, .inl x_code)), (qx2, .inl (cI, 4, .inl x_st)), (qx3, .inl (cI, 4, .inl x_en)), (qT, .inl (cT, 4, .inr (.inr (.inr (.inr (fT qt0 qu0 qw0 qx0)))))), (qL1, .inl (cI, 10, .inl l_names)), (qL2, .inl (cI, 64, .inl l_stack)), (qL0, .inr (3, [.ref qr0, .ref qT, .ref qL1, .ref qL2])), (qX0, .inr (11, [.ref qr0, .ref qk0, .ref qT, .ref qb0, .ref qe0, .ref qL0, .ref qf0, .ref qd0, .ref qn0, .ref qz0, .ref qD0, .ref qh0, .ref qD1, .ref qv0]))]) (As := [.int r18, .int (0 : Int32)]) (rest := []) hx hb hml hown hts hK hP hD hS hA (k_X1_get l N D cI cJ cZ cB cT qf0 qf1 qf2 qf3 f_row r18 (0 : Int32) r28 hg28) (kwX11_239 hts rfl rfl ⟨Nat.le_of_ble_eq_true rfl, Nat.le_of_ble_eq_true rfl⟩) [2, 3] [0, 1, 4, 5, 6, 7, 8, 9, 10, 11, 12, 13, 14, 15, 16, 17, 18, 19, 20, 21, 22, 23, 24, 25, 26, 27, 28, 29] rfl rfl rfl (by decide) rfl 0 rfl rfl rfl rfl hl.1 rfl (Nat.le_of_ble_eq_true rfl) dX11_explains_28 ⟨Nat.zero_le _, Nat.zero_le _⟩ (fun hB28 H locs hP hD hS => ?_)
        have hP := mP_sub (wc := (W_X_0t1_3t5_9_14t16_34t37_39t42_44t47_49t52_54_61t63_76 qd0 qd1 qf0 qf1 qf2 qn0 qn5 qn6 qr0 qt0 qt1 qt2 qt3 qu0 qu1 qu2 qu3 qw0 qw1 qw2 qw3 qx0 qx1 qx2 qx3 qT qL1 qL2 qL0 qX0 qd2 qf3 qn1 qn2 qn3 qn4 qz0 qt4 qu4 qw4 qx4 qk0 qb0 qe0 qD0 qh0 qD1 qv0 cI cJ cZ cB cT d_n d_for f_row f_fears n_calls n_bord n_rep n_unl n_pay n_py n_pr r_tx r_rul t_cl t_ln t_pt t_code t_st t_en u_cl u_ln u_pt u_code u_st u_en w_cl w_ln w_pt w_code w_st w_en x_cl x_ln x_pt x_code x_st x_en l_names l_stack)) hP [0, 1, 28, 29, 2, 3, 4, 5, 6, 7, 8, 9, 10, 11, 12, 13, 14, 15, 16, 17, 18, 19, 20, 21, 22, 23, 24, 25, 26, 27] rfl
        have hD := hD.sub (ws' := (W_X_0t1_3t5_9_14t16_34t37_39t42_44t47_49t52_54_61t63_76 qd0 qd1 qf0 qf1 qf2 qn0 qn5 qn6 qr0 qt0 qt1 qt2 qt3 qu0 qu1 qu2 qu3 qw0 qw1 qw2 qw3 qx0 qx1 qx2 qx3 qT qL1 qL2 qL0 qX0 qd2 qf3 qn1 qn2 qn3 qn4 qz0 qt4 qu4 qw4 qx4 qk0 qb0 qe0 qD0 qh0 qD1 qv0 cI cJ cZ cB cT d_n d_for f_row f_fears n_calls n_bord n_rep n_unl n_pay n_py n_pr r_tx r_rul t_cl t_ln t_pt t_code t_st t_en u_cl u_ln u_pt u_code u_st u_en w_cl w_ln w_pt w_code w_st w_en x_cl x_ln x_pt x_code x_st x_en l_names l_stack)) [0, 1, 28, 29, 2, 3, 4, 5, 6, 7, 8, 9, 10, 11, 12, 13, 14, 15, 16, 17, 18, 19, 20, 21, 22, 23, 24, 25, 26, 27] rfl rfl
        refine lv_istore (lv' := [(4, .int r28), (3, .int r18), (0, .ref qX0), (1, .int x1), (2, .int x2)]) hx hb dX11_explains_31 hl (by decide) rfl (fun ls hl => ?_)
        refine lv_aload_n hx hb dX11_explains_33 rfl (lv_at hl 2 rfl) ?_
        refine gfX11_46 hx hb hts hown hK hP 29 rfl rfl dX11_explains_34 ?_
        refine lv_iload_n hx hb dX11_explains_37 rfl (lv_at hl 3 rfl) ?_
        refine lv_iconst (v := (2 : Int32)) hx hb dX11_explains_38 (by decide) ?_
        refine lv_aload_n hx hb dX11_explains_39 rfl (lv_at hl 2 rfl) ?_
        refine gfX11_54 hx hb hts hown hK hP 29 rfl rfl dX11_explains_40 ?_
        refine lv_iload_n hx hb dX11_explains_43 rfl (lv_at hl 1 rfl) ?_
        refine lv_iload hx hb dX11_explains_44 (lv_at hl 0 rfl) ?_
        obtain ⟨r46, l_names_46, l_stack_46, hg46, hf⟩ := ob3_some hf
        refine mcVE_i (wr := [(qn0, .inr (4, [.int n_calls, .int n_bord, .int n_rep, .int n_unl, .int n_pay, .ref qn1, .ref qn2, .ref qn3, .ref qn4, .ref qn5, .ref qn6])), (qn5, .inl (cI, 8, .inl n_py)), (qn6, .inl (cI, 8, .inl n_pr)), (qX0, .inr (11, [.ref qr0, .ref qk0, .ref qT, .ref qb0, .ref qe0, .ref qL0, .ref qf0, .ref qd0, .ref qn0, .ref qz0, .ref qD0, .ref qh0, .ref qD1, .ref qv0]))]) (As := [.int x1, .int (2 : Int32), .ref qf0, .int r18, .int r28]) (rest := []) hx hb hml hown hts hK hP hD hS hA hE (k_X3_rule l N D cI cJ cZ cB cT qd0 qd1 qt0 qt1 qt2 qt3 qu0 qu1 qu2 qu3 qw0 qw1 qw2 qw3 qx0 qx1 qx2 qx3 qT qf0 qf1 qf2 qr0 qL1 qL2 qL0 qd2 qt4 qu4 qw4 qx4 qf3 qf0 qz0 qn0 d_n d_for t_cl t_ln t_pt t_code t_st t_en u_cl u_ln u_pt u_code u_st u_en w_cl w_ln w_pt w_code w_st w_en x_cl x_ln x_pt x_code x_st x_en f_row f_fears r_tx r_rul l_names l_stack x1 (2 : Int32) r18 r28 r46 l_names_46 l_stack_46 hg46) (kwX11_245 hts rfl rfl ⟨Nat.le_of_ble_eq_true rfl, Nat.le_of_ble_eq_true rfl⟩) [0, 1, 9, 10, 11, 12, 13, 14, 15, 16, 17, 18, 19, 20, 21, 22, 23, 24, 25, 2, 3, 4, 8, 26, 27, 28] [5, 6, 7, 29] rfl rfl rfl (by decide) rfl 25 rfl rfl rfl rfl hl.1 rfl (Nat.le_of_ble_eq_true rfl) dX11_explains_46 ⟨Nat.zero_le _, Nat.zero_le _⟩ (fun hB46 H locs hP hD hS => ?_)
        have hP := mP_sub (wc := (W_X_0t1_3t5_9_14t16_34t37_39t42_44t47_49t52_54_61t63_76 qd0 qd1 qf0 qf1 qf2 qn0 qn5 qn6 qr0 qt0 qt1 qt2 qt3 qu0 qu1 qu2 qu3 qw0 qw1 qw2 qw3 qx0 qx1 qx2 qx3 qT qL1 qL2 qL0 qX0 qd2 qf3 qn1 qn2 qn3 qn4 qz0 qt4 qu4 qw4 qx4 qk0 qb0 qe0 qD0 qh0 qD1 qv0 cI cJ cZ cB cT d_n d_for f_row f_fears n_calls n_bord n_rep n_unl n_pay n_py n_pr r_tx r_rul t_cl t_ln t_pt t_code t_st t_en u_cl u_ln u_pt u_code u_st u_en w_cl w_ln w_pt w_code w_st w_en x_cl x_ln x_pt x_code x_st x_en l_names_46 l_stack_46)) hP [4, 5, 23, 24, 25, 0, 1, 2, 26, 6, 7, 8, 9, 10, 11, 12, 13, 14, 15, 16, 17, 18, 19, 20, 21, 22, 27, 28, 29, 3] rfl
        have hD := hD.sub (ws' := (W_X_0t1_3t5_9_14t16_34t37_39t42_44t47_49t52_54_61t63_76 qd0 qd1 qf0 qf1 qf2 qn0 qn5 qn6 qr0 qt0 qt1 qt2 qt3 qu0 qu1 qu2 qu3 qw0 qw1 qw2 qw3 qx0 qx1 qx2 qx3 qT qL1 qL2 qL0 qX0 qd2 qf3 qn1 qn2 qn3 qn4 qz0 qt4 qu4 qw4 qx4 qk0 qb0 qe0 qD0 qh0 qD1 qv0 cI cJ cZ cB cT d_n d_for f_row f_fears n_calls n_bord n_rep n_unl n_pay n_py n_pr r_tx r_rul t_cl t_ln t_pt t_code t_st t_en u_cl u_ln u_pt u_code u_st u_en w_cl w_ln w_pt w_code w_st w_en x_cl x_ln x_pt x_code x_st x_en l_names_46 l_stack_46)) [4, 5, 23, 24, 25, 0, 1, 2, 26, 6, 7, 8, 9, 10, 11, 12, 13, 14, 15, 16, 17, 18, 19, 20, 21, 22, 27, 28, 29, 3] rfl rfl
        refine lv_aload_n hx hb dX11_explains_49 rfl (lv_at hl 2 rfl) ?_
        refine gfX11_64 hx hb hts hown hK hP 29 rfl rfl dX11_explains_50 ?_
        refine lv_iload_n hx hb dX11_explains_53 rfl (lv_at hl 4 rfl) ?_
        obtain ⟨r54, hg54, hf⟩ := ob1_some hf
        refine mcV_i (wr := [(qd0, .inr (2, [.int d_n, .ref qd1, .ref qd2])), (qd1, .inl (cI, 8, .inl d_for)), (qf0, .inr (1, [.ref qf1, .ref qf2, .ref qf3])), (qf1, .inl (cI, 76, .inl f_row)), (qf2, .inl (cI, 6, .inl f_fears)), (qn5, .inl (cI, 8, .inl n_py)), (qr0, .inr (6, [.ref qd0, .ref qf0, .ref qz0, .ref qn0, .int r_tx, .int r_rul])), (qt0, .inr (9, [.int t_cl, .int t_ln, .int t_pt, .ref qt1, .ref qt2, .ref qt3, .ref qt4])), (qt1, .inl (cI, 301, .inl t_code)), (qt2, .inl (cI, 4, .inl t_st)), (qt3, .inl (cI, 4, .inl t_en)), (qu0, .inr (9, [.int u_cl, .int u_ln, .int u_pt, .ref qu1, .ref qu2, .ref qu3, .ref qu4])), (qu1, .inl (cI, 301, .inl u_code)), (qu2, .inl (cI, 4, .inl u_st)), (qu3, .inl (cI, 4, .inl u_en)), (qw0, .inr (9, [.int w_cl, .int w_ln, .int w_pt, .ref qw1, .ref qw2, .ref qw3, .ref qw4])), (qw1, .inl (cI, 301, .inl w_code)), (qw2, .inl (cI, 4, .inl w_st)), (qw3, .inl (cI, 4, .inl w_en)), (qx0, .inr (9, [.int x_cl, .int x_ln, .int x_pt, .ref qx1, .ref qx2, .ref qx3, .ref qx4])), (qx1, .inl (cI, 301, .inl x_code)), (qx2, .inl (cI, 4, .inl x_st)), (qx3, .inl (cI, 4, .inl x_en)), (qT, .inl (cT, 4, .inr (.inr (.inr (.inr (fT qt0 qu0 qw0 qx0)))))), (qL1, .inl (cI, 10, .inl l_names_46)), (qL2, .inl (cI, 64, .inl l_stack_46)), (qL0, .inr (3, [.ref qr0, .ref qT, .ref qL1, .ref qL2])), (qX0, .inr (11, [.ref qr0, .ref qk0, .ref qT, .ref qb0, .ref qe0, .ref qL0, .ref qf0, .ref qd0, .ref qn0, .ref qz0, .ref qD0, .ref qh0, .ref qD1, .ref qv0]))]) (As := [.int x2]) (rest := [.int r46]) hx hb hml hown hts hK hP hD hS hA (k_X4_payment l N D cI cJ cZ cB cT qn0 qn6 qn1 qn2 qn3 qn4 qn5 n_calls n_bord n_rep n_unl n_pay n_pr x2 r54 hg54) (kwX11_380 hts rfl rfl ⟨Nat.le_of_ble_eq_true rfl, Nat.le_of_ble_eq_true rfl⟩) [5, 7] [0, 1, 2, 3, 4, 6, 8, 9, 10, 11, 12, 13, 14, 15, 16, 17, 18, 19, 20, 21, 22, 23, 24, 25, 26, 27, 28, 29] rfl rfl rfl (by decide) rfl 0 rfl rfl rfl rfl hl.1 rfl (Nat.le_of_ble_eq_true rfl) dX11_explains_54 ⟨Nat.zero_le _, Nat.zero_le _⟩ (fun hB54 H locs hP hD hS => ?_)
        have hP := mP_sub (wc := (W_X_0t1_3t5_9_14t16_34t37_39t42_44t47_49t52_54_61t63_76 qd0 qd1 qf0 qf1 qf2 qn0 qn5 qn6 qr0 qt0 qt1 qt2 qt3 qu0 qu1 qu2 qu3 qw0 qw1 qw2 qw3 qx0 qx1 qx2 qx3 qT qL1 qL2 qL0 qX0 qd2 qf3 qn1 qn2 qn3 qn4 qz0 qt4 qu4 qw4 qx4 qk0 qb0 qe0 qD0 qh0 qD1 qv0 cI cJ cZ cB cT d_n d_for f_row f_fears n_calls n_bord n_rep n_unl n_pay n_py n_pr r_tx r_rul t_cl t_ln t_pt t_code t_st t_en u_cl u_ln u_pt u_code u_st u_en w_cl w_ln w_pt w_code w_st w_en x_cl x_ln x_pt x_code x_st x_en l_names_46 l_stack_46)) hP [0, 1, 2, 3, 4, 28, 5, 29, 6, 7, 8, 9, 10, 11, 12, 13, 14, 15, 16, 17, 18, 19, 20, 21, 22, 23, 24, 25, 26, 27] rfl
        have hD := hD.sub (ws' := (W_X_0t1_3t5_9_14t16_34t37_39t42_44t47_49t52_54_61t63_76 qd0 qd1 qf0 qf1 qf2 qn0 qn5 qn6 qr0 qt0 qt1 qt2 qt3 qu0 qu1 qu2 qu3 qw0 qw1 qw2 qw3 qx0 qx1 qx2 qx3 qT qL1 qL2 qL0 qX0 qd2 qf3 qn1 qn2 qn3 qn4 qz0 qt4 qu4 qw4 qx4 qk0 qb0 qe0 qD0 qh0 qD1 qv0 cI cJ cZ cB cT d_n d_for f_row f_fears n_calls n_bord n_rep n_unl n_pay n_py n_pr r_tx r_rul t_cl t_ln t_pt t_code t_st t_en u_cl u_ln u_pt u_code u_st u_en w_cl w_ln w_pt w_code w_st w_en x_cl x_ln x_pt x_code x_st x_en l_names_46 l_stack_46)) [0, 1, 2, 3, 4, 28, 5, 29, 6, 7, 8, 9, 10, 11, 12, 13, 14, 15, 16, 17, 18, 19, 20, 21, 22, 23, 24, 25, 26, 27] rfl rfl
        refine xicmp_eq hx hb 62 dX11_explains_57 (by decide) hf (fun hf => ?_) (fun hf => ?_)
        · refine lv_iinc (v := (x2 + (1 : Int32))) (lv' := [(2, .int (x2 + (1 : Int32))), (4, .int r28), (3, .int r18), (0, .ref qX0), (1, .int x1)]) hx hb dX11_explains_62 hl (k := 4) rfl rfl (by decide) rfl (fun ls hl => ?_)
          refine lv_goto (tgt := 2) hx hb dX11_explains_65 (by decide) ?_
          exact ih2 l_names_46 l_stack_46 x1 (x2 + (1 : Int32)) _ _ _ hf hP hD hS (lv_sub hl [3, 4, 0] rfl)
        · refine lv_iconst (v := (0 : Int32)) hx hb dX11_explains_60 (by decide) ?_
          cases hf
          exact mret_z hx hb hr hlocks hP hD hS dX11_explains_61 rfl rfl
  unfold f_X11_explains at hf
  refine lv_iconst (v := (0 : Int32)) hx hb dX11_explains_0 (by decide) ?_
  refine lv_istore_n (lv' := [(2, .int (0 : Int32)), (0, .ref qX0), (1, .int p1)]) hx hb dX11_explains_1 rfl hl (by decide) rfl (fun ls hl => ?_)
  exact b2 N l_names l_stack p1 (0 : Int32) _ _ _ hf hP hD hS (lv_sub hl [1, 2, 0] rfl)
theorem dX11_whose_0 : decode cX11_whose 0 = .ok (.iconst 0, 1) := by decide +kernel
theorem dX11_whose_1 : decode cX11_whose 1 = .ok (.istore_n 1, 1) := by decide +kernel
theorem dX11_whose_2 : decode cX11_whose 2 = .ok (.iconst 0, 1) := by decide +kernel
theorem dX11_whose_3 : decode cX11_whose 3 = .ok (.istore_n 2, 1) := by decide +kernel
theorem dX11_whose_4 : decode cX11_whose 4 = .ok (.iload_n 2, 1) := by decide +kernel
theorem dX11_whose_5 : decode cX11_whose 5 = .ok (.aload_n 0, 1) := by decide +kernel
theorem dX11_whose_6 : decode cX11_whose 6 = .ok (.getfield 10, 3) := by decide +kernel
theorem dX11_whose_9 : decode cX11_whose 9 = .ok (.getfield 125, 3) := by decide +kernel
theorem dX11_whose_12 : decode cX11_whose 12 = .ok (.if_icmp .ge 23, 3) := by decide +kernel
theorem dX11_whose_15 : decode cX11_whose 15 = .ok (.aload_n 0, 1) := by decide +kernel
theorem dX11_whose_16 : decode cX11_whose 16 = .ok (.iload_n 2, 1) := by decide +kernel
theorem dX11_whose_17 : decode cX11_whose 17 = .ok (.invokevirtual 371, 3) := by decide +kernel
theorem dX11_whose_20 : decode cX11_whose 20 = .ok (.ifCond .eq 9, 3) := by decide +kernel
theorem dX11_whose_23 : decode cX11_whose 23 = .ok (.iload_n 1, 1) := by decide +kernel
theorem dX11_whose_24 : decode cX11_whose 24 = .ok (.iconst 1, 1) := by decide +kernel
theorem dX11_whose_25 : decode cX11_whose 25 = .ok (.iload_n 2, 1) := by decide +kernel
theorem dX11_whose_26 : decode cX11_whose 26 = .ok (.ishl, 1) := by decide +kernel
theorem dX11_whose_27 : decode cX11_whose 27 = .ok (.ior, 1) := by decide +kernel
theorem dX11_whose_28 : decode cX11_whose 28 = .ok (.istore_n 1, 1) := by decide +kernel
theorem dX11_whose_29 : decode cX11_whose 29 = .ok (.iinc 2 1, 3) := by decide +kernel
theorem dX11_whose_32 : decode cX11_whose 32 = .ok (.goto (-28), 3) := by decide +kernel
theorem dX11_whose_35 : decode cX11_whose 35 = .ok (.iload_n 1, 1) := by decide +kernel
theorem dX11_whose_36 : decode cX11_whose 36 = .ok (.ireturn, 1) := by decide +kernel
def f_X11_whose_29 (N : Nat) (k_4 : Int32 → (Nat → Int32) → (Nat → Int32) → (Nat → Int32) → Int32 → (Nat → Int32) → (Nat → Int32) → Int32 → (Nat → Int32) → (Nat → Int32) → (Nat → Int32) → (Nat → Int32) → (Nat → Int32) → (Nat → Int32) → (Nat → Int32) → (Nat → Int32) → (Nat → Int32) → (Nat → Int32) → (Nat → Int32) → (Nat → Int32) → (Nat → Int32) → (Nat → Int32) → Int32 → Int32 → Option (Int32 × (Nat → Int32) × (Nat → Int32))) (d_n : Int32) (d_for : Nat → Int32) (f_row : Nat → Int32) (f_fears : Nat → Int32) (n_pay : Int32) (n_py : Nat → Int32) (n_pr : Nat → Int32) (r_tx : Int32) (t_code : Nat → Int32) (t_st : Nat → Int32) (t_en : Nat → Int32) (u_code : Nat → Int32) (u_st : Nat → Int32) (u_en : Nat → Int32) (w_code : Nat → Int32) (w_st : Nat → Int32) (w_en : Nat → Int32) (x_code : Nat → Int32) (x_st : Nat → Int32) (x_en : Nat → Int32) (l_names : Nat → Int32) (l_stack : Nat → Int32) (x1 : Int32) (x2 : Int32) : Option (Int32 × (Nat → Int32) × (Nat → Int32)) := k_4 d_n d_for f_row f_fears n_pay n_py n_pr r_tx t_code t_st t_en u_code u_st u_en w_code w_st w_en x_code x_st x_en l_names l_stack x1 (x2 + (1 : Int32))
def f_X11_whose_4 (N : Nat) : Nat → Int32 → (Nat → Int32) → (Nat → Int32) → (Nat → Int32) → Int32 → (Nat → Int32) → (Nat → Int32) → Int32 → (Nat → Int32) → (Nat → Int32) → (Nat → Int32) → (Nat → Int32) → (Nat → Int32) → (Nat → Int32) → (Nat → Int32) → (Nat → Int32) → (Nat → Int32) → (Nat → Int32) → (Nat → Int32) → (Nat → Int32) → (Nat → Int32) → (Nat → Int32) → Int32 → Int32 → Option (Int32 × (Nat → Int32) × (Nat → Int32))
  | 0, _, _, _, _, _, _, _, _, _, _, _, _, _, _, _, _, _, _, _, _, _, _, _, _ => none
  | n + 1, d_n, d_for, f_row, f_fears, n_pay, n_py, n_pr, r_tx, t_code, t_st, t_en, u_code, u_st, u_en, w_code, w_st, w_en, x_code, x_st, x_en, l_names, l_stack, x1, x2 => if r_tx ≤ x2 then (some (x1, l_names, l_stack)) else (ob3 (f_X11_explains N d_n d_for f_row f_fears n_pay n_py n_pr r_tx t_code t_st t_en u_code u_st u_en w_code w_st w_en x_code x_st x_en l_names l_stack x2) fun r17 l_names_17 l_stack_17 => if r17 = 0 then (f_X11_whose_29 N (f_X11_whose_4 N n) d_n d_for f_row f_fears n_pay n_py n_pr r_tx t_code t_st t_en u_code u_st u_en w_code w_st w_en x_code x_st x_en l_names_17 l_stack_17 x1 x2) else (f_X11_whose_29 N (f_X11_whose_4 N n) d_n d_for f_row f_fears n_pay n_py n_pr r_tx t_code t_st t_en u_code u_st u_en w_code w_st w_en x_code x_st x_en l_names_17 l_stack_17 (x1 ||| ((1 : Int32) <<< (x2 &&& 31))) x2))
def f_X11_whose (N : Nat) (d_n : Int32) (d_for : Nat → Int32) (f_row : Nat → Int32) (f_fears : Nat → Int32) (n_pay : Int32) (n_py : Nat → Int32) (n_pr : Nat → Int32) (r_tx : Int32) (t_code : Nat → Int32) (t_st : Nat → Int32) (t_en : Nat → Int32) (u_code : Nat → Int32) (u_st : Nat → Int32) (u_en : Nat → Int32) (w_code : Nat → Int32) (w_st : Nat → Int32) (w_en : Nat → Int32) (x_code : Nat → Int32) (x_st : Nat → Int32) (x_en : Nat → Int32) (l_names : Nat → Int32) (l_stack : Nat → Int32) : Option (Int32 × (Nat → Int32) × (Nat → Int32)) := f_X11_whose_4 N N d_n d_for f_row f_fears n_pay n_py n_pr r_tx t_code t_st t_en u_code u_st u_en w_code w_st w_en x_code x_st x_en l_names l_stack (0 : Int32) (0 : Int32)
set_option maxHeartbeats 4000000 in
set_option maxRecDepth 100000 in
theorem k_X11_whose (l : Launch) (N : Nat) (D : va_G) (cI cJ cZ cB cT : ClassId) (qd0 : Nat) (qd1 : Nat) (qf0 : Nat) (qf1 : Nat) (qf2 : Nat) (qn0 : Nat) (qn5 : Nat) (qn6 : Nat) (qr0 : Nat) (qt0 : Nat) (qt1 : Nat) (qt2 : Nat) (qt3 : Nat) (qu0 : Nat) (qu1 : Nat) (qu2 : Nat) (qu3 : Nat) (qw0 : Nat) (qw1 : Nat) (qw2 : Nat) (qw3 : Nat) (qx0 : Nat) (qx1 : Nat) (qx2 : Nat) (qx3 : Nat) (qT : Nat) (qL1 : Nat) (qL2 : Nat) (qL0 : Nat) (qX0 : Nat) (qd2 : Nat) (qf3 : Nat) (qn1 : Nat) (qn2 : Nat) (qn3 : Nat) (qn4 : Nat) (qz0 : Nat) (qt4 : Nat) (qu4 : Nat) (qw4 : Nat) (qx4 : Nat) (qk0 : Nat) (qb0 : Nat) (qe0 : Nat) (qD0 : Nat) (qh0 : Nat) (qD1 : Nat) (qv0 : Nat) (d_n : Int32) (d_for : Nat → Int32) (f_row : Nat → Int32) (f_fears : Nat → Int32) (n_calls : Int32) (n_bord : Int32) (n_rep : Int32) (n_unl : Int32) (n_pay : Int32) (n_py : Nat → Int32) (n_pr : Nat → Int32) (r_tx : Int32) (r_rul : Int32) (t_cl : Int32) (t_ln : Int32) (t_pt : Int32) (t_code : Nat → Int32) (t_st : Nat → Int32) (t_en : Nat → Int32) (u_cl : Int32) (u_ln : Int32) (u_pt : Int32) (u_code : Nat → Int32) (u_st : Nat → Int32) (u_en : Nat → Int32) (w_cl : Int32) (w_ln : Int32) (w_pt : Int32) (w_code : Nat → Int32) (w_st : Nat → Int32) (w_en : Nat → Int32) (x_cl : Int32) (x_ln : Int32) (x_pt : Int32) (x_code : Nat → Int32) (x_st : Nat → Int32) (x_en : Nat → Int32) (l_names : Nat → Int32) (l_stack : Nat → Int32) (o_r : Int32) (o_l_names : Nat → Int32) (o_l_stack : Nat → Int32) (hf : f_X11_whose N d_n d_for f_row f_fears n_pay n_py n_pr r_tx t_code t_st t_en u_code u_st u_en w_code w_st w_en x_code x_st x_en l_names l_stack = some (o_r, o_l_names, o_l_stack)) : ∀ sz, Met l yX11_whose (mw yX11_whose cX11_whose 3 (some .int)) ({ frames := 5, cells := 0, slots := 0, locals := 143 } : Room) (mPreE D (mT cI cJ cZ cB cT) (W_X_0t1_3t5_9_14t16_34t37_39t42_44t47_49t52_54_61t63_76 qd0 qd1 qf0 qf1 qf2 qn0 qn5 qn6 qr0 qt0 qt1 qt2 qt3 qu0 qu1 qu2 qu3 qw0 qw1 qw2 qw3 qx0 qx1 qx2 qx3 qT qL1 qL2 qL0 qX0 qd2 qf3 qn1 qn2 qn3 qn4 qz0 qt4 qu4 qw4 qx4 qk0 qb0 qe0 qD0 qh0 qD1 qv0 cI cJ cZ cB cT d_n d_for f_row f_fears n_calls n_bord n_rep n_unl n_pay n_py n_pr r_tx r_rul t_cl t_ln t_pt t_code t_st t_en u_cl u_ln u_pt u_code u_st u_en w_cl w_ln w_pt w_code w_st w_en x_cl x_ln x_pt x_code x_st x_en l_names l_stack) sz [.ref qX0]) ((mQi D (W_X_0t1_3t5_9_14t16_34t37_39t42_44t47_49t52_54_61t63_76 qd0 qd1 qf0 qf1 qf2 qn0 qn5 qn6 qr0 qt0 qt1 qt2 qt3 qu0 qu1 qu2 qu3 qw0 qw1 qw2 qw3 qx0 qx1 qx2 qx3 qT qL1 qL2 qL0 qX0 qd2 qf3 qn1 qn2 qn3 qn4 qz0 qt4 qu4 qw4 qx4 qk0 qb0 qe0 qD0 qh0 qD1 qv0 cI cJ cZ cB cT d_n d_for f_row f_fears n_calls n_bord n_rep n_unl n_pay n_py n_pr r_tx r_rul t_cl t_ln t_pt t_code t_st t_en u_cl u_ln u_pt u_code u_st u_en w_cl w_ln w_pt w_code w_st w_en x_cl x_ln x_pt x_code x_st x_en o_l_names o_l_stack) o_r True) (va_A (W_X_0t1_3t5_9_14t16_34t37_39t42_44t47_49t52_54_61t63_76 qd0 qd1 qf0 qf1 qf2 qn0 qn5 qn6 qr0 qt0 qt1 qt2 qt3 qu0 qu1 qu2 qu3 qw0 qw1 qw2 qw3 qx0 qx1 qx2 qx3 qT qL1 qL2 qL0 qX0 qd2 qf3 qn1 qn2 qn3 qn4 qz0 qt4 qu4 qw4 qx4 qk0 qb0 qe0 qD0 qh0 qD1 qv0 cI cJ cZ cB cT d_n d_for f_row f_fears n_calls n_bord n_rep n_unl n_pay n_py n_pr r_tx r_rul t_cl t_ln t_pt t_code t_st t_en u_cl u_ln u_pt u_code u_st u_en w_cl w_ln w_pt w_code w_st w_en x_cl x_ln x_pt x_code x_st x_en l_names l_stack) sz)) 0 0 (va_A (W_X_0t1_3t5_9_14t16_34t37_39t42_44t47_49t52_54_61t63_76 qd0 qd1 qf0 qf1 qf2 qn0 qn5 qn6 qr0 qt0 qt1 qt2 qt3 qu0 qu1 qu2 qu3 qw0 qw1 qw2 qw3 qx0 qx1 qx2 qx3 qT qL1 qL2 qL0 qX0 qd2 qf3 qn1 qn2 qn3 qn4 qz0 qt4 qu4 qw4 qx4 qk0 qb0 qe0 qD0 qh0 qD1 qv0 cI cJ cZ cB cT d_n d_for f_row f_fears n_calls n_bord n_rep n_unl n_pay n_py n_pr r_tx r_rul t_cl t_ln t_pt t_code t_st t_en u_cl u_ln u_pt u_code u_st u_en w_cl w_ln w_pt w_code w_st w_en x_cl x_ln x_pt x_code x_st x_en l_names l_stack) sz) := by
  refine mMetE (Qc := (mQi D (W_X_0t1_3t5_9_14t16_34t37_39t42_44t47_49t52_54_61t63_76 qd0 qd1 qf0 qf1 qf2 qn0 qn5 qn6 qr0 qt0 qt1 qt2 qt3 qu0 qu1 qu2 qu3 qw0 qw1 qw2 qw3 qx0 qx1 qx2 qx3 qT qL1 qL2 qL0 qX0 qd2 qf3 qn1 qn2 qn3 qn4 qz0 qt4 qu4 qw4 qx4 qk0 qb0 qe0 qD0 qh0 qD1 qv0 cI cJ cZ cB cT d_n d_for f_row f_fears n_calls n_bord n_rep n_unl n_pay n_py n_pr r_tx r_rul t_cl t_ln t_pt t_code t_st t_en u_cl u_ln u_pt u_code u_st u_en w_cl w_ln w_pt w_code w_st w_en x_cl x_ln x_pt x_code x_st x_en o_l_names o_l_stack) o_r True)) (by decide) (Nat.le_of_ble_eq_true rfl) (fun p e s m below meth c A ls hx hb hr hml hts hown hlocks hK hA hP hD hl hE => ?_)
  have hown : s.vm.findClass RX11 = some m.cls := hown
  have hl : lv_has ls 3 [(0, .ref qX0)] := hl
  have hS : va_S A s.heap s.heap [] := va_S.rf
  obtain ⟨⟨tM, hZM, hTM⟩, ⟨tL, hZL, hTL⟩, ⟨hNX4, hNX10⟩, tS, tV, hRS, hZC, hZF, hKS⟩ := id hE
  have b4 : ∀ n4 : Nat, ∀ (l_names : Nat → Int32) (l_stack : Nat → Int32) (x1 : Int32) (x2 : Int32) (H : Heap) (locs : List Loc) (ls : Array Slot), f_X11_whose_4 N n4 d_n d_for f_row f_fears n_pay n_py n_pr r_tx t_code t_st t_en u_code u_st u_en w_code w_st w_en x_code x_st x_en l_names l_stack x1 x2 = some (o_r, o_l_names, o_l_stack) → va_P D vwCl (W_X_0t1_3t5_9_14t16_34t37_39t42_44t47_49t52_54_61t63_76 qd0 qd1 qf0 qf1 qf2 qn0 qn5 qn6 qr0 qt0 qt1 qt2 qt3 qu0 qu1 qu2 qu3 qw0 qw1 qw2 qw3 qx0 qx1 qx2 qx3 qT qL1 qL2 qL0 qX0 qd2 qf3 qn1 qn2 qn3 qn4 qz0 qt4 qu4 qw4 qx4 qk0 qb0 qe0 qD0 qh0 qD1 qv0 cI cJ cZ cB cT d_n d_for f_row f_fears n_calls n_bord n_rep n_unl n_pay n_py n_pr r_tx r_rul t_cl t_ln t_pt t_code t_st t_en u_cl u_ln u_pt u_code u_st u_en w_cl w_ln w_pt w_code w_st w_en x_cl x_ln x_pt x_code x_st x_en l_names l_stack) H → va_D A (W_X_0t1_3t5_9_14t16_34t37_39t42_44t47_49t52_54_61t63_76 qd0 qd1 qf0 qf1 qf2 qn0 qn5 qn6 qr0 qt0 qt1 qt2 qt3 qu0 qu1 qu2 qu3 qw0 qw1 qw2 qw3 qx0 qx1 qx2 qx3 qT qL1 qL2 qL0 qX0 qd2 qf3 qn1 qn2 qn3 qn4 qz0 qt4 qu4 qw4 qx4 qk0 qb0 qe0 qD0 qh0 qD1 qv0 cI cJ cZ cB cT d_n d_for f_row f_fears n_calls n_bord n_rep n_unl n_pay n_py n_pr r_tx r_rul t_cl t_ln t_pt t_code t_st t_en u_cl u_ln u_pt u_code u_st u_en w_cl w_ln w_pt w_code w_st w_en x_cl x_ln x_pt x_code x_st x_en l_names l_stack) → va_S A s.heap H locs → lv_has ls 3 [(0, .ref qX0), (1, .int x1), (2, .int x2)] → W p l e ({ frames := 5, cells := 0, slots := 0, locals := 143 } : Room) s m ([.ref qX0] : List Value).toArray below meth c H locs 0 0 (MQ below ((mQi D (W_X_0t1_3t5_9_14t16_34t37_39t42_44t47_49t52_54_61t63_76 qd0 qd1 qf0 qf1 qf2 qn0 qn5 qn6 qr0 qt0 qt1 qt2 qt3 qu0 qu1 qu2 qu3 qw0 qw1 qw2 qw3 qx0 qx1 qx2 qx3 qT qL1 qL2 qL0 qX0 qd2 qf3 qn1 qn2 qn3 qn4 qz0 qt4 qu4 qw4 qx4 qk0 qb0 qe0 qD0 qh0 qD1 qv0 cI cJ cZ cB cT d_n d_for f_row f_fears n_calls n_bord n_rep n_unl n_pay n_py n_pr r_tx r_rul t_cl t_ln t_pt t_code t_st t_en u_cl u_ln u_pt u_code u_st u_en w_cl w_ln w_pt w_code w_st w_en x_cl x_ln x_pt x_code x_st x_en o_l_names o_l_stack) o_r True) A) ([.ref qX0] : List Value).toArray s 0 0 A) (F0 m 4 ls []) := by
    intro n4
    induction n4 with
    | zero =>
      intro l_names l_stack x1 x2 H locs ls hf hP hD hS hl
      simp [f_X11_whose_4] at hf
    | succ n4 ih4 =>
      have b29 : ∀ (l_names : Nat → Int32) (l_stack : Nat → Int32) (x1 : Int32) (x2 : Int32) (H : Heap) (locs : List Loc) (ls : Array Slot), f_X11_whose_29 N (f_X11_whose_4 N n4) d_n d_for f_row f_fears n_pay n_py n_pr r_tx t_code t_st t_en u_code u_st u_en w_code w_st w_en x_code x_st x_en l_names l_stack x1 x2 = some (o_r, o_l_names, o_l_stack) → va_P D vwCl (W_X_0t1_3t5_9_14t16_34t37_39t42_44t47_49t52_54_61t63_76 qd0 qd1 qf0 qf1 qf2 qn0 qn5 qn6 qr0 qt0 qt1 qt2 qt3 qu0 qu1 qu2 qu3 qw0 qw1 qw2 qw3 qx0 qx1 qx2 qx3 qT qL1 qL2 qL0 qX0 qd2 qf3 qn1 qn2 qn3 qn4 qz0 qt4 qu4 qw4 qx4 qk0 qb0 qe0 qD0 qh0 qD1 qv0 cI cJ cZ cB cT d_n d_for f_row f_fears n_calls n_bord n_rep n_unl n_pay n_py n_pr r_tx r_rul t_cl t_ln t_pt t_code t_st t_en u_cl u_ln u_pt u_code u_st u_en w_cl w_ln w_pt w_code w_st w_en x_cl x_ln x_pt x_code x_st x_en l_names l_stack) H → va_D A (W_X_0t1_3t5_9_14t16_34t37_39t42_44t47_49t52_54_61t63_76 qd0 qd1 qf0 qf1 qf2 qn0 qn5 qn6 qr0 qt0 qt1 qt2 qt3 qu0 qu1 qu2 qu3 qw0 qw1 qw2 qw3 qx0 qx1 qx2 qx3 qT qL1 qL2 qL0 qX0 qd2 qf3 qn1 qn2 qn3 qn4 qz0 qt4 qu4 qw4 qx4 qk0 qb0 qe0 qD0 qh0 qD1 qv0 cI cJ cZ cB cT d_n d_for f_row f_fears n_calls n_bord n_rep n_unl n_pay n_py n_pr r_tx r_rul t_cl t_ln t_pt t_code t_st t_en u_cl u_ln u_pt u_code u_st u_en w_cl w_ln w_pt w_code w_st w_en x_cl x_ln x_pt x_code x_st x_en l_names l_stack) → va_S A s.heap H locs → lv_has ls 3 [(0, .ref qX0), (1, .int x1), (2, .int x2)] → W p l e ({ frames := 5, cells := 0, slots := 0, locals := 143 } : Room) s m ([.ref qX0] : List Value).toArray below meth c H locs 0 0 (MQ below ((mQi D (W_X_0t1_3t5_9_14t16_34t37_39t42_44t47_49t52_54_61t63_76 qd0 qd1 qf0 qf1 qf2 qn0 qn5 qn6 qr0 qt0 qt1 qt2 qt3 qu0 qu1 qu2 qu3 qw0 qw1 qw2 qw3 qx0 qx1 qx2 qx3 qT qL1 qL2 qL0 qX0 qd2 qf3 qn1 qn2 qn3 qn4 qz0 qt4 qu4 qw4 qx4 qk0 qb0 qe0 qD0 qh0 qD1 qv0 cI cJ cZ cB cT d_n d_for f_row f_fears n_calls n_bord n_rep n_unl n_pay n_py n_pr r_tx r_rul t_cl t_ln t_pt t_code t_st t_en u_cl u_ln u_pt u_code u_st u_en w_cl w_ln w_pt w_code w_st w_en x_cl x_ln x_pt x_code x_st x_en o_l_names o_l_stack) o_r True) A) ([.ref qX0] : List Value).toArray s 0 0 A) (F0 m 29 ls []) := by
        intro l_names l_stack x1 x2 H locs ls hf hP hD hS hl
        unfold f_X11_whose_29 at hf
        refine lv_iinc (v := (x2 + (1 : Int32))) (lv' := [(2, .int (x2 + (1 : Int32))), (0, .ref qX0), (1, .int x1)]) hx hb dX11_whose_29 hl (k := 2) rfl rfl (by decide) rfl (fun ls hl => ?_)
        refine lv_goto (tgt := 4) hx hb dX11_whose_32 (by decide) ?_
        exact ih4 l_names l_stack x1 (x2 + (1 : Int32)) _ _ _ hf hP hD hS (lv_sub hl [1, 2, 0] rfl)
      intro l_names l_stack x1 x2 H locs ls hf hP hD hS hl
      rw [f_X11_whose_4.eq_2] at hf
      refine lv_iload_n hx hb dX11_whose_4 rfl (lv_at hl 2 rfl) ?_
      refine lv_aload_n hx hb dX11_whose_5 rfl (lv_at hl 0 rfl) ?_
      refine gfX11_10 hx hb hts hown hK hP 29 rfl rfl dX11_whose_6 ?_
      refine gfX11_125 hx hb hts hown hK hP 8 rfl rfl dX11_whose_9 ?_
      refine xicmp_ge hx hb 35 dX11_whose_12 (by decide) hf (fun hf => ?_) (fun hf => ?_)
      · refine lv_iload_n hx hb dX11_whose_35 rfl (lv_at hl 1 rfl) ?_
        cases hf
        exact mret_i hx hb hr hlocks hP hD hS dX11_whose_36 rfl trivial
      · refine lv_aload_n hx hb dX11_whose_15 rfl (lv_at hl 0 rfl) ?_
        refine lv_iload_n hx hb dX11_whose_16 rfl (lv_at hl 2 rfl) ?_
        obtain ⟨r17, l_names_17, l_stack_17, hg17, hf⟩ := ob3_some hf
        refine mcV1E_i (As := [.int x2]) (rest := []) hx hb hml hown hts hK hP hD hS hA hE (k_X11_explains l N D cI cJ cZ cB cT qd0 qd1 qf0 qf1 qf2 qn0 qn5 qn6 qr0 qt0 qt1 qt2 qt3 qu0 qu1 qu2 qu3 qw0 qw1 qw2 qw3 qx0 qx1 qx2 qx3 qT qL1 qL2 qL0 qX0 qd2 qf3 qn1 qn2 qn3 qn4 qz0 qt4 qu4 qw4 qx4 qk0 qb0 qe0 qD0 qh0 qD1 qv0 d_n d_for f_row f_fears n_calls n_bord n_rep n_unl n_pay n_py n_pr r_tx r_rul t_cl t_ln t_pt t_code t_st t_en u_cl u_ln u_pt u_code u_st u_en w_cl w_ln w_pt w_code w_st w_en x_cl x_ln x_pt x_code x_st x_en l_names l_stack x2 r17 l_names_17 l_stack_17 hg17) (kwX11_371 hts rfl rfl ⟨Nat.le_of_ble_eq_true rfl, Nat.le_of_ble_eq_true rfl⟩) 29 rfl rfl rfl rfl hl.1 rfl (Nat.le_of_ble_eq_true rfl) dX11_whose_17 ⟨Nat.zero_le _, Nat.zero_le _⟩ (fun hB17 H locs hP hD hS => ?_)
        have hP : va_P D vwCl (W_X_0t1_3t5_9_14t16_34t37_39t42_44t47_49t52_54_61t63_76 qd0 qd1 qf0 qf1 qf2 qn0 qn5 qn6 qr0 qt0 qt1 qt2 qt3 qu0 qu1 qu2 qu3 qw0 qw1 qw2 qw3 qx0 qx1 qx2 qx3 qT qL1 qL2 qL0 qX0 qd2 qf3 qn1 qn2 qn3 qn4 qz0 qt4 qu4 qw4 qx4 qk0 qb0 qe0 qD0 qh0 qD1 qv0 cI cJ cZ cB cT d_n d_for f_row f_fears n_calls n_bord n_rep n_unl n_pay n_py n_pr r_tx r_rul t_cl t_ln t_pt t_code t_st t_en u_cl u_ln u_pt u_code u_st u_en w_cl w_ln w_pt w_code w_st w_en x_cl x_ln x_pt x_code x_st x_en l_names_17 l_stack_17) H := hP
        have hD : va_D A (W_X_0t1_3t5_9_14t16_34t37_39t42_44t47_49t52_54_61t63_76 qd0 qd1 qf0 qf1 qf2 qn0 qn5 qn6 qr0 qt0 qt1 qt2 qt3 qu0 qu1 qu2 qu3 qw0 qw1 qw2 qw3 qx0 qx1 qx2 qx3 qT qL1 qL2 qL0 qX0 qd2 qf3 qn1 qn2 qn3 qn4 qz0 qt4 qu4 qw4 qx4 qk0 qb0 qe0 qD0 qh0 qD1 qv0 cI cJ cZ cB cT d_n d_for f_row f_fears n_calls n_bord n_rep n_unl n_pay n_py n_pr r_tx r_rul t_cl t_ln t_pt t_code t_st t_en u_cl u_ln u_pt u_code u_st u_en w_cl w_ln w_pt w_code w_st w_en x_cl x_ln x_pt x_code x_st x_en l_names_17 l_stack_17) := hD
        refine xif_eq hx hb 29 dX11_whose_20 (by decide) hf (fun hf => ?_) (fun hf => ?_)
        · exact b29 l_names_17 l_stack_17 x1 x2 _ _ _ hf hP hD hS (lv_sub hl [0, 1, 2] rfl)
        · refine lv_iload_n hx hb dX11_whose_23 rfl (lv_at hl 1 rfl) ?_
          refine lv_iconst (v := (1 : Int32)) hx hb dX11_whose_24 (by decide) ?_
          refine lv_iload_n hx hb dX11_whose_25 rfl (lv_at hl 2 rfl) ?_
          refine lv_ishl hx hb dX11_whose_26 ?_
          refine lv_ior hx hb dX11_whose_27 ?_
          refine lv_istore_n (lv' := [(1, .int (x1 ||| ((1 : Int32) <<< (x2 &&& 31)))), (0, .ref qX0), (2, .int x2)]) hx hb dX11_whose_28 rfl hl (by decide) rfl (fun ls hl => ?_)
          exact b29 l_names_17 l_stack_17 (x1 ||| ((1 : Int32) <<< (x2 &&& 31))) x2 _ _ _ hf hP hD hS (lv_sub hl [1, 0, 2] rfl)
  unfold f_X11_whose at hf
  refine lv_iconst (v := (0 : Int32)) hx hb dX11_whose_0 (by decide) ?_
  refine lv_istore_n (lv' := [(1, .int (0 : Int32)), (0, .ref qX0)]) hx hb dX11_whose_1 rfl hl (by decide) rfl (fun ls hl => ?_)
  refine lv_iconst (v := (0 : Int32)) hx hb dX11_whose_2 (by decide) ?_
  refine lv_istore_n (lv' := [(2, .int (0 : Int32)), (1, .int (0 : Int32)), (0, .ref qX0)]) hx hb dX11_whose_3 rfl hl (by decide) rfl (fun ls hl => ?_)
  exact b4 N l_names l_stack (0 : Int32) (0 : Int32) _ _ _ hf hP hD hS (lv_sub hl [2, 1, 0] rfl)
theorem dX11_image_0 : decode cX11_image 0 = .ok (.aload_n 0, 1) := by decide +kernel
theorem dX11_image_1 : decode cX11_image 1 = .ok (.getfield 16, 3) := by decide +kernel
theorem dX11_image_4 : decode cX11_image 4 = .ok (.aload_n 0, 1) := by decide +kernel
theorem dX11_image_5 : decode cX11_image 5 = .ok (.getfield 10, 3) := by decide +kernel
theorem dX11_image_8 : decode cX11_image 8 = .ok (.invokevirtual 383, 3) := by decide +kernel
theorem dX11_image_11 : decode cX11_image 11 = .ok (.aload_n 0, 1) := by decide +kernel
theorem dX11_image_12 : decode cX11_image 12 = .ok (.getfield 54, 3) := by decide +kernel
theorem dX11_image_15 : decode cX11_image 15 = .ok (.invokevirtual 168, 3) := by decide +kernel
theorem dX11_image_18 : decode cX11_image 18 = .ok (.ireturn, 1) := by decide +kernel
def f_X11_image (N : Nat) (d_n : Int32) (d_for : Nat → Int32) (d_road : Nat → Int32) (f_row : Nat → Int32) (f_fears : Nat → Int32) (f_told : Nat → Int32) (z_cnt : Int32) (z_next : Int32) (z_store : Nat → Int32) (n_calls : Int32) (n_bord : Int32) (n_rep : Int32) (n_unl : Int32) (n_pay : Int32) (n_cl : Nat → Int32) (n_ul : Nat → Int32) (n_ga : Nat → Int32) (n_py : Nat → Int32) (n_pr : Nat → Int32) (r_tx : Int32) (r_rul : Int32) (c_n : Int32) (c_for : Nat → Int32) (c_road : Nat → Int32) (g_row : Nat → Int32) (g_fears : Nat → Int32) (g_told : Nat → Int32) (y_cnt : Int32) (y_next : Int32) (y_store : Nat → Int32) (o_calls : Int32) (o_bord : Int32) (o_rep : Int32) (o_unl : Int32) (o_pay : Int32) (o_cl : Nat → Int32) (o_ul : Nat → Int32) (o_ga : Nat → Int32) (o_py : Nat → Int32) (o_pr : Nat → Int32) (k_tx : Int32) (k_rul : Int32) : Option (Int32 × Int32 × (Nat → Int32) × (Nat → Int32) × (Nat → Int32) × (Nat → Int32) × (Nat → Int32) × Int32 × Int32 × (Nat → Int32) × Int32 × Int32 × Int32 × Int32 × Int32 × (Nat → Int32) × (Nat → Int32) × (Nat → Int32) × (Nat → Int32) × (Nat → Int32) × Int32 × Int32) := ob21 (f_X6_become N c_n c_for c_road g_row g_fears g_told y_cnt y_next y_store o_calls o_bord o_rep o_unl o_pay o_cl o_ul o_ga o_py o_pr k_tx k_rul d_n d_for d_road f_row f_fears f_told z_cnt z_next z_store n_calls n_bord n_rep n_unl n_pay n_cl n_ul n_ga n_py n_pr r_tx r_rul) fun c_n_8 c_for_8 c_road_8 g_row_8 g_fears_8 g_told_8 y_cnt_8 y_next_8 y_store_8 o_calls_8 o_bord_8 o_rep_8 o_unl_8 o_pay_8 o_cl_8 o_ul_8 o_ga_8 o_py_8 o_pr_8 k_tx_8 k_rul_8 => ob1 (f_X1_monthNow N f_row) fun r15 => some (r15, c_n_8, c_for_8, c_road_8, g_row_8, g_fears_8, g_told_8, y_cnt_8, y_next_8, y_store_8, o_calls_8, o_bord_8, o_rep_8, o_unl_8, o_pay_8, o_cl_8, o_ul_8, o_ga_8, o_py_8, o_pr_8, k_tx_8, k_rul_8)
set_option maxHeartbeats 4000000 in
set_option maxRecDepth 100000 in
theorem k_X11_image (l : Launch) (N : Nat) (D : va_G) (cI cJ cZ cB cT : ClassId) (qd0 : Nat) (qd1 : Nat) (qd2 : Nat) (qf0 : Nat) (qf1 : Nat) (qf2 : Nat) (qf3 : Nat) (qz0 : Nat) (qz1 : Nat) (qn0 : Nat) (qn1 : Nat) (qn2 : Nat) (qn4 : Nat) (qn5 : Nat) (qn6 : Nat) (qr0 : Nat) (qc0 : Nat) (qc1 : Nat) (qc2 : Nat) (qg0 : Nat) (qg1 : Nat) (qg2 : Nat) (qg3 : Nat) (qy0 : Nat) (qy1 : Nat) (qo0 : Nat) (qo1 : Nat) (qo2 : Nat) (qo4 : Nat) (qo5 : Nat) (qo6 : Nat) (qk0 : Nat) (qX0 : Nat) (qn3 : Nat) (qo3 : Nat) (qT : Nat) (qb0 : Nat) (qe0 : Nat) (qL0 : Nat) (qD0 : Nat) (qh0 : Nat) (qD1 : Nat) (qv0 : Nat) (d_n : Int32) (d_for : Nat → Int32) (d_road : Nat → Int32) (f_row : Nat → Int32) (f_fears : Nat → Int32) (f_told : Nat → Int32) (z_cnt : Int32) (z_next : Int32) (z_store : Nat → Int32) (n_calls : Int32) (n_bord : Int32) (n_rep : Int32) (n_unl : Int32) (n_pay : Int32) (n_cl : Nat → Int32) (n_ul : Nat → Int32) (n_ga : Nat → Int32) (n_py : Nat → Int32) (n_pr : Nat → Int32) (r_tx : Int32) (r_rul : Int32) (c_n : Int32) (c_for : Nat → Int32) (c_road : Nat → Int32) (g_row : Nat → Int32) (g_fears : Nat → Int32) (g_told : Nat → Int32) (y_cnt : Int32) (y_next : Int32) (y_store : Nat → Int32) (o_calls : Int32) (o_bord : Int32) (o_rep : Int32) (o_unl : Int32) (o_pay : Int32) (o_cl : Nat → Int32) (o_ul : Nat → Int32) (o_ga : Nat → Int32) (o_py : Nat → Int32) (o_pr : Nat → Int32) (k_tx : Int32) (k_rul : Int32) (o_r : Int32) (o_c_n : Int32) (o_c_for : Nat → Int32) (o_c_road : Nat → Int32) (o_g_row : Nat → Int32) (o_g_fears : Nat → Int32) (o_g_told : Nat → Int32) (o_y_cnt : Int32) (o_y_next : Int32) (o_y_store : Nat → Int32) (o_o_calls : Int32) (o_o_bord : Int32) (o_o_rep : Int32) (o_o_unl : Int32) (o_o_pay : Int32) (o_o_cl : Nat → Int32) (o_o_ul : Nat → Int32) (o_o_ga : Nat → Int32) (o_o_py : Nat → Int32) (o_o_pr : Nat → Int32) (o_k_tx : Int32) (o_k_rul : Int32) (hf : f_X11_image N d_n d_for d_road f_row f_fears f_told z_cnt z_next z_store n_calls n_bord n_rep n_unl n_pay n_cl n_ul n_ga n_py n_pr r_tx r_rul c_n c_for c_road g_row g_fears g_told y_cnt y_next y_store o_calls o_bord o_rep o_unl o_pay o_cl o_ul o_ga o_py o_pr k_tx k_rul = some (o_r, o_c_n, o_c_for, o_c_road, o_g_row, o_g_fears, o_g_told, o_y_cnt, o_y_next, o_y_store, o_o_calls, o_o_bord, o_o_rep, o_o_unl, o_o_pay, o_o_cl, o_o_ul, o_o_ga, o_o_py, o_o_pr, o_k_tx, o_k_rul)) : ∀ sz, Met l yX11_image (mw yX11_image cX11_image 1 (some .int)) ({ frames := 3, cells := 0, slots := 0, locals := 102 } : Room) (mPre D (mT cI cJ cZ cB cT) (W_X_0t11_13t28_30t33_76 qd0 qd1 qd2 qf0 qf1 qf2 qf3 qz0 qz1 qn0 qn1 qn2 qn4 qn5 qn6 qr0 qc0 qc1 qc2 qg0 qg1 qg2 qg3 qy0 qy1 qo0 qo1 qo2 qo4 qo5 qo6 qk0 qX0 qn3 qo3 qT qb0 qe0 qL0 qD0 qh0 qD1 qv0 cI cJ cZ cB cT d_n d_for d_road f_row f_fears f_told z_cnt z_next z_store n_calls n_bord n_rep n_unl n_pay n_cl n_ul n_ga n_py n_pr r_tx r_rul c_n c_for c_road g_row g_fears g_told y_cnt y_next y_store o_calls o_bord o_rep o_unl o_pay o_cl o_ul o_ga o_py o_pr k_tx k_rul) sz [.ref qX0]) ((mQi D (W_X_0t11_13t28_30t33_76 qd0 qd1 qd2 qf0 qf1 qf2 qf3 qz0 qz1 qn0 qn1 qn2 qn4 qn5 qn6 qr0 qc0 qc1 qc2 qg0 qg1 qg2 qg3 qy0 qy1 qo0 qo1 qo2 qo4 qo5 qo6 qk0 qX0 qn3 qo3 qT qb0 qe0 qL0 qD0 qh0 qD1 qv0 cI cJ cZ cB cT d_n d_for d_road f_row f_fears f_told z_cnt z_next z_store n_calls n_bord n_rep n_unl n_pay n_cl n_ul n_ga n_py n_pr r_tx r_rul o_c_n o_c_for o_c_road o_g_row o_g_fears o_g_told o_y_cnt o_y_next o_y_store o_o_calls o_o_bord o_o_rep o_o_unl o_o_pay o_o_cl o_o_ul o_o_ga o_o_py o_o_pr o_k_tx o_k_rul) o_r True) (va_A (W_X_0t11_13t28_30t33_76 qd0 qd1 qd2 qf0 qf1 qf2 qf3 qz0 qz1 qn0 qn1 qn2 qn4 qn5 qn6 qr0 qc0 qc1 qc2 qg0 qg1 qg2 qg3 qy0 qy1 qo0 qo1 qo2 qo4 qo5 qo6 qk0 qX0 qn3 qo3 qT qb0 qe0 qL0 qD0 qh0 qD1 qv0 cI cJ cZ cB cT d_n d_for d_road f_row f_fears f_told z_cnt z_next z_store n_calls n_bord n_rep n_unl n_pay n_cl n_ul n_ga n_py n_pr r_tx r_rul c_n c_for c_road g_row g_fears g_told y_cnt y_next y_store o_calls o_bord o_rep o_unl o_pay o_cl o_ul o_ga o_py o_pr k_tx k_rul) sz)) 0 0 (va_A (W_X_0t11_13t28_30t33_76 qd0 qd1 qd2 qf0 qf1 qf2 qf3 qz0 qz1 qn0 qn1 qn2 qn4 qn5 qn6 qr0 qc0 qc1 qc2 qg0 qg1 qg2 qg3 qy0 qy1 qo0 qo1 qo2 qo4 qo5 qo6 qk0 qX0 qn3 qo3 qT qb0 qe0 qL0 qD0 qh0 qD1 qv0 cI cJ cZ cB cT d_n d_for d_road f_row f_fears f_told z_cnt z_next z_store n_calls n_bord n_rep n_unl n_pay n_cl n_ul n_ga n_py n_pr r_tx r_rul c_n c_for c_road g_row g_fears g_told y_cnt y_next y_store o_calls o_bord o_rep o_unl o_pay o_cl o_ul o_ga o_py o_pr k_tx k_rul) sz) := by
  refine mMet (Qc := (mQi D (W_X_0t11_13t28_30t33_76 qd0 qd1 qd2 qf0 qf1 qf2 qf3 qz0 qz1 qn0 qn1 qn2 qn4 qn5 qn6 qr0 qc0 qc1 qc2 qg0 qg1 qg2 qg3 qy0 qy1 qo0 qo1 qo2 qo4 qo5 qo6 qk0 qX0 qn3 qo3 qT qb0 qe0 qL0 qD0 qh0 qD1 qv0 cI cJ cZ cB cT d_n d_for d_road f_row f_fears f_told z_cnt z_next z_store n_calls n_bord n_rep n_unl n_pay n_cl n_ul n_ga n_py n_pr r_tx r_rul o_c_n o_c_for o_c_road o_g_row o_g_fears o_g_told o_y_cnt o_y_next o_y_store o_o_calls o_o_bord o_o_rep o_o_unl o_o_pay o_o_cl o_o_ul o_o_ga o_o_py o_o_pr o_k_tx o_k_rul) o_r True)) (by decide) (Nat.le_of_ble_eq_true rfl) (fun p e s m below meth c A ls hx hb hr hml hts hown hlocks hK hA hP hD hl => ?_)
  have hown : s.vm.findClass RX11 = some m.cls := hown
  have hl : lv_has ls 1 [(0, .ref qX0)] := hl
  have hS : va_S A s.heap s.heap [] := va_S.rf
  unfold f_X11_image at hf
  refine lv_aload_n hx hb dX11_image_0 rfl (lv_at hl 0 rfl) ?_
  refine gfX11_16 hx hb hts hown hK hP 32 rfl rfl dX11_image_1 ?_
  refine lv_aload_n hx hb dX11_image_4 rfl (lv_at hl 0 rfl) ?_
  refine gfX11_10 hx hb hts hown hK hP 32 rfl rfl dX11_image_5 ?_
  obtain ⟨c_n_8, c_for_8, c_road_8, g_row_8, g_fears_8, g_told_8, y_cnt_8, y_next_8, y_store_8, o_calls_8, o_bord_8, o_rep_8, o_unl_8, o_pay_8, o_cl_8, o_ul_8, o_ga_8, o_py_8, o_pr_8, k_tx_8, k_rul_8, hg8, hf⟩ := ob21_some hf
  refine mcV_v (wr := [(qX0, .inr (11, [.ref qr0, .ref qk0, .ref qT, .ref qb0, .ref qe0, .ref qL0, .ref qf0, .ref qd0, .ref qn0, .ref qz0, .ref qD0, .ref qh0, .ref qD1, .ref qv0]))]) (As := [.ref qr0]) (rest := []) hx hb hml hown hts hK hP hD hS hA (k_X6_become l N D cI cJ cZ cB cT qc0 qc1 qc2 qg0 qg1 qg2 qg3 qy0 qy1 qo0 qo1 qo2 qo4 qo5 qo6 qk0 qd0 qd1 qd2 qf0 qf1 qf2 qf3 qz0 qz1 qn0 qn1 qn2 qn4 qn5 qn6 qr0 qo3 qn3 c_n c_for c_road g_row g_fears g_told y_cnt y_next y_store o_calls o_bord o_rep o_unl o_pay o_cl o_ul o_ga o_py o_pr k_tx k_rul d_n d_for d_road f_row f_fears f_told z_cnt z_next z_store n_calls n_bord n_rep n_unl n_pay n_cl n_ul n_ga n_py n_pr r_tx r_rul c_n_8 c_for_8 c_road_8 g_row_8 g_fears_8 g_told_8 y_cnt_8 y_next_8 y_store_8 o_calls_8 o_bord_8 o_rep_8 o_unl_8 o_pay_8 o_cl_8 o_ul_8 o_ga_8 o_py_8 o_pr_8 k_tx_8 k_rul_8 hg8) (kwX11_383 hts rfl rfl ⟨Nat.le_of_ble_eq_true rfl, Nat.le_of_ble_eq_true rfl⟩) [16, 17, 18, 19, 20, 21, 22, 23, 24, 25, 26, 27, 28, 29, 30, 31, 0, 1, 2, 3, 4, 5, 6, 7, 8, 9, 10, 11, 12, 13, 14, 15] [32] rfl rfl rfl (by decide) rfl 15 rfl rfl rfl rfl hl.1 rfl (Nat.le_of_ble_eq_true rfl) dX11_image_8 ⟨Nat.zero_le _, Nat.zero_le _⟩ (fun H locs hP hD hS => ?_)
  have hP := mP_sub (wc := (W_X_0t11_13t28_30t33_76 qd0 qd1 qd2 qf0 qf1 qf2 qf3 qz0 qz1 qn0 qn1 qn2 qn4 qn5 qn6 qr0 qc0 qc1 qc2 qg0 qg1 qg2 qg3 qy0 qy1 qo0 qo1 qo2 qo4 qo5 qo6 qk0 qX0 qn3 qo3 qT qb0 qe0 qL0 qD0 qh0 qD1 qv0 cI cJ cZ cB cT d_n d_for d_road f_row f_fears f_told z_cnt z_next z_store n_calls n_bord n_rep n_unl n_pay n_cl n_ul n_ga n_py n_pr r_tx r_rul c_n_8 c_for_8 c_road_8 g_row_8 g_fears_8 g_told_8 y_cnt_8 y_next_8 y_store_8 o_calls_8 o_bord_8 o_rep_8 o_unl_8 o_pay_8 o_cl_8 o_ul_8 o_ga_8 o_py_8 o_pr_8 k_tx_8 k_rul_8)) hP [17, 18, 19, 20, 21, 22, 23, 24, 25, 26, 27, 28, 29, 30, 31, 32, 1, 2, 3, 4, 5, 6, 7, 8, 9, 10, 11, 12, 13, 14, 15, 16, 0] rfl
  have hD := hD.sub (ws' := (W_X_0t11_13t28_30t33_76 qd0 qd1 qd2 qf0 qf1 qf2 qf3 qz0 qz1 qn0 qn1 qn2 qn4 qn5 qn6 qr0 qc0 qc1 qc2 qg0 qg1 qg2 qg3 qy0 qy1 qo0 qo1 qo2 qo4 qo5 qo6 qk0 qX0 qn3 qo3 qT qb0 qe0 qL0 qD0 qh0 qD1 qv0 cI cJ cZ cB cT d_n d_for d_road f_row f_fears f_told z_cnt z_next z_store n_calls n_bord n_rep n_unl n_pay n_cl n_ul n_ga n_py n_pr r_tx r_rul c_n_8 c_for_8 c_road_8 g_row_8 g_fears_8 g_told_8 y_cnt_8 y_next_8 y_store_8 o_calls_8 o_bord_8 o_rep_8 o_unl_8 o_pay_8 o_cl_8 o_ul_8 o_ga_8 o_py_8 o_pr_8 k_tx_8 k_rul_8)) [17, 18, 19, 20, 21, 22, 23, 24, 25, 26, 27, 28, 29, 30, 31, 32, 1, 2, 3, 4, 5, 6, 7, 8, 9, 10, 11, 12, 13, 14, 15, 16, 0] rfl rfl
  refine lv_aload_n hx hb dX11_image_11 rfl (lv_at hl 0 rfl) ?_
  refine gfX11_54 hx hb hts hown hK hP 32 rfl rfl dX11_image_12 ?_
  obtain ⟨r15, hg15, hf⟩ := ob1_some hf
  refine mcV_i (wr := [(qd0, .inr (2, [.int d_n, .ref qd1, .ref qd2])), (qd1, .inl (cI, 8, .inl d_for)), (qd2, .inl (cI, 8, .inl d_road)), (qf2, .inl (cI, 6, .inl f_fears)), (qf3, .inl (cI, 18, .inl f_told)), (qz0, .inr (7, [.int z_cnt, .int z_next, .ref qz1])), (qz1, .inl (cI, 2356, .inl z_store)), (qn0, .inr (4, [.int n_calls, .int n_bord, .int n_rep, .int n_unl, .int n_pay, .ref qn1, .ref qn2, .ref qn3, .ref qn4, .ref qn5, .ref qn6])), (qn1, .inl (cI, 5, .inl n_cl)), (qn2, .inl (cI, 8, .inl n_ul)), (qn4, .inl (cI, 8, .inl n_ga)), (qn5, .inl (cI, 8, .inl n_py)), (qn6, .inl (cI, 8, .inl n_pr)), (qr0, .inr (6, [.ref qd0, .ref qf0, .ref qz0, .ref qn0, .int r_tx, .int r_rul])), (qc0, .inr (2, [.int c_n_8, .ref qc1, .ref qc2])), (qc1, .inl (cI, 8, .inl c_for_8)), (qc2, .inl (cI, 8, .inl c_road_8)), (qg0, .inr (1, [.ref qg1, .ref qg2, .ref qg3])), (qg1, .inl (cI, 76, .inl g_row_8)), (qg2, .inl (cI, 6, .inl g_fears_8)), (qg3, .inl (cI, 18, .inl g_told_8)), (qy0, .inr (7, [.int y_cnt_8, .int y_next_8, .ref qy1])), (qy1, .inl (cI, 2356, .inl y_store_8)), (qo0, .inr (4, [.int o_calls_8, .int o_bord_8, .int o_rep_8, .int o_unl_8, .int o_pay_8, .ref qo1, .ref qo2, .ref qo3, .ref qo4, .ref qo5, .ref qo6])), (qo1, .inl (cI, 5, .inl o_cl_8)), (qo2, .inl (cI, 8, .inl o_ul_8)), (qo4, .inl (cI, 8, .inl o_ga_8)), (qo5, .inl (cI, 8, .inl o_py_8)), (qo6, .inl (cI, 8, .inl o_pr_8)), (qk0, .inr (6, [.ref qc0, .ref qg0, .ref qy0, .ref qo0, .int k_tx_8, .int k_rul_8])), (qX0, .inr (11, [.ref qr0, .ref qk0, .ref qT, .ref qb0, .ref qe0, .ref qL0, .ref qf0, .ref qd0, .ref qn0, .ref qz0, .ref qD0, .ref qh0, .ref qD1, .ref qv0]))]) (As := []) (rest := []) hx hb hml hown hts hK hP hD hS hA (k_X1_monthNow l N D cI cJ cZ cB cT qf0 qf1 qf2 qf3 f_row r15 hg15) (kwX11_168 hts rfl rfl ⟨Nat.le_of_ble_eq_true rfl, Nat.le_of_ble_eq_true rfl⟩) [3, 4] [0, 1, 2, 5, 6, 7, 8, 9, 10, 11, 12, 13, 14, 15, 16, 17, 18, 19, 20, 21, 22, 23, 24, 25, 26, 27, 28, 29, 30, 31, 32] rfl rfl rfl (by decide) rfl 0 rfl rfl rfl rfl hl.1 rfl (Nat.le_of_ble_eq_true rfl) dX11_image_15 ⟨Nat.zero_le _, Nat.zero_le _⟩ (fun hB15 H locs hP hD hS => ?_)
  have hP := mP_sub (wc := (W_X_0t11_13t28_30t33_76 qd0 qd1 qd2 qf0 qf1 qf2 qf3 qz0 qz1 qn0 qn1 qn2 qn4 qn5 qn6 qr0 qc0 qc1 qc2 qg0 qg1 qg2 qg3 qy0 qy1 qo0 qo1 qo2 qo4 qo5 qo6 qk0 qX0 qn3 qo3 qT qb0 qe0 qL0 qD0 qh0 qD1 qv0 cI cJ cZ cB cT d_n d_for d_road f_row f_fears f_told z_cnt z_next z_store n_calls n_bord n_rep n_unl n_pay n_cl n_ul n_ga n_py n_pr r_tx r_rul c_n_8 c_for_8 c_road_8 g_row_8 g_fears_8 g_told_8 y_cnt_8 y_next_8 y_store_8 o_calls_8 o_bord_8 o_rep_8 o_unl_8 o_pay_8 o_cl_8 o_ul_8 o_ga_8 o_py_8 o_pr_8 k_tx_8 k_rul_8)) hP [0, 1, 2, 31, 32, 3, 4, 5, 6, 7, 8, 9, 10, 11, 12, 13, 14, 15, 16, 17, 18, 19, 20, 21, 22, 23, 24, 25, 26, 27, 28, 29, 30] rfl
  have hD := hD.sub (ws' := (W_X_0t11_13t28_30t33_76 qd0 qd1 qd2 qf0 qf1 qf2 qf3 qz0 qz1 qn0 qn1 qn2 qn4 qn5 qn6 qr0 qc0 qc1 qc2 qg0 qg1 qg2 qg3 qy0 qy1 qo0 qo1 qo2 qo4 qo5 qo6 qk0 qX0 qn3 qo3 qT qb0 qe0 qL0 qD0 qh0 qD1 qv0 cI cJ cZ cB cT d_n d_for d_road f_row f_fears f_told z_cnt z_next z_store n_calls n_bord n_rep n_unl n_pay n_cl n_ul n_ga n_py n_pr r_tx r_rul c_n_8 c_for_8 c_road_8 g_row_8 g_fears_8 g_told_8 y_cnt_8 y_next_8 y_store_8 o_calls_8 o_bord_8 o_rep_8 o_unl_8 o_pay_8 o_cl_8 o_ul_8 o_ga_8 o_py_8 o_pr_8 k_tx_8 k_rul_8)) [0, 1, 2, 31, 32, 3, 4, 5, 6, 7, 8, 9, 10, 11, 12, 13, 14, 15, 16, 17, 18, 19, 20, 21, 22, 23, 24, 25, 26, 27, 28, 29, 30] rfl rfl
  cases hf
  exact mret_i hx hb hr hlocks hP hD hS dX11_image_18 rfl trivial
theorem dX11_back_0 : decode cX11_back 0 = .ok (.aload_n 0, 1) := by decide +kernel
theorem dX11_back_1 : decode cX11_back 1 = .ok (.getfield 10, 3) := by decide +kernel
theorem dX11_back_4 : decode cX11_back 4 = .ok (.aload_n 0, 1) := by decide +kernel
theorem dX11_back_5 : decode cX11_back 5 = .ok (.getfield 16, 3) := by decide +kernel
theorem dX11_back_8 : decode cX11_back 8 = .ok (.invokevirtual 383, 3) := by decide +kernel
theorem dX11_back_11 : decode cX11_back 11 = .ok (.aload_n 0, 1) := by decide +kernel
theorem dX11_back_12 : decode cX11_back 12 = .ok (.getfield 54, 3) := by decide +kernel
theorem dX11_back_15 : decode cX11_back 15 = .ok (.invokevirtual 168, 3) := by decide +kernel
theorem dX11_back_18 : decode cX11_back 18 = .ok (.ireturn, 1) := by decide +kernel
def f_X11_back (N : Nat) (d_n : Int32) (d_for : Nat → Int32) (d_road : Nat → Int32) (f_row : Nat → Int32) (f_fears : Nat → Int32) (f_told : Nat → Int32) (z_cnt : Int32) (z_next : Int32) (z_store : Nat → Int32) (n_calls : Int32) (n_bord : Int32) (n_rep : Int32) (n_unl : Int32) (n_pay : Int32) (n_cl : Nat → Int32) (n_ul : Nat → Int32) (n_ga : Nat → Int32) (n_py : Nat → Int32) (n_pr : Nat → Int32) (r_tx : Int32) (r_rul : Int32) (c_n : Int32) (c_for : Nat → Int32) (c_road : Nat → Int32) (g_row : Nat → Int32) (g_fears : Nat → Int32) (g_told : Nat → Int32) (y_cnt : Int32) (y_next : Int32) (y_store : Nat → Int32) (o_calls : Int32) (o_bord : Int32) (o_rep : Int32) (o_unl : Int32) (o_pay : Int32) (o_cl : Nat → Int32) (o_ul : Nat → Int32) (o_ga : Nat → Int32) (o_py : Nat → Int32) (o_pr : Nat → Int32) (k_tx : Int32) (k_rul : Int32) : Option (Int32 × Int32 × (Nat → Int32) × (Nat → Int32) × (Nat → Int32) × (Nat → Int32) × (Nat → Int32) × Int32 × Int32 × (Nat → Int32) × Int32 × Int32 × Int32 × Int32 × Int32 × (Nat → Int32) × (Nat → Int32) × (Nat → Int32) × (Nat → Int32) × (Nat → Int32) × Int32 × Int32) := ob21 (f_X6_become N d_n d_for d_road f_row f_fears f_told z_cnt z_next z_store n_calls n_bord n_rep n_unl n_pay n_cl n_ul n_ga n_py n_pr r_tx r_rul c_n c_for c_road g_row g_fears g_told y_cnt y_next y_store o_calls o_bord o_rep o_unl o_pay o_cl o_ul o_ga o_py o_pr k_tx k_rul) fun d_n_8 d_for_8 d_road_8 f_row_8 f_fears_8 f_told_8 z_cnt_8 z_next_8 z_store_8 n_calls_8 n_bord_8 n_rep_8 n_unl_8 n_pay_8 n_cl_8 n_ul_8 n_ga_8 n_py_8 n_pr_8 r_tx_8 r_rul_8 => ob1 (f_X1_monthNow N f_row_8) fun r15 => some (r15, d_n_8, d_for_8, d_road_8, f_row_8, f_fears_8, f_told_8, z_cnt_8, z_next_8, z_store_8, n_calls_8, n_bord_8, n_rep_8, n_unl_8, n_pay_8, n_cl_8, n_ul_8, n_ga_8, n_py_8, n_pr_8, r_tx_8, r_rul_8)
set_option maxHeartbeats 4000000 in
set_option maxRecDepth 100000 in
theorem k_X11_back (l : Launch) (N : Nat) (D : va_G) (cI cJ cZ cB cT : ClassId) (qd0 : Nat) (qd1 : Nat) (qd2 : Nat) (qf0 : Nat) (qf1 : Nat) (qf2 : Nat) (qf3 : Nat) (qz0 : Nat) (qz1 : Nat) (qn0 : Nat) (qn1 : Nat) (qn2 : Nat) (qn4 : Nat) (qn5 : Nat) (qn6 : Nat) (qr0 : Nat) (qc0 : Nat) (qc1 : Nat) (qc2 : Nat) (qg0 : Nat) (qg1 : Nat) (qg2 : Nat) (qg3 : Nat) (qy0 : Nat) (qy1 : Nat) (qo0 : Nat) (qo1 : Nat) (qo2 : Nat) (qo4 : Nat) (qo5 : Nat) (qo6 : Nat) (qk0 : Nat) (qX0 : Nat) (qn3 : Nat) (qo3 : Nat) (qT : Nat) (qb0 : Nat) (qe0 : Nat) (qL0 : Nat) (qD0 : Nat) (qh0 : Nat) (qD1 : Nat) (qv0 : Nat) (d_n : Int32) (d_for : Nat → Int32) (d_road : Nat → Int32) (f_row : Nat → Int32) (f_fears : Nat → Int32) (f_told : Nat → Int32) (z_cnt : Int32) (z_next : Int32) (z_store : Nat → Int32) (n_calls : Int32) (n_bord : Int32) (n_rep : Int32) (n_unl : Int32) (n_pay : Int32) (n_cl : Nat → Int32) (n_ul : Nat → Int32) (n_ga : Nat → Int32) (n_py : Nat → Int32) (n_pr : Nat → Int32) (r_tx : Int32) (r_rul : Int32) (c_n : Int32) (c_for : Nat → Int32) (c_road : Nat → Int32) (g_row : Nat → Int32) (g_fears : Nat → Int32) (g_told : Nat → Int32) (y_cnt : Int32) (y_next : Int32) (y_store : Nat → Int32) (o_calls : Int32) (o_bord : Int32) (o_rep : Int32) (o_unl : Int32) (o_pay : Int32) (o_cl : Nat → Int32) (o_ul : Nat → Int32) (o_ga : Nat → Int32) (o_py : Nat → Int32) (o_pr : Nat → Int32) (k_tx : Int32) (k_rul : Int32) (o_r : Int32) (o_d_n : Int32) (o_d_for : Nat → Int32) (o_d_road : Nat → Int32) (o_f_row : Nat → Int32) (o_f_fears : Nat → Int32) (o_f_told : Nat → Int32) (o_z_cnt : Int32) (o_z_next : Int32) (o_z_store : Nat → Int32) (o_n_calls : Int32) (o_n_bord : Int32) (o_n_rep : Int32) (o_n_unl : Int32) (o_n_pay : Int32) (o_n_cl : Nat → Int32) (o_n_ul : Nat → Int32) (o_n_ga : Nat → Int32) (o_n_py : Nat → Int32) (o_n_pr : Nat → Int32) (o_r_tx : Int32) (o_r_rul : Int32) (hf : f_X11_back N d_n d_for d_road f_row f_fears f_told z_cnt z_next z_store n_calls n_bord n_rep n_unl n_pay n_cl n_ul n_ga n_py n_pr r_tx r_rul c_n c_for c_road g_row g_fears g_told y_cnt y_next y_store o_calls o_bord o_rep o_unl o_pay o_cl o_ul o_ga o_py o_pr k_tx k_rul = some (o_r, o_d_n, o_d_for, o_d_road, o_f_row, o_f_fears, o_f_told, o_z_cnt, o_z_next, o_z_store, o_n_calls, o_n_bord, o_n_rep, o_n_unl, o_n_pay, o_n_cl, o_n_ul, o_n_ga, o_n_py, o_n_pr, o_r_tx, o_r_rul)) : ∀ sz, Met l yX11_back (mw yX11_back cX11_back 1 (some .int)) ({ frames := 3, cells := 0, slots := 0, locals := 102 } : Room) (mPre D (mT cI cJ cZ cB cT) (W_X_0t11_13t28_30t33_76 qd0 qd1 qd2 qf0 qf1 qf2 qf3 qz0 qz1 qn0 qn1 qn2 qn4 qn5 qn6 qr0 qc0 qc1 qc2 qg0 qg1 qg2 qg3 qy0 qy1 qo0 qo1 qo2 qo4 qo5 qo6 qk0 qX0 qn3 qo3 qT qb0 qe0 qL0 qD0 qh0 qD1 qv0 cI cJ cZ cB cT d_n d_for d_road f_row f_fears f_told z_cnt z_next z_store n_calls n_bord n_rep n_unl n_pay n_cl n_ul n_ga n_py n_pr r_tx r_rul c_n c_for c_road g_row g_fears g_told y_cnt y_next y_store o_calls o_bord o_rep o_unl o_pay o_cl o_ul o_ga o_py o_pr k_tx k_rul) sz [.ref qX0]) ((mQi D (W_X_0t11_13t28_30t33_76 qd0 qd1 qd2 qf0 qf1 qf2 qf3 qz0 qz1 qn0 qn1 qn2 qn4 qn5 qn6 qr0 qc0 qc1 qc2 qg0 qg1 qg2 qg3 qy0 qy1 qo0 qo1 qo2 qo4 qo5 qo6 qk0 qX0 qn3 qo3 qT qb0 qe0 qL0 qD0 qh0 qD1 qv0 cI cJ cZ cB cT o_d_n o_d_for o_d_road o_f_row o_f_fears o_f_told o_z_cnt o_z_next o_z_store o_n_calls o_n_bord o_n_rep o_n_unl o_n_pay o_n_cl o_n_ul o_n_ga o_n_py o_n_pr o_r_tx o_r_rul c_n c_for c_road g_row g_fears g_told y_cnt y_next y_store o_calls o_bord o_rep o_unl o_pay o_cl o_ul o_ga o_py o_pr k_tx k_rul) o_r True) (va_A (W_X_0t11_13t28_30t33_76 qd0 qd1 qd2 qf0 qf1 qf2 qf3 qz0 qz1 qn0 qn1 qn2 qn4 qn5 qn6 qr0 qc0 qc1 qc2 qg0 qg1 qg2 qg3 qy0 qy1 qo0 qo1 qo2 qo4 qo5 qo6 qk0 qX0 qn3 qo3 qT qb0 qe0 qL0 qD0 qh0 qD1 qv0 cI cJ cZ cB cT d_n d_for d_road f_row f_fears f_told z_cnt z_next z_store n_calls n_bord n_rep n_unl n_pay n_cl n_ul n_ga n_py n_pr r_tx r_rul c_n c_for c_road g_row g_fears g_told y_cnt y_next y_store o_calls o_bord o_rep o_unl o_pay o_cl o_ul o_ga o_py o_pr k_tx k_rul) sz)) 0 0 (va_A (W_X_0t11_13t28_30t33_76 qd0 qd1 qd2 qf0 qf1 qf2 qf3 qz0 qz1 qn0 qn1 qn2 qn4 qn5 qn6 qr0 qc0 qc1 qc2 qg0 qg1 qg2 qg3 qy0 qy1 qo0 qo1 qo2 qo4 qo5 qo6 qk0 qX0 qn3 qo3 qT qb0 qe0 qL0 qD0 qh0 qD1 qv0 cI cJ cZ cB cT d_n d_for d_road f_row f_fears f_told z_cnt z_next z_store n_calls n_bord n_rep n_unl n_pay n_cl n_ul n_ga n_py n_pr r_tx r_rul c_n c_for c_road g_row g_fears g_told y_cnt y_next y_store o_calls o_bord o_rep o_unl o_pay o_cl o_ul o_ga o_py o_pr k_tx k_rul) sz) := by
  refine mMet (Qc := (mQi D (W_X_0t11_13t28_30t33_76 qd0 qd1 qd2 qf0 qf1 qf2 qf3 qz0 qz1 qn0 qn1 qn2 qn4 qn5 qn6 qr0 qc0 qc1 qc2 qg0 qg1 qg2 qg3 qy0 qy1 qo0 qo1 qo2 qo4 qo5 qo6 qk0 qX0 qn3 qo3 qT qb0 qe0 qL0 qD0 qh0 qD1 qv0 cI cJ cZ cB cT o_d_n o_d_for o_d_road o_f_row o_f_fears o_f_told o_z_cnt o_z_next o_z_store o_n_calls o_n_bord o_n_rep o_n_unl o_n_pay o_n_cl o_n_ul o_n_ga o_n_py o_n_pr o_r_tx o_r_rul c_n c_for c_road g_row g_fears g_told y_cnt y_next y_store o_calls o_bord o_rep o_unl o_pay o_cl o_ul o_ga o_py o_pr k_tx k_rul) o_r True)) (by decide) (Nat.le_of_ble_eq_true rfl) (fun p e s m below meth c A ls hx hb hr hml hts hown hlocks hK hA hP hD hl => ?_)
  have hown : s.vm.findClass RX11 = some m.cls := hown
  have hl : lv_has ls 1 [(0, .ref qX0)] := hl
  have hS : va_S A s.heap s.heap [] := va_S.rf
  unfold f_X11_back at hf
  refine lv_aload_n hx hb dX11_back_0 rfl (lv_at hl 0 rfl) ?_
  refine gfX11_10 hx hb hts hown hK hP 32 rfl rfl dX11_back_1 ?_
  refine lv_aload_n hx hb dX11_back_4 rfl (lv_at hl 0 rfl) ?_
  refine gfX11_16 hx hb hts hown hK hP 32 rfl rfl dX11_back_5 ?_
  obtain ⟨d_n_8, d_for_8, d_road_8, f_row_8, f_fears_8, f_told_8, z_cnt_8, z_next_8, z_store_8, n_calls_8, n_bord_8, n_rep_8, n_unl_8, n_pay_8, n_cl_8, n_ul_8, n_ga_8, n_py_8, n_pr_8, r_tx_8, r_rul_8, hg8, hf⟩ := ob21_some hf
  refine mcV_v (wr := [(qX0, .inr (11, [.ref qr0, .ref qk0, .ref qT, .ref qb0, .ref qe0, .ref qL0, .ref qf0, .ref qd0, .ref qn0, .ref qz0, .ref qD0, .ref qh0, .ref qD1, .ref qv0]))]) (As := [.ref qk0]) (rest := []) hx hb hml hown hts hK hP hD hS hA (k_X6_become l N D cI cJ cZ cB cT qd0 qd1 qd2 qf0 qf1 qf2 qf3 qz0 qz1 qn0 qn1 qn2 qn4 qn5 qn6 qr0 qc0 qc1 qc2 qg0 qg1 qg2 qg3 qy0 qy1 qo0 qo1 qo2 qo4 qo5 qo6 qk0 qn3 qo3 d_n d_for d_road f_row f_fears f_told z_cnt z_next z_store n_calls n_bord n_rep n_unl n_pay n_cl n_ul n_ga n_py n_pr r_tx r_rul c_n c_for c_road g_row g_fears g_told y_cnt y_next y_store o_calls o_bord o_rep o_unl o_pay o_cl o_ul o_ga o_py o_pr k_tx k_rul d_n_8 d_for_8 d_road_8 f_row_8 f_fears_8 f_told_8 z_cnt_8 z_next_8 z_store_8 n_calls_8 n_bord_8 n_rep_8 n_unl_8 n_pay_8 n_cl_8 n_ul_8 n_ga_8 n_py_8 n_pr_8 r_tx_8 r_rul_8 hg8) (kwX11_383 hts rfl rfl ⟨Nat.le_of_ble_eq_true rfl, Nat.le_of_ble_eq_true rfl⟩) [0, 1, 2, 3, 4, 5, 6, 7, 8, 9, 10, 11, 12, 13, 14, 15, 16, 17, 18, 19, 20, 21, 22, 23, 24, 25, 26, 27, 28, 29, 30, 31] [32] rfl rfl rfl (by decide) rfl 15 rfl rfl rfl rfl hl.1 rfl (Nat.le_of_ble_eq_true rfl) dX11_back_8 ⟨Nat.zero_le _, Nat.zero_le _⟩ (fun H locs hP hD hS => ?_)
  have hP := mP_sub (wc := (W_X_0t11_13t28_30t33_76 qd0 qd1 qd2 qf0 qf1 qf2 qf3 qz0 qz1 qn0 qn1 qn2 qn4 qn5 qn6 qr0 qc0 qc1 qc2 qg0 qg1 qg2 qg3 qy0 qy1 qo0 qo1 qo2 qo4 qo5 qo6 qk0 qX0 qn3 qo3 qT qb0 qe0 qL0 qD0 qh0 qD1 qv0 cI cJ cZ cB cT d_n_8 d_for_8 d_road_8 f_row_8 f_fears_8 f_told_8 z_cnt_8 z_next_8 z_store_8 n_calls_8 n_bord_8 n_rep_8 n_unl_8 n_pay_8 n_cl_8 n_ul_8 n_ga_8 n_py_8 n_pr_8 r_tx_8 r_rul_8 c_n c_for c_road g_row g_fears g_told y_cnt y_next y_store o_calls o_bord o_rep o_unl o_pay o_cl o_ul o_ga o_py o_pr k_tx k_rul)) hP [1, 2, 3, 4, 5, 6, 7, 8, 9, 10, 11, 12, 13, 14, 15, 16, 17, 18, 19, 20, 21, 22, 23, 24, 25, 26, 27, 28, 29, 30, 31, 32, 0] rfl
  have hD := hD.sub (ws' := (W_X_0t11_13t28_30t33_76 qd0 qd1 qd2 qf0 qf1 qf2 qf3 qz0 qz1 qn0 qn1 qn2 qn4 qn5 qn6 qr0 qc0 qc1 qc2 qg0 qg1 qg2 qg3 qy0 qy1 qo0 qo1 qo2 qo4 qo5 qo6 qk0 qX0 qn3 qo3 qT qb0 qe0 qL0 qD0 qh0 qD1 qv0 cI cJ cZ cB cT d_n_8 d_for_8 d_road_8 f_row_8 f_fears_8 f_told_8 z_cnt_8 z_next_8 z_store_8 n_calls_8 n_bord_8 n_rep_8 n_unl_8 n_pay_8 n_cl_8 n_ul_8 n_ga_8 n_py_8 n_pr_8 r_tx_8 r_rul_8 c_n c_for c_road g_row g_fears g_told y_cnt y_next y_store o_calls o_bord o_rep o_unl o_pay o_cl o_ul o_ga o_py o_pr k_tx k_rul)) [1, 2, 3, 4, 5, 6, 7, 8, 9, 10, 11, 12, 13, 14, 15, 16, 17, 18, 19, 20, 21, 22, 23, 24, 25, 26, 27, 28, 29, 30, 31, 32, 0] rfl rfl
  refine lv_aload_n hx hb dX11_back_11 rfl (lv_at hl 0 rfl) ?_
  refine gfX11_54 hx hb hts hown hK hP 32 rfl rfl dX11_back_12 ?_
  obtain ⟨r15, hg15, hf⟩ := ob1_some hf
  refine mcV_i (wr := [(qd0, .inr (2, [.int d_n_8, .ref qd1, .ref qd2])), (qd1, .inl (cI, 8, .inl d_for_8)), (qd2, .inl (cI, 8, .inl d_road_8)), (qf2, .inl (cI, 6, .inl f_fears_8)), (qf3, .inl (cI, 18, .inl f_told_8)), (qz0, .inr (7, [.int z_cnt_8, .int z_next_8, .ref qz1])), (qz1, .inl (cI, 2356, .inl z_store_8)), (qn0, .inr (4, [.int n_calls_8, .int n_bord_8, .int n_rep_8, .int n_unl_8, .int n_pay_8, .ref qn1, .ref qn2, .ref qn3, .ref qn4, .ref qn5, .ref qn6])), (qn1, .inl (cI, 5, .inl n_cl_8)), (qn2, .inl (cI, 8, .inl n_ul_8)), (qn4, .inl (cI, 8, .inl n_ga_8)), (qn5, .inl (cI, 8, .inl n_py_8)), (qn6, .inl (cI, 8, .inl n_pr_8)), (qr0, .inr (6, [.ref qd0, .ref qf0, .ref qz0, .ref qn0, .int r_tx_8, .int r_rul_8])), (qc0, .inr (2, [.int c_n, .ref qc1, .ref qc2])), (qc1, .inl (cI, 8, .inl c_for)), (qc2, .inl (cI, 8, .inl c_road)), (qg0, .inr (1, [.ref qg1, .ref qg2, .ref qg3])), (qg1, .inl (cI, 76, .inl g_row)), (qg2, .inl (cI, 6, .inl g_fears)), (qg3, .inl (cI, 18, .inl g_told)), (qy0, .inr (7, [.int y_cnt, .int y_next, .ref qy1])), (qy1, .inl (cI, 2356, .inl y_store)), (qo0, .inr (4, [.int o_calls, .int o_bord, .int o_rep, .int o_unl, .int o_pay, .ref qo1, .ref qo2, .ref qo3, .ref qo4, .ref qo5, .ref qo6])), (qo1, .inl (cI, 5, .inl o_cl)), (qo2, .inl (cI, 8, .inl o_ul)), (qo4, .inl (cI, 8, .inl o_ga)), (qo5, .inl (cI, 8, .inl o_py)), (qo6, .inl (cI, 8, .inl o_pr)), (qk0, .inr (6, [.ref qc0, .ref qg0, .ref qy0, .ref qo0, .int k_tx, .int k_rul])), (qX0, .inr (11, [.ref qr0, .ref qk0, .ref qT, .ref qb0, .ref qe0, .ref qL0, .ref qf0, .ref qd0, .ref qn0, .ref qz0, .ref qD0, .ref qh0, .ref qD1, .ref qv0]))]) (As := []) (rest := []) hx hb hml hown hts hK hP hD hS hA (k_X1_monthNow l N D cI cJ cZ cB cT qf0 qf1 qf2 qf3 f_row_8 r15 hg15) (kwX11_168 hts rfl rfl ⟨Nat.le_of_ble_eq_true rfl, Nat.le_of_ble_eq_true rfl⟩) [3, 4] [0, 1, 2, 5, 6, 7, 8, 9, 10, 11, 12, 13, 14, 15, 16, 17, 18, 19, 20, 21, 22, 23, 24, 25, 26, 27, 28, 29, 30, 31, 32] rfl rfl rfl (by decide) rfl 0 rfl rfl rfl rfl hl.1 rfl (Nat.le_of_ble_eq_true rfl) dX11_back_15 ⟨Nat.zero_le _, Nat.zero_le _⟩ (fun hB15 H locs hP hD hS => ?_)
  have hP := mP_sub (wc := (W_X_0t11_13t28_30t33_76 qd0 qd1 qd2 qf0 qf1 qf2 qf3 qz0 qz1 qn0 qn1 qn2 qn4 qn5 qn6 qr0 qc0 qc1 qc2 qg0 qg1 qg2 qg3 qy0 qy1 qo0 qo1 qo2 qo4 qo5 qo6 qk0 qX0 qn3 qo3 qT qb0 qe0 qL0 qD0 qh0 qD1 qv0 cI cJ cZ cB cT d_n_8 d_for_8 d_road_8 f_row_8 f_fears_8 f_told_8 z_cnt_8 z_next_8 z_store_8 n_calls_8 n_bord_8 n_rep_8 n_unl_8 n_pay_8 n_cl_8 n_ul_8 n_ga_8 n_py_8 n_pr_8 r_tx_8 r_rul_8 c_n c_for c_road g_row g_fears g_told y_cnt y_next y_store o_calls o_bord o_rep o_unl o_pay o_cl o_ul o_ga o_py o_pr k_tx k_rul)) hP [0, 1, 2, 31, 32, 3, 4, 5, 6, 7, 8, 9, 10, 11, 12, 13, 14, 15, 16, 17, 18, 19, 20, 21, 22, 23, 24, 25, 26, 27, 28, 29, 30] rfl
  have hD := hD.sub (ws' := (W_X_0t11_13t28_30t33_76 qd0 qd1 qd2 qf0 qf1 qf2 qf3 qz0 qz1 qn0 qn1 qn2 qn4 qn5 qn6 qr0 qc0 qc1 qc2 qg0 qg1 qg2 qg3 qy0 qy1 qo0 qo1 qo2 qo4 qo5 qo6 qk0 qX0 qn3 qo3 qT qb0 qe0 qL0 qD0 qh0 qD1 qv0 cI cJ cZ cB cT d_n_8 d_for_8 d_road_8 f_row_8 f_fears_8 f_told_8 z_cnt_8 z_next_8 z_store_8 n_calls_8 n_bord_8 n_rep_8 n_unl_8 n_pay_8 n_cl_8 n_ul_8 n_ga_8 n_py_8 n_pr_8 r_tx_8 r_rul_8 c_n c_for c_road g_row g_fears g_told y_cnt y_next y_store o_calls o_bord o_rep o_unl o_pay o_cl o_ul o_ga o_py o_pr k_tx k_rul)) [0, 1, 2, 31, 32, 3, 4, 5, 6, 7, 8, 9, 10, 11, 12, 13, 14, 15, 16, 17, 18, 19, 20, 21, 22, 23, 24, 25, 26, 27, 28, 29, 30] rfl rfl
  cases hf
  exact mret_i hx hb hr hlocks hP hD hS dX11_back_18 rfl trivial
theorem dX11_about_0 : decode cX11_about 0 = .ok (.iload_n 1, 1) := by decide +kernel
theorem dX11_about_1 : decode cX11_about 1 = .ok (.tableswitch 135 0 9 #[55, 63, 71, 79, 87, 95, 103, 111, 119, 127], 55) := by decide +kernel
theorem dX11_about_56 : decode cX11_about 56 = .ok (.aload_n 0, 1) := by decide +kernel
theorem dX11_about_57 : decode cX11_about 57 = .ok (.getfield 59, 3) := by decide +kernel
theorem dX11_about_60 : decode cX11_about 60 = .ok (.getfield 220, 3) := by decide +kernel
theorem dX11_about_63 : decode cX11_about 63 = .ok (.ireturn, 1) := by decide +kernel
theorem dX11_about_64 : decode cX11_about 64 = .ok (.aload_n 0, 1) := by decide +kernel
theorem dX11_about_65 : decode cX11_about 65 = .ok (.getfield 54, 3) := by decide +kernel
theorem dX11_about_68 : decode cX11_about 68 = .ok (.invokevirtual 217, 3) := by decide +kernel
theorem dX11_about_71 : decode cX11_about 71 = .ok (.ireturn, 1) := by decide +kernel
theorem dX11_about_72 : decode cX11_about 72 = .ok (.aload_n 0, 1) := by decide +kernel
theorem dX11_about_73 : decode cX11_about 73 = .ok (.getfield 10, 3) := by decide +kernel
theorem dX11_about_76 : decode cX11_about 76 = .ok (.getfield 125, 3) := by decide +kernel
theorem dX11_about_79 : decode cX11_about 79 = .ok (.ireturn, 1) := by decide +kernel
theorem dX11_about_80 : decode cX11_about 80 = .ok (.aload_n 0, 1) := by decide +kernel
theorem dX11_about_81 : decode cX11_about 81 = .ok (.getfield 10, 3) := by decide +kernel
theorem dX11_about_84 : decode cX11_about 84 = .ok (.getfield 140, 3) := by decide +kernel
theorem dX11_about_87 : decode cX11_about 87 = .ok (.ireturn, 1) := by decide +kernel
theorem dX11_about_88 : decode cX11_about 88 = .ok (.aload_n 0, 1) := by decide +kernel
theorem dX11_about_89 : decode cX11_about 89 = .ok (.getfield 69, 3) := by decide +kernel
theorem dX11_about_92 : decode cX11_about 92 = .ok (.getfield 386, 3) := by decide +kernel
theorem dX11_about_95 : decode cX11_about 95 = .ok (.ireturn, 1) := by decide +kernel
theorem dX11_about_96 : decode cX11_about 96 = .ok (.aload_n 0, 1) := by decide +kernel
theorem dX11_about_97 : decode cX11_about 97 = .ok (.getfield 64, 3) := by decide +kernel
theorem dX11_about_100 : decode cX11_about 100 = .ok (.getfield 311, 3) := by decide +kernel
theorem dX11_about_103 : decode cX11_about 103 = .ok (.ireturn, 1) := by decide +kernel
theorem dX11_about_104 : decode cX11_about 104 = .ok (.aload_n 0, 1) := by decide +kernel
theorem dX11_about_105 : decode cX11_about 105 = .ok (.getfield 64, 3) := by decide +kernel
theorem dX11_about_108 : decode cX11_about 108 = .ok (.getfield 387, 3) := by decide +kernel
theorem dX11_about_111 : decode cX11_about 111 = .ok (.ireturn, 1) := by decide +kernel
theorem dX11_about_112 : decode cX11_about 112 = .ok (.aload_n 0, 1) := by decide +kernel
theorem dX11_about_113 : decode cX11_about 113 = .ok (.getfield 64, 3) := by decide +kernel
theorem dX11_about_116 : decode cX11_about 116 = .ok (.getfield 390, 3) := by decide +kernel
theorem dX11_about_119 : decode cX11_about 119 = .ok (.ireturn, 1) := by decide +kernel
theorem dX11_about_120 : decode cX11_about 120 = .ok (.aload_n 0, 1) := by decide +kernel
theorem dX11_about_121 : decode cX11_about 121 = .ok (.getfield 64, 3) := by decide +kernel
theorem dX11_about_124 : decode cX11_about 124 = .ok (.getfield 374, 3) := by decide +kernel
theorem dX11_about_127 : decode cX11_about 127 = .ok (.ireturn, 1) := by decide +kernel
theorem dX11_about_128 : decode cX11_about 128 = .ok (.aload_n 0, 1) := by decide +kernel
theorem dX11_about_129 : decode cX11_about 129 = .ok (.getfield 28, 3) := by decide +kernel
theorem dX11_about_132 : decode cX11_about 132 = .ok (.getfield 121, 3) := by decide +kernel
theorem dX11_about_135 : decode cX11_about 135 = .ok (.ireturn, 1) := by decide +kernel
theorem dX11_about_136 : decode cX11_about 136 = .ok (.bipush (-2), 2) := by decide +kernel
theorem dX11_about_138 : decode cX11_about 138 = .ok (.ireturn, 1) := by decide +kernel
def f_X11_about (N : Nat) (d_n : Int32) (f_row : Nat → Int32) (z_cnt : Int32) (n_calls : Int32) (n_rep : Int32) (n_unl : Int32) (n_pay : Int32) (r_tx : Int32) (r_rul : Int32) (b_len : Int32) (p1 : Int32) : Option (Int32) := if p1 = (0 : Int32) then (some d_n) else if p1 = (1 : Int32) then (ob1 (f_X1_count N f_row) fun r68 => some r68) else if p1 = (2 : Int32) then (some r_tx) else if p1 = (3 : Int32) then (some r_rul) else if p1 = (4 : Int32) then (some z_cnt) else if p1 = (5 : Int32) then (some n_calls) else if p1 = (6 : Int32) then (some n_rep) else if p1 = (7 : Int32) then (some n_unl) else if p1 = (8 : Int32) then (some n_pay) else if p1 = (9 : Int32) then (some b_len) else (some (-2 : Int32))
set_option maxHeartbeats 4000000 in
set_option maxRecDepth 100000 in
theorem k_X11_about (l : Launch) (N : Nat) (D : va_G) (cI cJ cZ cB cT : ClassId) (qd0 : Nat) (qf0 : Nat) (qf1 : Nat) (qz0 : Nat) (qn0 : Nat) (qr0 : Nat) (qb0 : Nat) (qX0 : Nat) (qd1 : Nat) (qd2 : Nat) (qf2 : Nat) (qf3 : Nat) (qz1 : Nat) (qn1 : Nat) (qn2 : Nat) (qn3 : Nat) (qn4 : Nat) (qn5 : Nat) (qn6 : Nat) (qb1 : Nat) (qb2 : Nat) (qb3 : Nat) (qb4 : Nat) (qk0 : Nat) (qT : Nat) (qe0 : Nat) (qL0 : Nat) (qD0 : Nat) (qh0 : Nat) (qD1 : Nat) (qv0 : Nat) (d_n : Int32) (f_row : Nat → Int32) (z_cnt : Int32) (z_next : Int32) (n_calls : Int32) (n_bord : Int32) (n_rep : Int32) (n_unl : Int32) (n_pay : Int32) (r_tx : Int32) (r_rul : Int32) (b_len : Int32) (b_tok : Int32) (p1 : Int32) (o_r : Int32) (hf : f_X11_about N d_n f_row z_cnt n_calls n_rep n_unl n_pay r_tx r_rul b_len p1 = some o_r) : ∀ sz, Met l yX11_about (mw yX11_about cX11_about 2 (some .int)) ({ frames := 1, cells := 0, slots := 0, locals := 20 } : Room) (mPre D (mT cI cJ cZ cB cT) (W_X_0_3t4_7_9_16_55_76 qd0 qf0 qf1 qz0 qn0 qr0 qb0 qX0 qd1 qd2 qf2 qf3 qz1 qn1 qn2 qn3 qn4 qn5 qn6 qb1 qb2 qb3 qb4 qk0 qT qe0 qL0 qD0 qh0 qD1 qv0 cI cJ cZ cB cT d_n f_row z_cnt z_next n_calls n_bord n_rep n_unl n_pay r_tx r_rul b_len b_tok) sz [.ref qX0, .int p1]) ((mQi D (W_X_0_3t4_7_9_16_55_76 qd0 qf0 qf1 qz0 qn0 qr0 qb0 qX0 qd1 qd2 qf2 qf3 qz1 qn1 qn2 qn3 qn4 qn5 qn6 qb1 qb2 qb3 qb4 qk0 qT qe0 qL0 qD0 qh0 qD1 qv0 cI cJ cZ cB cT d_n f_row z_cnt z_next n_calls n_bord n_rep n_unl n_pay r_tx r_rul b_len b_tok) o_r True) (va_A (W_X_0_3t4_7_9_16_55_76 qd0 qf0 qf1 qz0 qn0 qr0 qb0 qX0 qd1 qd2 qf2 qf3 qz1 qn1 qn2 qn3 qn4 qn5 qn6 qb1 qb2 qb3 qb4 qk0 qT qe0 qL0 qD0 qh0 qD1 qv0 cI cJ cZ cB cT d_n f_row z_cnt z_next n_calls n_bord n_rep n_unl n_pay r_tx r_rul b_len b_tok) sz)) 0 0 (va_A (W_X_0_3t4_7_9_16_55_76 qd0 qf0 qf1 qz0 qn0 qr0 qb0 qX0 qd1 qd2 qf2 qf3 qz1 qn1 qn2 qn3 qn4 qn5 qn6 qb1 qb2 qb3 qb4 qk0 qT qe0 qL0 qD0 qh0 qD1 qv0 cI cJ cZ cB cT d_n f_row z_cnt z_next n_calls n_bord n_rep n_unl n_pay r_tx r_rul b_len b_tok) sz) := by
  refine mMet (Qc := (mQi D (W_X_0_3t4_7_9_16_55_76 qd0 qf0 qf1 qz0 qn0 qr0 qb0 qX0 qd1 qd2 qf2 qf3 qz1 qn1 qn2 qn3 qn4 qn5 qn6 qb1 qb2 qb3 qb4 qk0 qT qe0 qL0 qD0 qh0 qD1 qv0 cI cJ cZ cB cT d_n f_row z_cnt z_next n_calls n_bord n_rep n_unl n_pay r_tx r_rul b_len b_tok) o_r True)) (by decide) (Nat.le_of_ble_eq_true rfl) (fun p e s m below meth c A ls hx hb hr hml hts hown hlocks hK hA hP hD hl => ?_)
  have hown : s.vm.findClass RX11 = some m.cls := hown
  have hl : lv_has ls 2 [(0, .ref qX0), (1, .int p1)] := hl
  have hS : va_S A s.heap s.heap [] := va_S.rf
  unfold f_X11_about at hf
  refine lv_iload_n hx hb dX11_about_0 rfl (lv_at hl 1 rfl) ?_
  by_cases e1_0 : p1 = (0 : Int32)
  · replace hf := (if_pos e1_0).symm.trans hf
    refine lv_tableIn (off := 55) (tgt := 56) hx hb dX11_about_1 (by rw [e1_0]; decide) (by rw [e1_0]; decide) (by rw [e1_0]; rfl) (by decide) ?_
    refine lv_aload_n hx hb dX11_about_56 rfl (lv_at hl 0 rfl) ?_
    refine gfX11_59 hx hb hts hown hK hP 7 rfl rfl dX11_about_57 ?_
    refine gfX11_220 hx hb hts hown hK hP 0 rfl rfl dX11_about_60 ?_
    cases hf
    exact mret_i hx hb hr hlocks hP hD hS dX11_about_63 rfl trivial
  replace hf := (if_neg e1_0).symm.trans hf
  by_cases e1_1 : p1 = (1 : Int32)
  · replace hf := (if_pos e1_1).symm.trans hf
    refine lv_tableIn (off := 63) (tgt := 64) hx hb dX11_about_1 (by rw [e1_1]; decide) (by rw [e1_1]; decide) (by rw [e1_1]; rfl) (by decide) ?_
    refine lv_aload_n hx hb dX11_about_64 rfl (lv_at hl 0 rfl) ?_
    refine gfX11_54 hx hb hts hown hK hP 7 rfl rfl dX11_about_65 ?_
    obtain ⟨r68, hg68, hf⟩ := ob1_some hf
    refine mcV_i (wr := [(qd0, .inr (2, [.int d_n, .ref qd1, .ref qd2])), (qz0, .inr (7, [.int z_cnt, .int z_next, .ref qz1])), (qn0, .inr (4, [.int n_calls, .int n_bord, .int n_rep, .int n_unl, .int n_pay, .ref qn1, .ref qn2, .ref qn3, .ref qn4, .ref qn5, .ref qn6])), (qr0, .inr (6, [.ref qd0, .ref qf0, .ref qz0, .ref qn0, .int r_tx, .int r_rul])), (qb0, .inr (8, [.int b_len, .int b_tok, .ref qb1, .ref qb2, .ref qb3, .ref qb4])), (qX0, .inr (11, [.ref qr0, .ref qk0, .ref qT, .ref qb0, .ref qe0, .ref qL0, .ref qf0, .ref qd0, .ref qn0, .ref qz0, .ref qD0, .ref qh0, .ref qD1, .ref qv0]))]) (As := []) (rest := []) hx hb hml hown hts hK hP hD hS hA (k_X1_count l N D cI cJ cZ cB cT qf0 qf1 qf2 qf3 f_row r68 hg68) (kwX11_217 hts rfl rfl ⟨Nat.le_of_ble_eq_true rfl, Nat.le_of_ble_eq_true rfl⟩) [1, 2] [0, 3, 4, 5, 6, 7] rfl rfl rfl (by decide) rfl 0 rfl rfl rfl rfl hl.1 rfl (Nat.le_of_ble_eq_true rfl) dX11_about_68 ⟨Nat.zero_le _, Nat.zero_le _⟩ (fun hB68 H locs hP hD hS => ?_)
    have hP := mP_sub (wc := (W_X_0_3t4_7_9_16_55_76 qd0 qf0 qf1 qz0 qn0 qr0 qb0 qX0 qd1 qd2 qf2 qf3 qz1 qn1 qn2 qn3 qn4 qn5 qn6 qb1 qb2 qb3 qb4 qk0 qT qe0 qL0 qD0 qh0 qD1 qv0 cI cJ cZ cB cT d_n f_row z_cnt z_next n_calls n_bord n_rep n_unl n_pay r_tx r_rul b_len b_tok)) hP [0, 6, 7, 1, 2, 3, 4, 5] rfl
    have hD := hD.sub (ws' := (W_X_0_3t4_7_9_16_55_76 qd0 qf0 qf1 qz0 qn0 qr0 qb0 qX0 qd1 qd2 qf2 qf3 qz1 qn1 qn2 qn3 qn4 qn5 qn6 qb1 qb2 qb3 qb4 qk0 qT qe0 qL0 qD0 qh0 qD1 qv0 cI cJ cZ cB cT d_n f_row z_cnt z_next n_calls n_bord n_rep n_unl n_pay r_tx r_rul b_len b_tok)) [0, 6, 7, 1, 2, 3, 4, 5] rfl rfl
    cases hf
    exact mret_i hx hb hr hlocks hP hD hS dX11_about_71 rfl trivial
  replace hf := (if_neg e1_1).symm.trans hf
  by_cases e1_2 : p1 = (2 : Int32)
  · replace hf := (if_pos e1_2).symm.trans hf
    refine lv_tableIn (off := 71) (tgt := 72) hx hb dX11_about_1 (by rw [e1_2]; decide) (by rw [e1_2]; decide) (by rw [e1_2]; rfl) (by decide) ?_
    refine lv_aload_n hx hb dX11_about_72 rfl (lv_at hl 0 rfl) ?_
    refine gfX11_10 hx hb hts hown hK hP 7 rfl rfl dX11_about_73 ?_
    refine gfX11_125 hx hb hts hown hK hP 5 rfl rfl dX11_about_76 ?_
    cases hf
    exact mret_i hx hb hr hlocks hP hD hS dX11_about_79 rfl trivial
  replace hf := (if_neg e1_2).symm.trans hf
  by_cases e1_3 : p1 = (3 : Int32)
  · replace hf := (if_pos e1_3).symm.trans hf
    refine lv_tableIn (off := 79) (tgt := 80) hx hb dX11_about_1 (by rw [e1_3]; decide) (by rw [e1_3]; decide) (by rw [e1_3]; rfl) (by decide) ?_
    refine lv_aload_n hx hb dX11_about_80 rfl (lv_at hl 0 rfl) ?_
    refine gfX11_10 hx hb hts hown hK hP 7 rfl rfl dX11_about_81 ?_
    refine gfX11_140 hx hb hts hown hK hP 5 rfl rfl dX11_about_84 ?_
    cases hf
    exact mret_i hx hb hr hlocks hP hD hS dX11_about_87 rfl trivial
  replace hf := (if_neg e1_3).symm.trans hf
  by_cases e1_4 : p1 = (4 : Int32)
  · replace hf := (if_pos e1_4).symm.trans hf
    refine lv_tableIn (off := 87) (tgt := 88) hx hb dX11_about_1 (by rw [e1_4]; decide) (by rw [e1_4]; decide) (by rw [e1_4]; rfl) (by decide) ?_
    refine lv_aload_n hx hb dX11_about_88 rfl (lv_at hl 0 rfl) ?_
    refine gfX11_69 hx hb hts hown hK hP 7 rfl rfl dX11_about_89 ?_
    refine gfX11_386 hx hb hts hown hK hP 3 rfl rfl dX11_about_92 ?_
    cases hf
    exact mret_i hx hb hr hlocks hP hD hS dX11_about_95 rfl trivial
  replace hf := (if_neg e1_4).symm.trans hf
  by_cases e1_5 : p1 = (5 : Int32)
  · replace hf := (if_pos e1_5).symm.trans hf
    refine lv_tableIn (off := 95) (tgt := 96) hx hb dX11_about_1 (by rw [e1_5]; decide) (by rw [e1_5]; decide) (by rw [e1_5]; rfl) (by decide) ?_
    refine lv_aload_n hx hb dX11_about_96 rfl (lv_at hl 0 rfl) ?_
    refine gfX11_64 hx hb hts hown hK hP 7 rfl rfl dX11_about_97 ?_
    refine gfX11_311 hx hb hts hown hK hP 4 rfl rfl dX11_about_100 ?_
    cases hf
    exact mret_i hx hb hr hlocks hP hD hS dX11_about_103 rfl trivial
  replace hf := (if_neg e1_5).symm.trans hf
  by_cases e1_6 : p1 = (6 : Int32)
  · replace hf := (if_pos e1_6).symm.trans hf
    refine lv_tableIn (off := 103) (tgt := 104) hx hb dX11_about_1 (by rw [e1_6]; decide) (by rw [e1_6]; decide) (by rw [e1_6]; rfl) (by decide) ?_
    refine lv_aload_n hx hb dX11_about_104 rfl (lv_at hl 0 rfl) ?_
    refine gfX11_64 hx hb hts hown hK hP 7 rfl rfl dX11_about_105 ?_
    refine gfX11_387 hx hb hts hown hK hP 4 rfl rfl dX11_about_108 ?_
    cases hf
    exact mret_i hx hb hr hlocks hP hD hS dX11_about_111 rfl trivial
  replace hf := (if_neg e1_6).symm.trans hf
  by_cases e1_7 : p1 = (7 : Int32)
  · replace hf := (if_pos e1_7).symm.trans hf
    refine lv_tableIn (off := 111) (tgt := 112) hx hb dX11_about_1 (by rw [e1_7]; decide) (by rw [e1_7]; decide) (by rw [e1_7]; rfl) (by decide) ?_
    refine lv_aload_n hx hb dX11_about_112 rfl (lv_at hl 0 rfl) ?_
    refine gfX11_64 hx hb hts hown hK hP 7 rfl rfl dX11_about_113 ?_
    refine gfX11_390 hx hb hts hown hK hP 4 rfl rfl dX11_about_116 ?_
    cases hf
    exact mret_i hx hb hr hlocks hP hD hS dX11_about_119 rfl trivial
  replace hf := (if_neg e1_7).symm.trans hf
  by_cases e1_8 : p1 = (8 : Int32)
  · replace hf := (if_pos e1_8).symm.trans hf
    refine lv_tableIn (off := 119) (tgt := 120) hx hb dX11_about_1 (by rw [e1_8]; decide) (by rw [e1_8]; decide) (by rw [e1_8]; rfl) (by decide) ?_
    refine lv_aload_n hx hb dX11_about_120 rfl (lv_at hl 0 rfl) ?_
    refine gfX11_64 hx hb hts hown hK hP 7 rfl rfl dX11_about_121 ?_
    refine gfX11_374 hx hb hts hown hK hP 4 rfl rfl dX11_about_124 ?_
    cases hf
    exact mret_i hx hb hr hlocks hP hD hS dX11_about_127 rfl trivial
  replace hf := (if_neg e1_8).symm.trans hf
  by_cases e1_9 : p1 = (9 : Int32)
  · replace hf := (if_pos e1_9).symm.trans hf
    refine lv_tableIn (off := 127) (tgt := 128) hx hb dX11_about_1 (by rw [e1_9]; decide) (by rw [e1_9]; decide) (by rw [e1_9]; rfl) (by decide) ?_
    refine lv_aload_n hx hb dX11_about_128 rfl (lv_at hl 0 rfl) ?_
    refine gfX11_28 hx hb hts hown hK hP 7 rfl rfl dX11_about_129 ?_
    refine gfX11_121 hx hb hts hown hK hP 6 rfl rfl dX11_about_132 ?_
    cases hf
    exact mret_i hx hb hr hlocks hP hD hS dX11_about_135 rfl trivial
  replace hf := (if_neg e1_9).symm.trans hf
  have ne1_0 : p1.toInt ≠ (0 : Int) := sw_ne e1_0
  have ne1_1 : p1.toInt ≠ (1 : Int) := sw_ne e1_1
  have ne1_2 : p1.toInt ≠ (2 : Int) := sw_ne e1_2
  have ne1_3 : p1.toInt ≠ (3 : Int) := sw_ne e1_3
  have ne1_4 : p1.toInt ≠ (4 : Int) := sw_ne e1_4
  have ne1_5 : p1.toInt ≠ (5 : Int) := sw_ne e1_5
  have ne1_6 : p1.toInt ≠ (6 : Int) := sw_ne e1_6
  have ne1_7 : p1.toInt ≠ (7 : Int) := sw_ne e1_7
  have ne1_8 : p1.toInt ≠ (8 : Int) := sw_ne e1_8
  have ne1_9 : p1.toInt ≠ (9 : Int) := sw_ne e1_9
  refine lv_tableOut (tgt := 136) hx hb dX11_about_1 (by omega) (by decide) ?_
  refine lv_bipush (v := (-2 : Int32)) hx hb dX11_about_136 (by decide) ?_
  cases hf
  exact mret_i hx hb hr hlocks hP hD hS dX11_about_138 rfl trivial
theorem dX11_perform_0 : decode cX11_perform 0 = .ok (.aload_n 1, 1) := by decide +kernel
theorem dX11_perform_1 : decode cX11_perform 1 = .ok (.iload_n 2, 1) := by decide +kernel
theorem dX11_perform_2 : decode cX11_perform 2 = .ok (.iconst 1, 1) := by decide +kernel
theorem dX11_perform_3 : decode cX11_perform 3 = .ok (.invokevirtual 187, 3) := by decide +kernel
theorem dX11_perform_6 : decode cX11_perform 6 = .ok (.istore_n 3, 1) := by decide +kernel
theorem dX11_perform_7 : decode cX11_perform 7 = .ok (.aload_n 1, 1) := by decide +kernel
theorem dX11_perform_8 : decode cX11_perform 8 = .ok (.iload_n 2, 1) := by decide +kernel
theorem dX11_perform_9 : decode cX11_perform 9 = .ok (.iconst 2, 1) := by decide +kernel
theorem dX11_perform_10 : decode cX11_perform 10 = .ok (.invokevirtual 187, 3) := by decide +kernel
theorem dX11_perform_13 : decode cX11_perform 13 = .ok (.istore 4, 2) := by decide +kernel
theorem dX11_perform_15 : decode cX11_perform 15 = .ok (.aload_n 1, 1) := by decide +kernel
theorem dX11_perform_16 : decode cX11_perform 16 = .ok (.iload_n 2, 1) := by decide +kernel
theorem dX11_perform_17 : decode cX11_perform 17 = .ok (.iconst 0, 1) := by decide +kernel
theorem dX11_perform_18 : decode cX11_perform 18 = .ok (.invokevirtual 187, 3) := by decide +kernel
theorem dX11_perform_21 : decode cX11_perform 21 = .ok (.tableswitch 176 4 12 #[66, 74, 103, 120, 128, 145, 153, 51, 170], 51) := by decide +kernel
theorem dX11_perform_72 : decode cX11_perform 72 = .ok (.aload_n 0, 1) := by decide +kernel
theorem dX11_perform_73 : decode cX11_perform 73 = .ok (.iload_n 3, 1) := by decide +kernel
theorem dX11_perform_74 : decode cX11_perform 74 = .ok (.invokevirtual 190, 3) := by decide +kernel
theorem dX11_perform_77 : decode cX11_perform 77 = .ok (.iconst (-1), 1) := by decide +kernel
theorem dX11_perform_78 : decode cX11_perform 78 = .ok (.if_icmp .eq 7, 3) := by decide +kernel
theorem dX11_perform_81 : decode cX11_perform 81 = .ok (.iconst 1, 1) := by decide +kernel
theorem dX11_perform_82 : decode cX11_perform 82 = .ok (.goto 4, 3) := by decide +kernel
theorem dX11_perform_85 : decode cX11_perform 85 = .ok (.iconst 0, 1) := by decide +kernel
theorem dX11_perform_86 : decode cX11_perform 86 = .ok (.ireturn, 1) := by decide +kernel
theorem dX11_perform_87 : decode cX11_perform 87 = .ok (.aload_n 0, 1) := by decide +kernel
theorem dX11_perform_88 : decode cX11_perform 88 = .ok (.iload_n 3, 1) := by decide +kernel
theorem dX11_perform_89 : decode cX11_perform 89 = .ok (.iload 4, 2) := by decide +kernel
theorem dX11_perform_91 : decode cX11_perform 91 = .ok (.invokevirtual 193, 3) := by decide +kernel
theorem dX11_perform_94 : decode cX11_perform 94 = .ok (.ireturn, 1) := by decide +kernel
theorem dX11_perform_95 : decode cX11_perform 95 = .ok (.aload_n 0, 1) := by decide +kernel
theorem dX11_perform_96 : decode cX11_perform 96 = .ok (.iload_n 3, 1) := by decide +kernel
theorem dX11_perform_97 : decode cX11_perform 97 = .ok (.iload 4, 2) := by decide +kernel
theorem dX11_perform_99 : decode cX11_perform 99 = .ok (.aload_n 1, 1) := by decide +kernel
theorem dX11_perform_100 : decode cX11_perform 100 = .ok (.iload_n 2, 1) := by decide +kernel
theorem dX11_perform_101 : decode cX11_perform 101 = .ok (.iconst 3, 1) := by decide +kernel
theorem dX11_perform_102 : decode cX11_perform 102 = .ok (.invokevirtual 187, 3) := by decide +kernel
theorem dX11_perform_105 : decode cX11_perform 105 = .ok (.aload_n 1, 1) := by decide +kernel
theorem dX11_perform_106 : decode cX11_perform 106 = .ok (.iload_n 2, 1) := by decide +kernel
theorem dX11_perform_107 : decode cX11_perform 107 = .ok (.iconst 4, 1) := by decide +kernel
theorem dX11_perform_108 : decode cX11_perform 108 = .ok (.invokevirtual 187, 3) := by decide +kernel
theorem dX11_perform_111 : decode cX11_perform 111 = .ok (.invokevirtual 196, 3) := by decide +kernel
theorem dX11_perform_114 : decode cX11_perform 114 = .ok (.iconst (-1), 1) := by decide +kernel
theorem dX11_perform_115 : decode cX11_perform 115 = .ok (.if_icmp .eq 7, 3) := by decide +kernel
theorem dX11_perform_118 : decode cX11_perform 118 = .ok (.iconst 1, 1) := by decide +kernel
theorem dX11_perform_119 : decode cX11_perform 119 = .ok (.goto 4, 3) := by decide +kernel
theorem dX11_perform_122 : decode cX11_perform 122 = .ok (.iconst 0, 1) := by decide +kernel
theorem dX11_perform_123 : decode cX11_perform 123 = .ok (.ireturn, 1) := by decide +kernel
theorem dX11_perform_124 : decode cX11_perform 124 = .ok (.aload_n 0, 1) := by decide +kernel
theorem dX11_perform_125 : decode cX11_perform 125 = .ok (.iload_n 3, 1) := by decide +kernel
theorem dX11_perform_126 : decode cX11_perform 126 = .ok (.iload 4, 2) := by decide +kernel
theorem dX11_perform_128 : decode cX11_perform 128 = .ok (.invokevirtual 199, 3) := by decide +kernel
theorem dX11_perform_131 : decode cX11_perform 131 = .ok (.iconst (-1), 1) := by decide +kernel
theorem dX11_perform_132 : decode cX11_perform 132 = .ok (.if_icmp .eq 7, 3) := by decide +kernel
theorem dX11_perform_135 : decode cX11_perform 135 = .ok (.iconst 1, 1) := by decide +kernel
theorem dX11_perform_136 : decode cX11_perform 136 = .ok (.goto 4, 3) := by decide +kernel
theorem dX11_perform_139 : decode cX11_perform 139 = .ok (.iconst 0, 1) := by decide +kernel
theorem dX11_perform_140 : decode cX11_perform 140 = .ok (.ireturn, 1) := by decide +kernel
theorem dX11_perform_141 : decode cX11_perform 141 = .ok (.aload_n 0, 1) := by decide +kernel
theorem dX11_perform_142 : decode cX11_perform 142 = .ok (.iload_n 3, 1) := by decide +kernel
theorem dX11_perform_143 : decode cX11_perform 143 = .ok (.iload 4, 2) := by decide +kernel
theorem dX11_perform_145 : decode cX11_perform 145 = .ok (.invokevirtual 202, 3) := by decide +kernel
theorem dX11_perform_148 : decode cX11_perform 148 = .ok (.ireturn, 1) := by decide +kernel
theorem dX11_perform_149 : decode cX11_perform 149 = .ok (.aload_n 0, 1) := by decide +kernel
theorem dX11_perform_150 : decode cX11_perform 150 = .ok (.iload_n 3, 1) := by decide +kernel
theorem dX11_perform_151 : decode cX11_perform 151 = .ok (.iload 4, 2) := by decide +kernel
theorem dX11_perform_153 : decode cX11_perform 153 = .ok (.invokevirtual 205, 3) := by decide +kernel
theorem dX11_perform_156 : decode cX11_perform 156 = .ok (.iconst (-1), 1) := by decide +kernel
theorem dX11_perform_157 : decode cX11_perform 157 = .ok (.if_icmp .eq 7, 3) := by decide +kernel
theorem dX11_perform_160 : decode cX11_perform 160 = .ok (.iconst 1, 1) := by decide +kernel
theorem dX11_perform_161 : decode cX11_perform 161 = .ok (.goto 4, 3) := by decide +kernel
theorem dX11_perform_164 : decode cX11_perform 164 = .ok (.iconst 0, 1) := by decide +kernel
theorem dX11_perform_165 : decode cX11_perform 165 = .ok (.ireturn, 1) := by decide +kernel
theorem dX11_perform_166 : decode cX11_perform 166 = .ok (.aload_n 0, 1) := by decide +kernel
theorem dX11_perform_167 : decode cX11_perform 167 = .ok (.iload_n 3, 1) := by decide +kernel
theorem dX11_perform_168 : decode cX11_perform 168 = .ok (.iload 4, 2) := by decide +kernel
theorem dX11_perform_170 : decode cX11_perform 170 = .ok (.invokevirtual 208, 3) := by decide +kernel
theorem dX11_perform_173 : decode cX11_perform 173 = .ok (.ireturn, 1) := by decide +kernel
theorem dX11_perform_174 : decode cX11_perform 174 = .ok (.aload_n 0, 1) := by decide +kernel
theorem dX11_perform_175 : decode cX11_perform 175 = .ok (.iload_n 3, 1) := by decide +kernel
theorem dX11_perform_176 : decode cX11_perform 176 = .ok (.iload 4, 2) := by decide +kernel
theorem dX11_perform_178 : decode cX11_perform 178 = .ok (.invokevirtual 211, 3) := by decide +kernel
theorem dX11_perform_181 : decode cX11_perform 181 = .ok (.iconst (-1), 1) := by decide +kernel
theorem dX11_perform_182 : decode cX11_perform 182 = .ok (.if_icmp .eq 7, 3) := by decide +kernel
theorem dX11_perform_185 : decode cX11_perform 185 = .ok (.iconst 1, 1) := by decide +kernel
theorem dX11_perform_186 : decode cX11_perform 186 = .ok (.goto 4, 3) := by decide +kernel
theorem dX11_perform_189 : decode cX11_perform 189 = .ok (.iconst 0, 1) := by decide +kernel
theorem dX11_perform_190 : decode cX11_perform 190 = .ok (.ireturn, 1) := by decide +kernel
theorem dX11_perform_191 : decode cX11_perform 191 = .ok (.aload_n 0, 1) := by decide +kernel
theorem dX11_perform_192 : decode cX11_perform 192 = .ok (.iload_n 3, 1) := by decide +kernel
theorem dX11_perform_193 : decode cX11_perform 193 = .ok (.invokevirtual 214, 3) := by decide +kernel
theorem dX11_perform_196 : decode cX11_perform 196 = .ok (.ireturn, 1) := by decide +kernel
theorem dX11_perform_197 : decode cX11_perform 197 = .ok (.iconst 1, 1) := by decide +kernel
theorem dX11_perform_198 : decode cX11_perform 198 = .ok (.ireturn, 1) := by decide +kernel
def f_X11_perform_0 (N : Nat) (d_n : Int32) (d_for : Nat → Int32) (d_road : Nat → Int32) (f_row : Nat → Int32) (f_fears : Nat → Int32) (f_told : Nat → Int32) (z_cnt : Int32) (z_next : Int32) (z_store : Nat → Int32) (r_tx : Int32) (r_rul : Int32) (t_cl : Int32) (t_code : Nat → Int32) (t_st : Nat → Int32) (t_en : Nat → Int32) (t_rows : Nat → Int32) (u_code : Nat → Int32) (u_st : Nat → Int32) (u_en : Nat → Int32) (w_code : Nat → Int32) (w_st : Nat → Int32) (w_en : Nat → Int32) (x_code : Nat → Int32) (x_st : Nat → Int32) (x_en : Nat → Int32) (l_names : Nat → Int32) (l_stack : Nat → Int32) (p2 : Int32) : Option (Int32 × Int32 × (Nat → Int32) × (Nat → Int32) × (Nat → Int32) × (Nat → Int32) × (Nat → Int32) × Int32 × Int32 × (Nat → Int32) × (Nat → Int32) × (Nat → Int32)) := ob1 (f_X9_part N t_cl t_rows p2 (1 : Int32)) fun r3 => ob1 (f_X9_part N t_cl t_rows p2 (2 : Int32)) fun r10 => ob1 (f_X9_part N t_cl t_rows p2 (0 : Int32)) fun r18 => if r18 = (4 : Int32) then (ob2 (f_X11_road N d_n d_road r3 r10) fun r91 d_road_91 => some (r91, d_n, d_for, d_road_91, f_row, f_fears, f_told, z_cnt, z_next, z_store, l_names, l_stack)) else if r18 = (5 : Int32) then (ob1 (f_X9_part N t_cl t_rows p2 (3 : Int32)) fun r102 => ob1 (f_X9_part N t_cl t_rows p2 (4 : Int32)) fun r108 => ob4 (f_X11_person N d_n f_row f_fears f_told r3 r10 r102 r108) fun r111 f_row_111 f_fears_111 f_told_111 => if r111 = (-1 : Int32) then (some ((0 : Int32), d_n, d_for, d_road, f_row_111, f_fears_111, f_told_111, z_cnt, z_next, z_store, l_names, l_stack)) else (some ((1 : Int32), d_n, d_for, d_road, f_row_111, f_fears_111, f_told_111, z_cnt, z_next, z_store, l_names, l_stack))) else if r18 = (6 : Int32) then (ob5 (f_X11_call N d_n f_row z_cnt z_next z_store r3 r10) fun r128 f_row_128 z_cnt_128 z_next_128 z_store_128 => if r128 = (-1 : Int32) then (some ((0 : Int32), d_n, d_for, d_road, f_row_128, f_fears, f_told, z_cnt_128, z_next_128, z_store_128, l_names, l_stack)) else (some ((1 : Int32), d_n, d_for, d_road, f_row_128, f_fears, f_told, z_cnt_128, z_next_128, z_store_128, l_names, l_stack))) else if r18 = (7 : Int32) then (ob5 (f_X11_move N d_n d_road f_row z_cnt z_next z_store r3 r10) fun r145 f_row_145 z_cnt_145 z_next_145 z_store_145 => some (r145, d_n, d_for, d_road, f_row_145, f_fears, f_told, z_cnt_145, z_next_145, z_store_145, l_names, l_stack)) else if r18 = (8 : Int32) then (ob7 (f_X11_feeds N d_n d_for f_row f_fears z_cnt z_next z_store r_tx r_rul t_code t_st t_en u_code u_st u_en w_code w_st w_en x_code x_st x_en l_names l_stack r3 r10) fun r153 f_row_153 z_cnt_153 z_next_153 z_store_153 l_names_153 l_stack_153 => if r153 = (-1 : Int32) then (some ((0 : Int32), d_n, d_for, d_road, f_row_153, f_fears, f_told, z_cnt_153, z_next_153, z_store_153, l_names_153, l_stack_153)) else (some ((1 : Int32), d_n, d_for, d_road, f_row_153, f_fears, f_told, z_cnt_153, z_next_153, z_store_153, l_names_153, l_stack_153))) else if r18 = (9 : Int32) then (ob5 (f_X11_kill N f_row z_cnt z_next z_store r3 r10) fun r170 f_row_170 z_cnt_170 z_next_170 z_store_170 => some (r170, d_n, d_for, d_road, f_row_170, f_fears, f_told, z_cnt_170, z_next_170, z_store_170, l_names, l_stack)) else if r18 = (10 : Int32) then (ob7 (f_X11_pardon N d_n d_for f_row f_fears z_cnt z_next z_store r_tx r_rul t_code t_st t_en u_code u_st u_en w_code w_st w_en x_code x_st x_en l_names l_stack r3 r10) fun r178 f_row_178 z_cnt_178 z_next_178 z_store_178 l_names_178 l_stack_178 => if r178 = (-1 : Int32) then (some ((0 : Int32), d_n, d_for, d_road, f_row_178, f_fears, f_told, z_cnt_178, z_next_178, z_store_178, l_names_178, l_stack_178)) else (some ((1 : Int32), d_n, d_for, d_road, f_row_178, f_fears, f_told, z_cnt_178, z_next_178, z_store_178, l_names_178, l_stack_178))) else if r18 = (11 : Int32) then (ob3 (f_X11_land N d_n d_for r3) fun r74 d_n_74 d_for_74 => if r74 = (-1 : Int32) then (some ((0 : Int32), d_n_74, d_for_74, d_road, f_row, f_fears, f_told, z_cnt, z_next, z_store, l_names, l_stack)) else (some ((1 : Int32), d_n_74, d_for_74, d_road, f_row, f_fears, f_told, z_cnt, z_next, z_store, l_names, l_stack))) else if r18 = (12 : Int32) then (ob7 (f_X11_passAll N d_n d_for f_row f_fears z_cnt z_next z_store r_tx r_rul t_code t_st t_en u_code u_st u_en w_code w_st w_en x_code x_st x_en l_names l_stack r3) fun r193 f_row_193 z_cnt_193 z_next_193 z_store_193 l_names_193 l_stack_193 => some (r193, d_n, d_for, d_road, f_row_193, f_fears, f_told, z_cnt_193, z_next_193, z_store_193, l_names_193, l_stack_193)) else (some ((1 : Int32), d_n, d_for, d_road, f_row, f_fears, f_told, z_cnt, z_next, z_store, l_names, l_stack))
set_option maxHeartbeats 4000000 in
set_option maxRecDepth 100000 in
theorem k_X11_perform_0 (l : Launch) (N : Nat) (D : va_G) (cI cJ cZ cB cT : ClassId) (qd0 : Nat) (qd1 : Nat) (qd2 : Nat) (qf0 : Nat) (qf1 : Nat) (qf2 : Nat) (qf3 : Nat) (qz0 : Nat) (qz1 : Nat) (qr0 : Nat) (qt0 : Nat) (qt1 : Nat) (qt2 : Nat) (qt3 : Nat) (qt4 : Nat) (qu0 : Nat) (qu1 : Nat) (qu2 : Nat) (qu3 : Nat) (qw0 : Nat) (qw1 : Nat) (qw2 : Nat) (qw3 : Nat) (qx0 : Nat) (qx1 : Nat) (qx2 : Nat) (qx3 : Nat) (qT : Nat) (qL1 : Nat) (qL2 : Nat) (qL0 : Nat) (qD0 : Nat) (qX0 : Nat) (qn0 : Nat) (qu4 : Nat) (qw4 : Nat) (qx4 : Nat) (qk0 : Nat) (qb0 : Nat) (qe0 : Nat) (qh0 : Nat) (qD1 : Nat) (qv0 : Nat) (d_n : Int32) (d_for : Nat → Int32) (d_road : Nat → Int32) (f_row : Nat → Int32) (f_fears : Nat → Int32) (f_told : Nat → Int32) (z_cnt : Int32) (z_next : Int32) (z_store : Nat → Int32) (r_tx : Int32) (r_rul : Int32) (t_cl : Int32) (t_ln : Int32) (t_pt : Int32) (t_code : Nat → Int32) (t_st : Nat → Int32) (t_en : Nat → Int32) (t_rows : Nat → Int32) (u_cl : Int32) (u_ln : Int32) (u_pt : Int32) (u_code : Nat → Int32) (u_st : Nat → Int32) (u_en : Nat → Int32) (w_cl : Int32) (w_ln : Int32) (w_pt : Int32) (w_code : Nat → Int32) (w_st : Nat → Int32) (w_en : Nat → Int32) (x_cl : Int32) (x_ln : Int32) (x_pt : Int32) (x_code : Nat → Int32) (x_st : Nat → Int32) (x_en : Nat → Int32) (l_names : Nat → Int32) (l_stack : Nat → Int32) (p2 : Int32) (o_r : Int32) (o_d_n : Int32) (o_d_for : Nat → Int32) (o_d_road : Nat → Int32) (o_f_row : Nat → Int32) (o_f_fears : Nat → Int32) (o_f_told : Nat → Int32) (o_z_cnt : Int32) (o_z_next : Int32) (o_z_store : Nat → Int32) (o_l_names : Nat → Int32) (o_l_stack : Nat → Int32) (hf : f_X11_perform_0 N d_n d_for d_road f_row f_fears f_told z_cnt z_next z_store r_tx r_rul t_cl t_code t_st t_en t_rows u_code u_st u_en w_code w_st w_en x_code x_st x_en l_names l_stack p2 = some (o_r, o_d_n, o_d_for, o_d_road, o_f_row, o_f_fears, o_f_told, o_z_cnt, o_z_next, o_z_store, o_l_names, o_l_stack)) : ∀ sz, Met l yX11_perform (mw yX11_perform cX11_perform 5 (some .boolean)) ({ frames := 7, cells := 0, slots := 0, locals := 189 } : Room) (mPreE D (mT cI cJ cZ cB cT) (W_X_0t8_16_34t42_44t47_49t52_54_61t64_76 qd0 qd1 qd2 qf0 qf1 qf2 qf3 qz0 qz1 qr0 qt0 qt1 qt2 qt3 qt4 qu0 qu1 qu2 qu3 qw0 qw1 qw2 qw3 qx0 qx1 qx2 qx3 qT qL1 qL2 qL0 qD0 qX0 qn0 qu4 qw4 qx4 qk0 qb0 qe0 qh0 qD1 qv0 cI cJ cZ cB cT d_n d_for d_road f_row f_fears f_told z_cnt z_next z_store r_tx r_rul t_cl t_ln t_pt t_code t_st t_en t_rows u_cl u_ln u_pt u_code u_st u_en w_cl w_ln w_pt w_code w_st w_en x_cl x_ln x_pt x_code x_st x_en l_names l_stack) sz [.ref qX0, .ref qt0, .int p2]) ((mQi D (W_X_0t8_16_34t42_44t47_49t52_54_61t64_76 qd0 qd1 qd2 qf0 qf1 qf2 qf3 qz0 qz1 qr0 qt0 qt1 qt2 qt3 qt4 qu0 qu1 qu2 qu3 qw0 qw1 qw2 qw3 qx0 qx1 qx2 qx3 qT qL1 qL2 qL0 qD0 qX0 qn0 qu4 qw4 qx4 qk0 qb0 qe0 qh0 qD1 qv0 cI cJ cZ cB cT o_d_n o_d_for o_d_road o_f_row o_f_fears o_f_told o_z_cnt o_z_next o_z_store r_tx r_rul t_cl t_ln t_pt t_code t_st t_en t_rows u_cl u_ln u_pt u_code u_st u_en w_cl w_ln w_pt w_code w_st w_en x_cl x_ln x_pt x_code x_st x_en o_l_names o_l_stack) o_r (mB o_r)) (va_A (W_X_0t8_16_34t42_44t47_49t52_54_61t64_76 qd0 qd1 qd2 qf0 qf1 qf2 qf3 qz0 qz1 qr0 qt0 qt1 qt2 qt3 qt4 qu0 qu1 qu2 qu3 qw0 qw1 qw2 qw3 qx0 qx1 qx2 qx3 qT qL1 qL2 qL0 qD0 qX0 qn0 qu4 qw4 qx4 qk0 qb0 qe0 qh0 qD1 qv0 cI cJ cZ cB cT d_n d_for d_road f_row f_fears f_told z_cnt z_next z_store r_tx r_rul t_cl t_ln t_pt t_code t_st t_en t_rows u_cl u_ln u_pt u_code u_st u_en w_cl w_ln w_pt w_code w_st w_en x_cl x_ln x_pt x_code x_st x_en l_names l_stack) sz)) 0 0 (va_A (W_X_0t8_16_34t42_44t47_49t52_54_61t64_76 qd0 qd1 qd2 qf0 qf1 qf2 qf3 qz0 qz1 qr0 qt0 qt1 qt2 qt3 qt4 qu0 qu1 qu2 qu3 qw0 qw1 qw2 qw3 qx0 qx1 qx2 qx3 qT qL1 qL2 qL0 qD0 qX0 qn0 qu4 qw4 qx4 qk0 qb0 qe0 qh0 qD1 qv0 cI cJ cZ cB cT d_n d_for d_road f_row f_fears f_told z_cnt z_next z_store r_tx r_rul t_cl t_ln t_pt t_code t_st t_en t_rows u_cl u_ln u_pt u_code u_st u_en w_cl w_ln w_pt w_code w_st w_en x_cl x_ln x_pt x_code x_st x_en l_names l_stack) sz) := by
  refine mMetE (Qc := (mQi D (W_X_0t8_16_34t42_44t47_49t52_54_61t64_76 qd0 qd1 qd2 qf0 qf1 qf2 qf3 qz0 qz1 qr0 qt0 qt1 qt2 qt3 qt4 qu0 qu1 qu2 qu3 qw0 qw1 qw2 qw3 qx0 qx1 qx2 qx3 qT qL1 qL2 qL0 qD0 qX0 qn0 qu4 qw4 qx4 qk0 qb0 qe0 qh0 qD1 qv0 cI cJ cZ cB cT o_d_n o_d_for o_d_road o_f_row o_f_fears o_f_told o_z_cnt o_z_next o_z_store r_tx r_rul t_cl t_ln t_pt t_code t_st t_en t_rows u_cl u_ln u_pt u_code u_st u_en w_cl w_ln w_pt w_code w_st w_en x_cl x_ln x_pt x_code x_st x_en o_l_names o_l_stack) o_r (mB o_r))) (by decide) (Nat.le_of_ble_eq_true rfl) (fun p e s m below meth c A ls hx hb hr hml hts hown hlocks hK hA hP hD hl hE => ?_)
  have hown : s.vm.findClass RX11 = some m.cls := hown
  have hl : lv_has ls 5 [(0, .ref qX0), (1, .ref qt0), (2, .int p2)] := hl
  have hS : va_S A s.heap s.heap [] := va_S.rf
  obtain ⟨⟨tM, hZM, hTM⟩, ⟨tL, hZL, hTL⟩, ⟨hNX4, hNX10⟩, tS, tV, hRS, hZC, hZF, hKS⟩ := id hE
  unfold f_X11_perform_0 at hf
  refine lv_aload_n hx hb dX11_perform_0 rfl (lv_at hl 1 rfl) ?_
  refine lv_iload_n hx hb dX11_perform_1 rfl (lv_at hl 2 rfl) ?_
  refine lv_iconst (v := (1 : Int32)) hx hb dX11_perform_2 (by decide) ?_
  obtain ⟨r3, hg3, hf⟩ := ob1_some hf
  refine mcV_i (wr := [(qd0, .inr (2, [.int d_n, .ref qd1, .ref qd2])), (qd1, .inl (cI, 8, .inl d_for)), (qd2, .inl (cI, 8, .inl d_road)), (qf0, .inr (1, [.ref qf1, .ref qf2, .ref qf3])), (qf1, .inl (cI, 76, .inl f_row)), (qf2, .inl (cI, 6, .inl f_fears)), (qf3, .inl (cI, 18, .inl f_told)), (qz0, .inr (7, [.int z_cnt, .int z_next, .ref qz1])), (qz1, .inl (cI, 2356, .inl z_store)), (qr0, .inr (6, [.ref qd0, .ref qf0, .ref qz0, .ref qn0, .int r_tx, .int r_rul])), (qt1, .inl (cI, 301, .inl t_code)), (qt2, .inl (cI, 4, .inl t_st)), (qt3, .inl (cI, 4, .inl t_en)), (qu0, .inr (9, [.int u_cl, .int u_ln, .int u_pt, .ref qu1, .ref qu2, .ref qu3, .ref qu4])), (qu1, .inl (cI, 301, .inl u_code)), (qu2, .inl (cI, 4, .inl u_st)), (qu3, .inl (cI, 4, .inl u_en)), (qw0, .inr (9, [.int w_cl, .int w_ln, .int w_pt, .ref qw1, .ref qw2, .ref qw3, .ref qw4])), (qw1, .inl (cI, 301, .inl w_code)), (qw2, .inl (cI, 4, .inl w_st)), (qw3, .inl (cI, 4, .inl w_en)), (qx0, .inr (9, [.int x_cl, .int x_ln, .int x_pt, .ref qx1, .ref qx2, .ref qx3, .ref qx4])), (qx1, .inl (cI, 301, .inl x_code)), (qx2, .inl (cI, 4, .inl x_st)), (qx3, .inl (cI, 4, .inl x_en)), (qT, .inl (cT, 4, .inr (.inr (.inr (.inr (fT qt0 qu0 qw0 qx0)))))), (qL1, .inl (cI, 10, .inl l_names)), (qL2, .inl (cI, 64, .inl l_stack)), (qL0, .inr (3, [.ref qr0, .ref qT, .ref qL1, .ref qL2])), (qD0, .inr (0, [.ref qr0, .ref qf0, .ref qL0])), (qX0, .inr (11, [.ref qr0, .ref qk0, .ref qT, .ref qb0, .ref qe0, .ref qL0, .ref qf0, .ref qd0, .ref qn0, .ref qz0, .ref qD0, .ref qh0, .ref qD1, .ref qv0]))]) (As := [.int p2, .int (1 : Int32)]) (rest := []) hx hb hml hown hts hK hP hD hS hA (k_X9_part l N D cI cJ cZ cB cT qt0 qt4 qt1 qt2 qt3 t_cl t_ln t_pt t_rows p2 (1 : Int32) r3 hg3) (kwX11_187 hts rfl rfl ⟨Nat.le_of_ble_eq_true rfl, Nat.le_of_ble_eq_true rfl⟩) [10, 14] [0, 1, 2, 3, 4, 5, 6, 7, 8, 9, 11, 12, 13, 15, 16, 17, 18, 19, 20, 21, 22, 23, 24, 25, 26, 27, 28, 29, 30, 31, 32] rfl rfl rfl (by decide) rfl 0 rfl rfl rfl rfl hl.1 rfl (Nat.le_of_ble_eq_true rfl) dX11_perform_3 ⟨Nat.zero_le _, Nat.zero_le _⟩ (fun hB3 H locs hP hD hS => ?_)
  have hP := mP_sub (wc := (W_X_0t8_16_34t42_44t47_49t52_54_61t64_76 qd0 qd1 qd2 qf0 qf1 qf2 qf3 qz0 qz1 qr0 qt0 qt1 qt2 qt3 qt4 qu0 qu1 qu2 qu3 qw0 qw1 qw2 qw3 qx0 qx1 qx2 qx3 qT qL1 qL2 qL0 qD0 qX0 qn0 qu4 qw4 qx4 qk0 qb0 qe0 qh0 qD1 qv0 cI cJ cZ cB cT d_n d_for d_road f_row f_fears f_told z_cnt z_next z_store r_tx r_rul t_cl t_ln t_pt t_code t_st t_en t_rows u_cl u_ln u_pt u_code u_st u_en w_cl w_ln w_pt w_code w_st w_en x_cl x_ln x_pt x_code x_st x_en l_names l_stack)) hP [0, 1, 2, 3, 4, 5, 6, 7, 8, 9, 31, 10, 11, 12, 32, 13, 14, 15, 16, 17, 18, 19, 20, 21, 22, 23, 24, 25, 26, 27, 28, 29, 30] rfl
  have hD := hD.sub (ws' := (W_X_0t8_16_34t42_44t47_49t52_54_61t64_76 qd0 qd1 qd2 qf0 qf1 qf2 qf3 qz0 qz1 qr0 qt0 qt1 qt2 qt3 qt4 qu0 qu1 qu2 qu3 qw0 qw1 qw2 qw3 qx0 qx1 qx2 qx3 qT qL1 qL2 qL0 qD0 qX0 qn0 qu4 qw4 qx4 qk0 qb0 qe0 qh0 qD1 qv0 cI cJ cZ cB cT d_n d_for d_road f_row f_fears f_told z_cnt z_next z_store r_tx r_rul t_cl t_ln t_pt t_code t_st t_en t_rows u_cl u_ln u_pt u_code u_st u_en w_cl w_ln w_pt w_code w_st w_en x_cl x_ln x_pt x_code x_st x_en l_names l_stack)) [0, 1, 2, 3, 4, 5, 6, 7, 8, 9, 31, 10, 11, 12, 32, 13, 14, 15, 16, 17, 18, 19, 20, 21, 22, 23, 24, 25, 26, 27, 28, 29, 30] rfl rfl
  refine lv_istore_n (lv' := [(3, .int r3), (0, .ref qX0), (1, .ref qt0), (2, .int p2)]) hx hb dX11_perform_6 rfl hl (by decide) rfl (fun ls hl => ?_)
  refine lv_aload_n hx hb dX11_perform_7 rfl (lv_at hl 2 rfl) ?_
  refine lv_iload_n hx hb dX11_perform_8 rfl (lv_at hl 3 rfl) ?_
  refine lv_iconst (v := (2 : Int32)) hx hb dX11_perform_9 (by decide) ?_
  obtain ⟨r10, hg10, hf⟩ := ob1_some hf
  refine mcV_i (wr := [(qd0, .inr (2, [.int d_n, .ref qd1, .ref qd2])), (qd1, .inl (cI, 8, .inl d_for)), (qd2, .inl (cI, 8, .inl d_road)), (qf0, .inr (1, [.ref qf1, .ref qf2, .ref qf3])), (qf1, .inl (cI, 76, .inl f_row)), (qf2, .inl (cI, 6, .inl f_fears)), (qf3, .inl (cI, 18, .inl f_told)), (qz0, .inr (7, [.int z_cnt, .int z_next, .ref qz1])), (qz1, .inl (cI, 2356, .inl z_store)), (qr0, .inr (6, [.ref qd0, .ref qf0, .ref qz0, .ref qn0, .int r_tx, .int r_rul])), (qt1, .inl (cI, 301, .inl t_code)), (qt2, .inl (cI, 4, .inl t_st)), (qt3, .inl (cI, 4, .inl t_en)), (qu0, .inr (9, [.int u_cl, .int u_ln, .int u_pt, .ref qu1, .ref qu2, .ref qu3, .ref qu4])), (qu1, .inl (cI, 301, .inl u_code)), (qu2, .inl (cI, 4, .inl u_st)), (qu3, .inl (cI, 4, .inl u_en)), (qw0, .inr (9, [.int w_cl, .int w_ln, .int w_pt, .ref qw1, .ref qw2, .ref qw3, .ref qw4])), (qw1, .inl (cI, 301, .inl w_code)), (qw2, .inl (cI, 4, .inl w_st)), (qw3, .inl (cI, 4, .inl w_en)), (qx0, .inr (9, [.int x_cl, .int x_ln, .int x_pt, .ref qx1, .ref qx2, .ref qx3, .ref qx4])), (qx1, .inl (cI, 301, .inl x_code)), (qx2, .inl (cI, 4, .inl x_st)), (qx3, .inl (cI, 4, .inl x_en)), (qT, .inl (cT, 4, .inr (.inr (.inr (.inr (fT qt0 qu0 qw0 qx0)))))), (qL1, .inl (cI, 10, .inl l_names)), (qL2, .inl (cI, 64, .inl l_stack)), (qL0, .inr (3, [.ref qr0, .ref qT, .ref qL1, .ref qL2])), (qD0, .inr (0, [.ref qr0, .ref qf0, .ref qL0])), (qX0, .inr (11, [.ref qr0, .ref qk0, .ref qT, .ref qb0, .ref qe0, .ref qL0, .ref qf0, .ref qd0, .ref qn0, .ref qz0, .ref qD0, .ref qh0, .ref qD1, .ref qv0]))]) (As := [.int p2, .int (2 : Int32)]) (rest := []) hx hb hml hown hts hK hP hD hS hA (k_X9_part l N D cI cJ cZ cB cT qt0 qt4 qt1 qt2 qt3 t_cl t_ln t_pt t_rows p2 (2 : Int32) r10 hg10) (kwX11_187 hts rfl rfl ⟨Nat.le_of_ble_eq_true rfl, Nat.le_of_ble_eq_true rfl⟩) [10, 14] [0, 1, 2, 3, 4, 5, 6, 7, 8, 9, 11, 12, 13, 15, 16, 17, 18, 19, 20, 21, 22, 23, 24, 25, 26, 27, 28, 29, 30, 31, 32] rfl rfl rfl (by decide) rfl 0 rfl rfl rfl rfl hl.1 rfl (Nat.le_of_ble_eq_true rfl) dX11_perform_10 ⟨Nat.zero_le _, Nat.zero_le _⟩ (fun hB10 H locs hP hD hS => ?_)
  have hP := mP_sub (wc := (W_X_0t8_16_34t42_44t47_49t52_54_61t64_76 qd0 qd1 qd2 qf0 qf1 qf2 qf3 qz0 qz1 qr0 qt0 qt1 qt2 qt3 qt4 qu0 qu1 qu2 qu3 qw0 qw1 qw2 qw3 qx0 qx1 qx2 qx3 qT qL1 qL2 qL0 qD0 qX0 qn0 qu4 qw4 qx4 qk0 qb0 qe0 qh0 qD1 qv0 cI cJ cZ cB cT d_n d_for d_road f_row f_fears f_told z_cnt z_next z_store r_tx r_rul t_cl t_ln t_pt t_code t_st t_en t_rows u_cl u_ln u_pt u_code u_st u_en w_cl w_ln w_pt w_code w_st w_en x_cl x_ln x_pt x_code x_st x_en l_names l_stack)) hP [0, 1, 2, 3, 4, 5, 6, 7, 8, 9, 31, 10, 11, 12, 32, 13, 14, 15, 16, 17, 18, 19, 20, 21, 22, 23, 24, 25, 26, 27, 28, 29, 30] rfl
  have hD := hD.sub (ws' := (W_X_0t8_16_34t42_44t47_49t52_54_61t64_76 qd0 qd1 qd2 qf0 qf1 qf2 qf3 qz0 qz1 qr0 qt0 qt1 qt2 qt3 qt4 qu0 qu1 qu2 qu3 qw0 qw1 qw2 qw3 qx0 qx1 qx2 qx3 qT qL1 qL2 qL0 qD0 qX0 qn0 qu4 qw4 qx4 qk0 qb0 qe0 qh0 qD1 qv0 cI cJ cZ cB cT d_n d_for d_road f_row f_fears f_told z_cnt z_next z_store r_tx r_rul t_cl t_ln t_pt t_code t_st t_en t_rows u_cl u_ln u_pt u_code u_st u_en w_cl w_ln w_pt w_code w_st w_en x_cl x_ln x_pt x_code x_st x_en l_names l_stack)) [0, 1, 2, 3, 4, 5, 6, 7, 8, 9, 31, 10, 11, 12, 32, 13, 14, 15, 16, 17, 18, 19, 20, 21, 22, 23, 24, 25, 26, 27, 28, 29, 30] rfl rfl
  refine lv_istore (lv' := [(4, .int r10), (3, .int r3), (0, .ref qX0), (1, .ref qt0), (2, .int p2)]) hx hb dX11_perform_13 hl (by decide) rfl (fun ls hl => ?_)
  refine lv_aload_n hx hb dX11_perform_15 rfl (lv_at hl 3 rfl) ?_
  refine lv_iload_n hx hb dX11_perform_16 rfl (lv_at hl 4 rfl) ?_
  refine lv_iconst (v := (0 : Int32)) hx hb dX11_perform_17 (by decide) ?_
  obtain ⟨r18, hg18, hf⟩ := ob1_some hf
  refine mcV_i (wr := [(qd0, .inr (2, [.int d_n, .ref qd1, .ref qd2])), (qd1, .inl (cI, 8, .inl d_for)), (qd2, .inl (cI, 8, .inl d_road)), (qf0, .inr (1, [.ref qf1, .ref qf2, .ref qf3])), (qf1, .inl (cI, 76, .inl f_row)), (qf2, .inl (cI, 6, .inl f_fears)), (qf3, .inl (cI, 18, .inl f_told)), (qz0, .inr (7, [.int z_cnt, .int z_next, .ref qz1])), (qz1, .inl (cI, 2356, .inl z_store)), (qr0, .inr (6, [.ref qd0, .ref qf0, .ref qz0, .ref qn0, .int r_tx, .int r_rul])), (qt1, .inl (cI, 301, .inl t_code)), (qt2, .inl (cI, 4, .inl t_st)), (qt3, .inl (cI, 4, .inl t_en)), (qu0, .inr (9, [.int u_cl, .int u_ln, .int u_pt, .ref qu1, .ref qu2, .ref qu3, .ref qu4])), (qu1, .inl (cI, 301, .inl u_code)), (qu2, .inl (cI, 4, .inl u_st)), (qu3, .inl (cI, 4, .inl u_en)), (qw0, .inr (9, [.int w_cl, .int w_ln, .int w_pt, .ref qw1, .ref qw2, .ref qw3, .ref qw4])), (qw1, .inl (cI, 301, .inl w_code)), (qw2, .inl (cI, 4, .inl w_st)), (qw3, .inl (cI, 4, .inl w_en)), (qx0, .inr (9, [.int x_cl, .int x_ln, .int x_pt, .ref qx1, .ref qx2, .ref qx3, .ref qx4])), (qx1, .inl (cI, 301, .inl x_code)), (qx2, .inl (cI, 4, .inl x_st)), (qx3, .inl (cI, 4, .inl x_en)), (qT, .inl (cT, 4, .inr (.inr (.inr (.inr (fT qt0 qu0 qw0 qx0)))))), (qL1, .inl (cI, 10, .inl l_names)), (qL2, .inl (cI, 64, .inl l_stack)), (qL0, .inr (3, [.ref qr0, .ref qT, .ref qL1, .ref qL2])), (qD0, .inr (0, [.ref qr0, .ref qf0, .ref qL0])), (qX0, .inr (11, [.ref qr0, .ref qk0, .ref qT, .ref qb0, .ref qe0, .ref qL0, .ref qf0, .ref qd0, .ref qn0, .ref qz0, .ref qD0, .ref qh0, .ref qD1, .ref qv0]))]) (As := [.int p2, .int (0 : Int32)]) (rest := []) hx hb hml hown hts hK hP hD hS hA (k_X9_part l N D cI cJ cZ cB cT qt0 qt4 qt1 qt2 qt3 t_cl t_ln t_pt t_rows p2 (0 : Int32) r18 hg18) (kwX11_187 hts rfl rfl ⟨Nat.le_of_ble_eq_true rfl, Nat.le_of_ble_eq_true rfl⟩) [10, 14] [0, 1, 2, 3, 4, 5, 6, 7, 8, 9, 11, 12, 13, 15, 16, 17, 18, 19, 20, 21, 22, 23, 24, 25, 26, 27, 28, 29, 30, 31, 32] rfl rfl rfl (by decide) rfl 0 rfl rfl rfl rfl hl.1 rfl (Nat.le_of_ble_eq_true rfl) dX11_perform_18 ⟨Nat.zero_le _, Nat.zero_le _⟩ (fun hB18 H locs hP hD hS => ?_)
  have hP := mP_sub (wc := (W_X_0t8_16_34t42_44t47_49t52_54_61t64_76 qd0 qd1 qd2 qf0 qf1 qf2 qf3 qz0 qz1 qr0 qt0 qt1 qt2 qt3 qt4 qu0 qu1 qu2 qu3 qw0 qw1 qw2 qw3 qx0 qx1 qx2 qx3 qT qL1 qL2 qL0 qD0 qX0 qn0 qu4 qw4 qx4 qk0 qb0 qe0 qh0 qD1 qv0 cI cJ cZ cB cT d_n d_for d_road f_row f_fears f_told z_cnt z_next z_store r_tx r_rul t_cl t_ln t_pt t_code t_st t_en t_rows u_cl u_ln u_pt u_code u_st u_en w_cl w_ln w_pt w_code w_st w_en x_cl x_ln x_pt x_code x_st x_en l_names l_stack)) hP [0, 1, 2, 3, 4, 5, 6, 7, 8, 9, 31, 10, 11, 12, 32, 13, 14, 15, 16, 17, 18, 19, 20, 21, 22, 23, 24, 25, 26, 27, 28, 29, 30] rfl
  have hD := hD.sub (ws' := (W_X_0t8_16_34t42_44t47_49t52_54_61t64_76 qd0 qd1 qd2 qf0 qf1 qf2 qf3 qz0 qz1 qr0 qt0 qt1 qt2 qt3 qt4 qu0 qu1 qu2 qu3 qw0 qw1 qw2 qw3 qx0 qx1 qx2 qx3 qT qL1 qL2 qL0 qD0 qX0 qn0 qu4 qw4 qx4 qk0 qb0 qe0 qh0 qD1 qv0 cI cJ cZ cB cT d_n d_for d_road f_row f_fears f_told z_cnt z_next z_store r_tx r_rul t_cl t_ln t_pt t_code t_st t_en t_rows u_cl u_ln u_pt u_code u_st u_en w_cl w_ln w_pt w_code w_st w_en x_cl x_ln x_pt x_code x_st x_en l_names l_stack)) [0, 1, 2, 3, 4, 5, 6, 7, 8, 9, 31, 10, 11, 12, 32, 13, 14, 15, 16, 17, 18, 19, 20, 21, 22, 23, 24, 25, 26, 27, 28, 29, 30] rfl rfl
  by_cases e21_4 : r18 = (4 : Int32)
  · replace hf := (if_pos e21_4).symm.trans hf
    refine lv_tableIn (off := 66) (tgt := 87) hx hb dX11_perform_21 (by rw [e21_4]; decide) (by rw [e21_4]; decide) (by rw [e21_4]; rfl) (by decide) ?_
    refine lv_aload_n hx hb dX11_perform_87 rfl (lv_at hl 2 rfl) ?_
    refine lv_iload_n hx hb dX11_perform_88 rfl (lv_at hl 1 rfl) ?_
    refine lv_iload hx hb dX11_perform_89 (lv_at hl 0 rfl) ?_
    obtain ⟨r91, d_road_91, hg91, hf⟩ := ob2_some hf
    refine mcV_i (wr := [(qd1, .inl (cI, 8, .inl d_for)), (qf0, .inr (1, [.ref qf1, .ref qf2, .ref qf3])), (qf1, .inl (cI, 76, .inl f_row)), (qf2, .inl (cI, 6, .inl f_fears)), (qf3, .inl (cI, 18, .inl f_told)), (qz0, .inr (7, [.int z_cnt, .int z_next, .ref qz1])), (qz1, .inl (cI, 2356, .inl z_store)), (qr0, .inr (6, [.ref qd0, .ref qf0, .ref qz0, .ref qn0, .int r_tx, .int r_rul])), (qt0, .inr (9, [.int t_cl, .int t_ln, .int t_pt, .ref qt1, .ref qt2, .ref qt3, .ref qt4])), (qt1, .inl (cI, 301, .inl t_code)), (qt2, .inl (cI, 4, .inl t_st)), (qt3, .inl (cI, 4, .inl t_en)), (qt4, .inl (cI, 120, .inl t_rows)), (qu0, .inr (9, [.int u_cl, .int u_ln, .int u_pt, .ref qu1, .ref qu2, .ref qu3, .ref qu4])), (qu1, .inl (cI, 301, .inl u_code)), (qu2, .inl (cI, 4, .inl u_st)), (qu3, .inl (cI, 4, .inl u_en)), (qw0, .inr (9, [.int w_cl, .int w_ln, .int w_pt, .ref qw1, .ref qw2, .ref qw3, .ref qw4])), (qw1, .inl (cI, 301, .inl w_code)), (qw2, .inl (cI, 4, .inl w_st)), (qw3, .inl (cI, 4, .inl w_en)), (qx0, .inr (9, [.int x_cl, .int x_ln, .int x_pt, .ref qx1, .ref qx2, .ref qx3, .ref qx4])), (qx1, .inl (cI, 301, .inl x_code)), (qx2, .inl (cI, 4, .inl x_st)), (qx3, .inl (cI, 4, .inl x_en)), (qT, .inl (cT, 4, .inr (.inr (.inr (.inr (fT qt0 qu0 qw0 qx0)))))), (qL1, .inl (cI, 10, .inl l_names)), (qL2, .inl (cI, 64, .inl l_stack)), (qL0, .inr (3, [.ref qr0, .ref qT, .ref qL1, .ref qL2])), (qD0, .inr (0, [.ref qr0, .ref qf0, .ref qL0]))]) (As := [.int r3, .int r10]) (rest := []) hx hb hml hown hts hK hP hD hS hA (k_X11_road l N D cI cJ cZ cB cT qd0 qd2 qX0 qd1 qr0 qk0 qT qb0 qe0 qL0 qf0 qn0 qz0 qD0 qh0 qD1 qv0 d_n d_road r3 r10 r91 d_road_91 hg91) (kwX11_193 hts rfl rfl ⟨Nat.le_of_ble_eq_true rfl, Nat.le_of_ble_eq_true rfl⟩) [0, 2, 32] [1, 3, 4, 5, 6, 7, 8, 9, 10, 11, 12, 13, 14, 15, 16, 17, 18, 19, 20, 21, 22, 23, 24, 25, 26, 27, 28, 29, 30, 31] rfl rfl rfl (by decide) rfl 2 rfl rfl rfl rfl hl.1 rfl (Nat.le_of_ble_eq_true rfl) dX11_perform_91 ⟨Nat.zero_le _, Nat.zero_le _⟩ (fun hB91 H locs hP hD hS => ?_)
    have hP := mP_sub (wc := (W_X_0t8_16_34t42_44t47_49t52_54_61t64_76 qd0 qd1 qd2 qf0 qf1 qf2 qf3 qz0 qz1 qr0 qt0 qt1 qt2 qt3 qt4 qu0 qu1 qu2 qu3 qw0 qw1 qw2 qw3 qx0 qx1 qx2 qx3 qT qL1 qL2 qL0 qD0 qX0 qn0 qu4 qw4 qx4 qk0 qb0 qe0 qh0 qD1 qv0 cI cJ cZ cB cT d_n d_for d_road_91 f_row f_fears f_told z_cnt z_next z_store r_tx r_rul t_cl t_ln t_pt t_code t_st t_en t_rows u_cl u_ln u_pt u_code u_st u_en w_cl w_ln w_pt w_code w_st w_en x_cl x_ln x_pt x_code x_st x_en l_names l_stack)) hP [30, 0, 31, 1, 2, 3, 4, 5, 6, 7, 8, 9, 10, 11, 12, 13, 14, 15, 16, 17, 18, 19, 20, 21, 22, 23, 24, 25, 26, 27, 28, 29, 32] rfl
    have hD := hD.sub (ws' := (W_X_0t8_16_34t42_44t47_49t52_54_61t64_76 qd0 qd1 qd2 qf0 qf1 qf2 qf3 qz0 qz1 qr0 qt0 qt1 qt2 qt3 qt4 qu0 qu1 qu2 qu3 qw0 qw1 qw2 qw3 qx0 qx1 qx2 qx3 qT qL1 qL2 qL0 qD0 qX0 qn0 qu4 qw4 qx4 qk0 qb0 qe0 qh0 qD1 qv0 cI cJ cZ cB cT d_n d_for d_road_91 f_row f_fears f_told z_cnt z_next z_store r_tx r_rul t_cl t_ln t_pt t_code t_st t_en t_rows u_cl u_ln u_pt u_code u_st u_en w_cl w_ln w_pt w_code w_st w_en x_cl x_ln x_pt x_code x_st x_en l_names l_stack)) [30, 0, 31, 1, 2, 3, 4, 5, 6, 7, 8, 9, 10, 11, 12, 13, 14, 15, 16, 17, 18, 19, 20, 21, 22, 23, 24, 25, 26, 27, 28, 29, 32] rfl rfl
    cases hf
    exact mret_z hx hb hr hlocks hP hD hS dX11_perform_94 rfl hB91
  replace hf := (if_neg e21_4).symm.trans hf
  by_cases e21_5 : r18 = (5 : Int32)
  · replace hf := (if_pos e21_5).symm.trans hf
    refine lv_tableIn (off := 74) (tgt := 95) hx hb dX11_perform_21 (by rw [e21_5]; decide) (by rw [e21_5]; decide) (by rw [e21_5]; rfl) (by decide) ?_
    refine lv_aload_n hx hb dX11_perform_95 rfl (lv_at hl 2 rfl) ?_
    refine lv_iload_n hx hb dX11_perform_96 rfl (lv_at hl 1 rfl) ?_
    refine lv_iload hx hb dX11_perform_97 (lv_at hl 0 rfl) ?_
    refine lv_aload_n hx hb dX11_perform_99 rfl (lv_at hl 3 rfl) ?_
    refine lv_iload_n hx hb dX11_perform_100 rfl (lv_at hl 4 rfl) ?_
    refine lv_iconst (v := (3 : Int32)) hx hb dX11_perform_101 (by decide) ?_
    obtain ⟨r102, hg102, hf⟩ := ob1_some hf
    refine mcV_i (wr := [(qd0, .inr (2, [.int d_n, .ref qd1, .ref qd2])), (qd1, .inl (cI, 8, .inl d_for)), (qd2, .inl (cI, 8, .inl d_road)), (qf0, .inr (1, [.ref qf1, .ref qf2, .ref qf3])), (qf1, .inl (cI, 76, .inl f_row)), (qf2, .inl (cI, 6, .inl f_fears)), (qf3, .inl (cI, 18, .inl f_told)), (qz0, .inr (7, [.int z_cnt, .int z_next, .ref qz1])), (qz1, .inl (cI, 2356, .inl z_store)), (qr0, .inr (6, [.ref qd0, .ref qf0, .ref qz0, .ref qn0, .int r_tx, .int r_rul])), (qt1, .inl (cI, 301, .inl t_code)), (qt2, .inl (cI, 4, .inl t_st)), (qt3, .inl (cI, 4, .inl t_en)), (qu0, .inr (9, [.int u_cl, .int u_ln, .int u_pt, .ref qu1, .ref qu2, .ref qu3, .ref qu4])), (qu1, .inl (cI, 301, .inl u_code)), (qu2, .inl (cI, 4, .inl u_st)), (qu3, .inl (cI, 4, .inl u_en)), (qw0, .inr (9, [.int w_cl, .int w_ln, .int w_pt, .ref qw1, .ref qw2, .ref qw3, .ref qw4])), (qw1, .inl (cI, 301, .inl w_code)), (qw2, .inl (cI, 4, .inl w_st)), (qw3, .inl (cI, 4, .inl w_en)), (qx0, .inr (9, [.int x_cl, .int x_ln, .int x_pt, .ref qx1, .ref qx2, .ref qx3, .ref qx4])), (qx1, .inl (cI, 301, .inl x_code)), (qx2, .inl (cI, 4, .inl x_st)), (qx3, .inl (cI, 4, .inl x_en)), (qT, .inl (cT, 4, .inr (.inr (.inr (.inr (fT qt0 qu0 qw0 qx0)))))), (qL1, .inl (cI, 10, .inl l_names)), (qL2, .inl (cI, 64, .inl l_stack)), (qL0, .inr (3, [.ref qr0, .ref qT, .ref qL1, .ref qL2])), (qD0, .inr (0, [.ref qr0, .ref qf0, .ref qL0])), (qX0, .inr (11, [.ref qr0, .ref qk0, .ref qT, .ref qb0, .ref qe0, .ref qL0, .ref qf0, .ref qd0, .ref qn0, .ref qz0, .ref qD0, .ref qh0, .ref qD1, .ref qv0]))]) (As := [.int p2, .int (3 : Int32)]) (rest := [.int r10, .int r3, .ref qX0]) hx hb hml hown hts hK hP hD hS hA (k_X9_part l N D cI cJ cZ cB cT qt0 qt4 qt1 qt2 qt3 t_cl t_ln t_pt t_rows p2 (3 : Int32) r102 hg102) (kwX11_187 hts rfl rfl ⟨Nat.le_of_ble_eq_true rfl, Nat.le_of_ble_eq_true rfl⟩) [10, 14] [0, 1, 2, 3, 4, 5, 6, 7, 8, 9, 11, 12, 13, 15, 16, 17, 18, 19, 20, 21, 22, 23, 24, 25, 26, 27, 28, 29, 30, 31, 32] rfl rfl rfl (by decide) rfl 0 rfl rfl rfl rfl hl.1 rfl (Nat.le_of_ble_eq_true rfl) dX11_perform_102 ⟨Nat.zero_le _, Nat.zero_le _⟩ (fun hB102 H locs hP hD hS => ?_)
    have hP := mP_sub (wc := (W_X_0t8_16_34t42_44t47_49t52_54_61t64_76 qd0 qd1 qd2 qf0 qf1 qf2 qf3 qz0 qz1 qr0 qt0 qt1 qt2 qt3 qt4 qu0 qu1 qu2 qu3 qw0 qw1 qw2 qw3 qx0 qx1 qx2 qx3 qT qL1 qL2 qL0 qD0 qX0 qn0 qu4 qw4 qx4 qk0 qb0 qe0 qh0 qD1 qv0 cI cJ cZ cB cT d_n d_for d_road f_row f_fears f_told z_cnt z_next z_store r_tx r_rul t_cl t_ln t_pt t_code t_st t_en t_rows u_cl u_ln u_pt u_code u_st u_en w_cl w_ln w_pt w_code w_st w_en x_cl x_ln x_pt x_code x_st x_en l_names l_stack)) hP [0, 1, 2, 3, 4, 5, 6, 7, 8, 9, 31, 10, 11, 12, 32, 13, 14, 15, 16, 17, 18, 19, 20, 21, 22, 23, 24, 25, 26, 27, 28, 29, 30] rfl
    have hD := hD.sub (ws' := (W_X_0t8_16_34t42_44t47_49t52_54_61t64_76 qd0 qd1 qd2 qf0 qf1 qf2 qf3 qz0 qz1 qr0 qt0 qt1 qt2 qt3 qt4 qu0 qu1 qu2 qu3 qw0 qw1 qw2 qw3 qx0 qx1 qx2 qx3 qT qL1 qL2 qL0 qD0 qX0 qn0 qu4 qw4 qx4 qk0 qb0 qe0 qh0 qD1 qv0 cI cJ cZ cB cT d_n d_for d_road f_row f_fears f_told z_cnt z_next z_store r_tx r_rul t_cl t_ln t_pt t_code t_st t_en t_rows u_cl u_ln u_pt u_code u_st u_en w_cl w_ln w_pt w_code w_st w_en x_cl x_ln x_pt x_code x_st x_en l_names l_stack)) [0, 1, 2, 3, 4, 5, 6, 7, 8, 9, 31, 10, 11, 12, 32, 13, 14, 15, 16, 17, 18, 19, 20, 21, 22, 23, 24, 25, 26, 27, 28, 29, 30] rfl rfl
    refine lv_aload_n hx hb dX11_perform_105 rfl (lv_at hl 3 rfl) ?_
    refine lv_iload_n hx hb dX11_perform_106 rfl (lv_at hl 4 rfl) ?_
    refine lv_iconst (v := (4 : Int32)) hx hb dX11_perform_107 (by decide) ?_
    obtain ⟨r108, hg108, hf⟩ := ob1_some hf
    refine mcV_i (wr := [(qd0, .inr (2, [.int d_n, .ref qd1, .ref qd2])), (qd1, .inl (cI, 8, .inl d_for)), (qd2, .inl (cI, 8, .inl d_road)), (qf0, .inr (1, [.ref qf1, .ref qf2, .ref qf3])), (qf1, .inl (cI, 76, .inl f_row)), (qf2, .inl (cI, 6, .inl f_fears)), (qf3, .inl (cI, 18, .inl f_told)), (qz0, .inr (7, [.int z_cnt, .int z_next, .ref qz1])), (qz1, .inl (cI, 2356, .inl z_store)), (qr0, .inr (6, [.ref qd0, .ref qf0, .ref qz0, .ref qn0, .int r_tx, .int r_rul])), (qt1, .inl (cI, 301, .inl t_code)), (qt2, .inl (cI, 4, .inl t_st)), (qt3, .inl (cI, 4, .inl t_en)), (qu0, .inr (9, [.int u_cl, .int u_ln, .int u_pt, .ref qu1, .ref qu2, .ref qu3, .ref qu4])), (qu1, .inl (cI, 301, .inl u_code)), (qu2, .inl (cI, 4, .inl u_st)), (qu3, .inl (cI, 4, .inl u_en)), (qw0, .inr (9, [.int w_cl, .int w_ln, .int w_pt, .ref qw1, .ref qw2, .ref qw3, .ref qw4])), (qw1, .inl (cI, 301, .inl w_code)), (qw2, .inl (cI, 4, .inl w_st)), (qw3, .inl (cI, 4, .inl w_en)), (qx0, .inr (9, [.int x_cl, .int x_ln, .int x_pt, .ref qx1, .ref qx2, .ref qx3, .ref qx4])), (qx1, .inl (cI, 301, .inl x_code)), (qx2, .inl (cI, 4, .inl x_st)), (qx3, .inl (cI, 4, .inl x_en)), (qT, .inl (cT, 4, .inr (.inr (.inr (.inr (fT qt0 qu0 qw0 qx0)))))), (qL1, .inl (cI, 10, .inl l_names)), (qL2, .inl (cI, 64, .inl l_stack)), (qL0, .inr (3, [.ref qr0, .ref qT, .ref qL1, .ref qL2])), (qD0, .inr (0, [.ref qr0, .ref qf0, .ref qL0])), (qX0, .inr (11, [.ref qr0, .ref qk0, .ref qT, .ref qb0, .ref qe0, .ref qL0, .ref qf0, .ref qd0, .ref qn0, .ref qz0, .ref qD0, .ref qh0, .ref qD1, .ref qv0]))]) (As := [.int p2, .int (4 : Int32)]) (rest := [.int r102, .int r10, .int r3, .ref qX0]) hx hb hml hown hts hK hP hD hS hA (k_X9_part l N D cI cJ cZ cB cT qt0 qt4 qt1 qt2 qt3 t_cl t_ln t_pt t_rows p2 (4 : Int32) r108 hg108) (kwX11_187 hts rfl rfl ⟨Nat.le_of_ble_eq_true rfl, Nat.le_of_ble_eq_true rfl⟩) [10, 14] [0, 1, 2, 3, 4, 5, 6, 7, 8, 9, 11, 12, 13, 15, 16, 17, 18, 19, 20, 21, 22, 23, 24, 25, 26, 27, 28, 29, 30, 31, 32] rfl rfl rfl (by decide) rfl 0 rfl rfl rfl rfl hl.1 rfl (Nat.le_of_ble_eq_true rfl) dX11_perform_108 ⟨Nat.zero_le _, Nat.zero_le _⟩ (fun hB108 H locs hP hD hS => ?_)
    have hP := mP_sub (wc := (W_X_0t8_16_34t42_44t47_49t52_54_61t64_76 qd0 qd1 qd2 qf0 qf1 qf2 qf3 qz0 qz1 qr0 qt0 qt1 qt2 qt3 qt4 qu0 qu1 qu2 qu3 qw0 qw1 qw2 qw3 qx0 qx1 qx2 qx3 qT qL1 qL2 qL0 qD0 qX0 qn0 qu4 qw4 qx4 qk0 qb0 qe0 qh0 qD1 qv0 cI cJ cZ cB cT d_n d_for d_road f_row f_fears f_told z_cnt z_next z_store r_tx r_rul t_cl t_ln t_pt t_code t_st t_en t_rows u_cl u_ln u_pt u_code u_st u_en w_cl w_ln w_pt w_code w_st w_en x_cl x_ln x_pt x_code x_st x_en l_names l_stack)) hP [0, 1, 2, 3, 4, 5, 6, 7, 8, 9, 31, 10, 11, 12, 32, 13, 14, 15, 16, 17, 18, 19, 20, 21, 22, 23, 24, 25, 26, 27, 28, 29, 30] rfl
    have hD := hD.sub (ws' := (W_X_0t8_16_34t42_44t47_49t52_54_61t64_76 qd0 qd1 qd2 qf0 qf1 qf2 qf3 qz0 qz1 qr0 qt0 qt1 qt2 qt3 qt4 qu0 qu1 qu2 qu3 qw0 qw1 qw2 qw3 qx0 qx1 qx2 qx3 qT qL1 qL2 qL0 qD0 qX0 qn0 qu4 qw4 qx4 qk0 qb0 qe0 qh0 qD1 qv0 cI cJ cZ cB cT d_n d_for d_road f_row f_fears f_told z_cnt z_next z_store r_tx r_rul t_cl t_ln t_pt t_code t_st t_en t_rows u_cl u_ln u_pt u_code u_st u_en w_cl w_ln w_pt w_code w_st w_en x_cl x_ln x_pt x_code x_st x_en l_names l_stack)) [0, 1, 2, 3, 4, 5, 6, 7, 8, 9, 31, 10, 11, 12, 32, 13, 14, 15, 16, 17, 18, 19, 20, 21, 22, 23, 24, 25, 26, 27, 28, 29, 30] rfl rfl
    obtain ⟨r111, f_row_111, f_fears_111, f_told_111, hg111, hf⟩ := ob4_some hf
    refine mcV_i (wr := [(qd1, .inl (cI, 8, .inl d_for)), (qd2, .inl (cI, 8, .inl d_road)), (qz0, .inr (7, [.int z_cnt, .int z_next, .ref qz1])), (qz1, .inl (cI, 2356, .inl z_store)), (qr0, .inr (6, [.ref qd0, .ref qf0, .ref qz0, .ref qn0, .int r_tx, .int r_rul])), (qt0, .inr (9, [.int t_cl, .int t_ln, .int t_pt, .ref qt1, .ref qt2, .ref qt3, .ref qt4])), (qt1, .inl (cI, 301, .inl t_code)), (qt2, .inl (cI, 4, .inl t_st)), (qt3, .inl (cI, 4, .inl t_en)), (qt4, .inl (cI, 120, .inl t_rows)), (qu0, .inr (9, [.int u_cl, .int u_ln, .int u_pt, .ref qu1, .ref qu2, .ref qu3, .ref qu4])), (qu1, .inl (cI, 301, .inl u_code)), (qu2, .inl (cI, 4, .inl u_st)), (qu3, .inl (cI, 4, .inl u_en)), (qw0, .inr (9, [.int w_cl, .int w_ln, .int w_pt, .ref qw1, .ref qw2, .ref qw3, .ref qw4])), (qw1, .inl (cI, 301, .inl w_code)), (qw2, .inl (cI, 4, .inl w_st)), (qw3, .inl (cI, 4, .inl w_en)), (qx0, .inr (9, [.int x_cl, .int x_ln, .int x_pt, .ref qx1, .ref qx2, .ref qx3, .ref qx4])), (qx1, .inl (cI, 301, .inl x_code)), (qx2, .inl (cI, 4, .inl x_st)), (qx3, .inl (cI, 4, .inl x_en)), (qT, .inl (cT, 4, .inr (.inr (.inr (.inr (fT qt0 qu0 qw0 qx0)))))), (qL1, .inl (cI, 10, .inl l_names)), (qL2, .inl (cI, 64, .inl l_stack)), (qL0, .inr (3, [.ref qr0, .ref qT, .ref qL1, .ref qL2])), (qD0, .inr (0, [.ref qr0, .ref qf0, .ref qL0]))]) (As := [.int r3, .int r10, .int r102, .int r108]) (rest := []) hx hb hml hown hts hK hP hD hS hA (k_X11_person l N D cI cJ cZ cB cT qd0 qf0 qf1 qf2 qf3 qX0 qd1 qd2 qr0 qk0 qT qb0 qe0 qL0 qn0 qz0 qD0 qh0 qD1 qv0 d_n f_row f_fears f_told r3 r10 r102 r108 r111 f_row_111 f_fears_111 f_told_111 hg111) (kwX11_196 hts rfl rfl ⟨Nat.le_of_ble_eq_true rfl, Nat.le_of_ble_eq_true rfl⟩) [0, 3, 4, 5, 6, 32] [1, 2, 7, 8, 9, 10, 11, 12, 13, 14, 15, 16, 17, 18, 19, 20, 21, 22, 23, 24, 25, 26, 27, 28, 29, 30, 31] rfl rfl rfl (by decide) rfl 5 rfl rfl rfl rfl hl.1 rfl (Nat.le_of_ble_eq_true rfl) dX11_perform_111 ⟨Nat.zero_le _, Nat.zero_le _⟩ (fun hB111 H locs hP hD hS => ?_)
    have hP := mP_sub (wc := (W_X_0t8_16_34t42_44t47_49t52_54_61t64_76 qd0 qd1 qd2 qf0 qf1 qf2 qf3 qz0 qz1 qr0 qt0 qt1 qt2 qt3 qt4 qu0 qu1 qu2 qu3 qw0 qw1 qw2 qw3 qx0 qx1 qx2 qx3 qT qL1 qL2 qL0 qD0 qX0 qn0 qu4 qw4 qx4 qk0 qb0 qe0 qh0 qD1 qv0 cI cJ cZ cB cT d_n d_for d_road f_row_111 f_fears_111 f_told_111 z_cnt z_next z_store r_tx r_rul t_cl t_ln t_pt t_code t_st t_en t_rows u_cl u_ln u_pt u_code u_st u_en w_cl w_ln w_pt w_code w_st w_en x_cl x_ln x_pt x_code x_st x_en l_names l_stack)) hP [27, 0, 1, 28, 29, 30, 31, 2, 3, 4, 5, 6, 7, 8, 9, 10, 11, 12, 13, 14, 15, 16, 17, 18, 19, 20, 21, 22, 23, 24, 25, 26, 32] rfl
    have hD := hD.sub (ws' := (W_X_0t8_16_34t42_44t47_49t52_54_61t64_76 qd0 qd1 qd2 qf0 qf1 qf2 qf3 qz0 qz1 qr0 qt0 qt1 qt2 qt3 qt4 qu0 qu1 qu2 qu3 qw0 qw1 qw2 qw3 qx0 qx1 qx2 qx3 qT qL1 qL2 qL0 qD0 qX0 qn0 qu4 qw4 qx4 qk0 qb0 qe0 qh0 qD1 qv0 cI cJ cZ cB cT d_n d_for d_road f_row_111 f_fears_111 f_told_111 z_cnt z_next z_store r_tx r_rul t_cl t_ln t_pt t_code t_st t_en t_rows u_cl u_ln u_pt u_code u_st u_en w_cl w_ln w_pt w_code w_st w_en x_cl x_ln x_pt x_code x_st x_en l_names l_stack)) [27, 0, 1, 28, 29, 30, 31, 2, 3, 4, 5, 6, 7, 8, 9, 10, 11, 12, 13, 14, 15, 16, 17, 18, 19, 20, 21, 22, 23, 24, 25, 26, 32] rfl rfl
    refine lv_iconst (v := (-1 : Int32)) hx hb dX11_perform_114 (by decide) ?_
    refine xicmp_eq hx hb 122 dX11_perform_115 (by decide) hf (fun hf => ?_) (fun hf => ?_)
    · refine lv_iconst (v := (0 : Int32)) hx hb dX11_perform_122 (by decide) ?_
      cases hf
      exact mret_z hx hb hr hlocks hP hD hS dX11_perform_123 rfl rfl
    · refine lv_iconst (v := (1 : Int32)) hx hb dX11_perform_118 (by decide) ?_
      refine lv_goto (tgt := 123) hx hb dX11_perform_119 (by decide) ?_
      cases hf
      exact mret_z hx hb hr hlocks hP hD hS dX11_perform_123 rfl rfl
  replace hf := (if_neg e21_5).symm.trans hf
  by_cases e21_6 : r18 = (6 : Int32)
  · replace hf := (if_pos e21_6).symm.trans hf
    refine lv_tableIn (off := 103) (tgt := 124) hx hb dX11_perform_21 (by rw [e21_6]; decide) (by rw [e21_6]; decide) (by rw [e21_6]; rfl) (by decide) ?_
    refine lv_aload_n hx hb dX11_perform_124 rfl (lv_at hl 2 rfl) ?_
    refine lv_iload_n hx hb dX11_perform_125 rfl (lv_at hl 1 rfl) ?_
    refine lv_iload hx hb dX11_perform_126 (lv_at hl 0 rfl) ?_
    obtain ⟨r128, f_row_128, z_cnt_128, z_next_128, z_store_128, hg128, hf⟩ := ob5_some hf
    refine mcV_i (wr := [(qd1, .inl (cI, 8, .inl d_for)), (qd2, .inl (cI, 8, .inl d_road)), (qf2, .inl (cI, 6, .inl f_fears)), (qf3, .inl (cI, 18, .inl f_told)), (qt0, .inr (9, [.int t_cl, .int t_ln, .int t_pt, .ref qt1, .ref qt2, .ref qt3, .ref qt4])), (qt1, .inl (cI, 301, .inl t_code)), (qt2, .inl (cI, 4, .inl t_st)), (qt3, .inl (cI, 4, .inl t_en)), (qt4, .inl (cI, 120, .inl t_rows)), (qu0, .inr (9, [.int u_cl, .int u_ln, .int u_pt, .ref qu1, .ref qu2, .ref qu3, .ref qu4])), (qu1, .inl (cI, 301, .inl u_code)), (qu2, .inl (cI, 4, .inl u_st)), (qu3, .inl (cI, 4, .inl u_en)), (qw0, .inr (9, [.int w_cl, .int w_ln, .int w_pt, .ref qw1, .ref qw2, .ref qw3, .ref qw4])), (qw1, .inl (cI, 301, .inl w_code)), (qw2, .inl (cI, 4, .inl w_st)), (qw3, .inl (cI, 4, .inl w_en)), (qx0, .inr (9, [.int x_cl, .int x_ln, .int x_pt, .ref qx1, .ref qx2, .ref qx3, .ref qx4])), (qx1, .inl (cI, 301, .inl x_code)), (qx2, .inl (cI, 4, .inl x_st)), (qx3, .inl (cI, 4, .inl x_en)), (qT, .inl (cT, 4, .inr (.inr (.inr (.inr (fT qt0 qu0 qw0 qx0)))))), (qL1, .inl (cI, 10, .inl l_names)), (qL2, .inl (cI, 64, .inl l_stack)), (qL0, .inr (3, [.ref qr0, .ref qT, .ref qL1, .ref qL2]))]) (As := [.int r3, .int r10]) (rest := []) hx hb hml hown hts hK hP hD hS hA (k_X11_call l N D cI cJ cZ cB cT qd0 qf0 qf1 qz0 qz1 qr0 qD0 qX0 qd1 qd2 qf2 qf3 qn0 qL0 qk0 qT qb0 qe0 qh0 qD1 qv0 d_n f_row z_cnt z_next z_store r_tx r_rul r3 r10 r128 f_row_128 z_cnt_128 z_next_128 z_store_128 hg128) (kwX11_199 hts rfl rfl ⟨Nat.le_of_ble_eq_true rfl, Nat.le_of_ble_eq_true rfl⟩) [0, 3, 4, 7, 8, 9, 31, 32] [1, 2, 5, 6, 10, 11, 12, 13, 14, 15, 16, 17, 18, 19, 20, 21, 22, 23, 24, 25, 26, 27, 28, 29, 30] rfl rfl rfl (by decide) rfl 7 rfl rfl rfl rfl hl.1 rfl (Nat.le_of_ble_eq_true rfl) dX11_perform_128 ⟨Nat.zero_le _, Nat.zero_le _⟩ (fun hB128 H locs hP hD hS => ?_)
    have hP := mP_sub (wc := (W_X_0t8_16_34t42_44t47_49t52_54_61t64_76 qd0 qd1 qd2 qf0 qf1 qf2 qf3 qz0 qz1 qr0 qt0 qt1 qt2 qt3 qt4 qu0 qu1 qu2 qu3 qw0 qw1 qw2 qw3 qx0 qx1 qx2 qx3 qT qL1 qL2 qL0 qD0 qX0 qn0 qu4 qw4 qx4 qk0 qb0 qe0 qh0 qD1 qv0 cI cJ cZ cB cT d_n d_for d_road f_row_128 f_fears f_told z_cnt_128 z_next_128 z_store_128 r_tx r_rul t_cl t_ln t_pt t_code t_st t_en t_rows u_cl u_ln u_pt u_code u_st u_en w_cl w_ln w_pt w_code w_st w_en x_cl x_ln x_pt x_code x_st x_en l_names l_stack)) hP [25, 0, 1, 26, 27, 2, 3, 28, 29, 30, 4, 5, 6, 7, 8, 9, 10, 11, 12, 13, 14, 15, 16, 17, 18, 19, 20, 21, 22, 23, 24, 31, 32] rfl
    have hD := hD.sub (ws' := (W_X_0t8_16_34t42_44t47_49t52_54_61t64_76 qd0 qd1 qd2 qf0 qf1 qf2 qf3 qz0 qz1 qr0 qt0 qt1 qt2 qt3 qt4 qu0 qu1 qu2 qu3 qw0 qw1 qw2 qw3 qx0 qx1 qx2 qx3 qT qL1 qL2 qL0 qD0 qX0 qn0 qu4 qw4 qx4 qk0 qb0 qe0 qh0 qD1 qv0 cI cJ cZ cB cT d_n d_for d_road f_row_128 f_fears f_told z_cnt_128 z_next_128 z_store_128 r_tx r_rul t_cl t_ln t_pt t_code t_st t_en t_rows u_cl u_ln u_pt u_code u_st u_en w_cl w_ln w_pt w_code w_st w_en x_cl x_ln x_pt x_code x_st x_en l_names l_stack)) [25, 0, 1, 26, 27, 2, 3, 28, 29, 30, 4, 5, 6, 7, 8, 9, 10, 11, 12, 13, 14, 15, 16, 17, 18, 19, 20, 21, 22, 23, 24, 31, 32] rfl rfl
    refine lv_iconst (v := (-1 : Int32)) hx hb dX11_perform_131 (by decide) ?_
    refine xicmp_eq hx hb 139 dX11_perform_132 (by decide) hf (fun hf => ?_) (fun hf => ?_)
    · refine lv_iconst (v := (0 : Int32)) hx hb dX11_perform_139 (by decide) ?_
      cases hf
      exact mret_z hx hb hr hlocks hP hD hS dX11_perform_140 rfl rfl
    · refine lv_iconst (v := (1 : Int32)) hx hb dX11_perform_135 (by decide) ?_
      refine lv_goto (tgt := 140) hx hb dX11_perform_136 (by decide) ?_
      cases hf
      exact mret_z hx hb hr hlocks hP hD hS dX11_perform_140 rfl rfl
  replace hf := (if_neg e21_6).symm.trans hf
  by_cases e21_7 : r18 = (7 : Int32)
  · replace hf := (if_pos e21_7).symm.trans hf
    refine lv_tableIn (off := 120) (tgt := 141) hx hb dX11_perform_21 (by rw [e21_7]; decide) (by rw [e21_7]; decide) (by rw [e21_7]; rfl) (by decide) ?_
    refine lv_aload_n hx hb dX11_perform_141 rfl (lv_at hl 2 rfl) ?_
    refine lv_iload_n hx hb dX11_perform_142 rfl (lv_at hl 1 rfl) ?_
    refine lv_iload hx hb dX11_perform_143 (lv_at hl 0 rfl) ?_
    obtain ⟨r145, f_row_145, z_cnt_145, z_next_145, z_store_145, hg145, hf⟩ := ob5_some hf
    refine mcV_i (wr := [(qd1, .inl (cI, 8, .inl d_for)), (qf2, .inl (cI, 6, .inl f_fears)), (qf3, .inl (cI, 18, .inl f_told)), (qt0, .inr (9, [.int t_cl, .int t_ln, .int t_pt, .ref qt1, .ref qt2, .ref qt3, .ref qt4])), (qt1, .inl (cI, 301, .inl t_code)), (qt2, .inl (cI, 4, .inl t_st)), (qt3, .inl (cI, 4, .inl t_en)), (qt4, .inl (cI, 120, .inl t_rows)), (qu0, .inr (9, [.int u_cl, .int u_ln, .int u_pt, .ref qu1, .ref qu2, .ref qu3, .ref qu4])), (qu1, .inl (cI, 301, .inl u_code)), (qu2, .inl (cI, 4, .inl u_st)), (qu3, .inl (cI, 4, .inl u_en)), (qw0, .inr (9, [.int w_cl, .int w_ln, .int w_pt, .ref qw1, .ref qw2, .ref qw3, .ref qw4])), (qw1, .inl (cI, 301, .inl w_code)), (qw2, .inl (cI, 4, .inl w_st)), (qw3, .inl (cI, 4, .inl w_en)), (qx0, .inr (9, [.int x_cl, .int x_ln, .int x_pt, .ref qx1, .ref qx2, .ref qx3, .ref qx4])), (qx1, .inl (cI, 301, .inl x_code)), (qx2, .inl (cI, 4, .inl x_st)), (qx3, .inl (cI, 4, .inl x_en)), (qT, .inl (cT, 4, .inr (.inr (.inr (.inr (fT qt0 qu0 qw0 qx0)))))), (qL1, .inl (cI, 10, .inl l_names)), (qL2, .inl (cI, 64, .inl l_stack)), (qL0, .inr (3, [.ref qr0, .ref qT, .ref qL1, .ref qL2]))]) (As := [.int r3, .int r10]) (rest := []) hx hb hml hown hts hK hP hD hS hA (k_X11_move l N D cI cJ cZ cB cT qd0 qd2 qf0 qf1 qz0 qz1 qr0 qD0 qX0 qd1 qf2 qf3 qn0 qL0 qk0 qT qb0 qe0 qh0 qD1 qv0 d_n d_road f_row z_cnt z_next z_store r_tx r_rul r3 r10 r145 f_row_145 z_cnt_145 z_next_145 z_store_145 hg145) (kwX11_202 hts rfl rfl ⟨Nat.le_of_ble_eq_true rfl, Nat.le_of_ble_eq_true rfl⟩) [0, 2, 3, 4, 7, 8, 9, 31, 32] [1, 5, 6, 10, 11, 12, 13, 14, 15, 16, 17, 18, 19, 20, 21, 22, 23, 24, 25, 26, 27, 28, 29, 30] rfl rfl rfl (by decide) rfl 8 rfl rfl rfl rfl hl.1 rfl (Nat.le_of_ble_eq_true rfl) dX11_perform_145 ⟨Nat.zero_le _, Nat.zero_le _⟩ (fun hB145 H locs hP hD hS => ?_)
    have hP := mP_sub (wc := (W_X_0t8_16_34t42_44t47_49t52_54_61t64_76 qd0 qd1 qd2 qf0 qf1 qf2 qf3 qz0 qz1 qr0 qt0 qt1 qt2 qt3 qt4 qu0 qu1 qu2 qu3 qw0 qw1 qw2 qw3 qx0 qx1 qx2 qx3 qT qL1 qL2 qL0 qD0 qX0 qn0 qu4 qw4 qx4 qk0 qb0 qe0 qh0 qD1 qv0 cI cJ cZ cB cT d_n d_for d_road f_row_145 f_fears f_told z_cnt_145 z_next_145 z_store_145 r_tx r_rul t_cl t_ln t_pt t_code t_st t_en t_rows u_cl u_ln u_pt u_code u_st u_en w_cl w_ln w_pt w_code w_st w_en x_cl x_ln x_pt x_code x_st x_en l_names l_stack)) hP [24, 0, 25, 26, 27, 1, 2, 28, 29, 30, 3, 4, 5, 6, 7, 8, 9, 10, 11, 12, 13, 14, 15, 16, 17, 18, 19, 20, 21, 22, 23, 31, 32] rfl
    have hD := hD.sub (ws' := (W_X_0t8_16_34t42_44t47_49t52_54_61t64_76 qd0 qd1 qd2 qf0 qf1 qf2 qf3 qz0 qz1 qr0 qt0 qt1 qt2 qt3 qt4 qu0 qu1 qu2 qu3 qw0 qw1 qw2 qw3 qx0 qx1 qx2 qx3 qT qL1 qL2 qL0 qD0 qX0 qn0 qu4 qw4 qx4 qk0 qb0 qe0 qh0 qD1 qv0 cI cJ cZ cB cT d_n d_for d_road f_row_145 f_fears f_told z_cnt_145 z_next_145 z_store_145 r_tx r_rul t_cl t_ln t_pt t_code t_st t_en t_rows u_cl u_ln u_pt u_code u_st u_en w_cl w_ln w_pt w_code w_st w_en x_cl x_ln x_pt x_code x_st x_en l_names l_stack)) [24, 0, 25, 26, 27, 1, 2, 28, 29, 30, 3, 4, 5, 6, 7, 8, 9, 10, 11, 12, 13, 14, 15, 16, 17, 18, 19, 20, 21, 22, 23, 31, 32] rfl rfl
    cases hf
    exact mret_z hx hb hr hlocks hP hD hS dX11_perform_148 rfl hB145
  replace hf := (if_neg e21_7).symm.trans hf
  by_cases e21_8 : r18 = (8 : Int32)
  · replace hf := (if_pos e21_8).symm.trans hf
    refine lv_tableIn (off := 128) (tgt := 149) hx hb dX11_perform_21 (by rw [e21_8]; decide) (by rw [e21_8]; decide) (by rw [e21_8]; rfl) (by decide) ?_
    refine lv_aload_n hx hb dX11_perform_149 rfl (lv_at hl 2 rfl) ?_
    refine lv_iload_n hx hb dX11_perform_150 rfl (lv_at hl 1 rfl) ?_
    refine lv_iload hx hb dX11_perform_151 (lv_at hl 0 rfl) ?_
    obtain ⟨r153, f_row_153, z_cnt_153, z_next_153, z_store_153, l_names_153, l_stack_153, hg153, hf⟩ := ob7_some hf
    refine mcVE_i (wr := [(qd2, .inl (cI, 8, .inl d_road)), (qf3, .inl (cI, 18, .inl f_told)), (qt4, .inl (cI, 120, .inl t_rows))]) (As := [.int r3, .int r10]) (rest := []) hx hb hml hown hts hK hP hD hS hA hE (k_X11_feeds l N D cI cJ cZ cB cT qd0 qd1 qf0 qf1 qf2 qz0 qz1 qr0 qt0 qt1 qt2 qt3 qu0 qu1 qu2 qu3 qw0 qw1 qw2 qw3 qx0 qx1 qx2 qx3 qT qL1 qL2 qL0 qD0 qX0 qd2 qf3 qn0 qt4 qu4 qw4 qx4 qk0 qb0 qe0 qh0 qD1 qv0 d_n d_for f_row f_fears z_cnt z_next z_store r_tx r_rul t_cl t_ln t_pt t_code t_st t_en u_cl u_ln u_pt u_code u_st u_en w_cl w_ln w_pt w_code w_st w_en x_cl x_ln x_pt x_code x_st x_en l_names l_stack r3 r10 r153 f_row_153 z_cnt_153 z_next_153 z_store_153 l_names_153 l_stack_153 hg153) (kwX11_205 hts rfl rfl ⟨Nat.le_of_ble_eq_true rfl, Nat.le_of_ble_eq_true rfl⟩) [0, 1, 3, 4, 5, 7, 8, 9, 10, 11, 12, 13, 15, 16, 17, 18, 19, 20, 21, 22, 23, 24, 25, 26, 27, 28, 29, 30, 31, 32] [2, 6, 14] rfl rfl rfl (by decide) rfl 29 rfl rfl rfl rfl hl.1 rfl (Nat.le_of_ble_eq_true rfl) dX11_perform_153 ⟨Nat.zero_le _, Nat.zero_le _⟩ (fun hB153 H locs hP hD hS => ?_)
    have hP := mP_sub (wc := (W_X_0t8_16_34t42_44t47_49t52_54_61t64_76 qd0 qd1 qd2 qf0 qf1 qf2 qf3 qz0 qz1 qr0 qt0 qt1 qt2 qt3 qt4 qu0 qu1 qu2 qu3 qw0 qw1 qw2 qw3 qx0 qx1 qx2 qx3 qT qL1 qL2 qL0 qD0 qX0 qn0 qu4 qw4 qx4 qk0 qb0 qe0 qh0 qD1 qv0 cI cJ cZ cB cT d_n d_for d_road f_row_153 f_fears f_told z_cnt_153 z_next_153 z_store_153 r_tx r_rul t_cl t_ln t_pt t_code t_st t_en t_rows u_cl u_ln u_pt u_code u_st u_en w_cl w_ln w_pt w_code w_st w_en x_cl x_ln x_pt x_code x_st x_en l_names_153 l_stack_153)) hP [3, 4, 0, 5, 6, 7, 1, 8, 9, 10, 11, 12, 13, 14, 2, 15, 16, 17, 18, 19, 20, 21, 22, 23, 24, 25, 26, 27, 28, 29, 30, 31, 32] rfl
    have hD := hD.sub (ws' := (W_X_0t8_16_34t42_44t47_49t52_54_61t64_76 qd0 qd1 qd2 qf0 qf1 qf2 qf3 qz0 qz1 qr0 qt0 qt1 qt2 qt3 qt4 qu0 qu1 qu2 qu3 qw0 qw1 qw2 qw3 qx0 qx1 qx2 qx3 qT qL1 qL2 qL0 qD0 qX0 qn0 qu4 qw4 qx4 qk0 qb0 qe0 qh0 qD1 qv0 cI cJ cZ cB cT d_n d_for d_road f_row_153 f_fears f_told z_cnt_153 z_next_153 z_store_153 r_tx r_rul t_cl t_ln t_pt t_code t_st t_en t_rows u_cl u_ln u_pt u_code u_st u_en w_cl w_ln w_pt w_code w_st w_en x_cl x_ln x_pt x_code x_st x_en l_names_153 l_stack_153)) [3, 4, 0, 5, 6, 7, 1, 8, 9, 10, 11, 12, 13, 14, 2, 15, 16, 17, 18, 19, 20, 21, 22, 23, 24, 25, 26, 27, 28, 29, 30, 31, 32] rfl rfl
    refine lv_iconst (v := (-1 : Int32)) hx hb dX11_perform_156 (by decide) ?_
    refine xicmp_eq hx hb 164 dX11_perform_157 (by decide) hf (fun hf => ?_) (fun hf => ?_)
    · refine lv_iconst (v := (0 : Int32)) hx hb dX11_perform_164 (by decide) ?_
      cases hf
      exact mret_z hx hb hr hlocks hP hD hS dX11_perform_165 rfl rfl
    · refine lv_iconst (v := (1 : Int32)) hx hb dX11_perform_160 (by decide) ?_
      refine lv_goto (tgt := 165) hx hb dX11_perform_161 (by decide) ?_
      cases hf
      exact mret_z hx hb hr hlocks hP hD hS dX11_perform_165 rfl rfl
  replace hf := (if_neg e21_8).symm.trans hf
  by_cases e21_9 : r18 = (9 : Int32)
  · replace hf := (if_pos e21_9).symm.trans hf
    refine lv_tableIn (off := 145) (tgt := 166) hx hb dX11_perform_21 (by rw [e21_9]; decide) (by rw [e21_9]; decide) (by rw [e21_9]; rfl) (by decide) ?_
    refine lv_aload_n hx hb dX11_perform_166 rfl (lv_at hl 2 rfl) ?_
    refine lv_iload_n hx hb dX11_perform_167 rfl (lv_at hl 1 rfl) ?_
    refine lv_iload hx hb dX11_perform_168 (lv_at hl 0 rfl) ?_
    obtain ⟨r170, f_row_170, z_cnt_170, z_next_170, z_store_170, hg170, hf⟩ := ob5_some hf
    refine mcV_i (wr := [(qd0, .inr (2, [.int d_n, .ref qd1, .ref qd2])), (qd1, .inl (cI, 8, .inl d_for)), (qd2, .inl (cI, 8, .inl d_road)), (qf2, .inl (cI, 6, .inl f_fears)), (qf3, .inl (cI, 18, .inl f_told)), (qr0, .inr (6, [.ref qd0, .ref qf0, .ref qz0, .ref qn0, .int r_tx, .int r_rul])), (qt0, .inr (9, [.int t_cl, .int t_ln, .int t_pt, .ref qt1, .ref qt2, .ref qt3, .ref qt4])), (qt1, .inl (cI, 301, .inl t_code)), (qt2, .inl (cI, 4, .inl t_st)), (qt3, .inl (cI, 4, .inl t_en)), (qt4, .inl (cI, 120, .inl t_rows)), (qu0, .inr (9, [.int u_cl, .int u_ln, .int u_pt, .ref qu1, .ref qu2, .ref qu3, .ref qu4])), (qu1, .inl (cI, 301, .inl u_code)), (qu2, .inl (cI, 4, .inl u_st)), (qu3, .inl (cI, 4, .inl u_en)), (qw0, .inr (9, [.int w_cl, .int w_ln, .int w_pt, .ref qw1, .ref qw2, .ref qw3, .ref qw4])), (qw1, .inl (cI, 301, .inl w_code)), (qw2, .inl (cI, 4, .inl w_st)), (qw3, .inl (cI, 4, .inl w_en)), (qx0, .inr (9, [.int x_cl, .int x_ln, .int x_pt, .ref qx1, .ref qx2, .ref qx3, .ref qx4])), (qx1, .inl (cI, 301, .inl x_code)), (qx2, .inl (cI, 4, .inl x_st)), (qx3, .inl (cI, 4, .inl x_en)), (qT, .inl (cT, 4, .inr (.inr (.inr (.inr (fT qt0 qu0 qw0 qx0)))))), (qL1, .inl (cI, 10, .inl l_names)), (qL2, .inl (cI, 64, .inl l_stack)), (qL0, .inr (3, [.ref qr0, .ref qT, .ref qL1, .ref qL2]))]) (As := [.int r3, .int r10]) (rest := []) hx hb hml hown hts hK hP hD hS hA (k_X11_kill l N D cI cJ cZ cB cT qf0 qf1 qz0 qz1 qD0 qX0 qf2 qf3 qr0 qL0 qk0 qT qb0 qe0 qd0 qn0 qh0 qD1 qv0 f_row z_cnt z_next z_store r3 r10 r170 f_row_170 z_cnt_170 z_next_170 z_store_170 hg170) (kwX11_208 hts rfl rfl ⟨Nat.le_of_ble_eq_true rfl, Nat.le_of_ble_eq_true rfl⟩) [3, 4, 7, 8, 31, 32] [0, 1, 2, 5, 6, 9, 10, 11, 12, 13, 14, 15, 16, 17, 18, 19, 20, 21, 22, 23, 24, 25, 26, 27, 28, 29, 30] rfl rfl rfl (by decide) rfl 5 rfl rfl rfl rfl hl.1 rfl (Nat.le_of_ble_eq_true rfl) dX11_perform_170 ⟨Nat.zero_le _, Nat.zero_le _⟩ (fun hB170 H locs hP hD hS => ?_)
    have hP := mP_sub (wc := (W_X_0t8_16_34t42_44t47_49t52_54_61t64_76 qd0 qd1 qd2 qf0 qf1 qf2 qf3 qz0 qz1 qr0 qt0 qt1 qt2 qt3 qt4 qu0 qu1 qu2 qu3 qw0 qw1 qw2 qw3 qx0 qx1 qx2 qx3 qT qL1 qL2 qL0 qD0 qX0 qn0 qu4 qw4 qx4 qk0 qb0 qe0 qh0 qD1 qv0 cI cJ cZ cB cT d_n d_for d_road f_row_170 f_fears f_told z_cnt_170 z_next_170 z_store_170 r_tx r_rul t_cl t_ln t_pt t_code t_st t_en t_rows u_cl u_ln u_pt u_code u_st u_en w_cl w_ln w_pt w_code w_st w_en x_cl x_ln x_pt x_code x_st x_en l_names l_stack)) hP [0, 1, 2, 27, 28, 3, 4, 29, 30, 5, 6, 7, 8, 9, 10, 11, 12, 13, 14, 15, 16, 17, 18, 19, 20, 21, 22, 23, 24, 25, 26, 31, 32] rfl
    have hD := hD.sub (ws' := (W_X_0t8_16_34t42_44t47_49t52_54_61t64_76 qd0 qd1 qd2 qf0 qf1 qf2 qf3 qz0 qz1 qr0 qt0 qt1 qt2 qt3 qt4 qu0 qu1 qu2 qu3 qw0 qw1 qw2 qw3 qx0 qx1 qx2 qx3 qT qL1 qL2 qL0 qD0 qX0 qn0 qu4 qw4 qx4 qk0 qb0 qe0 qh0 qD1 qv0 cI cJ cZ cB cT d_n d_for d_road f_row_170 f_fears f_told z_cnt_170 z_next_170 z_store_170 r_tx r_rul t_cl t_ln t_pt t_code t_st t_en t_rows u_cl u_ln u_pt u_code u_st u_en w_cl w_ln w_pt w_code w_st w_en x_cl x_ln x_pt x_code x_st x_en l_names l_stack)) [0, 1, 2, 27, 28, 3, 4, 29, 30, 5, 6, 7, 8, 9, 10, 11, 12, 13, 14, 15, 16, 17, 18, 19, 20, 21, 22, 23, 24, 25, 26, 31, 32] rfl rfl
    cases hf
    exact mret_z hx hb hr hlocks hP hD hS dX11_perform_173 rfl hB170
  replace hf := (if_neg e21_9).symm.trans hf
  by_cases e21_10 : r18 = (10 : Int32)
  · replace hf := (if_pos e21_10).symm.trans hf
    refine lv_tableIn (off := 153) (tgt := 174) hx hb dX11_perform_21 (by rw [e21_10]; decide) (by rw [e21_10]; decide) (by rw [e21_10]; rfl) (by decide) ?_
    refine lv_aload_n hx hb dX11_perform_174 rfl (lv_at hl 2 rfl) ?_
    refine lv_iload_n hx hb dX11_perform_175 rfl (lv_at hl 1 rfl) ?_
    refine lv_iload hx hb dX11_perform_176 (lv_at hl 0 rfl) ?_
    obtain ⟨r178, f_row_178, z_cnt_178, z_next_178, z_store_178, l_names_178, l_stack_178, hg178, hf⟩ := ob7_some hf
    refine mcVE_i (wr := [(qd2, .inl (cI, 8, .inl d_road)), (qf3, .inl (cI, 18, .inl f_told)), (qt4, .inl (cI, 120, .inl t_rows))]) (As := [.int r3, .int r10]) (rest := []) hx hb hml hown hts hK hP hD hS hA hE (k_X11_pardon l N D cI cJ cZ cB cT qd0 qd1 qf0 qf1 qf2 qz0 qz1 qr0 qt0 qt1 qt2 qt3 qu0 qu1 qu2 qu3 qw0 qw1 qw2 qw3 qx0 qx1 qx2 qx3 qT qL1 qL2 qL0 qD0 qX0 qd2 qf3 qn0 qt4 qu4 qw4 qx4 qk0 qb0 qe0 qh0 qD1 qv0 d_n d_for f_row f_fears z_cnt z_next z_store r_tx r_rul t_cl t_ln t_pt t_code t_st t_en u_cl u_ln u_pt u_code u_st u_en w_cl w_ln w_pt w_code w_st w_en x_cl x_ln x_pt x_code x_st x_en l_names l_stack r3 r10 r178 f_row_178 z_cnt_178 z_next_178 z_store_178 l_names_178 l_stack_178 hg178) (kwX11_211 hts rfl rfl ⟨Nat.le_of_ble_eq_true rfl, Nat.le_of_ble_eq_true rfl⟩) [0, 1, 3, 4, 5, 7, 8, 9, 10, 11, 12, 13, 15, 16, 17, 18, 19, 20, 21, 22, 23, 24, 25, 26, 27, 28, 29, 30, 31, 32] [2, 6, 14] rfl rfl rfl (by decide) rfl 29 rfl rfl rfl rfl hl.1 rfl (Nat.le_of_ble_eq_true rfl) dX11_perform_178 ⟨Nat.zero_le _, Nat.zero_le _⟩ (fun hB178 H locs hP hD hS => ?_)
    have hP := mP_sub (wc := (W_X_0t8_16_34t42_44t47_49t52_54_61t64_76 qd0 qd1 qd2 qf0 qf1 qf2 qf3 qz0 qz1 qr0 qt0 qt1 qt2 qt3 qt4 qu0 qu1 qu2 qu3 qw0 qw1 qw2 qw3 qx0 qx1 qx2 qx3 qT qL1 qL2 qL0 qD0 qX0 qn0 qu4 qw4 qx4 qk0 qb0 qe0 qh0 qD1 qv0 cI cJ cZ cB cT d_n d_for d_road f_row_178 f_fears f_told z_cnt_178 z_next_178 z_store_178 r_tx r_rul t_cl t_ln t_pt t_code t_st t_en t_rows u_cl u_ln u_pt u_code u_st u_en w_cl w_ln w_pt w_code w_st w_en x_cl x_ln x_pt x_code x_st x_en l_names_178 l_stack_178)) hP [3, 4, 0, 5, 6, 7, 1, 8, 9, 10, 11, 12, 13, 14, 2, 15, 16, 17, 18, 19, 20, 21, 22, 23, 24, 25, 26, 27, 28, 29, 30, 31, 32] rfl
    have hD := hD.sub (ws' := (W_X_0t8_16_34t42_44t47_49t52_54_61t64_76 qd0 qd1 qd2 qf0 qf1 qf2 qf3 qz0 qz1 qr0 qt0 qt1 qt2 qt3 qt4 qu0 qu1 qu2 qu3 qw0 qw1 qw2 qw3 qx0 qx1 qx2 qx3 qT qL1 qL2 qL0 qD0 qX0 qn0 qu4 qw4 qx4 qk0 qb0 qe0 qh0 qD1 qv0 cI cJ cZ cB cT d_n d_for d_road f_row_178 f_fears f_told z_cnt_178 z_next_178 z_store_178 r_tx r_rul t_cl t_ln t_pt t_code t_st t_en t_rows u_cl u_ln u_pt u_code u_st u_en w_cl w_ln w_pt w_code w_st w_en x_cl x_ln x_pt x_code x_st x_en l_names_178 l_stack_178)) [3, 4, 0, 5, 6, 7, 1, 8, 9, 10, 11, 12, 13, 14, 2, 15, 16, 17, 18, 19, 20, 21, 22, 23, 24, 25, 26, 27, 28, 29, 30, 31, 32] rfl rfl
    refine lv_iconst (v := (-1 : Int32)) hx hb dX11_perform_181 (by decide) ?_
    refine xicmp_eq hx hb 189 dX11_perform_182 (by decide) hf (fun hf => ?_) (fun hf => ?_)
    · refine lv_iconst (v := (0 : Int32)) hx hb dX11_perform_189 (by decide) ?_
      cases hf
      exact mret_z hx hb hr hlocks hP hD hS dX11_perform_190 rfl rfl
    · refine lv_iconst (v := (1 : Int32)) hx hb dX11_perform_185 (by decide) ?_
      refine lv_goto (tgt := 190) hx hb dX11_perform_186 (by decide) ?_
      cases hf
      exact mret_z hx hb hr hlocks hP hD hS dX11_perform_190 rfl rfl
  replace hf := (if_neg e21_10).symm.trans hf
  by_cases e21_11 : r18 = (11 : Int32)
  · replace hf := (if_pos e21_11).symm.trans hf
    refine lv_tableIn (off := 51) (tgt := 72) hx hb dX11_perform_21 (by rw [e21_11]; decide) (by rw [e21_11]; decide) (by rw [e21_11]; rfl) (by decide) ?_
    refine lv_aload_n hx hb dX11_perform_72 rfl (lv_at hl 2 rfl) ?_
    refine lv_iload_n hx hb dX11_perform_73 rfl (lv_at hl 1 rfl) ?_
    obtain ⟨r74, d_n_74, d_for_74, hg74, hf⟩ := ob3_some hf
    refine mcV_i (wr := [(qd2, .inl (cI, 8, .inl d_road)), (qf0, .inr (1, [.ref qf1, .ref qf2, .ref qf3])), (qf1, .inl (cI, 76, .inl f_row)), (qf2, .inl (cI, 6, .inl f_fears)), (qf3, .inl (cI, 18, .inl f_told)), (qz0, .inr (7, [.int z_cnt, .int z_next, .ref qz1])), (qz1, .inl (cI, 2356, .inl z_store)), (qr0, .inr (6, [.ref qd0, .ref qf0, .ref qz0, .ref qn0, .int r_tx, .int r_rul])), (qt0, .inr (9, [.int t_cl, .int t_ln, .int t_pt, .ref qt1, .ref qt2, .ref qt3, .ref qt4])), (qt1, .inl (cI, 301, .inl t_code)), (qt2, .inl (cI, 4, .inl t_st)), (qt3, .inl (cI, 4, .inl t_en)), (qt4, .inl (cI, 120, .inl t_rows)), (qu0, .inr (9, [.int u_cl, .int u_ln, .int u_pt, .ref qu1, .ref qu2, .ref qu3, .ref qu4])), (qu1, .inl (cI, 301, .inl u_code)), (qu2, .inl (cI, 4, .inl u_st)), (qu3, .inl (cI, 4, .inl u_en)), (qw0, .inr (9, [.int w_cl, .int w_ln, .int w_pt, .ref qw1, .ref qw2, .ref qw3, .ref qw4])), (qw1, .inl (cI, 301, .inl w_code)), (qw2, .inl (cI, 4, .inl w_st)), (qw3, .inl (cI, 4, .inl w_en)), (qx0, .inr (9, [.int x_cl, .int x_ln, .int x_pt, .ref qx1, .ref qx2, .ref qx3, .ref qx4])), (qx1, .inl (cI, 301, .inl x_code)), (qx2, .inl (cI, 4, .inl x_st)), (qx3, .inl (cI, 4, .inl x_en)), (qT, .inl (cT, 4, .inr (.inr (.inr (.inr (fT qt0 qu0 qw0 qx0)))))), (qL1, .inl (cI, 10, .inl l_names)), (qL2, .inl (cI, 64, .inl l_stack)), (qL0, .inr (3, [.ref qr0, .ref qT, .ref qL1, .ref qL2])), (qD0, .inr (0, [.ref qr0, .ref qf0, .ref qL0]))]) (As := [.int r3]) (rest := []) hx hb hml hown hts hK hP hD hS hA (k_X11_land l N D cI cJ cZ cB cT qd0 qd1 qX0 qd2 qr0 qk0 qT qb0 qe0 qL0 qf0 qn0 qz0 qD0 qh0 qD1 qv0 d_n d_for r3 r74 d_n_74 d_for_74 hg74) (kwX11_190 hts rfl rfl ⟨Nat.le_of_ble_eq_true rfl, Nat.le_of_ble_eq_true rfl⟩) [0, 1, 32] [2, 3, 4, 5, 6, 7, 8, 9, 10, 11, 12, 13, 14, 15, 16, 17, 18, 19, 20, 21, 22, 23, 24, 25, 26, 27, 28, 29, 30, 31] rfl rfl rfl (by decide) rfl 2 rfl rfl rfl rfl hl.1 rfl (Nat.le_of_ble_eq_true rfl) dX11_perform_74 ⟨Nat.zero_le _, Nat.zero_le _⟩ (fun hB74 H locs hP hD hS => ?_)
    have hP := mP_sub (wc := (W_X_0t8_16_34t42_44t47_49t52_54_61t64_76 qd0 qd1 qd2 qf0 qf1 qf2 qf3 qz0 qz1 qr0 qt0 qt1 qt2 qt3 qt4 qu0 qu1 qu2 qu3 qw0 qw1 qw2 qw3 qx0 qx1 qx2 qx3 qT qL1 qL2 qL0 qD0 qX0 qn0 qu4 qw4 qx4 qk0 qb0 qe0 qh0 qD1 qv0 cI cJ cZ cB cT d_n_74 d_for_74 d_road f_row f_fears f_told z_cnt z_next z_store r_tx r_rul t_cl t_ln t_pt t_code t_st t_en t_rows u_cl u_ln u_pt u_code u_st u_en w_cl w_ln w_pt w_code w_st w_en x_cl x_ln x_pt x_code x_st x_en l_names l_stack)) hP [30, 31, 0, 1, 2, 3, 4, 5, 6, 7, 8, 9, 10, 11, 12, 13, 14, 15, 16, 17, 18, 19, 20, 21, 22, 23, 24, 25, 26, 27, 28, 29, 32] rfl
    have hD := hD.sub (ws' := (W_X_0t8_16_34t42_44t47_49t52_54_61t64_76 qd0 qd1 qd2 qf0 qf1 qf2 qf3 qz0 qz1 qr0 qt0 qt1 qt2 qt3 qt4 qu0 qu1 qu2 qu3 qw0 qw1 qw2 qw3 qx0 qx1 qx2 qx3 qT qL1 qL2 qL0 qD0 qX0 qn0 qu4 qw4 qx4 qk0 qb0 qe0 qh0 qD1 qv0 cI cJ cZ cB cT d_n_74 d_for_74 d_road f_row f_fears f_told z_cnt z_next z_store r_tx r_rul t_cl t_ln t_pt t_code t_st t_en t_rows u_cl u_ln u_pt u_code u_st u_en w_cl w_ln w_pt w_code w_st w_en x_cl x_ln x_pt x_code x_st x_en l_names l_stack)) [30, 31, 0, 1, 2, 3, 4, 5, 6, 7, 8, 9, 10, 11, 12, 13, 14, 15, 16, 17, 18, 19, 20, 21, 22, 23, 24, 25, 26, 27, 28, 29, 32] rfl rfl
    refine lv_iconst (v := (-1 : Int32)) hx hb dX11_perform_77 (by decide) ?_
    refine xicmp_eq hx hb 85 dX11_perform_78 (by decide) hf (fun hf => ?_) (fun hf => ?_)
    · refine lv_iconst (v := (0 : Int32)) hx hb dX11_perform_85 (by decide) ?_
      cases hf
      exact mret_z hx hb hr hlocks hP hD hS dX11_perform_86 rfl rfl
    · refine lv_iconst (v := (1 : Int32)) hx hb dX11_perform_81 (by decide) ?_
      refine lv_goto (tgt := 86) hx hb dX11_perform_82 (by decide) ?_
      cases hf
      exact mret_z hx hb hr hlocks hP hD hS dX11_perform_86 rfl rfl
  replace hf := (if_neg e21_11).symm.trans hf
  by_cases e21_12 : r18 = (12 : Int32)
  · replace hf := (if_pos e21_12).symm.trans hf
    refine lv_tableIn (off := 170) (tgt := 191) hx hb dX11_perform_21 (by rw [e21_12]; decide) (by rw [e21_12]; decide) (by rw [e21_12]; rfl) (by decide) ?_
    refine lv_aload_n hx hb dX11_perform_191 rfl (lv_at hl 2 rfl) ?_
    refine lv_iload_n hx hb dX11_perform_192 rfl (lv_at hl 1 rfl) ?_
    obtain ⟨r193, f_row_193, z_cnt_193, z_next_193, z_store_193, l_names_193, l_stack_193, hg193, hf⟩ := ob7_some hf
    refine mcVE_i (wr := [(qd2, .inl (cI, 8, .inl d_road)), (qf3, .inl (cI, 18, .inl f_told)), (qt4, .inl (cI, 120, .inl t_rows))]) (As := [.int r3]) (rest := []) hx hb hml hown hts hK hP hD hS hA hE (k_X11_passAll l N D cI cJ cZ cB cT qd0 qd1 qf0 qf1 qf2 qz0 qz1 qr0 qt0 qt1 qt2 qt3 qu0 qu1 qu2 qu3 qw0 qw1 qw2 qw3 qx0 qx1 qx2 qx3 qT qL1 qL2 qL0 qD0 qX0 qd2 qf3 qn0 qt4 qu4 qw4 qx4 qk0 qb0 qe0 qh0 qD1 qv0 d_n d_for f_row f_fears z_cnt z_next z_store r_tx r_rul t_cl t_ln t_pt t_code t_st t_en u_cl u_ln u_pt u_code u_st u_en w_cl w_ln w_pt w_code w_st w_en x_cl x_ln x_pt x_code x_st x_en l_names l_stack r3 r193 f_row_193 z_cnt_193 z_next_193 z_store_193 l_names_193 l_stack_193 hg193) (kwX11_214 hts rfl rfl ⟨Nat.le_of_ble_eq_true rfl, Nat.le_of_ble_eq_true rfl⟩) [0, 1, 3, 4, 5, 7, 8, 9, 10, 11, 12, 13, 15, 16, 17, 18, 19, 20, 21, 22, 23, 24, 25, 26, 27, 28, 29, 30, 31, 32] [2, 6, 14] rfl rfl rfl (by decide) rfl 29 rfl rfl rfl rfl hl.1 rfl (Nat.le_of_ble_eq_true rfl) dX11_perform_193 ⟨Nat.zero_le _, Nat.zero_le _⟩ (fun hB193 H locs hP hD hS => ?_)
    have hP := mP_sub (wc := (W_X_0t8_16_34t42_44t47_49t52_54_61t64_76 qd0 qd1 qd2 qf0 qf1 qf2 qf3 qz0 qz1 qr0 qt0 qt1 qt2 qt3 qt4 qu0 qu1 qu2 qu3 qw0 qw1 qw2 qw3 qx0 qx1 qx2 qx3 qT qL1 qL2 qL0 qD0 qX0 qn0 qu4 qw4 qx4 qk0 qb0 qe0 qh0 qD1 qv0 cI cJ cZ cB cT d_n d_for d_road f_row_193 f_fears f_told z_cnt_193 z_next_193 z_store_193 r_tx r_rul t_cl t_ln t_pt t_code t_st t_en t_rows u_cl u_ln u_pt u_code u_st u_en w_cl w_ln w_pt w_code w_st w_en x_cl x_ln x_pt x_code x_st x_en l_names_193 l_stack_193)) hP [3, 4, 0, 5, 6, 7, 1, 8, 9, 10, 11, 12, 13, 14, 2, 15, 16, 17, 18, 19, 20, 21, 22, 23, 24, 25, 26, 27, 28, 29, 30, 31, 32] rfl
    have hD := hD.sub (ws' := (W_X_0t8_16_34t42_44t47_49t52_54_61t64_76 qd0 qd1 qd2 qf0 qf1 qf2 qf3 qz0 qz1 qr0 qt0 qt1 qt2 qt3 qt4 qu0 qu1 qu2 qu3 qw0 qw1 qw2 qw3 qx0 qx1 qx2 qx3 qT qL1 qL2 qL0 qD0 qX0 qn0 qu4 qw4 qx4 qk0 qb0 qe0 qh0 qD1 qv0 cI cJ cZ cB cT d_n d_for d_road f_row_193 f_fears f_told z_cnt_193 z_next_193 z_store_193 r_tx r_rul t_cl t_ln t_pt t_code t_st t_en t_rows u_cl u_ln u_pt u_code u_st u_en w_cl w_ln w_pt w_code w_st w_en x_cl x_ln x_pt x_code x_st x_en l_names_193 l_stack_193)) [3, 4, 0, 5, 6, 7, 1, 8, 9, 10, 11, 12, 13, 14, 2, 15, 16, 17, 18, 19, 20, 21, 22, 23, 24, 25, 26, 27, 28, 29, 30, 31, 32] rfl rfl
    cases hf
    exact mret_z hx hb hr hlocks hP hD hS dX11_perform_196 rfl hB193
  replace hf := (if_neg e21_12).symm.trans hf
  have ne21_4 : r18.toInt ≠ (4 : Int) := sw_ne e21_4
  have ne21_5 : r18.toInt ≠ (5 : Int) := sw_ne e21_5
  have ne21_6 : r18.toInt ≠ (6 : Int) := sw_ne e21_6
  have ne21_7 : r18.toInt ≠ (7 : Int) := sw_ne e21_7
  have ne21_8 : r18.toInt ≠ (8 : Int) := sw_ne e21_8
  have ne21_9 : r18.toInt ≠ (9 : Int) := sw_ne e21_9
  have ne21_10 : r18.toInt ≠ (10 : Int) := sw_ne e21_10
  have ne21_11 : r18.toInt ≠ (11 : Int) := sw_ne e21_11
  have ne21_12 : r18.toInt ≠ (12 : Int) := sw_ne e21_12
  refine lv_tableOut (tgt := 197) hx hb dX11_perform_21 (by omega) (by decide) ?_
  refine lv_iconst (v := (1 : Int32)) hx hb dX11_perform_197 (by decide) ?_
  cases hf
  exact mret_z hx hb hr hlocks hP hD hS dX11_perform_198 rfl rfl
