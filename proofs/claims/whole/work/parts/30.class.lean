theorem dX1_get_0 : decode cX1_get 0 = .ok (.iload_n 1, 1) := by decide +kernel
theorem dX1_get_1 : decode cX1_get 1 = .ok (.ifCond .lt 23, 3) := by decide +kernel
theorem dX1_get_4 : decode cX1_get 4 = .ok (.iload_n 1, 1) := by decide +kernel
theorem dX1_get_5 : decode cX1_get 5 = .ok (.aload_n 0, 1) := by decide +kernel
theorem dX1_get_6 : decode cX1_get 6 = .ok (.getfield 11, 3) := by decide +kernel
theorem dX1_get_9 : decode cX1_get 9 = .ok (.iconst 2, 1) := by decide +kernel
theorem dX1_get_10 : decode cX1_get 10 = .ok (.iaload, 1) := by decide +kernel
theorem dX1_get_11 : decode cX1_get 11 = .ok (.if_icmp .ge 13, 3) := by decide +kernel
theorem dX1_get_14 : decode cX1_get 14 = .ok (.iload_n 1, 1) := by decide +kernel
theorem dX1_get_15 : decode cX1_get 15 = .ok (.bipush 6, 2) := by decide +kernel
theorem dX1_get_17 : decode cX1_get 17 = .ok (.if_icmp .ge 7, 3) := by decide +kernel
theorem dX1_get_20 : decode cX1_get 20 = .ok (.iconst 1, 1) := by decide +kernel
theorem dX1_get_21 : decode cX1_get 21 = .ok (.goto 4, 3) := by decide +kernel
theorem dX1_get_24 : decode cX1_get 24 = .ok (.iconst 0, 1) := by decide +kernel
theorem dX1_get_25 : decode cX1_get 25 = .ok (.istore_n 3, 1) := by decide +kernel
theorem dX1_get_26 : decode cX1_get 26 = .ok (.iload_n 3, 1) := by decide +kernel
theorem dX1_get_27 : decode cX1_get 27 = .ok (.ifCond .eq 13, 3) := by decide +kernel
theorem dX1_get_30 : decode cX1_get 30 = .ok (.iload_n 2, 1) := by decide +kernel
theorem dX1_get_31 : decode cX1_get 31 = .ok (.ifCond .lt 9, 3) := by decide +kernel
theorem dX1_get_34 : decode cX1_get 34 = .ok (.iload_n 2, 1) := by decide +kernel
theorem dX1_get_35 : decode cX1_get 35 = .ok (.bipush 7, 2) := by decide +kernel
theorem dX1_get_37 : decode cX1_get 37 = .ok (.if_icmp .lt 5, 3) := by decide +kernel
theorem dX1_get_40 : decode cX1_get 40 = .ok (.iconst 0, 1) := by decide +kernel
theorem dX1_get_41 : decode cX1_get 41 = .ok (.ireturn, 1) := by decide +kernel
theorem dX1_get_42 : decode cX1_get 42 = .ok (.aload_n 0, 1) := by decide +kernel
theorem dX1_get_43 : decode cX1_get 43 = .ok (.getfield 11, 3) := by decide +kernel
theorem dX1_get_46 : decode cX1_get 46 = .ok (.bipush 34, 2) := by decide +kernel
theorem dX1_get_48 : decode cX1_get 48 = .ok (.iload_n 1, 1) := by decide +kernel
theorem dX1_get_49 : decode cX1_get 49 = .ok (.bipush 7, 2) := by decide +kernel
theorem dX1_get_51 : decode cX1_get 51 = .ok (.imul, 1) := by decide +kernel
theorem dX1_get_52 : decode cX1_get 52 = .ok (.iadd, 1) := by decide +kernel
theorem dX1_get_53 : decode cX1_get 53 = .ok (.iload_n 2, 1) := by decide +kernel
theorem dX1_get_54 : decode cX1_get 54 = .ok (.iadd, 1) := by decide +kernel
theorem dX1_get_55 : decode cX1_get 55 = .ok (.iaload, 1) := by decide +kernel
theorem dX1_get_56 : decode cX1_get 56 = .ok (.ireturn, 1) := by decide +kernel
def f_X1_get_25 (N : Nat) (f_row : Nat → Int32) (x1 : Int32) (x2 : Int32) (s0 : Int32) : Option (Int32) := if s0 = 0 then (some (0 : Int32)) else (if x2 < 0 then (some (0 : Int32)) else (if x2 < (7 : Int32) then (gA f_row 76 (((34 : Int32) + (x1 * (7 : Int32))) + x2) fun v55 => some v55) else (some (0 : Int32))))
def f_X1_get_24 (N : Nat) (f_row : Nat → Int32) (x1 : Int32) (x2 : Int32) : Option (Int32) := f_X1_get_25 N f_row x1 x2 (0 : Int32)
def f_X1_get (N : Nat) (f_row : Nat → Int32) (p1 : Int32) (p2 : Int32) : Option (Int32) := if p1 < 0 then (f_X1_get_24 N f_row p1 p2) else (gA f_row 76 (2 : Int32) fun v10 => if v10 ≤ p1 then (f_X1_get_24 N f_row p1 p2) else (if (6 : Int32) ≤ p1 then (f_X1_get_24 N f_row p1 p2) else (f_X1_get_25 N f_row p1 p2 (1 : Int32))))
set_option maxHeartbeats 4000000 in
set_option maxRecDepth 100000 in
theorem k_X1_get (l : Launch) (N : Nat) (D : va_G) (cI cJ cZ cB cT : ClassId) (qf0 : Nat) (qf1 : Nat) (qf2 : Nat) (qf3 : Nat) (f_row : Nat → Int32) (p1 : Int32) (p2 : Int32) (o_r : Int32) (hf : f_X1_get N f_row p1 p2 = some o_r) : ∀ sz, Met l yX1_get (mw yX1_get cX1_get 4 (some .int)) ({ frames := 0, cells := 0, slots := 0, locals := 0 } : Room) (mPre D (mT cI cJ cZ cB cT) (W_F_0t1 qf0 qf1 qf2 qf3 cI cJ cZ cB cT f_row) sz [.ref qf0, .int p1, .int p2]) ((mQi D (W_F_0t1 qf0 qf1 qf2 qf3 cI cJ cZ cB cT f_row) o_r True) (va_A (W_F_0t1 qf0 qf1 qf2 qf3 cI cJ cZ cB cT f_row) sz)) 0 0 (va_A (W_F_0t1 qf0 qf1 qf2 qf3 cI cJ cZ cB cT f_row) sz) := by
  refine mMet (Qc := (mQi D (W_F_0t1 qf0 qf1 qf2 qf3 cI cJ cZ cB cT f_row) o_r True)) (by decide) (Nat.le_of_ble_eq_true rfl) (fun p e s m below meth c A ls hx hb hr hml hts hown hlocks hK hA hP hD hl => ?_)
  have hown : s.vm.findClass RX1 = some m.cls := hown
  have hl : lv_has ls 4 [(0, .ref qf0), (1, .int p1), (2, .int p2)] := hl
  have hS : va_S A s.heap s.heap [] := va_S.rf
  have b25 : ∀ (x1 : Int32) (x2 : Int32) (s0 : Int32) (H : Heap) (locs : List Loc) (ls : Array Slot), f_X1_get_25 N f_row x1 x2 s0 = some o_r → va_P D vwCl (W_F_0t1 qf0 qf1 qf2 qf3 cI cJ cZ cB cT f_row) H → va_D A (W_F_0t1 qf0 qf1 qf2 qf3 cI cJ cZ cB cT f_row) → va_S A s.heap H locs → lv_has ls 4 [(0, .ref qf0), (1, .int x1), (2, .int x2)] → W p l e ({ frames := 0, cells := 0, slots := 0, locals := 0 } : Room) s m ([.ref qf0, .int p1, .int p2] : List Value).toArray below meth c H locs 0 0 (MQ below ((mQi D (W_F_0t1 qf0 qf1 qf2 qf3 cI cJ cZ cB cT f_row) o_r True) A) ([.ref qf0, .int p1, .int p2] : List Value).toArray s 0 0 A) (F0 m 25 ls [.int s0]) := by
    intro x1 x2 s0 H locs ls hf hP hD hS hl
    unfold f_X1_get_25 at hf
    refine lv_istore_n (lv' := [(3, .int s0), (0, .ref qf0), (1, .int x1), (2, .int x2)]) hx hb dX1_get_25 rfl hl (by decide) rfl (fun ls hl => ?_)
    refine lv_iload_n hx hb dX1_get_26 rfl (lv_at hl 0 rfl) ?_
    refine xif_eq hx hb 40 dX1_get_27 (by decide) hf (fun hf => ?_) (fun hf => ?_)
    · refine lv_iconst (v := (0 : Int32)) hx hb dX1_get_40 (by decide) ?_
      cases hf
      exact mret_i hx hb hr hlocks hP hD hS dX1_get_41 rfl trivial
    · refine lv_iload_n hx hb dX1_get_30 rfl (lv_at hl 3 rfl) ?_
      refine xif_lt hx hb 40 dX1_get_31 (by decide) hf (fun hf => ?_) (fun hf => ?_)
      · refine lv_iconst (v := (0 : Int32)) hx hb dX1_get_40 (by decide) ?_
        cases hf
        exact mret_i hx hb hr hlocks hP hD hS dX1_get_41 rfl trivial
      · refine lv_iload_n hx hb dX1_get_34 rfl (lv_at hl 3 rfl) ?_
        refine lv_bipush (v := (7 : Int32)) hx hb dX1_get_35 (by decide) ?_
        refine xicmp_lt hx hb 42 dX1_get_37 (by decide) hf (fun hf => ?_) (fun hf => ?_)
        · refine lv_aload_n hx hb dX1_get_42 rfl (lv_at hl 1 rfl) ?_
          refine gfX1_11 hx hb hts hown hK hP 0 rfl rfl dX1_get_43 ?_
          refine lv_bipush (v := (34 : Int32)) hx hb dX1_get_46 (by decide) ?_
          refine lv_iload_n hx hb dX1_get_48 rfl (lv_at hl 2 rfl) ?_
          refine lv_bipush (v := (7 : Int32)) hx hb dX1_get_49 (by decide) ?_
          refine lv_imul hx hb dX1_get_51 ?_
          refine lv_iadd hx hb dX1_get_52 ?_
          refine lv_iload_n hx hb dX1_get_53 rfl (lv_at hl 3 rfl) ?_
          refine lv_iadd hx hb dX1_get_54 ?_
          refine xiald hx hb hK hP 1 0 rfl rfl dX1_get_55 hf (fun v55 hf => ?_)
          cases hf
          exact mret_i hx hb hr hlocks hP hD hS dX1_get_56 rfl trivial
        · refine lv_iconst (v := (0 : Int32)) hx hb dX1_get_40 (by decide) ?_
          cases hf
          exact mret_i hx hb hr hlocks hP hD hS dX1_get_41 rfl trivial
  have b24 : ∀ (x1 : Int32) (x2 : Int32) (H : Heap) (locs : List Loc) (ls : Array Slot), f_X1_get_24 N f_row x1 x2 = some o_r → va_P D vwCl (W_F_0t1 qf0 qf1 qf2 qf3 cI cJ cZ cB cT f_row) H → va_D A (W_F_0t1 qf0 qf1 qf2 qf3 cI cJ cZ cB cT f_row) → va_S A s.heap H locs → lv_has ls 4 [(0, .ref qf0), (1, .int x1), (2, .int x2)] → W p l e ({ frames := 0, cells := 0, slots := 0, locals := 0 } : Room) s m ([.ref qf0, .int p1, .int p2] : List Value).toArray below meth c H locs 0 0 (MQ below ((mQi D (W_F_0t1 qf0 qf1 qf2 qf3 cI cJ cZ cB cT f_row) o_r True) A) ([.ref qf0, .int p1, .int p2] : List Value).toArray s 0 0 A) (F0 m 24 ls []) := by
    intro x1 x2 H locs ls hf hP hD hS hl
    unfold f_X1_get_24 at hf
    refine lv_iconst (v := (0 : Int32)) hx hb dX1_get_24 (by decide) ?_
    exact b25 x1 x2 (0 : Int32) _ _ _ hf hP hD hS (lv_sub hl [0, 1, 2] rfl)
  unfold f_X1_get at hf
  refine lv_iload_n hx hb dX1_get_0 rfl (lv_at hl 1 rfl) ?_
  refine xif_lt hx hb 24 dX1_get_1 (by decide) hf (fun hf => ?_) (fun hf => ?_)
  · exact b24 p1 p2 _ _ _ hf hP hD hS (lv_sub hl [0, 1, 2] rfl)
  · refine lv_iload_n hx hb dX1_get_4 rfl (lv_at hl 1 rfl) ?_
    refine lv_aload_n hx hb dX1_get_5 rfl (lv_at hl 0 rfl) ?_
    refine gfX1_11 hx hb hts hown hK hP 0 rfl rfl dX1_get_6 ?_
    refine lv_iconst (v := (2 : Int32)) hx hb dX1_get_9 (by decide) ?_
    refine xiald hx hb hK hP 1 0 rfl rfl dX1_get_10 hf (fun v10 hf => ?_)
    refine xicmp_ge hx hb 24 dX1_get_11 (by decide) hf (fun hf => ?_) (fun hf => ?_)
    · exact b24 p1 p2 _ _ _ hf hP hD hS (lv_sub hl [0, 1, 2] rfl)
    · refine lv_iload_n hx hb dX1_get_14 rfl (lv_at hl 1 rfl) ?_
      refine lv_bipush (v := (6 : Int32)) hx hb dX1_get_15 (by decide) ?_
      refine xicmp_ge hx hb 24 dX1_get_17 (by decide) hf (fun hf => ?_) (fun hf => ?_)
      · exact b24 p1 p2 _ _ _ hf hP hD hS (lv_sub hl [0, 1, 2] rfl)
      · refine lv_iconst (v := (1 : Int32)) hx hb dX1_get_20 (by decide) ?_
        refine lv_goto (tgt := 25) hx hb dX1_get_21 (by decide) ?_
        exact b25 p1 p2 (1 : Int32) _ _ _ hf hP hD hS (lv_sub hl [0, 1, 2] rfl)
theorem dX1_told_0 : decode cX1_told 0 = .ok (.iload_n 1, 1) := by decide +kernel
theorem dX1_told_1 : decode cX1_told 1 = .ok (.ifCond .lt 23, 3) := by decide +kernel
theorem dX1_told_4 : decode cX1_told 4 = .ok (.iload_n 1, 1) := by decide +kernel
theorem dX1_told_5 : decode cX1_told 5 = .ok (.aload_n 0, 1) := by decide +kernel
theorem dX1_told_6 : decode cX1_told 6 = .ok (.getfield 11, 3) := by decide +kernel
theorem dX1_told_9 : decode cX1_told 9 = .ok (.iconst 2, 1) := by decide +kernel
theorem dX1_told_10 : decode cX1_told 10 = .ok (.iaload, 1) := by decide +kernel
theorem dX1_told_11 : decode cX1_told 11 = .ok (.if_icmp .ge 13, 3) := by decide +kernel
theorem dX1_told_14 : decode cX1_told 14 = .ok (.iload_n 1, 1) := by decide +kernel
theorem dX1_told_15 : decode cX1_told 15 = .ok (.bipush 6, 2) := by decide +kernel
theorem dX1_told_17 : decode cX1_told 17 = .ok (.if_icmp .ge 7, 3) := by decide +kernel
theorem dX1_told_20 : decode cX1_told 20 = .ok (.iconst 1, 1) := by decide +kernel
theorem dX1_told_21 : decode cX1_told 21 = .ok (.goto 4, 3) := by decide +kernel
theorem dX1_told_24 : decode cX1_told 24 = .ok (.iconst 0, 1) := by decide +kernel
theorem dX1_told_25 : decode cX1_told 25 = .ok (.ireturn, 1) := by decide +kernel
def f_X1_told (N : Nat) (f_row : Nat → Int32) (p1 : Int32) : Option (Int32) := if p1 < 0 then (some (0 : Int32)) else (gA f_row 76 (2 : Int32) fun v10 => if v10 ≤ p1 then (some (0 : Int32)) else (if (6 : Int32) ≤ p1 then (some (0 : Int32)) else (some (1 : Int32))))
set_option maxHeartbeats 4000000 in
set_option maxRecDepth 100000 in
theorem k_X1_told (l : Launch) (N : Nat) (D : va_G) (cI cJ cZ cB cT : ClassId) (qf0 : Nat) (qf1 : Nat) (qf2 : Nat) (qf3 : Nat) (f_row : Nat → Int32) (p1 : Int32) (o_r : Int32) (hf : f_X1_told N f_row p1 = some o_r) : ∀ sz, Met l yX1_told (mw yX1_told cX1_told 2 (some .boolean)) ({ frames := 0, cells := 0, slots := 0, locals := 0 } : Room) (mPre D (mT cI cJ cZ cB cT) (W_F_0t1 qf0 qf1 qf2 qf3 cI cJ cZ cB cT f_row) sz [.ref qf0, .int p1]) ((mQi D (W_F_0t1 qf0 qf1 qf2 qf3 cI cJ cZ cB cT f_row) o_r (mB o_r)) (va_A (W_F_0t1 qf0 qf1 qf2 qf3 cI cJ cZ cB cT f_row) sz)) 0 0 (va_A (W_F_0t1 qf0 qf1 qf2 qf3 cI cJ cZ cB cT f_row) sz) := by
  refine mMet (Qc := (mQi D (W_F_0t1 qf0 qf1 qf2 qf3 cI cJ cZ cB cT f_row) o_r (mB o_r))) (by decide) (Nat.le_of_ble_eq_true rfl) (fun p e s m below meth c A ls hx hb hr hml hts hown hlocks hK hA hP hD hl => ?_)
  have hown : s.vm.findClass RX1 = some m.cls := hown
  have hl : lv_has ls 2 [(0, .ref qf0), (1, .int p1)] := hl
  have hS : va_S A s.heap s.heap [] := va_S.rf
  unfold f_X1_told at hf
  refine lv_iload_n hx hb dX1_told_0 rfl (lv_at hl 1 rfl) ?_
  refine xif_lt hx hb 24 dX1_told_1 (by decide) hf (fun hf => ?_) (fun hf => ?_)
  · refine lv_iconst (v := (0 : Int32)) hx hb dX1_told_24 (by decide) ?_
    cases hf
    exact mret_z hx hb hr hlocks hP hD hS dX1_told_25 rfl rfl
  · refine lv_iload_n hx hb dX1_told_4 rfl (lv_at hl 1 rfl) ?_
    refine lv_aload_n hx hb dX1_told_5 rfl (lv_at hl 0 rfl) ?_
    refine gfX1_11 hx hb hts hown hK hP 0 rfl rfl dX1_told_6 ?_
    refine lv_iconst (v := (2 : Int32)) hx hb dX1_told_9 (by decide) ?_
    refine xiald hx hb hK hP 1 0 rfl rfl dX1_told_10 hf (fun v10 hf => ?_)
    refine xicmp_ge hx hb 24 dX1_told_11 (by decide) hf (fun hf => ?_) (fun hf => ?_)
    · refine lv_iconst (v := (0 : Int32)) hx hb dX1_told_24 (by decide) ?_
      cases hf
      exact mret_z hx hb hr hlocks hP hD hS dX1_told_25 rfl rfl
    · refine lv_iload_n hx hb dX1_told_14 rfl (lv_at hl 1 rfl) ?_
      refine lv_bipush (v := (6 : Int32)) hx hb dX1_told_15 (by decide) ?_
      refine xicmp_ge hx hb 24 dX1_told_17 (by decide) hf (fun hf => ?_) (fun hf => ?_)
      · refine lv_iconst (v := (0 : Int32)) hx hb dX1_told_24 (by decide) ?_
        cases hf
        exact mret_z hx hb hr hlocks hP hD hS dX1_told_25 rfl rfl
      · refine lv_iconst (v := (1 : Int32)) hx hb dX1_told_20 (by decide) ?_
        refine lv_goto (tgt := 25) hx hb dX1_told_21 (by decide) ?_
        cases hf
        exact mret_z hx hb hr hlocks hP hD hS dX1_told_25 rfl rfl
theorem dX1_set_0 : decode cX1_set 0 = .ok (.aload_n 0, 1) := by decide +kernel
theorem dX1_set_1 : decode cX1_set 1 = .ok (.iload_n 1, 1) := by decide +kernel
theorem dX1_set_2 : decode cX1_set 2 = .ok (.invokevirtual 41, 3) := by decide +kernel
theorem dX1_set_5 : decode cX1_set 5 = .ok (.ifCond .eq 28, 3) := by decide +kernel
theorem dX1_set_8 : decode cX1_set 8 = .ok (.iload_n 2, 1) := by decide +kernel
theorem dX1_set_9 : decode cX1_set 9 = .ok (.ifCond .lt 24, 3) := by decide +kernel
theorem dX1_set_12 : decode cX1_set 12 = .ok (.iload_n 2, 1) := by decide +kernel
theorem dX1_set_13 : decode cX1_set 13 = .ok (.bipush 7, 2) := by decide +kernel
theorem dX1_set_15 : decode cX1_set 15 = .ok (.if_icmp .ge 18, 3) := by decide +kernel
theorem dX1_set_18 : decode cX1_set 18 = .ok (.aload_n 0, 1) := by decide +kernel
theorem dX1_set_19 : decode cX1_set 19 = .ok (.getfield 11, 3) := by decide +kernel
theorem dX1_set_22 : decode cX1_set 22 = .ok (.bipush 34, 2) := by decide +kernel
theorem dX1_set_24 : decode cX1_set 24 = .ok (.iload_n 1, 1) := by decide +kernel
theorem dX1_set_25 : decode cX1_set 25 = .ok (.bipush 7, 2) := by decide +kernel
theorem dX1_set_27 : decode cX1_set 27 = .ok (.imul, 1) := by decide +kernel
theorem dX1_set_28 : decode cX1_set 28 = .ok (.iadd, 1) := by decide +kernel
theorem dX1_set_29 : decode cX1_set 29 = .ok (.iload_n 2, 1) := by decide +kernel
theorem dX1_set_30 : decode cX1_set 30 = .ok (.iadd, 1) := by decide +kernel
theorem dX1_set_31 : decode cX1_set 31 = .ok (.iload_n 3, 1) := by decide +kernel
theorem dX1_set_32 : decode cX1_set 32 = .ok (.iastore, 1) := by decide +kernel
theorem dX1_set_33 : decode cX1_set 33 = .ok (.return_, 1) := by decide +kernel
def f_X1_set (N : Nat) (f_row : Nat → Int32) (p1 : Int32) (p2 : Int32) (p3 : Int32) : Option ((Nat → Int32)) := ob1 (f_X1_told N f_row p1) fun r2 => if r2 = 0 then (some f_row) else (if p2 < 0 then (some f_row) else (if (7 : Int32) ≤ p2 then (some f_row) else (sA f_row 76 (((34 : Int32) + (p1 * (7 : Int32))) + p2) p3 fun f_row_32 => some f_row_32)))
set_option maxHeartbeats 4000000 in
set_option maxRecDepth 100000 in
theorem k_X1_set (l : Launch) (N : Nat) (D : va_G) (cI cJ cZ cB cT : ClassId) (qf0 : Nat) (qf1 : Nat) (qf2 : Nat) (qf3 : Nat) (f_row : Nat → Int32) (p1 : Int32) (p2 : Int32) (p3 : Int32) (o_f_row : Nat → Int32) (hf : f_X1_set N f_row p1 p2 p3 = some o_f_row) : ∀ sz, Met l yX1_set (mw yX1_set cX1_set 4 none) ({ frames := 1, cells := 0, slots := 0, locals := 21 } : Room) (mPre D (mT cI cJ cZ cB cT) (W_F_0t1 qf0 qf1 qf2 qf3 cI cJ cZ cB cT f_row) sz [.ref qf0, .int p1, .int p2, .int p3]) ((mQv D (W_F_0t1 qf0 qf1 qf2 qf3 cI cJ cZ cB cT o_f_row)) (va_A (W_F_0t1 qf0 qf1 qf2 qf3 cI cJ cZ cB cT f_row) sz)) 0 0 (va_A (W_F_0t1 qf0 qf1 qf2 qf3 cI cJ cZ cB cT f_row) sz) := by
  refine mMet (Qc := (mQv D (W_F_0t1 qf0 qf1 qf2 qf3 cI cJ cZ cB cT o_f_row))) (by decide) (Nat.le_of_ble_eq_true rfl) (fun p e s m below meth c A ls hx hb hr hml hts hown hlocks hK hA hP hD hl => ?_)
  have hown : s.vm.findClass RX1 = some m.cls := hown
  have hl : lv_has ls 4 [(0, .ref qf0), (1, .int p1), (2, .int p2), (3, .int p3)] := hl
  have hS : va_S A s.heap s.heap [] := va_S.rf
  unfold f_X1_set at hf
  refine lv_aload_n hx hb dX1_set_0 rfl (lv_at hl 0 rfl) ?_
  refine lv_iload_n hx hb dX1_set_1 rfl (lv_at hl 1 rfl) ?_
  obtain ⟨r2, hg2, hf⟩ := ob1_some hf
  refine mcV1_i (As := [.int p1]) (rest := []) hx hb hml hown hts hK hP hD hS hA (k_X1_told l N D cI cJ cZ cB cT qf0 qf1 qf2 qf3 f_row p1 r2 hg2) (kwX1_41 hts rfl rfl ⟨Nat.le_of_ble_eq_true rfl, Nat.le_of_ble_eq_true rfl⟩) 0 rfl rfl rfl rfl hl.1 rfl (Nat.le_of_ble_eq_true rfl) dX1_set_2 ⟨Nat.zero_le _, Nat.zero_le _⟩ (fun hB2 H locs hP hD hS => ?_)
  have hP : va_P D vwCl (W_F_0t1 qf0 qf1 qf2 qf3 cI cJ cZ cB cT f_row) H := hP
  have hD : va_D A (W_F_0t1 qf0 qf1 qf2 qf3 cI cJ cZ cB cT f_row) := hD
  refine xif_eq hx hb 33 dX1_set_5 (by decide) hf (fun hf => ?_) (fun hf => ?_)
  · cases hf
    exact mret_v hx hb hr hlocks hP hD hS dX1_set_33
  · refine lv_iload_n hx hb dX1_set_8 rfl (lv_at hl 2 rfl) ?_
    refine xif_lt hx hb 33 dX1_set_9 (by decide) hf (fun hf => ?_) (fun hf => ?_)
    · cases hf
      exact mret_v hx hb hr hlocks hP hD hS dX1_set_33
    · refine lv_iload_n hx hb dX1_set_12 rfl (lv_at hl 2 rfl) ?_
      refine lv_bipush (v := (7 : Int32)) hx hb dX1_set_13 (by decide) ?_
      refine xicmp_ge hx hb 33 dX1_set_15 (by decide) hf (fun hf => ?_) (fun hf => ?_)
      · cases hf
        exact mret_v hx hb hr hlocks hP hD hS dX1_set_33
      · refine lv_aload_n hx hb dX1_set_18 rfl (lv_at hl 0 rfl) ?_
        refine gfX1_11 hx hb hts hown hK hP 0 rfl rfl dX1_set_19 ?_
        refine lv_bipush (v := (34 : Int32)) hx hb dX1_set_22 (by decide) ?_
        refine lv_iload_n hx hb dX1_set_24 rfl (lv_at hl 1 rfl) ?_
        refine lv_bipush (v := (7 : Int32)) hx hb dX1_set_25 (by decide) ?_
        refine lv_imul hx hb dX1_set_27 ?_
        refine lv_iadd hx hb dX1_set_28 ?_
        refine lv_iload_n hx hb dX1_set_29 rfl (lv_at hl 2 rfl) ?_
        refine lv_iadd hx hb dX1_set_30 ?_
        refine lv_iload_n hx hb dX1_set_31 rfl (lv_at hl 3 rfl) ?_
        refine xiast hx hb hK hP hD hS 1 0 rfl rfl dX1_set_32 hf (fun f_row_32 hf H locs hP hD hS => ?_)
        have hP : va_P D vwCl (W_F_0t1 qf0 qf1 qf2 qf3 cI cJ cZ cB cT f_row_32) H := hP
        have hD : va_D A (W_F_0t1 qf0 qf1 qf2 qf3 cI cJ cZ cB cT f_row_32) := hD
        cases hf
        exact mret_v hx hb hr hlocks hP hD hS dX1_set_33
theorem dX1_write_0 : decode cX1_write 0 = .ok (.aload_n 0, 1) := by decide +kernel
theorem dX1_write_1 : decode cX1_write 1 = .ok (.getfield 11, 3) := by decide +kernel
theorem dX1_write_4 : decode cX1_write 4 = .ok (.iconst 3, 1) := by decide +kernel
theorem dX1_write_5 : decode cX1_write 5 = .ok (.iaload, 1) := by decide +kernel
theorem dX1_write_6 : decode cX1_write 6 = .ok (.istore_n 3, 1) := by decide +kernel
theorem dX1_write_7 : decode cX1_write 7 = .ok (.iload_n 3, 1) := by decide +kernel
theorem dX1_write_8 : decode cX1_write 8 = .ok (.bipush 30, 2) := by decide +kernel
theorem dX1_write_10 : decode cX1_write 10 = .ok (.if_icmp .lt 21, 3) := by decide +kernel
theorem dX1_write_13 : decode cX1_write 13 = .ok (.aload_n 0, 1) := by decide +kernel
theorem dX1_write_14 : decode cX1_write 14 = .ok (.getfield 11, 3) := by decide +kernel
theorem dX1_write_17 : decode cX1_write 17 = .ok (.iconst 5, 1) := by decide +kernel
theorem dX1_write_18 : decode cX1_write 18 = .ok (.aload_n 0, 1) := by decide +kernel
theorem dX1_write_19 : decode cX1_write 19 = .ok (.getfield 11, 3) := by decide +kernel
theorem dX1_write_22 : decode cX1_write 22 = .ok (.iconst 4, 1) := by decide +kernel
theorem dX1_write_23 : decode cX1_write 23 = .ok (.bipush 29, 2) := by decide +kernel
theorem dX1_write_25 : decode cX1_write 25 = .ok (.invokestatic 21, 3) := by decide +kernel
theorem dX1_write_28 : decode cX1_write 28 = .ok (.bipush 29, 2) := by decide +kernel
theorem dX1_write_30 : decode cX1_write 30 = .ok (.istore_n 3, 1) := by decide +kernel
theorem dX1_write_31 : decode cX1_write 31 = .ok (.iload_n 3, 1) := by decide +kernel
theorem dX1_write_32 : decode cX1_write 32 = .ok (.ifCond .lt 36, 3) := by decide +kernel
theorem dX1_write_35 : decode cX1_write 35 = .ok (.aload_n 0, 1) := by decide +kernel
theorem dX1_write_36 : decode cX1_write 36 = .ok (.getfield 11, 3) := by decide +kernel
theorem dX1_write_39 : decode cX1_write 39 = .ok (.iconst 4, 1) := by decide +kernel
theorem dX1_write_40 : decode cX1_write 40 = .ok (.iload_n 3, 1) := by decide +kernel
theorem dX1_write_41 : decode cX1_write 41 = .ok (.iadd, 1) := by decide +kernel
theorem dX1_write_42 : decode cX1_write 42 = .ok (.aload_n 0, 1) := by decide +kernel
theorem dX1_write_43 : decode cX1_write 43 = .ok (.getfield 11, 3) := by decide +kernel
theorem dX1_write_46 : decode cX1_write 46 = .ok (.iconst 0, 1) := by decide +kernel
theorem dX1_write_47 : decode cX1_write 47 = .ok (.iaload, 1) := by decide +kernel
theorem dX1_write_48 : decode cX1_write 48 = .ok (.bipush 64, 2) := by decide +kernel
theorem dX1_write_50 : decode cX1_write 50 = .ok (.imul, 1) := by decide +kernel
theorem dX1_write_51 : decode cX1_write 51 = .ok (.iload_n 1, 1) := by decide +kernel
theorem dX1_write_52 : decode cX1_write 52 = .ok (.bipush 8, 2) := by decide +kernel
theorem dX1_write_54 : decode cX1_write 54 = .ok (.imul, 1) := by decide +kernel
theorem dX1_write_55 : decode cX1_write 55 = .ok (.iadd, 1) := by decide +kernel
theorem dX1_write_56 : decode cX1_write 56 = .ok (.iload_n 2, 1) := by decide +kernel
theorem dX1_write_57 : decode cX1_write 57 = .ok (.iadd, 1) := by decide +kernel
theorem dX1_write_58 : decode cX1_write 58 = .ok (.iastore, 1) := by decide +kernel
theorem dX1_write_59 : decode cX1_write 59 = .ok (.aload_n 0, 1) := by decide +kernel
theorem dX1_write_60 : decode cX1_write 60 = .ok (.getfield 11, 3) := by decide +kernel
theorem dX1_write_63 : decode cX1_write 63 = .ok (.iconst 3, 1) := by decide +kernel
theorem dX1_write_64 : decode cX1_write 64 = .ok (.iload_n 3, 1) := by decide +kernel
theorem dX1_write_65 : decode cX1_write 65 = .ok (.iconst 1, 1) := by decide +kernel
theorem dX1_write_66 : decode cX1_write 66 = .ok (.iadd, 1) := by decide +kernel
theorem dX1_write_67 : decode cX1_write 67 = .ok (.iastore, 1) := by decide +kernel
theorem dX1_write_68 : decode cX1_write 68 = .ok (.return_, 1) := by decide +kernel
def f_X1_write_31 (N : Nat) (f_row : Nat → Int32) (x1 : Int32) (x2 : Int32) (x3 : Int32) : Option ((Nat → Int32)) := if x3 < 0 then (some f_row) else (gA f_row 76 (0 : Int32) fun v47 => sA f_row 76 ((4 : Int32) + x3) (((v47 * (64 : Int32)) + (x1 * (8 : Int32))) + x2) fun f_row_58 => sA f_row_58 76 (3 : Int32) (x3 + (1 : Int32)) fun f_row_67 => some f_row_67)
def f_X1_write (N : Nat) (f_row : Nat → Int32) (p1 : Int32) (p2 : Int32) : Option ((Nat → Int32)) := gA f_row 76 (3 : Int32) fun v5 => if v5 < (30 : Int32) then (f_X1_write_31 N f_row p1 p2 v5) else (cpI f_row 76 f_row 76 (5 : Int32) (4 : Int32) (29 : Int32) fun f_row_25 => f_X1_write_31 N f_row_25 p1 p2 (29 : Int32))
set_option maxHeartbeats 4000000 in
set_option maxRecDepth 100000 in
theorem k_X1_write (l : Launch) (N : Nat) (D : va_G) (cI cJ cZ cB cT : ClassId) (qf0 : Nat) (qf1 : Nat) (qf2 : Nat) (qf3 : Nat) (f_row : Nat → Int32) (p1 : Int32) (p2 : Int32) (o_f_row : Nat → Int32) (hf : f_X1_write N f_row p1 p2 = some o_f_row) : ∀ sz, Met l yX1_write (mw yX1_write cX1_write 4 none) ({ frames := 1, cells := 0, slots := 0, locals := 60 } : Room) (mPre D (mT cI cJ cZ cB cT) (W_F_0t1 qf0 qf1 qf2 qf3 cI cJ cZ cB cT f_row) sz [.ref qf0, .int p1, .int p2]) ((mQv D (W_F_0t1 qf0 qf1 qf2 qf3 cI cJ cZ cB cT o_f_row)) (va_A (W_F_0t1 qf0 qf1 qf2 qf3 cI cJ cZ cB cT f_row) sz)) 0 0 (va_A (W_F_0t1 qf0 qf1 qf2 qf3 cI cJ cZ cB cT f_row) sz) := by
  refine mMet (Qc := (mQv D (W_F_0t1 qf0 qf1 qf2 qf3 cI cJ cZ cB cT o_f_row))) (by decide) (Nat.le_of_ble_eq_true rfl) (fun p e s m below meth c A ls hx hb hr hml hts hown hlocks hK hA hP hD hl => ?_)
  have hown : s.vm.findClass RX1 = some m.cls := hown
  have hl : lv_has ls 4 [(0, .ref qf0), (1, .int p1), (2, .int p2)] := hl
  have hS : va_S A s.heap s.heap [] := va_S.rf
  have b31 : ∀ (f_row : Nat → Int32) (x1 : Int32) (x2 : Int32) (x3 : Int32) (H : Heap) (locs : List Loc) (ls : Array Slot), f_X1_write_31 N f_row x1 x2 x3 = some o_f_row → va_P D vwCl (W_F_0t1 qf0 qf1 qf2 qf3 cI cJ cZ cB cT f_row) H → va_D A (W_F_0t1 qf0 qf1 qf2 qf3 cI cJ cZ cB cT f_row) → va_S A s.heap H locs → lv_has ls 4 [(0, .ref qf0), (1, .int x1), (2, .int x2), (3, .int x3)] → W p l e ({ frames := 1, cells := 0, slots := 0, locals := 60 } : Room) s m ([.ref qf0, .int p1, .int p2] : List Value).toArray below meth c H locs 0 0 (MQ below ((mQv D (W_F_0t1 qf0 qf1 qf2 qf3 cI cJ cZ cB cT o_f_row)) A) ([.ref qf0, .int p1, .int p2] : List Value).toArray s 0 0 A) (F0 m 31 ls []) := by
    intro f_row x1 x2 x3 H locs ls hf hP hD hS hl
    unfold f_X1_write_31 at hf
    refine lv_iload_n hx hb dX1_write_31 rfl (lv_at hl 3 rfl) ?_
    refine xif_lt hx hb 68 dX1_write_32 (by decide) hf (fun hf => ?_) (fun hf => ?_)
    · cases hf
      exact mret_v hx hb hr hlocks hP hD hS dX1_write_68
    · refine lv_aload_n hx hb dX1_write_35 rfl (lv_at hl 0 rfl) ?_
      refine gfX1_11 hx hb hts hown hK hP 0 rfl rfl dX1_write_36 ?_
      refine lv_iconst (v := (4 : Int32)) hx hb dX1_write_39 (by decide) ?_
      refine lv_iload_n hx hb dX1_write_40 rfl (lv_at hl 3 rfl) ?_
      refine lv_iadd hx hb dX1_write_41 ?_
      refine lv_aload_n hx hb dX1_write_42 rfl (lv_at hl 0 rfl) ?_
      refine gfX1_11 hx hb hts hown hK hP 0 rfl rfl dX1_write_43 ?_
      refine lv_iconst (v := (0 : Int32)) hx hb dX1_write_46 (by decide) ?_
      refine xiald hx hb hK hP 1 0 rfl rfl dX1_write_47 hf (fun v47 hf => ?_)
      refine lv_bipush (v := (64 : Int32)) hx hb dX1_write_48 (by decide) ?_
      refine lv_imul hx hb dX1_write_50 ?_
      refine lv_iload_n hx hb dX1_write_51 rfl (lv_at hl 1 rfl) ?_
      refine lv_bipush (v := (8 : Int32)) hx hb dX1_write_52 (by decide) ?_
      refine lv_imul hx hb dX1_write_54 ?_
      refine lv_iadd hx hb dX1_write_55 ?_
      refine lv_iload_n hx hb dX1_write_56 rfl (lv_at hl 2 rfl) ?_
      refine lv_iadd hx hb dX1_write_57 ?_
      refine xiast hx hb hK hP hD hS 1 0 rfl rfl dX1_write_58 hf (fun f_row_58 hf H locs hP hD hS => ?_)
      have hP : va_P D vwCl (W_F_0t1 qf0 qf1 qf2 qf3 cI cJ cZ cB cT f_row_58) H := hP
      have hD : va_D A (W_F_0t1 qf0 qf1 qf2 qf3 cI cJ cZ cB cT f_row_58) := hD
      refine lv_aload_n hx hb dX1_write_59 rfl (lv_at hl 0 rfl) ?_
      refine gfX1_11 hx hb hts hown hK hP 0 rfl rfl dX1_write_60 ?_
      refine lv_iconst (v := (3 : Int32)) hx hb dX1_write_63 (by decide) ?_
      refine lv_iload_n hx hb dX1_write_64 rfl (lv_at hl 3 rfl) ?_
      refine lv_iconst (v := (1 : Int32)) hx hb dX1_write_65 (by decide) ?_
      refine lv_iadd hx hb dX1_write_66 ?_
      refine xiast hx hb hK hP hD hS 1 0 rfl rfl dX1_write_67 hf (fun f_row_67 hf H locs hP hD hS => ?_)
      have hP : va_P D vwCl (W_F_0t1 qf0 qf1 qf2 qf3 cI cJ cZ cB cT f_row_67) H := hP
      have hD : va_D A (W_F_0t1 qf0 qf1 qf2 qf3 cI cJ cZ cB cT f_row_67) := hD
      cases hf
      exact mret_v hx hb hr hlocks hP hD hS dX1_write_68
  unfold f_X1_write at hf
  refine lv_aload_n hx hb dX1_write_0 rfl (lv_at hl 0 rfl) ?_
  refine gfX1_11 hx hb hts hown hK hP 0 rfl rfl dX1_write_1 ?_
  refine lv_iconst (v := (3 : Int32)) hx hb dX1_write_4 (by decide) ?_
  refine xiald hx hb hK hP 1 0 rfl rfl dX1_write_5 hf (fun v5 hf => ?_)
  refine lv_istore_n (lv' := [(3, .int v5), (0, .ref qf0), (1, .int p1), (2, .int p2)]) hx hb dX1_write_6 rfl hl (by decide) rfl (fun ls hl => ?_)
  refine lv_iload_n hx hb dX1_write_7 rfl (lv_at hl 0 rfl) ?_
  refine lv_bipush (v := (30 : Int32)) hx hb dX1_write_8 (by decide) ?_
  refine xicmp_lt hx hb 31 dX1_write_10 (by decide) hf (fun hf => ?_) (fun hf => ?_)
  · exact b31 f_row p1 p2 v5 _ _ _ hf hP hD hS (lv_sub hl [1, 2, 3, 0] rfl)
  · refine lv_aload_n hx hb dX1_write_13 rfl (lv_at hl 1 rfl) ?_
    refine gfX1_11 hx hb hts hown hK hP 0 rfl rfl dX1_write_14 ?_
    refine lv_iconst (v := (5 : Int32)) hx hb dX1_write_17 (by decide) ?_
    refine lv_aload_n hx hb dX1_write_18 rfl (lv_at hl 1 rfl) ?_
    refine gfX1_11 hx hb hts hown hK hP 0 rfl rfl dX1_write_19 ?_
    refine lv_iconst (v := (4 : Int32)) hx hb dX1_write_22 (by decide) ?_
    refine lv_bipush (v := (29 : Int32)) hx hb dX1_write_23 (by decide) ?_
    refine xcopy hx hb hml hl.1 hown hts cpwX1_21 hK hP hD hS 1 1 0 0 rfl rfl rfl rfl (Nat.le_of_ble_eq_true rfl) (by decide) dX1_write_25 hf (fun f_row_25 hf H locs hP hD hS => ?_)
    have hP : va_P D vwCl (W_F_0t1 qf0 qf1 qf2 qf3 cI cJ cZ cB cT f_row_25) H := hP
    have hD : va_D A (W_F_0t1 qf0 qf1 qf2 qf3 cI cJ cZ cB cT f_row_25) := hD
    refine lv_bipush (v := (29 : Int32)) hx hb dX1_write_28 (by decide) ?_
    refine lv_istore_n (lv' := [(3, .int (29 : Int32)), (0, .ref qf0), (1, .int p1), (2, .int p2)]) hx hb dX1_write_30 rfl hl (by decide) rfl (fun ls hl => ?_)
    exact b31 f_row_25 p1 p2 (29 : Int32) _ _ _ hf hP hD hS (lv_sub hl [1, 2, 3, 0] rfl)
theorem dX2_told_0 : decode cX2_told 0 = .ok (.iload_n 1, 1) := by decide +kernel
theorem dX2_told_1 : decode cX2_told 1 = .ok (.ifCond .lt 21, 3) := by decide +kernel
theorem dX2_told_4 : decode cX2_told 4 = .ok (.iload_n 1, 1) := by decide +kernel
theorem dX2_told_5 : decode cX2_told 5 = .ok (.aload_n 0, 1) := by decide +kernel
theorem dX2_told_6 : decode cX2_told 6 = .ok (.getfield 9, 3) := by decide +kernel
theorem dX2_told_9 : decode cX2_told 9 = .ok (.if_icmp .ge 13, 3) := by decide +kernel
theorem dX2_told_12 : decode cX2_told 12 = .ok (.iload_n 1, 1) := by decide +kernel
theorem dX2_told_13 : decode cX2_told 13 = .ok (.bipush 8, 2) := by decide +kernel
theorem dX2_told_15 : decode cX2_told 15 = .ok (.if_icmp .ge 7, 3) := by decide +kernel
theorem dX2_told_18 : decode cX2_told 18 = .ok (.iconst 1, 1) := by decide +kernel
theorem dX2_told_19 : decode cX2_told 19 = .ok (.goto 4, 3) := by decide +kernel
theorem dX2_told_22 : decode cX2_told 22 = .ok (.iconst 0, 1) := by decide +kernel
theorem dX2_told_23 : decode cX2_told 23 = .ok (.ireturn, 1) := by decide +kernel
def f_X2_told (N : Nat) (d_n : Int32) (p1 : Int32) : Option (Int32) := if p1 < 0 then (some (0 : Int32)) else (if d_n ≤ p1 then (some (0 : Int32)) else (if (8 : Int32) ≤ p1 then (some (0 : Int32)) else (some (1 : Int32))))
set_option maxHeartbeats 4000000 in
set_option maxRecDepth 100000 in
theorem k_X2_told (l : Launch) (N : Nat) (D : va_G) (cI cJ cZ cB cT : ClassId) (qd0 : Nat) (qd1 : Nat) (qd2 : Nat) (d_n : Int32) (p1 : Int32) (o_r : Int32) (hf : f_X2_told N d_n p1 = some o_r) : ∀ sz, Met l yX2_told (mw yX2_told cX2_told 2 (some .boolean)) ({ frames := 0, cells := 0, slots := 0, locals := 0 } : Room) (mPre D (mT cI cJ cZ cB cT) (W_L_0 qd0 qd1 qd2 cI cJ cZ cB cT d_n) sz [.ref qd0, .int p1]) ((mQi D (W_L_0 qd0 qd1 qd2 cI cJ cZ cB cT d_n) o_r (mB o_r)) (va_A (W_L_0 qd0 qd1 qd2 cI cJ cZ cB cT d_n) sz)) 0 0 (va_A (W_L_0 qd0 qd1 qd2 cI cJ cZ cB cT d_n) sz) := by
  refine mMet (Qc := (mQi D (W_L_0 qd0 qd1 qd2 cI cJ cZ cB cT d_n) o_r (mB o_r))) (by decide) (Nat.le_of_ble_eq_true rfl) (fun p e s m below meth c A ls hx hb hr hml hts hown hlocks hK hA hP hD hl => ?_)
  have hown : s.vm.findClass RX2 = some m.cls := hown
  have hl : lv_has ls 2 [(0, .ref qd0), (1, .int p1)] := hl
  have hS : va_S A s.heap s.heap [] := va_S.rf
  unfold f_X2_told at hf
  refine lv_iload_n hx hb dX2_told_0 rfl (lv_at hl 1 rfl) ?_
  refine xif_lt hx hb 22 dX2_told_1 (by decide) hf (fun hf => ?_) (fun hf => ?_)
  · refine lv_iconst (v := (0 : Int32)) hx hb dX2_told_22 (by decide) ?_
    cases hf
    exact mret_z hx hb hr hlocks hP hD hS dX2_told_23 rfl rfl
  · refine lv_iload_n hx hb dX2_told_4 rfl (lv_at hl 1 rfl) ?_
    refine lv_aload_n hx hb dX2_told_5 rfl (lv_at hl 0 rfl) ?_
    refine gfX2_9 hx hb hts hown hK hP 0 rfl rfl dX2_told_6 ?_
    refine xicmp_ge hx hb 22 dX2_told_9 (by decide) hf (fun hf => ?_) (fun hf => ?_)
    · refine lv_iconst (v := (0 : Int32)) hx hb dX2_told_22 (by decide) ?_
      cases hf
      exact mret_z hx hb hr hlocks hP hD hS dX2_told_23 rfl rfl
    · refine lv_iload_n hx hb dX2_told_12 rfl (lv_at hl 1 rfl) ?_
      refine lv_bipush (v := (8 : Int32)) hx hb dX2_told_13 (by decide) ?_
      refine xicmp_ge hx hb 22 dX2_told_15 (by decide) hf (fun hf => ?_) (fun hf => ?_)
      · refine lv_iconst (v := (0 : Int32)) hx hb dX2_told_22 (by decide) ?_
        cases hf
        exact mret_z hx hb hr hlocks hP hD hS dX2_told_23 rfl rfl
      · refine lv_iconst (v := (1 : Int32)) hx hb dX2_told_18 (by decide) ?_
        refine lv_goto (tgt := 23) hx hb dX2_told_19 (by decide) ?_
        cases hf
        exact mret_z hx hb hr hlocks hP hD hS dX2_told_23 rfl rfl
theorem dX2_joined_0 : decode cX2_joined 0 = .ok (.aload_n 0, 1) := by decide +kernel
theorem dX2_joined_1 : decode cX2_joined 1 = .ok (.iload_n 1, 1) := by decide +kernel
theorem dX2_joined_2 : decode cX2_joined 2 = .ok (.invokevirtual 28, 3) := by decide +kernel
theorem dX2_joined_5 : decode cX2_joined 5 = .ok (.ifCond .eq 29, 3) := by decide +kernel
theorem dX2_joined_8 : decode cX2_joined 8 = .ok (.aload_n 0, 1) := by decide +kernel
theorem dX2_joined_9 : decode cX2_joined 9 = .ok (.iload_n 2, 1) := by decide +kernel
theorem dX2_joined_10 : decode cX2_joined 10 = .ok (.invokevirtual 28, 3) := by decide +kernel
theorem dX2_joined_13 : decode cX2_joined 13 = .ok (.ifCond .eq 21, 3) := by decide +kernel
theorem dX2_joined_16 : decode cX2_joined 16 = .ok (.aload_n 0, 1) := by decide +kernel
theorem dX2_joined_17 : decode cX2_joined 17 = .ok (.getfield 19, 3) := by decide +kernel
theorem dX2_joined_20 : decode cX2_joined 20 = .ok (.iload_n 1, 1) := by decide +kernel
theorem dX2_joined_21 : decode cX2_joined 21 = .ok (.iaload, 1) := by decide +kernel
theorem dX2_joined_22 : decode cX2_joined 22 = .ok (.iload_n 2, 1) := by decide +kernel
theorem dX2_joined_23 : decode cX2_joined 23 = .ok (.ishr, 1) := by decide +kernel
theorem dX2_joined_24 : decode cX2_joined 24 = .ok (.iconst 1, 1) := by decide +kernel
theorem dX2_joined_25 : decode cX2_joined 25 = .ok (.iand, 1) := by decide +kernel
theorem dX2_joined_26 : decode cX2_joined 26 = .ok (.iconst 1, 1) := by decide +kernel
theorem dX2_joined_27 : decode cX2_joined 27 = .ok (.if_icmp .ne 7, 3) := by decide +kernel
theorem dX2_joined_30 : decode cX2_joined 30 = .ok (.iconst 1, 1) := by decide +kernel
theorem dX2_joined_31 : decode cX2_joined 31 = .ok (.goto 4, 3) := by decide +kernel
theorem dX2_joined_34 : decode cX2_joined 34 = .ok (.iconst 0, 1) := by decide +kernel
theorem dX2_joined_35 : decode cX2_joined 35 = .ok (.ireturn, 1) := by decide +kernel
def f_X2_joined (N : Nat) (d_n : Int32) (d_road : Nat → Int32) (p1 : Int32) (p2 : Int32) : Option (Int32) := ob1 (f_X2_told N d_n p1) fun r2 => if r2 = 0 then (some (0 : Int32)) else (ob1 (f_X2_told N d_n p2) fun r10 => if r10 = 0 then (some (0 : Int32)) else (gA d_road 8 p1 fun v21 => if ((v21 >>> (p2 &&& 31)) &&& (1 : Int32)) = (1 : Int32) then (some (1 : Int32)) else (some (0 : Int32))))
set_option maxHeartbeats 4000000 in
set_option maxRecDepth 100000 in
theorem k_X2_joined (l : Launch) (N : Nat) (D : va_G) (cI cJ cZ cB cT : ClassId) (qd0 : Nat) (qd2 : Nat) (qd1 : Nat) (d_n : Int32) (d_road : Nat → Int32) (p1 : Int32) (p2 : Int32) (o_r : Int32) (hf : f_X2_joined N d_n d_road p1 p2 = some o_r) : ∀ sz, Met l yX2_joined (mw yX2_joined cX2_joined 3 (some .boolean)) ({ frames := 1, cells := 0, slots := 0, locals := 21 } : Room) (mPre D (mT cI cJ cZ cB cT) (W_L_0_2 qd0 qd2 qd1 cI cJ cZ cB cT d_n d_road) sz [.ref qd0, .int p1, .int p2]) ((mQi D (W_L_0_2 qd0 qd2 qd1 cI cJ cZ cB cT d_n d_road) o_r (mB o_r)) (va_A (W_L_0_2 qd0 qd2 qd1 cI cJ cZ cB cT d_n d_road) sz)) 0 0 (va_A (W_L_0_2 qd0 qd2 qd1 cI cJ cZ cB cT d_n d_road) sz) := by
  refine mMet (Qc := (mQi D (W_L_0_2 qd0 qd2 qd1 cI cJ cZ cB cT d_n d_road) o_r (mB o_r))) (by decide) (Nat.le_of_ble_eq_true rfl) (fun p e s m below meth c A ls hx hb hr hml hts hown hlocks hK hA hP hD hl => ?_)
  have hown : s.vm.findClass RX2 = some m.cls := hown
  have hl : lv_has ls 3 [(0, .ref qd0), (1, .int p1), (2, .int p2)] := hl
  have hS : va_S A s.heap s.heap [] := va_S.rf
  unfold f_X2_joined at hf
  refine lv_aload_n hx hb dX2_joined_0 rfl (lv_at hl 0 rfl) ?_
  refine lv_iload_n hx hb dX2_joined_1 rfl (lv_at hl 1 rfl) ?_
  obtain ⟨r2, hg2, hf⟩ := ob1_some hf
  refine mcV_i (wr := [(qd2, .inl (cI, 8, .inl d_road))]) (As := [.int p1]) (rest := []) hx hb hml hown hts hK hP hD hS hA (k_X2_told l N D cI cJ cZ cB cT qd0 qd1 qd2 d_n p1 r2 hg2) (kwX2_28 hts rfl rfl ⟨Nat.le_of_ble_eq_true rfl, Nat.le_of_ble_eq_true rfl⟩) [0] [1] rfl rfl rfl (by decide) rfl 0 rfl rfl rfl rfl hl.1 rfl (Nat.le_of_ble_eq_true rfl) dX2_joined_2 ⟨Nat.zero_le _, Nat.zero_le _⟩ (fun hB2 H locs hP hD hS => ?_)
  have hP := mP_sub (wc := (W_L_0_2 qd0 qd2 qd1 cI cJ cZ cB cT d_n d_road)) hP [1, 0] rfl
  have hD := hD.sub (ws' := (W_L_0_2 qd0 qd2 qd1 cI cJ cZ cB cT d_n d_road)) [1, 0] rfl rfl
  refine xif_eq hx hb 34 dX2_joined_5 (by decide) hf (fun hf => ?_) (fun hf => ?_)
  · refine lv_iconst (v := (0 : Int32)) hx hb dX2_joined_34 (by decide) ?_
    cases hf
    exact mret_z hx hb hr hlocks hP hD hS dX2_joined_35 rfl rfl
  · refine lv_aload_n hx hb dX2_joined_8 rfl (lv_at hl 0 rfl) ?_
    refine lv_iload_n hx hb dX2_joined_9 rfl (lv_at hl 2 rfl) ?_
    obtain ⟨r10, hg10, hf⟩ := ob1_some hf
    refine mcV_i (wr := [(qd2, .inl (cI, 8, .inl d_road))]) (As := [.int p2]) (rest := []) hx hb hml hown hts hK hP hD hS hA (k_X2_told l N D cI cJ cZ cB cT qd0 qd1 qd2 d_n p2 r10 hg10) (kwX2_28 hts rfl rfl ⟨Nat.le_of_ble_eq_true rfl, Nat.le_of_ble_eq_true rfl⟩) [0] [1] rfl rfl rfl (by decide) rfl 0 rfl rfl rfl rfl hl.1 rfl (Nat.le_of_ble_eq_true rfl) dX2_joined_10 ⟨Nat.zero_le _, Nat.zero_le _⟩ (fun hB10 H locs hP hD hS => ?_)
    have hP := mP_sub (wc := (W_L_0_2 qd0 qd2 qd1 cI cJ cZ cB cT d_n d_road)) hP [1, 0] rfl
    have hD := hD.sub (ws' := (W_L_0_2 qd0 qd2 qd1 cI cJ cZ cB cT d_n d_road)) [1, 0] rfl rfl
    refine xif_eq hx hb 34 dX2_joined_13 (by decide) hf (fun hf => ?_) (fun hf => ?_)
    · refine lv_iconst (v := (0 : Int32)) hx hb dX2_joined_34 (by decide) ?_
      cases hf
      exact mret_z hx hb hr hlocks hP hD hS dX2_joined_35 rfl rfl
    · refine lv_aload_n hx hb dX2_joined_16 rfl (lv_at hl 0 rfl) ?_
      refine gfX2_19 hx hb hts hown hK hP 0 rfl rfl dX2_joined_17 ?_
      refine lv_iload_n hx hb dX2_joined_20 rfl (lv_at hl 1 rfl) ?_
      refine xiald hx hb hK hP 1 0 rfl rfl dX2_joined_21 hf (fun v21 hf => ?_)
      refine lv_iload_n hx hb dX2_joined_22 rfl (lv_at hl 2 rfl) ?_
      refine lv_ishr hx hb dX2_joined_23 ?_
      refine lv_iconst (v := (1 : Int32)) hx hb dX2_joined_24 (by decide) ?_
      refine lv_iand hx hb dX2_joined_25 ?_
      refine lv_iconst (v := (1 : Int32)) hx hb dX2_joined_26 (by decide) ?_
      refine xicmp_ne hx hb 34 dX2_joined_27 (by decide) hf (fun hf => ?_) (fun hf => ?_)
      · refine lv_iconst (v := (1 : Int32)) hx hb dX2_joined_30 (by decide) ?_
        refine lv_goto (tgt := 35) hx hb dX2_joined_31 (by decide) ?_
        cases hf
        exact mret_z hx hb hr hlocks hP hD hS dX2_joined_35 rfl rfl
      · refine lv_iconst (v := (0 : Int32)) hx hb dX2_joined_34 (by decide) ?_
        cases hf
        exact mret_z hx hb hr hlocks hP hD hS dX2_joined_35 rfl rfl
theorem dX1_stir_0 : decode cX1_stir 0 = .ok (.aload_n 0, 1) := by decide +kernel
theorem dX1_stir_1 : decode cX1_stir 1 = .ok (.getfield 11, 3) := by decide +kernel
theorem dX1_stir_4 : decode cX1_stir 4 = .ok (.iconst 1, 1) := by decide +kernel
theorem dX1_stir_5 : decode cX1_stir 5 = .ok (.aload_n 0, 1) := by decide +kernel
theorem dX1_stir_6 : decode cX1_stir 6 = .ok (.getfield 11, 3) := by decide +kernel
theorem dX1_stir_9 : decode cX1_stir 9 = .ok (.iconst 1, 1) := by decide +kernel
theorem dX1_stir_10 : decode cX1_stir 10 = .ok (.iaload, 1) := by decide +kernel
theorem dX1_stir_11 : decode cX1_stir 11 = .ok (.sipush 379, 3) := by decide +kernel
theorem dX1_stir_14 : decode cX1_stir 14 = .ok (.imul, 1) := by decide +kernel
theorem dX1_stir_15 : decode cX1_stir 15 = .ok (.sipush 257, 3) := by decide +kernel
theorem dX1_stir_18 : decode cX1_stir 18 = .ok (.iadd, 1) := by decide +kernel
theorem dX1_stir_19 : decode cX1_stir 19 = .ok (.sipush 30469, 3) := by decide +kernel
theorem dX1_stir_22 : decode cX1_stir 22 = .ok (.irem, 1) := by decide +kernel
theorem dX1_stir_23 : decode cX1_stir 23 = .ok (.iastore, 1) := by decide +kernel
theorem dX1_stir_24 : decode cX1_stir 24 = .ok (.return_, 1) := by decide +kernel
def f_X1_stir (N : Nat) (f_row : Nat → Int32) : Option ((Nat → Int32)) := gA f_row 76 (1 : Int32) fun v10 => rmI ((v10 * (379 : Int32)) + (257 : Int32)) (30469 : Int32) fun v22 => sA f_row 76 (1 : Int32) v22 fun f_row_23 => some f_row_23
set_option maxHeartbeats 4000000 in
set_option maxRecDepth 100000 in
theorem k_X1_stir (l : Launch) (N : Nat) (D : va_G) (cI cJ cZ cB cT : ClassId) (qf0 : Nat) (qf1 : Nat) (qf2 : Nat) (qf3 : Nat) (f_row : Nat → Int32) (o_f_row : Nat → Int32) (hf : f_X1_stir N f_row = some o_f_row) : ∀ sz, Met l yX1_stir (mw yX1_stir cX1_stir 1 none) ({ frames := 0, cells := 0, slots := 0, locals := 0 } : Room) (mPre D (mT cI cJ cZ cB cT) (W_F_0t1 qf0 qf1 qf2 qf3 cI cJ cZ cB cT f_row) sz [.ref qf0]) ((mQv D (W_F_0t1 qf0 qf1 qf2 qf3 cI cJ cZ cB cT o_f_row)) (va_A (W_F_0t1 qf0 qf1 qf2 qf3 cI cJ cZ cB cT f_row) sz)) 0 0 (va_A (W_F_0t1 qf0 qf1 qf2 qf3 cI cJ cZ cB cT f_row) sz) := by
  refine mMet (Qc := (mQv D (W_F_0t1 qf0 qf1 qf2 qf3 cI cJ cZ cB cT o_f_row))) (by decide) (Nat.le_of_ble_eq_true rfl) (fun p e s m below meth c A ls hx hb hr hml hts hown hlocks hK hA hP hD hl => ?_)
  have hown : s.vm.findClass RX1 = some m.cls := hown
  have hl : lv_has ls 1 [(0, .ref qf0)] := hl
  have hS : va_S A s.heap s.heap [] := va_S.rf
  unfold f_X1_stir at hf
  refine lv_aload_n hx hb dX1_stir_0 rfl (lv_at hl 0 rfl) ?_
  refine gfX1_11 hx hb hts hown hK hP 0 rfl rfl dX1_stir_1 ?_
  refine lv_iconst (v := (1 : Int32)) hx hb dX1_stir_4 (by decide) ?_
  refine lv_aload_n hx hb dX1_stir_5 rfl (lv_at hl 0 rfl) ?_
  refine gfX1_11 hx hb hts hown hK hP 0 rfl rfl dX1_stir_6 ?_
  refine lv_iconst (v := (1 : Int32)) hx hb dX1_stir_9 (by decide) ?_
  refine xiald hx hb hK hP 1 0 rfl rfl dX1_stir_10 hf (fun v10 hf => ?_)
  refine lv_sipush (v := (379 : Int32)) hx hb dX1_stir_11 (by decide) ?_
  refine lv_imul hx hb dX1_stir_14 ?_
  refine lv_sipush (v := (257 : Int32)) hx hb dX1_stir_15 (by decide) ?_
  refine lv_iadd hx hb dX1_stir_18 ?_
  refine lv_sipush (v := (30469 : Int32)) hx hb dX1_stir_19 (by decide) ?_
  refine xirem hx hb dX1_stir_22 hf (fun v22 hf => ?_)
  refine xiast hx hb hK hP hD hS 1 0 rfl rfl dX1_stir_23 hf (fun f_row_23 hf H locs hP hD hS => ?_)
  have hP : va_P D vwCl (W_F_0t1 qf0 qf1 qf2 qf3 cI cJ cZ cB cT f_row_23) H := hP
  have hD : va_D A (W_F_0t1 qf0 qf1 qf2 qf3 cI cJ cZ cB cT f_row_23) := hD
  cases hf
  exact mret_v hx hb hr hlocks hP hD hS dX1_stir_24
theorem dX1_drawByTen_0 : decode cX1_drawByTen 0 = .ok (.aload_n 0, 1) := by decide +kernel
theorem dX1_drawByTen_1 : decode cX1_drawByTen 1 = .ok (.getfield 11, 3) := by decide +kernel
theorem dX1_drawByTen_4 : decode cX1_drawByTen 4 = .ok (.iconst 1, 1) := by decide +kernel
theorem dX1_drawByTen_5 : decode cX1_drawByTen 5 = .ok (.iaload, 1) := by decide +kernel
theorem dX1_drawByTen_6 : decode cX1_drawByTen 6 = .ok (.bipush 10, 2) := by decide +kernel
theorem dX1_drawByTen_8 : decode cX1_drawByTen 8 = .ok (.irem, 1) := by decide +kernel
theorem dX1_drawByTen_9 : decode cX1_drawByTen 9 = .ok (.istore_n 1, 1) := by decide +kernel
theorem dX1_drawByTen_10 : decode cX1_drawByTen 10 = .ok (.aload_n 0, 1) := by decide +kernel
theorem dX1_drawByTen_11 : decode cX1_drawByTen 11 = .ok (.invokevirtual 52, 3) := by decide +kernel
theorem dX1_drawByTen_14 : decode cX1_drawByTen 14 = .ok (.iload_n 1, 1) := by decide +kernel
theorem dX1_drawByTen_15 : decode cX1_drawByTen 15 = .ok (.ireturn, 1) := by decide +kernel
def f_X1_drawByTen (N : Nat) (f_row : Nat → Int32) : Option (Int32 × (Nat → Int32)) := gA f_row 76 (1 : Int32) fun v5 => rmI v5 (10 : Int32) fun v8 => ob1 (f_X1_stir N f_row) fun f_row_11 => some (v8, f_row_11)
set_option maxHeartbeats 4000000 in
set_option maxRecDepth 100000 in
theorem k_X1_drawByTen (l : Launch) (N : Nat) (D : va_G) (cI cJ cZ cB cT : ClassId) (qf0 : Nat) (qf1 : Nat) (qf2 : Nat) (qf3 : Nat) (f_row : Nat → Int32) (o_r : Int32) (o_f_row : Nat → Int32) (hf : f_X1_drawByTen N f_row = some (o_r, o_f_row)) : ∀ sz, Met l yX1_drawByTen (mw yX1_drawByTen cX1_drawByTen 2 (some .int)) ({ frames := 1, cells := 0, slots := 0, locals := 20 } : Room) (mPre D (mT cI cJ cZ cB cT) (W_F_0t1 qf0 qf1 qf2 qf3 cI cJ cZ cB cT f_row) sz [.ref qf0]) ((mQi D (W_F_0t1 qf0 qf1 qf2 qf3 cI cJ cZ cB cT o_f_row) o_r True) (va_A (W_F_0t1 qf0 qf1 qf2 qf3 cI cJ cZ cB cT f_row) sz)) 0 0 (va_A (W_F_0t1 qf0 qf1 qf2 qf3 cI cJ cZ cB cT f_row) sz) := by
  refine mMet (Qc := (mQi D (W_F_0t1 qf0 qf1 qf2 qf3 cI cJ cZ cB cT o_f_row) o_r True)) (by decide) (Nat.le_of_ble_eq_true rfl) (fun p e s m below meth c A ls hx hb hr hml hts hown hlocks hK hA hP hD hl => ?_)
  have hown : s.vm.findClass RX1 = some m.cls := hown
  have hl : lv_has ls 2 [(0, .ref qf0)] := hl
  have hS : va_S A s.heap s.heap [] := va_S.rf
  unfold f_X1_drawByTen at hf
  refine lv_aload_n hx hb dX1_drawByTen_0 rfl (lv_at hl 0 rfl) ?_
  refine gfX1_11 hx hb hts hown hK hP 0 rfl rfl dX1_drawByTen_1 ?_
  refine lv_iconst (v := (1 : Int32)) hx hb dX1_drawByTen_4 (by decide) ?_
  refine xiald hx hb hK hP 1 0 rfl rfl dX1_drawByTen_5 hf (fun v5 hf => ?_)
  refine lv_bipush (v := (10 : Int32)) hx hb dX1_drawByTen_6 (by decide) ?_
  refine xirem hx hb dX1_drawByTen_8 hf (fun v8 hf => ?_)
  refine lv_istore_n (lv' := [(1, .int v8), (0, .ref qf0)]) hx hb dX1_drawByTen_9 rfl hl (by decide) rfl (fun ls hl => ?_)
  refine lv_aload_n hx hb dX1_drawByTen_10 rfl (lv_at hl 1 rfl) ?_
  obtain ⟨f_row_11, hg11, hf⟩ := ob1_some hf
  refine mcV1_v (As := []) (rest := []) hx hb hml hown hts hK hP hD hS hA (k_X1_stir l N D cI cJ cZ cB cT qf0 qf1 qf2 qf3 f_row f_row_11 hg11) (kwX1_52 hts rfl rfl ⟨Nat.le_of_ble_eq_true rfl, Nat.le_of_ble_eq_true rfl⟩) 0 rfl rfl rfl rfl hl.1 rfl (Nat.le_of_ble_eq_true rfl) dX1_drawByTen_11 ⟨Nat.zero_le _, Nat.zero_le _⟩ (fun H locs hP hD hS => ?_)
  have hP : va_P D vwCl (W_F_0t1 qf0 qf1 qf2 qf3 cI cJ cZ cB cT f_row_11) H := hP
  have hD : va_D A (W_F_0t1 qf0 qf1 qf2 qf3 cI cJ cZ cB cT f_row_11) := hD
  refine lv_iload_n hx hb dX1_drawByTen_14 rfl (lv_at hl 0 rfl) ?_
  cases hf
  exact mret_i hx hb hr hlocks hP hD hS dX1_drawByTen_15 rfl trivial
theorem dX1_fearOf_0 : decode cX1_fearOf 0 = .ok (.iload_n 1, 1) := by decide +kernel
theorem dX1_fearOf_1 : decode cX1_fearOf 1 = .ok (.ifCond .lt 28, 3) := by decide +kernel
theorem dX1_fearOf_4 : decode cX1_fearOf 4 = .ok (.iload_n 1, 1) := by decide +kernel
theorem dX1_fearOf_5 : decode cX1_fearOf 5 = .ok (.aload_n 0, 1) := by decide +kernel
theorem dX1_fearOf_6 : decode cX1_fearOf 6 = .ok (.getfield 11, 3) := by decide +kernel
theorem dX1_fearOf_9 : decode cX1_fearOf 9 = .ok (.iconst 2, 1) := by decide +kernel
theorem dX1_fearOf_10 : decode cX1_fearOf 10 = .ok (.iaload, 1) := by decide +kernel
theorem dX1_fearOf_11 : decode cX1_fearOf 11 = .ok (.if_icmp .ge 18, 3) := by decide +kernel
theorem dX1_fearOf_14 : decode cX1_fearOf 14 = .ok (.iload_n 1, 1) := by decide +kernel
theorem dX1_fearOf_15 : decode cX1_fearOf 15 = .ok (.bipush 6, 2) := by decide +kernel
theorem dX1_fearOf_17 : decode cX1_fearOf 17 = .ok (.if_icmp .ge 12, 3) := by decide +kernel
theorem dX1_fearOf_20 : decode cX1_fearOf 20 = .ok (.aload_n 0, 1) := by decide +kernel
theorem dX1_fearOf_21 : decode cX1_fearOf 21 = .ok (.getfield 15, 3) := by decide +kernel
theorem dX1_fearOf_24 : decode cX1_fearOf 24 = .ok (.iload_n 1, 1) := by decide +kernel
theorem dX1_fearOf_25 : decode cX1_fearOf 25 = .ok (.iaload, 1) := by decide +kernel
theorem dX1_fearOf_26 : decode cX1_fearOf 26 = .ok (.goto 4, 3) := by decide +kernel
theorem dX1_fearOf_29 : decode cX1_fearOf 29 = .ok (.iconst 0, 1) := by decide +kernel
theorem dX1_fearOf_30 : decode cX1_fearOf 30 = .ok (.ireturn, 1) := by decide +kernel
def f_X1_fearOf (N : Nat) (f_row : Nat → Int32) (f_fears : Nat → Int32) (p1 : Int32) : Option (Int32) := if p1 < 0 then (some (0 : Int32)) else (gA f_row 76 (2 : Int32) fun v10 => if v10 ≤ p1 then (some (0 : Int32)) else (if (6 : Int32) ≤ p1 then (some (0 : Int32)) else (gA f_fears 6 p1 fun v25 => some v25)))
set_option maxHeartbeats 4000000 in
set_option maxRecDepth 100000 in
theorem k_X1_fearOf (l : Launch) (N : Nat) (D : va_G) (cI cJ cZ cB cT : ClassId) (qf0 : Nat) (qf1 : Nat) (qf2 : Nat) (qf3 : Nat) (f_row : Nat → Int32) (f_fears : Nat → Int32) (p1 : Int32) (o_r : Int32) (hf : f_X1_fearOf N f_row f_fears p1 = some o_r) : ∀ sz, Met l yX1_fearOf (mw yX1_fearOf cX1_fearOf 2 (some .int)) ({ frames := 0, cells := 0, slots := 0, locals := 0 } : Room) (mPre D (mT cI cJ cZ cB cT) (W_F_0t2 qf0 qf1 qf2 qf3 cI cJ cZ cB cT f_row f_fears) sz [.ref qf0, .int p1]) ((mQi D (W_F_0t2 qf0 qf1 qf2 qf3 cI cJ cZ cB cT f_row f_fears) o_r True) (va_A (W_F_0t2 qf0 qf1 qf2 qf3 cI cJ cZ cB cT f_row f_fears) sz)) 0 0 (va_A (W_F_0t2 qf0 qf1 qf2 qf3 cI cJ cZ cB cT f_row f_fears) sz) := by
  refine mMet (Qc := (mQi D (W_F_0t2 qf0 qf1 qf2 qf3 cI cJ cZ cB cT f_row f_fears) o_r True)) (by decide) (Nat.le_of_ble_eq_true rfl) (fun p e s m below meth c A ls hx hb hr hml hts hown hlocks hK hA hP hD hl => ?_)
  have hown : s.vm.findClass RX1 = some m.cls := hown
  have hl : lv_has ls 2 [(0, .ref qf0), (1, .int p1)] := hl
  have hS : va_S A s.heap s.heap [] := va_S.rf
  unfold f_X1_fearOf at hf
  refine lv_iload_n hx hb dX1_fearOf_0 rfl (lv_at hl 1 rfl) ?_
  refine xif_lt hx hb 29 dX1_fearOf_1 (by decide) hf (fun hf => ?_) (fun hf => ?_)
  · refine lv_iconst (v := (0 : Int32)) hx hb dX1_fearOf_29 (by decide) ?_
    cases hf
    exact mret_i hx hb hr hlocks hP hD hS dX1_fearOf_30 rfl trivial
  · refine lv_iload_n hx hb dX1_fearOf_4 rfl (lv_at hl 1 rfl) ?_
    refine lv_aload_n hx hb dX1_fearOf_5 rfl (lv_at hl 0 rfl) ?_
    refine gfX1_11 hx hb hts hown hK hP 0 rfl rfl dX1_fearOf_6 ?_
    refine lv_iconst (v := (2 : Int32)) hx hb dX1_fearOf_9 (by decide) ?_
    refine xiald hx hb hK hP 1 0 rfl rfl dX1_fearOf_10 hf (fun v10 hf => ?_)
    refine xicmp_ge hx hb 29 dX1_fearOf_11 (by decide) hf (fun hf => ?_) (fun hf => ?_)
    · refine lv_iconst (v := (0 : Int32)) hx hb dX1_fearOf_29 (by decide) ?_
      cases hf
      exact mret_i hx hb hr hlocks hP hD hS dX1_fearOf_30 rfl trivial
    · refine lv_iload_n hx hb dX1_fearOf_14 rfl (lv_at hl 1 rfl) ?_
      refine lv_bipush (v := (6 : Int32)) hx hb dX1_fearOf_15 (by decide) ?_
      refine xicmp_ge hx hb 29 dX1_fearOf_17 (by decide) hf (fun hf => ?_) (fun hf => ?_)
      · refine lv_iconst (v := (0 : Int32)) hx hb dX1_fearOf_29 (by decide) ?_
        cases hf
        exact mret_i hx hb hr hlocks hP hD hS dX1_fearOf_30 rfl trivial
      · refine lv_aload_n hx hb dX1_fearOf_20 rfl (lv_at hl 0 rfl) ?_
        refine gfX1_15 hx hb hts hown hK hP 0 rfl rfl dX1_fearOf_21 ?_
        refine lv_iload_n hx hb dX1_fearOf_24 rfl (lv_at hl 1 rfl) ?_
        refine xiald hx hb hK hP 2 0 rfl rfl dX1_fearOf_25 hf (fun v25 hf => ?_)
        refine lv_goto (tgt := 30) hx hb dX1_fearOf_26 (by decide) ?_
        cases hf
        exact mret_i hx hb hr hlocks hP hD hS dX1_fearOf_30 rfl trivial
theorem dX1_monthNow_0 : decode cX1_monthNow 0 = .ok (.aload_n 0, 1) := by decide +kernel
theorem dX1_monthNow_1 : decode cX1_monthNow 1 = .ok (.getfield 11, 3) := by decide +kernel
theorem dX1_monthNow_4 : decode cX1_monthNow 4 = .ok (.iconst 0, 1) := by decide +kernel
theorem dX1_monthNow_5 : decode cX1_monthNow 5 = .ok (.iaload, 1) := by decide +kernel
theorem dX1_monthNow_6 : decode cX1_monthNow 6 = .ok (.ireturn, 1) := by decide +kernel
def f_X1_monthNow (N : Nat) (f_row : Nat → Int32) : Option (Int32) := gA f_row 76 (0 : Int32) fun v5 => some v5
set_option maxHeartbeats 4000000 in
set_option maxRecDepth 100000 in
theorem k_X1_monthNow (l : Launch) (N : Nat) (D : va_G) (cI cJ cZ cB cT : ClassId) (qf0 : Nat) (qf1 : Nat) (qf2 : Nat) (qf3 : Nat) (f_row : Nat → Int32) (o_r : Int32) (hf : f_X1_monthNow N f_row = some o_r) : ∀ sz, Met l yX1_monthNow (mw yX1_monthNow cX1_monthNow 1 (some .int)) ({ frames := 0, cells := 0, slots := 0, locals := 0 } : Room) (mPre D (mT cI cJ cZ cB cT) (W_F_0t1 qf0 qf1 qf2 qf3 cI cJ cZ cB cT f_row) sz [.ref qf0]) ((mQi D (W_F_0t1 qf0 qf1 qf2 qf3 cI cJ cZ cB cT f_row) o_r True) (va_A (W_F_0t1 qf0 qf1 qf2 qf3 cI cJ cZ cB cT f_row) sz)) 0 0 (va_A (W_F_0t1 qf0 qf1 qf2 qf3 cI cJ cZ cB cT f_row) sz) := by
  refine mMet (Qc := (mQi D (W_F_0t1 qf0 qf1 qf2 qf3 cI cJ cZ cB cT f_row) o_r True)) (by decide) (Nat.le_of_ble_eq_true rfl) (fun p e s m below meth c A ls hx hb hr hml hts hown hlocks hK hA hP hD hl => ?_)
  have hown : s.vm.findClass RX1 = some m.cls := hown
  have hl : lv_has ls 1 [(0, .ref qf0)] := hl
  have hS : va_S A s.heap s.heap [] := va_S.rf
  unfold f_X1_monthNow at hf
  refine lv_aload_n hx hb dX1_monthNow_0 rfl (lv_at hl 0 rfl) ?_
  refine gfX1_11 hx hb hts hown hK hP 0 rfl rfl dX1_monthNow_1 ?_
  refine lv_iconst (v := (0 : Int32)) hx hb dX1_monthNow_4 (by decide) ?_
  refine xiald hx hb hK hP 1 0 rfl rfl dX1_monthNow_5 hf (fun v5 hf => ?_)
  cases hf
  exact mret_i hx hb hr hlocks hP hD hS dX1_monthNow_6 rfl trivial
theorem dX1_othersIn_0 : decode cX1_othersIn 0 = .ok (.iconst 0, 1) := by decide +kernel
theorem dX1_othersIn_1 : decode cX1_othersIn 1 = .ok (.istore_n 3, 1) := by decide +kernel
theorem dX1_othersIn_2 : decode cX1_othersIn 2 = .ok (.iconst 0, 1) := by decide +kernel
theorem dX1_othersIn_3 : decode cX1_othersIn 3 = .ok (.istore 4, 2) := by decide +kernel
theorem dX1_othersIn_5 : decode cX1_othersIn 5 = .ok (.iload 4, 2) := by decide +kernel
theorem dX1_othersIn_7 : decode cX1_othersIn 7 = .ok (.aload_n 0, 1) := by decide +kernel
theorem dX1_othersIn_8 : decode cX1_othersIn 8 = .ok (.getfield 11, 3) := by decide +kernel
theorem dX1_othersIn_11 : decode cX1_othersIn 11 = .ok (.iconst 2, 1) := by decide +kernel
theorem dX1_othersIn_12 : decode cX1_othersIn 12 = .ok (.iaload, 1) := by decide +kernel
theorem dX1_othersIn_13 : decode cX1_othersIn 13 = .ok (.if_icmp .ge 66, 3) := by decide +kernel
theorem dX1_othersIn_16 : decode cX1_othersIn 16 = .ok (.iload 4, 2) := by decide +kernel
theorem dX1_othersIn_18 : decode cX1_othersIn 18 = .ok (.bipush 6, 2) := by decide +kernel
theorem dX1_othersIn_20 : decode cX1_othersIn 20 = .ok (.if_icmp .ge 59, 3) := by decide +kernel
theorem dX1_othersIn_23 : decode cX1_othersIn 23 = .ok (.bipush 34, 2) := by decide +kernel
theorem dX1_othersIn_25 : decode cX1_othersIn 25 = .ok (.iload 4, 2) := by decide +kernel
theorem dX1_othersIn_27 : decode cX1_othersIn 27 = .ok (.bipush 7, 2) := by decide +kernel
theorem dX1_othersIn_29 : decode cX1_othersIn 29 = .ok (.imul, 1) := by decide +kernel
theorem dX1_othersIn_30 : decode cX1_othersIn 30 = .ok (.iadd, 1) := by decide +kernel
theorem dX1_othersIn_31 : decode cX1_othersIn 31 = .ok (.istore 5, 2) := by decide +kernel
theorem dX1_othersIn_33 : decode cX1_othersIn 33 = .ok (.iload 4, 2) := by decide +kernel
theorem dX1_othersIn_35 : decode cX1_othersIn 35 = .ok (.iload_n 2, 1) := by decide +kernel
theorem dX1_othersIn_36 : decode cX1_othersIn 36 = .ok (.if_icmp .eq 37, 3) := by decide +kernel
theorem dX1_othersIn_39 : decode cX1_othersIn 39 = .ok (.aload_n 0, 1) := by decide +kernel
theorem dX1_othersIn_40 : decode cX1_othersIn 40 = .ok (.getfield 11, 3) := by decide +kernel
theorem dX1_othersIn_43 : decode cX1_othersIn 43 = .ok (.iload 5, 2) := by decide +kernel
theorem dX1_othersIn_45 : decode cX1_othersIn 45 = .ok (.iconst 0, 1) := by decide +kernel
theorem dX1_othersIn_46 : decode cX1_othersIn 46 = .ok (.iadd, 1) := by decide +kernel
theorem dX1_othersIn_47 : decode cX1_othersIn 47 = .ok (.iaload, 1) := by decide +kernel
theorem dX1_othersIn_48 : decode cX1_othersIn 48 = .ok (.iload_n 1, 1) := by decide +kernel
theorem dX1_othersIn_49 : decode cX1_othersIn 49 = .ok (.if_icmp .ne 24, 3) := by decide +kernel
theorem dX1_othersIn_52 : decode cX1_othersIn 52 = .ok (.aload_n 0, 1) := by decide +kernel
theorem dX1_othersIn_53 : decode cX1_othersIn 53 = .ok (.getfield 11, 3) := by decide +kernel
theorem dX1_othersIn_56 : decode cX1_othersIn 56 = .ok (.iload 5, 2) := by decide +kernel
theorem dX1_othersIn_58 : decode cX1_othersIn 58 = .ok (.bipush 6, 2) := by decide +kernel
theorem dX1_othersIn_60 : decode cX1_othersIn 60 = .ok (.iadd, 1) := by decide +kernel
theorem dX1_othersIn_61 : decode cX1_othersIn 61 = .ok (.iaload, 1) := by decide +kernel
theorem dX1_othersIn_62 : decode cX1_othersIn 62 = .ok (.iconst 3, 1) := by decide +kernel
theorem dX1_othersIn_63 : decode cX1_othersIn 63 = .ok (.if_icmp .eq 10, 3) := by decide +kernel
theorem dX1_othersIn_66 : decode cX1_othersIn 66 = .ok (.iload_n 3, 1) := by decide +kernel
theorem dX1_othersIn_67 : decode cX1_othersIn 67 = .ok (.iconst 1, 1) := by decide +kernel
theorem dX1_othersIn_68 : decode cX1_othersIn 68 = .ok (.iload 4, 2) := by decide +kernel
theorem dX1_othersIn_70 : decode cX1_othersIn 70 = .ok (.ishl, 1) := by decide +kernel
theorem dX1_othersIn_71 : decode cX1_othersIn 71 = .ok (.ior, 1) := by decide +kernel
theorem dX1_othersIn_72 : decode cX1_othersIn 72 = .ok (.istore_n 3, 1) := by decide +kernel
theorem dX1_othersIn_73 : decode cX1_othersIn 73 = .ok (.iinc 4 1, 3) := by decide +kernel
theorem dX1_othersIn_76 : decode cX1_othersIn 76 = .ok (.goto (-71), 3) := by decide +kernel
theorem dX1_othersIn_79 : decode cX1_othersIn 79 = .ok (.iload_n 3, 1) := by decide +kernel
theorem dX1_othersIn_80 : decode cX1_othersIn 80 = .ok (.ireturn, 1) := by decide +kernel
def f_X1_othersIn_73 (N : Nat) (k_5 : (Nat → Int32) → Int32 → Int32 → Int32 → Int32 → Option (Int32)) (f_row : Nat → Int32) (x1 : Int32) (x2 : Int32) (x3 : Int32) (x4 : Int32) : Option (Int32) := k_5 f_row x1 x2 x3 (x4 + (1 : Int32))
def f_X1_othersIn_5 (N : Nat) : Nat → (Nat → Int32) → Int32 → Int32 → Int32 → Int32 → Option (Int32)
  | 0, _, _, _, _, _ => none
  | n + 1, f_row, x1, x2, x3, x4 => gA f_row 76 (2 : Int32) fun v12 => if v12 ≤ x4 then (some x3) else (if (6 : Int32) ≤ x4 then (some x3) else (if x4 = x2 then (f_X1_othersIn_73 N (f_X1_othersIn_5 N n) f_row x1 x2 x3 x4) else (gA f_row 76 (((34 : Int32) + (x4 * (7 : Int32))) + (0 : Int32)) fun v47 => if v47 = x1 then (gA f_row 76 (((34 : Int32) + (x4 * (7 : Int32))) + (6 : Int32)) fun v61 => if v61 = (3 : Int32) then (f_X1_othersIn_73 N (f_X1_othersIn_5 N n) f_row x1 x2 x3 x4) else (f_X1_othersIn_73 N (f_X1_othersIn_5 N n) f_row x1 x2 (x3 ||| ((1 : Int32) <<< (x4 &&& 31))) x4)) else (f_X1_othersIn_73 N (f_X1_othersIn_5 N n) f_row x1 x2 x3 x4))))
def f_X1_othersIn (N : Nat) (f_row : Nat → Int32) (p1 : Int32) (p2 : Int32) : Option (Int32) := f_X1_othersIn_5 N N f_row p1 p2 (0 : Int32) (0 : Int32)
set_option maxHeartbeats 4000000 in
set_option maxRecDepth 100000 in
theorem k_X1_othersIn (l : Launch) (N : Nat) (D : va_G) (cI cJ cZ cB cT : ClassId) (qf0 : Nat) (qf1 : Nat) (qf2 : Nat) (qf3 : Nat) (f_row : Nat → Int32) (p1 : Int32) (p2 : Int32) (o_r : Int32) (hf : f_X1_othersIn N f_row p1 p2 = some o_r) : ∀ sz, Met l yX1_othersIn (mw yX1_othersIn cX1_othersIn 6 (some .int)) ({ frames := 0, cells := 0, slots := 0, locals := 0 } : Room) (mPre D (mT cI cJ cZ cB cT) (W_F_0t1 qf0 qf1 qf2 qf3 cI cJ cZ cB cT f_row) sz [.ref qf0, .int p1, .int p2]) ((mQi D (W_F_0t1 qf0 qf1 qf2 qf3 cI cJ cZ cB cT f_row) o_r True) (va_A (W_F_0t1 qf0 qf1 qf2 qf3 cI cJ cZ cB cT f_row) sz)) 0 0 (va_A (W_F_0t1 qf0 qf1 qf2 qf3 cI cJ cZ cB cT f_row) sz) := by
  refine mMet (Qc := (mQi D (W_F_0t1 qf0 qf1 qf2 qf3 cI cJ cZ cB cT f_row) o_r True)) (by decide) (Nat.le_of_ble_eq_true rfl) (fun p e s m below meth c A ls hx hb hr hml hts hown hlocks hK hA hP hD hl => ?_)
  have hown : s.vm.findClass RX1 = some m.cls := hown
  have hl : lv_has ls 6 [(0, .ref qf0), (1, .int p1), (2, .int p2)] := hl
  have hS : va_S A s.heap s.heap [] := va_S.rf
  have b5 : ∀ n5 : Nat, ∀ (x1 : Int32) (x2 : Int32) (x3 : Int32) (x4 : Int32) (H : Heap) (locs : List Loc) (ls : Array Slot), f_X1_othersIn_5 N n5 f_row x1 x2 x3 x4 = some o_r → va_P D vwCl (W_F_0t1 qf0 qf1 qf2 qf3 cI cJ cZ cB cT f_row) H → va_D A (W_F_0t1 qf0 qf1 qf2 qf3 cI cJ cZ cB cT f_row) → va_S A s.heap H locs → lv_has ls 6 [(0, .ref qf0), (1, .int x1), (2, .int x2), (3, .int x3), (4, .int x4)] → W p l e ({ frames := 0, cells := 0, slots := 0, locals := 0 } : Room) s m ([.ref qf0, .int p1, .int p2] : List Value).toArray below meth c H locs 0 0 (MQ below ((mQi D (W_F_0t1 qf0 qf1 qf2 qf3 cI cJ cZ cB cT f_row) o_r True) A) ([.ref qf0, .int p1, .int p2] : List Value).toArray s 0 0 A) (F0 m 5 ls []) := by
    intro n5
    induction n5 with
    | zero =>
      intro x1 x2 x3 x4 H locs ls hf hP hD hS hl
      simp [f_X1_othersIn_5] at hf
    | succ n5 ih5 =>
      have b73 : ∀ (x1 : Int32) (x2 : Int32) (x3 : Int32) (x4 : Int32) (H : Heap) (locs : List Loc) (ls : Array Slot), f_X1_othersIn_73 N (f_X1_othersIn_5 N n5) f_row x1 x2 x3 x4 = some o_r → va_P D vwCl (W_F_0t1 qf0 qf1 qf2 qf3 cI cJ cZ cB cT f_row) H → va_D A (W_F_0t1 qf0 qf1 qf2 qf3 cI cJ cZ cB cT f_row) → va_S A s.heap H locs → lv_has ls 6 [(0, .ref qf0), (1, .int x1), (2, .int x2), (3, .int x3), (4, .int x4)] → W p l e ({ frames := 0, cells := 0, slots := 0, locals := 0 } : Room) s m ([.ref qf0, .int p1, .int p2] : List Value).toArray below meth c H locs 0 0 (MQ below ((mQi D (W_F_0t1 qf0 qf1 qf2 qf3 cI cJ cZ cB cT f_row) o_r True) A) ([.ref qf0, .int p1, .int p2] : List Value).toArray s 0 0 A) (F0 m 73 ls []) := by
        intro x1 x2 x3 x4 H locs ls hf hP hD hS hl
        unfold f_X1_othersIn_73 at hf
        refine lv_iinc (v := (x4 + (1 : Int32))) (lv' := [(4, .int (x4 + (1 : Int32))), (0, .ref qf0), (1, .int x1), (2, .int x2), (3, .int x3)]) hx hb dX1_othersIn_73 hl (k := 4) rfl rfl (by decide) rfl (fun ls hl => ?_)
        refine lv_goto (tgt := 5) hx hb dX1_othersIn_76 (by decide) ?_
        exact ih5 x1 x2 x3 (x4 + (1 : Int32)) _ _ _ hf hP hD hS (lv_sub hl [1, 2, 3, 4, 0] rfl)
      intro x1 x2 x3 x4 H locs ls hf hP hD hS hl
      rw [f_X1_othersIn_5.eq_2] at hf
      refine lv_iload hx hb dX1_othersIn_5 (lv_at hl 4 rfl) ?_
      refine lv_aload_n hx hb dX1_othersIn_7 rfl (lv_at hl 0 rfl) ?_
      refine gfX1_11 hx hb hts hown hK hP 0 rfl rfl dX1_othersIn_8 ?_
      refine lv_iconst (v := (2 : Int32)) hx hb dX1_othersIn_11 (by decide) ?_
      refine xiald hx hb hK hP 1 0 rfl rfl dX1_othersIn_12 hf (fun v12 hf => ?_)
      refine xicmp_ge hx hb 79 dX1_othersIn_13 (by decide) hf (fun hf => ?_) (fun hf => ?_)
      · refine lv_iload_n hx hb dX1_othersIn_79 rfl (lv_at hl 3 rfl) ?_
        cases hf
        exact mret_i hx hb hr hlocks hP hD hS dX1_othersIn_80 rfl trivial
      · refine lv_iload hx hb dX1_othersIn_16 (lv_at hl 4 rfl) ?_
        refine lv_bipush (v := (6 : Int32)) hx hb dX1_othersIn_18 (by decide) ?_
        refine xicmp_ge hx hb 79 dX1_othersIn_20 (by decide) hf (fun hf => ?_) (fun hf => ?_)
        · refine lv_iload_n hx hb dX1_othersIn_79 rfl (lv_at hl 3 rfl) ?_
          cases hf
          exact mret_i hx hb hr hlocks hP hD hS dX1_othersIn_80 rfl trivial
        · refine lv_bipush (v := (34 : Int32)) hx hb dX1_othersIn_23 (by decide) ?_
          refine lv_iload hx hb dX1_othersIn_25 (lv_at hl 4 rfl) ?_
          refine lv_bipush (v := (7 : Int32)) hx hb dX1_othersIn_27 (by decide) ?_
          refine lv_imul hx hb dX1_othersIn_29 ?_
          refine lv_iadd hx hb dX1_othersIn_30 ?_
          refine lv_istore (lv' := [(5, .int ((34 : Int32) + (x4 * (7 : Int32)))), (0, .ref qf0), (1, .int x1), (2, .int x2), (3, .int x3), (4, .int x4)]) hx hb dX1_othersIn_31 hl (by decide) rfl (fun ls hl => ?_)
          refine lv_iload hx hb dX1_othersIn_33 (lv_at hl 5 rfl) ?_
          refine lv_iload_n hx hb dX1_othersIn_35 rfl (lv_at hl 3 rfl) ?_
          refine xicmp_eq hx hb 73 dX1_othersIn_36 (by decide) hf (fun hf => ?_) (fun hf => ?_)
          · exact b73 x1 x2 x3 x4 _ _ _ hf hP hD hS (lv_sub hl [1, 2, 3, 4, 5] rfl)
          · refine lv_aload_n hx hb dX1_othersIn_39 rfl (lv_at hl 1 rfl) ?_
            refine gfX1_11 hx hb hts hown hK hP 0 rfl rfl dX1_othersIn_40 ?_
            refine lv_iload hx hb dX1_othersIn_43 (lv_at hl 0 rfl) ?_
            refine lv_iconst (v := (0 : Int32)) hx hb dX1_othersIn_45 (by decide) ?_
            refine lv_iadd hx hb dX1_othersIn_46 ?_
            refine xiald hx hb hK hP 1 0 rfl rfl dX1_othersIn_47 hf (fun v47 hf => ?_)
            refine lv_iload_n hx hb dX1_othersIn_48 rfl (lv_at hl 2 rfl) ?_
            refine xicmp_ne hx hb 73 dX1_othersIn_49 (by decide) hf (fun hf => ?_) (fun hf => ?_)
            · refine lv_aload_n hx hb dX1_othersIn_52 rfl (lv_at hl 1 rfl) ?_
              refine gfX1_11 hx hb hts hown hK hP 0 rfl rfl dX1_othersIn_53 ?_
              refine lv_iload hx hb dX1_othersIn_56 (lv_at hl 0 rfl) ?_
              refine lv_bipush (v := (6 : Int32)) hx hb dX1_othersIn_58 (by decide) ?_
              refine lv_iadd hx hb dX1_othersIn_60 ?_
              refine xiald hx hb hK hP 1 0 rfl rfl dX1_othersIn_61 hf (fun v61 hf => ?_)
              refine lv_iconst (v := (3 : Int32)) hx hb dX1_othersIn_62 (by decide) ?_
              refine xicmp_eq hx hb 73 dX1_othersIn_63 (by decide) hf (fun hf => ?_) (fun hf => ?_)
              · exact b73 x1 x2 x3 x4 _ _ _ hf hP hD hS (lv_sub hl [1, 2, 3, 4, 5] rfl)
              · refine lv_iload_n hx hb dX1_othersIn_66 rfl (lv_at hl 4 rfl) ?_
                refine lv_iconst (v := (1 : Int32)) hx hb dX1_othersIn_67 (by decide) ?_
                refine lv_iload hx hb dX1_othersIn_68 (lv_at hl 5 rfl) ?_
                refine lv_ishl hx hb dX1_othersIn_70 ?_
                refine lv_ior hx hb dX1_othersIn_71 ?_
                refine lv_istore_n (lv' := [(3, .int (x3 ||| ((1 : Int32) <<< (x4 &&& 31)))), (5, .int ((34 : Int32) + (x4 * (7 : Int32)))), (0, .ref qf0), (1, .int x1), (2, .int x2), (4, .int x4)]) hx hb dX1_othersIn_72 rfl hl (by decide) rfl (fun ls hl => ?_)
                exact b73 x1 x2 (x3 ||| ((1 : Int32) <<< (x4 &&& 31))) x4 _ _ _ hf hP hD hS (lv_sub hl [2, 3, 4, 0, 5] rfl)
            · exact b73 x1 x2 x3 x4 _ _ _ hf hP hD hS (lv_sub hl [1, 2, 3, 4, 5] rfl)
  unfold f_X1_othersIn at hf
  refine lv_iconst (v := (0 : Int32)) hx hb dX1_othersIn_0 (by decide) ?_
  refine lv_istore_n (lv' := [(3, .int (0 : Int32)), (0, .ref qf0), (1, .int p1), (2, .int p2)]) hx hb dX1_othersIn_1 rfl hl (by decide) rfl (fun ls hl => ?_)
  refine lv_iconst (v := (0 : Int32)) hx hb dX1_othersIn_2 (by decide) ?_
  refine lv_istore (lv' := [(4, .int (0 : Int32)), (3, .int (0 : Int32)), (0, .ref qf0), (1, .int p1), (2, .int p2)]) hx hb dX1_othersIn_3 hl (by decide) rfl (fun ls hl => ?_)
  exact b5 N p1 p2 (0 : Int32) (0 : Int32) _ _ _ hf hP hD hS (lv_sub hl [2, 3, 4, 1, 0] rfl)
theorem dX2_forestOf_0 : decode cX2_forestOf 0 = .ok (.iload_n 1, 1) := by decide +kernel
theorem dX2_forestOf_1 : decode cX2_forestOf 1 = .ok (.ifCond .lt 26, 3) := by decide +kernel
theorem dX2_forestOf_4 : decode cX2_forestOf 4 = .ok (.iload_n 1, 1) := by decide +kernel
theorem dX2_forestOf_5 : decode cX2_forestOf 5 = .ok (.aload_n 0, 1) := by decide +kernel
theorem dX2_forestOf_6 : decode cX2_forestOf 6 = .ok (.getfield 9, 3) := by decide +kernel
theorem dX2_forestOf_9 : decode cX2_forestOf 9 = .ok (.if_icmp .ge 18, 3) := by decide +kernel
theorem dX2_forestOf_12 : decode cX2_forestOf 12 = .ok (.iload_n 1, 1) := by decide +kernel
theorem dX2_forestOf_13 : decode cX2_forestOf 13 = .ok (.bipush 8, 2) := by decide +kernel
theorem dX2_forestOf_15 : decode cX2_forestOf 15 = .ok (.if_icmp .ge 12, 3) := by decide +kernel
theorem dX2_forestOf_18 : decode cX2_forestOf 18 = .ok (.aload_n 0, 1) := by decide +kernel
theorem dX2_forestOf_19 : decode cX2_forestOf 19 = .ok (.getfield 15, 3) := by decide +kernel
theorem dX2_forestOf_22 : decode cX2_forestOf 22 = .ok (.iload_n 1, 1) := by decide +kernel
theorem dX2_forestOf_23 : decode cX2_forestOf 23 = .ok (.iaload, 1) := by decide +kernel
theorem dX2_forestOf_24 : decode cX2_forestOf 24 = .ok (.goto 4, 3) := by decide +kernel
theorem dX2_forestOf_27 : decode cX2_forestOf 27 = .ok (.iconst 0, 1) := by decide +kernel
theorem dX2_forestOf_28 : decode cX2_forestOf 28 = .ok (.ireturn, 1) := by decide +kernel
def f_X2_forestOf (N : Nat) (d_n : Int32) (d_for : Nat → Int32) (p1 : Int32) : Option (Int32) := if p1 < 0 then (some (0 : Int32)) else (if d_n ≤ p1 then (some (0 : Int32)) else (if (8 : Int32) ≤ p1 then (some (0 : Int32)) else (gA d_for 8 p1 fun v23 => some v23)))
set_option maxHeartbeats 4000000 in
set_option maxRecDepth 100000 in
theorem k_X2_forestOf (l : Launch) (N : Nat) (D : va_G) (cI cJ cZ cB cT : ClassId) (qd0 : Nat) (qd1 : Nat) (qd2 : Nat) (d_n : Int32) (d_for : Nat → Int32) (p1 : Int32) (o_r : Int32) (hf : f_X2_forestOf N d_n d_for p1 = some o_r) : ∀ sz, Met l yX2_forestOf (mw yX2_forestOf cX2_forestOf 2 (some .int)) ({ frames := 0, cells := 0, slots := 0, locals := 0 } : Room) (mPre D (mT cI cJ cZ cB cT) (W_L_0t1 qd0 qd1 qd2 cI cJ cZ cB cT d_n d_for) sz [.ref qd0, .int p1]) ((mQi D (W_L_0t1 qd0 qd1 qd2 cI cJ cZ cB cT d_n d_for) o_r True) (va_A (W_L_0t1 qd0 qd1 qd2 cI cJ cZ cB cT d_n d_for) sz)) 0 0 (va_A (W_L_0t1 qd0 qd1 qd2 cI cJ cZ cB cT d_n d_for) sz) := by
  refine mMet (Qc := (mQi D (W_L_0t1 qd0 qd1 qd2 cI cJ cZ cB cT d_n d_for) o_r True)) (by decide) (Nat.le_of_ble_eq_true rfl) (fun p e s m below meth c A ls hx hb hr hml hts hown hlocks hK hA hP hD hl => ?_)
  have hown : s.vm.findClass RX2 = some m.cls := hown
  have hl : lv_has ls 2 [(0, .ref qd0), (1, .int p1)] := hl
  have hS : va_S A s.heap s.heap [] := va_S.rf
  unfold f_X2_forestOf at hf
  refine lv_iload_n hx hb dX2_forestOf_0 rfl (lv_at hl 1 rfl) ?_
  refine xif_lt hx hb 27 dX2_forestOf_1 (by decide) hf (fun hf => ?_) (fun hf => ?_)
  · refine lv_iconst (v := (0 : Int32)) hx hb dX2_forestOf_27 (by decide) ?_
    cases hf
    exact mret_i hx hb hr hlocks hP hD hS dX2_forestOf_28 rfl trivial
  · refine lv_iload_n hx hb dX2_forestOf_4 rfl (lv_at hl 1 rfl) ?_
    refine lv_aload_n hx hb dX2_forestOf_5 rfl (lv_at hl 0 rfl) ?_
    refine gfX2_9 hx hb hts hown hK hP 0 rfl rfl dX2_forestOf_6 ?_
    refine xicmp_ge hx hb 27 dX2_forestOf_9 (by decide) hf (fun hf => ?_) (fun hf => ?_)
    · refine lv_iconst (v := (0 : Int32)) hx hb dX2_forestOf_27 (by decide) ?_
      cases hf
      exact mret_i hx hb hr hlocks hP hD hS dX2_forestOf_28 rfl trivial
    · refine lv_iload_n hx hb dX2_forestOf_12 rfl (lv_at hl 1 rfl) ?_
      refine lv_bipush (v := (8 : Int32)) hx hb dX2_forestOf_13 (by decide) ?_
      refine xicmp_ge hx hb 27 dX2_forestOf_15 (by decide) hf (fun hf => ?_) (fun hf => ?_)
      · refine lv_iconst (v := (0 : Int32)) hx hb dX2_forestOf_27 (by decide) ?_
        cases hf
        exact mret_i hx hb hr hlocks hP hD hS dX2_forestOf_28 rfl trivial
      · refine lv_aload_n hx hb dX2_forestOf_18 rfl (lv_at hl 0 rfl) ?_
        refine gfX2_15 hx hb hts hown hK hP 0 rfl rfl dX2_forestOf_19 ?_
        refine lv_iload_n hx hb dX2_forestOf_22 rfl (lv_at hl 1 rfl) ?_
        refine xiald hx hb hK hP 1 0 rfl rfl dX2_forestOf_23 hf (fun v23 hf => ?_)
        refine lv_goto (tgt := 28) hx hb dX2_forestOf_24 (by decide) ?_
        cases hf
        exact mret_i hx hb hr hlocks hP hD hS dX2_forestOf_28 rfl trivial
theorem dJ6_bitCount_0f7a4_0 : decode cJ6_bitCount_0f7a4 0 = .ok (.iload_n 0, 1) := by decide +kernel
theorem dJ6_bitCount_0f7a4_1 : decode cJ6_bitCount_0f7a4 1 = .ok (.iload_n 0, 1) := by decide +kernel
theorem dJ6_bitCount_0f7a4_2 : decode cJ6_bitCount_0f7a4 2 = .ok (.iconst 1, 1) := by decide +kernel
theorem dJ6_bitCount_0f7a4_3 : decode cJ6_bitCount_0f7a4 3 = .ok (.iushr, 1) := by decide +kernel
theorem dJ6_bitCount_0f7a4_4 : decode cJ6_bitCount_0f7a4 4 = .ok (.ldc_w 265, 3) := by decide +kernel
theorem dJ6_bitCount_0f7a4_7 : decode cJ6_bitCount_0f7a4 7 = .ok (.iand, 1) := by decide +kernel
theorem dJ6_bitCount_0f7a4_8 : decode cJ6_bitCount_0f7a4 8 = .ok (.isub, 1) := by decide +kernel
theorem dJ6_bitCount_0f7a4_9 : decode cJ6_bitCount_0f7a4 9 = .ok (.istore_n 0, 1) := by decide +kernel
theorem dJ6_bitCount_0f7a4_10 : decode cJ6_bitCount_0f7a4 10 = .ok (.iload_n 0, 1) := by decide +kernel
theorem dJ6_bitCount_0f7a4_11 : decode cJ6_bitCount_0f7a4 11 = .ok (.ldc_w 266, 3) := by decide +kernel
theorem dJ6_bitCount_0f7a4_14 : decode cJ6_bitCount_0f7a4 14 = .ok (.iand, 1) := by decide +kernel
theorem dJ6_bitCount_0f7a4_15 : decode cJ6_bitCount_0f7a4 15 = .ok (.iload_n 0, 1) := by decide +kernel
theorem dJ6_bitCount_0f7a4_16 : decode cJ6_bitCount_0f7a4 16 = .ok (.iconst 2, 1) := by decide +kernel
theorem dJ6_bitCount_0f7a4_17 : decode cJ6_bitCount_0f7a4 17 = .ok (.iushr, 1) := by decide +kernel
theorem dJ6_bitCount_0f7a4_18 : decode cJ6_bitCount_0f7a4 18 = .ok (.ldc_w 266, 3) := by decide +kernel
theorem dJ6_bitCount_0f7a4_21 : decode cJ6_bitCount_0f7a4 21 = .ok (.iand, 1) := by decide +kernel
theorem dJ6_bitCount_0f7a4_22 : decode cJ6_bitCount_0f7a4 22 = .ok (.iadd, 1) := by decide +kernel
theorem dJ6_bitCount_0f7a4_23 : decode cJ6_bitCount_0f7a4 23 = .ok (.istore_n 0, 1) := by decide +kernel
theorem dJ6_bitCount_0f7a4_24 : decode cJ6_bitCount_0f7a4 24 = .ok (.iload_n 0, 1) := by decide +kernel
theorem dJ6_bitCount_0f7a4_25 : decode cJ6_bitCount_0f7a4 25 = .ok (.iload_n 0, 1) := by decide +kernel
theorem dJ6_bitCount_0f7a4_26 : decode cJ6_bitCount_0f7a4 26 = .ok (.iconst 4, 1) := by decide +kernel
theorem dJ6_bitCount_0f7a4_27 : decode cJ6_bitCount_0f7a4 27 = .ok (.iushr, 1) := by decide +kernel
theorem dJ6_bitCount_0f7a4_28 : decode cJ6_bitCount_0f7a4 28 = .ok (.iadd, 1) := by decide +kernel
theorem dJ6_bitCount_0f7a4_29 : decode cJ6_bitCount_0f7a4 29 = .ok (.ldc_w 267, 3) := by decide +kernel
theorem dJ6_bitCount_0f7a4_32 : decode cJ6_bitCount_0f7a4 32 = .ok (.iand, 1) := by decide +kernel
theorem dJ6_bitCount_0f7a4_33 : decode cJ6_bitCount_0f7a4 33 = .ok (.istore_n 0, 1) := by decide +kernel
theorem dJ6_bitCount_0f7a4_34 : decode cJ6_bitCount_0f7a4 34 = .ok (.iload_n 0, 1) := by decide +kernel
theorem dJ6_bitCount_0f7a4_35 : decode cJ6_bitCount_0f7a4 35 = .ok (.iload_n 0, 1) := by decide +kernel
theorem dJ6_bitCount_0f7a4_36 : decode cJ6_bitCount_0f7a4 36 = .ok (.bipush 8, 2) := by decide +kernel
theorem dJ6_bitCount_0f7a4_38 : decode cJ6_bitCount_0f7a4 38 = .ok (.iushr, 1) := by decide +kernel
theorem dJ6_bitCount_0f7a4_39 : decode cJ6_bitCount_0f7a4 39 = .ok (.iadd, 1) := by decide +kernel
theorem dJ6_bitCount_0f7a4_40 : decode cJ6_bitCount_0f7a4 40 = .ok (.istore_n 0, 1) := by decide +kernel
theorem dJ6_bitCount_0f7a4_41 : decode cJ6_bitCount_0f7a4 41 = .ok (.iload_n 0, 1) := by decide +kernel
theorem dJ6_bitCount_0f7a4_42 : decode cJ6_bitCount_0f7a4 42 = .ok (.iload_n 0, 1) := by decide +kernel
theorem dJ6_bitCount_0f7a4_43 : decode cJ6_bitCount_0f7a4 43 = .ok (.bipush 16, 2) := by decide +kernel
theorem dJ6_bitCount_0f7a4_45 : decode cJ6_bitCount_0f7a4 45 = .ok (.iushr, 1) := by decide +kernel
theorem dJ6_bitCount_0f7a4_46 : decode cJ6_bitCount_0f7a4 46 = .ok (.iadd, 1) := by decide +kernel
theorem dJ6_bitCount_0f7a4_47 : decode cJ6_bitCount_0f7a4 47 = .ok (.istore_n 0, 1) := by decide +kernel
theorem dJ6_bitCount_0f7a4_48 : decode cJ6_bitCount_0f7a4 48 = .ok (.iload_n 0, 1) := by decide +kernel
theorem dJ6_bitCount_0f7a4_49 : decode cJ6_bitCount_0f7a4 49 = .ok (.bipush 63, 2) := by decide +kernel
theorem dJ6_bitCount_0f7a4_51 : decode cJ6_bitCount_0f7a4 51 = .ok (.iand, 1) := by decide +kernel
theorem dJ6_bitCount_0f7a4_52 : decode cJ6_bitCount_0f7a4 52 = .ok (.ireturn, 1) := by decide +kernel
def f_J6_bitCount_0f7a4 (N : Nat) (p0 : Int32) : Option (Int32) := some ((((((((p0 - ((p0.toUInt32 >>> ((1 : Int32).toUInt32 &&& Int32.toUInt32 31)).toInt32 &&& (1431655765 : Int32))) &&& (858993459 : Int32)) + (((p0 - ((p0.toUInt32 >>> ((1 : Int32).toUInt32 &&& Int32.toUInt32 31)).toInt32 &&& (1431655765 : Int32))).toUInt32 >>> ((2 : Int32).toUInt32 &&& Int32.toUInt32 31)).toInt32 &&& (858993459 : Int32))) + ((((p0 - ((p0.toUInt32 >>> ((1 : Int32).toUInt32 &&& Int32.toUInt32 31)).toInt32 &&& (1431655765 : Int32))) &&& (858993459 : Int32)) + (((p0 - ((p0.toUInt32 >>> ((1 : Int32).toUInt32 &&& Int32.toUInt32 31)).toInt32 &&& (1431655765 : Int32))).toUInt32 >>> ((2 : Int32).toUInt32 &&& Int32.toUInt32 31)).toInt32 &&& (858993459 : Int32))).toUInt32 >>> ((4 : Int32).toUInt32 &&& Int32.toUInt32 31)).toInt32) &&& (252645135 : Int32)) + ((((((p0 - ((p0.toUInt32 >>> ((1 : Int32).toUInt32 &&& Int32.toUInt32 31)).toInt32 &&& (1431655765 : Int32))) &&& (858993459 : Int32)) + (((p0 - ((p0.toUInt32 >>> ((1 : Int32).toUInt32 &&& Int32.toUInt32 31)).toInt32 &&& (1431655765 : Int32))).toUInt32 >>> ((2 : Int32).toUInt32 &&& Int32.toUInt32 31)).toInt32 &&& (858993459 : Int32))) + ((((p0 - ((p0.toUInt32 >>> ((1 : Int32).toUInt32 &&& Int32.toUInt32 31)).toInt32 &&& (1431655765 : Int32))) &&& (858993459 : Int32)) + (((p0 - ((p0.toUInt32 >>> ((1 : Int32).toUInt32 &&& Int32.toUInt32 31)).toInt32 &&& (1431655765 : Int32))).toUInt32 >>> ((2 : Int32).toUInt32 &&& Int32.toUInt32 31)).toInt32 &&& (858993459 : Int32))).toUInt32 >>> ((4 : Int32).toUInt32 &&& Int32.toUInt32 31)).toInt32) &&& (252645135 : Int32)).toUInt32 >>> ((8 : Int32).toUInt32 &&& Int32.toUInt32 31)).toInt32) + (((((((p0 - ((p0.toUInt32 >>> ((1 : Int32).toUInt32 &&& Int32.toUInt32 31)).toInt32 &&& (1431655765 : Int32))) &&& (858993459 : Int32)) + (((p0 - ((p0.toUInt32 >>> ((1 : Int32).toUInt32 &&& Int32.toUInt32 31)).toInt32 &&& (1431655765 : Int32))).toUInt32 >>> ((2 : Int32).toUInt32 &&& Int32.toUInt32 31)).toInt32 &&& (858993459 : Int32))) + ((((p0 - ((p0.toUInt32 >>> ((1 : Int32).toUInt32 &&& Int32.toUInt32 31)).toInt32 &&& (1431655765 : Int32))) &&& (858993459 : Int32)) + (((p0 - ((p0.toUInt32 >>> ((1 : Int32).toUInt32 &&& Int32.toUInt32 31)).toInt32 &&& (1431655765 : Int32))).toUInt32 >>> ((2 : Int32).toUInt32 &&& Int32.toUInt32 31)).toInt32 &&& (858993459 : Int32))).toUInt32 >>> ((4 : Int32).toUInt32 &&& Int32.toUInt32 31)).toInt32) &&& (252645135 : Int32)) + ((((((p0 - ((p0.toUInt32 >>> ((1 : Int32).toUInt32 &&& Int32.toUInt32 31)).toInt32 &&& (1431655765 : Int32))) &&& (858993459 : Int32)) + (((p0 - ((p0.toUInt32 >>> ((1 : Int32).toUInt32 &&& Int32.toUInt32 31)).toInt32 &&& (1431655765 : Int32))).toUInt32 >>> ((2 : Int32).toUInt32 &&& Int32.toUInt32 31)).toInt32 &&& (858993459 : Int32))) + ((((p0 - ((p0.toUInt32 >>> ((1 : Int32).toUInt32 &&& Int32.toUInt32 31)).toInt32 &&& (1431655765 : Int32))) &&& (858993459 : Int32)) + (((p0 - ((p0.toUInt32 >>> ((1 : Int32).toUInt32 &&& Int32.toUInt32 31)).toInt32 &&& (1431655765 : Int32))).toUInt32 >>> ((2 : Int32).toUInt32 &&& Int32.toUInt32 31)).toInt32 &&& (858993459 : Int32))).toUInt32 >>> ((4 : Int32).toUInt32 &&& Int32.toUInt32 31)).toInt32) &&& (252645135 : Int32)).toUInt32 >>> ((8 : Int32).toUInt32 &&& Int32.toUInt32 31)).toInt32).toUInt32 >>> ((16 : Int32).toUInt32 &&& Int32.toUInt32 31)).toInt32) &&& (63 : Int32))
set_option maxHeartbeats 4000000 in
set_option maxRecDepth 100000 in
theorem k_J6_bitCount_0f7a4 (l : Launch) (N : Nat) (D : va_G) (cI cJ cZ cB cT : ClassId) (p0 : Int32) (o_r : Int32) (hf : f_J6_bitCount_0f7a4 N p0 = some o_r) : ∀ sz, Met l yJ6_bitCount_0f7a4 (mw yJ6_bitCount_0f7a4 cJ6_bitCount_0f7a4 1 (some .int)) ({ frames := 0, cells := 0, slots := 0, locals := 0 } : Room) (mPre D (mT cI cJ cZ cB cT) [] sz [.int p0]) ((mQi D [] o_r True) (va_A [] sz)) 0 0 (va_A [] sz) := by
  refine mMet (Qc := (mQi D [] o_r True)) (by decide) (Nat.le_of_ble_eq_true rfl) (fun p e s m below meth c A ls hx hb hr hml hts hown hlocks hK hA hP hD hl => ?_)
  have hown : s.vm.findClass RJ6 = some m.cls := hown
  have hl : lv_has ls 1 [(0, .int p0)] := hl
  have hS : va_S A s.heap s.heap [] := va_S.rf
  unfold f_J6_bitCount_0f7a4 at hf
  refine lv_iload_n hx hb dJ6_bitCount_0f7a4_0 rfl (lv_at hl 0 rfl) ?_
  refine lv_iload_n hx hb dJ6_bitCount_0f7a4_1 rfl (lv_at hl 0 rfl) ?_
  refine lv_iconst (v := (1 : Int32)) hx hb dJ6_bitCount_0f7a4_2 (by decide) ?_
  refine lv_iushr hx hb dJ6_bitCount_0f7a4_3 rfl ?_
  refine lv_ldcw hx hb hown (hts _ ctJ6_265) dJ6_bitCount_0f7a4_4 ?_
  refine lv_iand hx hb dJ6_bitCount_0f7a4_7 ?_
  refine lv_isub hx hb dJ6_bitCount_0f7a4_8 ?_
  refine lv_istore_n (lv' := [(0, .int (p0 - ((p0.toUInt32 >>> ((1 : Int32).toUInt32 &&& Int32.toUInt32 31)).toInt32 &&& (1431655765 : Int32))))]) hx hb dJ6_bitCount_0f7a4_9 rfl hl (by decide) rfl (fun ls hl => ?_)
  refine lv_iload_n hx hb dJ6_bitCount_0f7a4_10 rfl (lv_at hl 0 rfl) ?_
  refine lv_ldcw hx hb hown (hts _ ctJ6_266) dJ6_bitCount_0f7a4_11 ?_
  refine lv_iand hx hb dJ6_bitCount_0f7a4_14 ?_
  refine lv_iload_n hx hb dJ6_bitCount_0f7a4_15 rfl (lv_at hl 0 rfl) ?_
  refine lv_iconst (v := (2 : Int32)) hx hb dJ6_bitCount_0f7a4_16 (by decide) ?_
  refine lv_iushr hx hb dJ6_bitCount_0f7a4_17 rfl ?_
  refine lv_ldcw hx hb hown (hts _ ctJ6_266) dJ6_bitCount_0f7a4_18 ?_
  refine lv_iand hx hb dJ6_bitCount_0f7a4_21 ?_
  refine lv_iadd hx hb dJ6_bitCount_0f7a4_22 ?_
  refine lv_istore_n (lv' := [(0, .int (((p0 - ((p0.toUInt32 >>> ((1 : Int32).toUInt32 &&& Int32.toUInt32 31)).toInt32 &&& (1431655765 : Int32))) &&& (858993459 : Int32)) + (((p0 - ((p0.toUInt32 >>> ((1 : Int32).toUInt32 &&& Int32.toUInt32 31)).toInt32 &&& (1431655765 : Int32))).toUInt32 >>> ((2 : Int32).toUInt32 &&& Int32.toUInt32 31)).toInt32 &&& (858993459 : Int32))))]) hx hb dJ6_bitCount_0f7a4_23 rfl hl (by decide) rfl (fun ls hl => ?_)
  refine lv_iload_n hx hb dJ6_bitCount_0f7a4_24 rfl (lv_at hl 0 rfl) ?_
  refine lv_iload_n hx hb dJ6_bitCount_0f7a4_25 rfl (lv_at hl 0 rfl) ?_
  refine lv_iconst (v := (4 : Int32)) hx hb dJ6_bitCount_0f7a4_26 (by decide) ?_
  refine lv_iushr hx hb dJ6_bitCount_0f7a4_27 rfl ?_
  refine lv_iadd hx hb dJ6_bitCount_0f7a4_28 ?_
  refine lv_ldcw hx hb hown (hts _ ctJ6_267) dJ6_bitCount_0f7a4_29 ?_
  refine lv_iand hx hb dJ6_bitCount_0f7a4_32 ?_
  refine lv_istore_n (lv' := [(0, .int (((((p0 - ((p0.toUInt32 >>> ((1 : Int32).toUInt32 &&& Int32.toUInt32 31)).toInt32 &&& (1431655765 : Int32))) &&& (858993459 : Int32)) + (((p0 - ((p0.toUInt32 >>> ((1 : Int32).toUInt32 &&& Int32.toUInt32 31)).toInt32 &&& (1431655765 : Int32))).toUInt32 >>> ((2 : Int32).toUInt32 &&& Int32.toUInt32 31)).toInt32 &&& (858993459 : Int32))) + ((((p0 - ((p0.toUInt32 >>> ((1 : Int32).toUInt32 &&& Int32.toUInt32 31)).toInt32 &&& (1431655765 : Int32))) &&& (858993459 : Int32)) + (((p0 - ((p0.toUInt32 >>> ((1 : Int32).toUInt32 &&& Int32.toUInt32 31)).toInt32 &&& (1431655765 : Int32))).toUInt32 >>> ((2 : Int32).toUInt32 &&& Int32.toUInt32 31)).toInt32 &&& (858993459 : Int32))).toUInt32 >>> ((4 : Int32).toUInt32 &&& Int32.toUInt32 31)).toInt32) &&& (252645135 : Int32)))]) hx hb dJ6_bitCount_0f7a4_33 rfl hl (by decide) rfl (fun ls hl => ?_)
  refine lv_iload_n hx hb dJ6_bitCount_0f7a4_34 rfl (lv_at hl 0 rfl) ?_
  refine lv_iload_n hx hb dJ6_bitCount_0f7a4_35 rfl (lv_at hl 0 rfl) ?_
  refine lv_bipush (v := (8 : Int32)) hx hb dJ6_bitCount_0f7a4_36 (by decide) ?_
  refine lv_iushr hx hb dJ6_bitCount_0f7a4_38 rfl ?_
  refine lv_iadd hx hb dJ6_bitCount_0f7a4_39 ?_
  refine lv_istore_n (lv' := [(0, .int ((((((p0 - ((p0.toUInt32 >>> ((1 : Int32).toUInt32 &&& Int32.toUInt32 31)).toInt32 &&& (1431655765 : Int32))) &&& (858993459 : Int32)) + (((p0 - ((p0.toUInt32 >>> ((1 : Int32).toUInt32 &&& Int32.toUInt32 31)).toInt32 &&& (1431655765 : Int32))).toUInt32 >>> ((2 : Int32).toUInt32 &&& Int32.toUInt32 31)).toInt32 &&& (858993459 : Int32))) + ((((p0 - ((p0.toUInt32 >>> ((1 : Int32).toUInt32 &&& Int32.toUInt32 31)).toInt32 &&& (1431655765 : Int32))) &&& (858993459 : Int32)) + (((p0 - ((p0.toUInt32 >>> ((1 : Int32).toUInt32 &&& Int32.toUInt32 31)).toInt32 &&& (1431655765 : Int32))).toUInt32 >>> ((2 : Int32).toUInt32 &&& Int32.toUInt32 31)).toInt32 &&& (858993459 : Int32))).toUInt32 >>> ((4 : Int32).toUInt32 &&& Int32.toUInt32 31)).toInt32) &&& (252645135 : Int32)) + ((((((p0 - ((p0.toUInt32 >>> ((1 : Int32).toUInt32 &&& Int32.toUInt32 31)).toInt32 &&& (1431655765 : Int32))) &&& (858993459 : Int32)) + (((p0 - ((p0.toUInt32 >>> ((1 : Int32).toUInt32 &&& Int32.toUInt32 31)).toInt32 &&& (1431655765 : Int32))).toUInt32 >>> ((2 : Int32).toUInt32 &&& Int32.toUInt32 31)).toInt32 &&& (858993459 : Int32))) + ((((p0 - ((p0.toUInt32 >>> ((1 : Int32).toUInt32 &&& Int32.toUInt32 31)).toInt32 &&& (1431655765 : Int32))) &&& (858993459 : Int32)) + (((p0 - ((p0.toUInt32 >>> ((1 : Int32).toUInt32 &&& Int32.toUInt32 31)).toInt32 &&& (1431655765 : Int32))).toUInt32 >>> ((2 : Int32).toUInt32 &&& Int32.toUInt32 31)).toInt32 &&& (858993459 : Int32))).toUInt32 >>> ((4 : Int32).toUInt32 &&& Int32.toUInt32 31)).toInt32) &&& (252645135 : Int32)).toUInt32 >>> ((8 : Int32).toUInt32 &&& Int32.toUInt32 31)).toInt32))]) hx hb dJ6_bitCount_0f7a4_40 rfl hl (by decide) rfl (fun ls hl => ?_)
  refine lv_iload_n hx hb dJ6_bitCount_0f7a4_41 rfl (lv_at hl 0 rfl) ?_
  refine lv_iload_n hx hb dJ6_bitCount_0f7a4_42 rfl (lv_at hl 0 rfl) ?_
  refine lv_bipush (v := (16 : Int32)) hx hb dJ6_bitCount_0f7a4_43 (by decide) ?_
  refine lv_iushr hx hb dJ6_bitCount_0f7a4_45 rfl ?_
  refine lv_iadd hx hb dJ6_bitCount_0f7a4_46 ?_
  refine lv_istore_n (lv' := [(0, .int (((((((p0 - ((p0.toUInt32 >>> ((1 : Int32).toUInt32 &&& Int32.toUInt32 31)).toInt32 &&& (1431655765 : Int32))) &&& (858993459 : Int32)) + (((p0 - ((p0.toUInt32 >>> ((1 : Int32).toUInt32 &&& Int32.toUInt32 31)).toInt32 &&& (1431655765 : Int32))).toUInt32 >>> ((2 : Int32).toUInt32 &&& Int32.toUInt32 31)).toInt32 &&& (858993459 : Int32))) + ((((p0 - ((p0.toUInt32 >>> ((1 : Int32).toUInt32 &&& Int32.toUInt32 31)).toInt32 &&& (1431655765 : Int32))) &&& (858993459 : Int32)) + (((p0 - ((p0.toUInt32 >>> ((1 : Int32).toUInt32 &&& Int32.toUInt32 31)).toInt32 &&& (1431655765 : Int32))).toUInt32 >>> ((2 : Int32).toUInt32 &&& Int32.toUInt32 31)).toInt32 &&& (858993459 : Int32))).toUInt32 >>> ((4 : Int32).toUInt32 &&& Int32.toUInt32 31)).toInt32) &&& (252645135 : Int32)) + ((((((p0 - ((p0.toUInt32 >>> ((1 : Int32).toUInt32 &&& Int32.toUInt32 31)).toInt32 &&& (1431655765 : Int32))) &&& (858993459 : Int32)) + (((p0 - ((p0.toUInt32 >>> ((1 : Int32).toUInt32 &&& Int32.toUInt32 31)).toInt32 &&& (1431655765 : Int32))).toUInt32 >>> ((2 : Int32).toUInt32 &&& Int32.toUInt32 31)).toInt32 &&& (858993459 : Int32))) + ((((p0 - ((p0.toUInt32 >>> ((1 : Int32).toUInt32 &&& Int32.toUInt32 31)).toInt32 &&& (1431655765 : Int32))) &&& (858993459 : Int32)) + (((p0 - ((p0.toUInt32 >>> ((1 : Int32).toUInt32 &&& Int32.toUInt32 31)).toInt32 &&& (1431655765 : Int32))).toUInt32 >>> ((2 : Int32).toUInt32 &&& Int32.toUInt32 31)).toInt32 &&& (858993459 : Int32))).toUInt32 >>> ((4 : Int32).toUInt32 &&& Int32.toUInt32 31)).toInt32) &&& (252645135 : Int32)).toUInt32 >>> ((8 : Int32).toUInt32 &&& Int32.toUInt32 31)).toInt32) + (((((((p0 - ((p0.toUInt32 >>> ((1 : Int32).toUInt32 &&& Int32.toUInt32 31)).toInt32 &&& (1431655765 : Int32))) &&& (858993459 : Int32)) + (((p0 - ((p0.toUInt32 >>> ((1 : Int32).toUInt32 &&& Int32.toUInt32 31)).toInt32 &&& (1431655765 : Int32))).toUInt32 >>> ((2 : Int32).toUInt32 &&& Int32.toUInt32 31)).toInt32 &&& (858993459 : Int32))) + ((((p0 - ((p0.toUInt32 >>> ((1 : Int32).toUInt32 &&& Int32.toUInt32 31)).toInt32 &&& (1431655765 : Int32))) &&& (858993459 : Int32)) + (((p0 - ((p0.toUInt32 >>> ((1 : Int32).toUInt32 &&& Int32.toUInt32 31)).toInt32 &&& (1431655765 : Int32))).toUInt32 >>> ((2 : Int32).toUInt32 &&& Int32.toUInt32 31)).toInt32 &&& (858993459 : Int32))).toUInt32 >>> ((4 : Int32).toUInt32 &&& Int32.toUInt32 31)).toInt32) &&& (252645135 : Int32)) + ((((((p0 - ((p0.toUInt32 >>> ((1 : Int32).toUInt32 &&& Int32.toUInt32 31)).toInt32 &&& (1431655765 : Int32))) &&& (858993459 : Int32)) + (((p0 - ((p0.toUInt32 >>> ((1 : Int32).toUInt32 &&& Int32.toUInt32 31)).toInt32 &&& (1431655765 : Int32))).toUInt32 >>> ((2 : Int32).toUInt32 &&& Int32.toUInt32 31)).toInt32 &&& (858993459 : Int32))) + ((((p0 - ((p0.toUInt32 >>> ((1 : Int32).toUInt32 &&& Int32.toUInt32 31)).toInt32 &&& (1431655765 : Int32))) &&& (858993459 : Int32)) + (((p0 - ((p0.toUInt32 >>> ((1 : Int32).toUInt32 &&& Int32.toUInt32 31)).toInt32 &&& (1431655765 : Int32))).toUInt32 >>> ((2 : Int32).toUInt32 &&& Int32.toUInt32 31)).toInt32 &&& (858993459 : Int32))).toUInt32 >>> ((4 : Int32).toUInt32 &&& Int32.toUInt32 31)).toInt32) &&& (252645135 : Int32)).toUInt32 >>> ((8 : Int32).toUInt32 &&& Int32.toUInt32 31)).toInt32).toUInt32 >>> ((16 : Int32).toUInt32 &&& Int32.toUInt32 31)).toInt32))]) hx hb dJ6_bitCount_0f7a4_47 rfl hl (by decide) rfl (fun ls hl => ?_)
  refine lv_iload_n hx hb dJ6_bitCount_0f7a4_48 rfl (lv_at hl 0 rfl) ?_
  refine lv_bipush (v := (63 : Int32)) hx hb dJ6_bitCount_0f7a4_49 (by decide) ?_
  refine lv_iand hx hb dJ6_bitCount_0f7a4_51 ?_
  cases hf
  exact mret_i hx hb hr hlocks hP hD hS dJ6_bitCount_0f7a4_52 rfl trivial
theorem dX9_begun_0 : decode cX9_begun 0 = .ok (.iload_n 1, 1) := by decide +kernel
theorem dX9_begun_1 : decode cX9_begun 1 = .ok (.ifCond .lt 22, 3) := by decide +kernel
theorem dX9_begun_4 : decode cX9_begun 4 = .ok (.iload_n 1, 1) := by decide +kernel
theorem dX9_begun_5 : decode cX9_begun 5 = .ok (.iconst 4, 1) := by decide +kernel
theorem dX9_begun_6 : decode cX9_begun 6 = .ok (.if_icmp .ge 17, 3) := by decide +kernel
theorem dX9_begun_9 : decode cX9_begun 9 = .ok (.aload_n 0, 1) := by decide +kernel
theorem dX9_begun_10 : decode cX9_begun 10 = .ok (.getfield 27, 3) := by decide +kernel
theorem dX9_begun_13 : decode cX9_begun 13 = .ok (.iload_n 1, 1) := by decide +kernel
theorem dX9_begun_14 : decode cX9_begun 14 = .ok (.iaload, 1) := by decide +kernel
theorem dX9_begun_15 : decode cX9_begun 15 = .ok (.iconst (-1), 1) := by decide +kernel
theorem dX9_begun_16 : decode cX9_begun 16 = .ok (.if_icmp .eq 7, 3) := by decide +kernel
theorem dX9_begun_19 : decode cX9_begun 19 = .ok (.iconst 1, 1) := by decide +kernel
theorem dX9_begun_20 : decode cX9_begun 20 = .ok (.goto 4, 3) := by decide +kernel
theorem dX9_begun_23 : decode cX9_begun 23 = .ok (.iconst 0, 1) := by decide +kernel
theorem dX9_begun_24 : decode cX9_begun 24 = .ok (.ireturn, 1) := by decide +kernel
def f_X9_begun (N : Nat) (x_st : Nat → Int32) (p1 : Int32) : Option (Int32) := if p1 < 0 then (some (0 : Int32)) else (if (4 : Int32) ≤ p1 then (some (0 : Int32)) else (gA x_st 4 p1 fun v14 => if v14 = (-1 : Int32) then (some (0 : Int32)) else (some (1 : Int32))))
set_option maxHeartbeats 4000000 in
set_option maxRecDepth 100000 in
theorem k_X9_begun (l : Launch) (N : Nat) (D : va_G) (cI cJ cZ cB cT : ClassId) (qx0 : Nat) (qx2 : Nat) (qx1 : Nat) (qx3 : Nat) (qx4 : Nat) (x_cl : Int32) (x_ln : Int32) (x_pt : Int32) (x_st : Nat → Int32) (p1 : Int32) (o_r : Int32) (hf : f_X9_begun N x_st p1 = some o_r) : ∀ sz, Met l yX9_begun (mw yX9_begun cX9_begun 2 (some .boolean)) ({ frames := 0, cells := 0, slots := 0, locals := 0 } : Room) (mPre D (mT cI cJ cZ cB cT) (W_TX_0_2 qx0 qx2 qx1 qx3 qx4 cI cJ cZ cB cT x_cl x_ln x_pt x_st) sz [.ref qx0, .int p1]) ((mQi D (W_TX_0_2 qx0 qx2 qx1 qx3 qx4 cI cJ cZ cB cT x_cl x_ln x_pt x_st) o_r (mB o_r)) (va_A (W_TX_0_2 qx0 qx2 qx1 qx3 qx4 cI cJ cZ cB cT x_cl x_ln x_pt x_st) sz)) 0 0 (va_A (W_TX_0_2 qx0 qx2 qx1 qx3 qx4 cI cJ cZ cB cT x_cl x_ln x_pt x_st) sz) := by
  refine mMet (Qc := (mQi D (W_TX_0_2 qx0 qx2 qx1 qx3 qx4 cI cJ cZ cB cT x_cl x_ln x_pt x_st) o_r (mB o_r))) (by decide) (Nat.le_of_ble_eq_true rfl) (fun p e s m below meth c A ls hx hb hr hml hts hown hlocks hK hA hP hD hl => ?_)
  have hown : s.vm.findClass RX9 = some m.cls := hown
  have hl : lv_has ls 2 [(0, .ref qx0), (1, .int p1)] := hl
  have hS : va_S A s.heap s.heap [] := va_S.rf
  unfold f_X9_begun at hf
  refine lv_iload_n hx hb dX9_begun_0 rfl (lv_at hl 1 rfl) ?_
  refine xif_lt hx hb 23 dX9_begun_1 (by decide) hf (fun hf => ?_) (fun hf => ?_)
  · refine lv_iconst (v := (0 : Int32)) hx hb dX9_begun_23 (by decide) ?_
    cases hf
    exact mret_z hx hb hr hlocks hP hD hS dX9_begun_24 rfl rfl
  · refine lv_iload_n hx hb dX9_begun_4 rfl (lv_at hl 1 rfl) ?_
    refine lv_iconst (v := (4 : Int32)) hx hb dX9_begun_5 (by decide) ?_
    refine xicmp_ge hx hb 23 dX9_begun_6 (by decide) hf (fun hf => ?_) (fun hf => ?_)
    · refine lv_iconst (v := (0 : Int32)) hx hb dX9_begun_23 (by decide) ?_
      cases hf
      exact mret_z hx hb hr hlocks hP hD hS dX9_begun_24 rfl rfl
    · refine lv_aload_n hx hb dX9_begun_9 rfl (lv_at hl 0 rfl) ?_
      refine gfX9_27 hx hb hts hown hK hP 0 rfl rfl dX9_begun_10 ?_
      refine lv_iload_n hx hb dX9_begun_13 rfl (lv_at hl 1 rfl) ?_
      refine xiald hx hb hK hP 1 0 rfl rfl dX9_begun_14 hf (fun v14 hf => ?_)
      refine lv_iconst (v := (-1 : Int32)) hx hb dX9_begun_15 (by decide) ?_
      refine xicmp_eq hx hb 23 dX9_begun_16 (by decide) hf (fun hf => ?_) (fun hf => ?_)
      · refine lv_iconst (v := (0 : Int32)) hx hb dX9_begun_23 (by decide) ?_
        cases hf
        exact mret_z hx hb hr hlocks hP hD hS dX9_begun_24 rfl rfl
      · refine lv_iconst (v := (1 : Int32)) hx hb dX9_begun_19 (by decide) ?_
        refine lv_goto (tgt := 24) hx hb dX9_begun_20 (by decide) ?_
        cases hf
        exact mret_z hx hb hr hlocks hP hD hS dX9_begun_24 rfl rfl
theorem dX9_ofTwo_0 : decode cX9_ofTwo 0 = .ok (.iload_n 0, 1) := by decide +kernel
theorem dX9_ofTwo_1 : decode cX9_ofTwo 1 = .ok (.tableswitch 157 31 42 #[89, 93, 109, 133, 97, 121, 145, 157, 63, 67, 71, 75], 63) := by decide +kernel
theorem dX9_ofTwo_64 : decode cX9_ofTwo 64 = .ok (.lload_n 1, 1) := by decide +kernel
theorem dX9_ofTwo_65 : decode cX9_ofTwo 65 = .ok (.lload_n 3, 1) := by decide +kernel
theorem dX9_ofTwo_66 : decode cX9_ofTwo 66 = .ok (.ladd, 1) := by decide +kernel
theorem dX9_ofTwo_67 : decode cX9_ofTwo 67 = .ok (.lreturn, 1) := by decide +kernel
theorem dX9_ofTwo_68 : decode cX9_ofTwo 68 = .ok (.lload_n 1, 1) := by decide +kernel
theorem dX9_ofTwo_69 : decode cX9_ofTwo 69 = .ok (.lload_n 3, 1) := by decide +kernel
theorem dX9_ofTwo_70 : decode cX9_ofTwo 70 = .ok (.lsub, 1) := by decide +kernel
theorem dX9_ofTwo_71 : decode cX9_ofTwo 71 = .ok (.lreturn, 1) := by decide +kernel
theorem dX9_ofTwo_72 : decode cX9_ofTwo 72 = .ok (.lload_n 1, 1) := by decide +kernel
theorem dX9_ofTwo_73 : decode cX9_ofTwo 73 = .ok (.lload_n 3, 1) := by decide +kernel
theorem dX9_ofTwo_74 : decode cX9_ofTwo 74 = .ok (.lmul, 1) := by decide +kernel
theorem dX9_ofTwo_75 : decode cX9_ofTwo 75 = .ok (.lreturn, 1) := by decide +kernel
theorem dX9_ofTwo_76 : decode cX9_ofTwo 76 = .ok (.lload_n 3, 1) := by decide +kernel
theorem dX9_ofTwo_77 : decode cX9_ofTwo 77 = .ok (.lconst 0, 1) := by decide +kernel
theorem dX9_ofTwo_78 : decode cX9_ofTwo 78 = .ok (.lcmp, 1) := by decide +kernel
theorem dX9_ofTwo_79 : decode cX9_ofTwo 79 = .ok (.ifCond .ne 7, 3) := by decide +kernel
theorem dX9_ofTwo_82 : decode cX9_ofTwo 82 = .ok (.lconst 0, 1) := by decide +kernel
theorem dX9_ofTwo_83 : decode cX9_ofTwo 83 = .ok (.goto 6, 3) := by decide +kernel
theorem dX9_ofTwo_86 : decode cX9_ofTwo 86 = .ok (.lload_n 1, 1) := by decide +kernel
theorem dX9_ofTwo_87 : decode cX9_ofTwo 87 = .ok (.lload_n 3, 1) := by decide +kernel
theorem dX9_ofTwo_88 : decode cX9_ofTwo 88 = .ok (.ldiv, 1) := by decide +kernel
theorem dX9_ofTwo_89 : decode cX9_ofTwo 89 = .ok (.lreturn, 1) := by decide +kernel
theorem dX9_ofTwo_90 : decode cX9_ofTwo 90 = .ok (.lload_n 1, 1) := by decide +kernel
theorem dX9_ofTwo_91 : decode cX9_ofTwo 91 = .ok (.lload_n 3, 1) := by decide +kernel
theorem dX9_ofTwo_92 : decode cX9_ofTwo 92 = .ok (.land, 1) := by decide +kernel
theorem dX9_ofTwo_93 : decode cX9_ofTwo 93 = .ok (.lreturn, 1) := by decide +kernel
theorem dX9_ofTwo_94 : decode cX9_ofTwo 94 = .ok (.lload_n 1, 1) := by decide +kernel
theorem dX9_ofTwo_95 : decode cX9_ofTwo 95 = .ok (.lload_n 3, 1) := by decide +kernel
theorem dX9_ofTwo_96 : decode cX9_ofTwo 96 = .ok (.lor, 1) := by decide +kernel
theorem dX9_ofTwo_97 : decode cX9_ofTwo 97 = .ok (.lreturn, 1) := by decide +kernel
theorem dX9_ofTwo_98 : decode cX9_ofTwo 98 = .ok (.lload_n 1, 1) := by decide +kernel
theorem dX9_ofTwo_99 : decode cX9_ofTwo 99 = .ok (.lload_n 3, 1) := by decide +kernel
theorem dX9_ofTwo_100 : decode cX9_ofTwo 100 = .ok (.lcmp, 1) := by decide +kernel
theorem dX9_ofTwo_101 : decode cX9_ofTwo 101 = .ok (.ifCond .ge 7, 3) := by decide +kernel
theorem dX9_ofTwo_104 : decode cX9_ofTwo 104 = .ok (.lconst 1, 1) := by decide +kernel
theorem dX9_ofTwo_105 : decode cX9_ofTwo 105 = .ok (.goto 4, 3) := by decide +kernel
theorem dX9_ofTwo_108 : decode cX9_ofTwo 108 = .ok (.lconst 0, 1) := by decide +kernel
theorem dX9_ofTwo_109 : decode cX9_ofTwo 109 = .ok (.lreturn, 1) := by decide +kernel
theorem dX9_ofTwo_110 : decode cX9_ofTwo 110 = .ok (.lload_n 1, 1) := by decide +kernel
theorem dX9_ofTwo_111 : decode cX9_ofTwo 111 = .ok (.lload_n 3, 1) := by decide +kernel
theorem dX9_ofTwo_112 : decode cX9_ofTwo 112 = .ok (.lcmp, 1) := by decide +kernel
theorem dX9_ofTwo_113 : decode cX9_ofTwo 113 = .ok (.ifCond .gt 7, 3) := by decide +kernel
theorem dX9_ofTwo_116 : decode cX9_ofTwo 116 = .ok (.lconst 1, 1) := by decide +kernel
theorem dX9_ofTwo_117 : decode cX9_ofTwo 117 = .ok (.goto 4, 3) := by decide +kernel
theorem dX9_ofTwo_120 : decode cX9_ofTwo 120 = .ok (.lconst 0, 1) := by decide +kernel
theorem dX9_ofTwo_121 : decode cX9_ofTwo 121 = .ok (.lreturn, 1) := by decide +kernel
theorem dX9_ofTwo_122 : decode cX9_ofTwo 122 = .ok (.lload_n 1, 1) := by decide +kernel
theorem dX9_ofTwo_123 : decode cX9_ofTwo 123 = .ok (.lload_n 3, 1) := by decide +kernel
theorem dX9_ofTwo_124 : decode cX9_ofTwo 124 = .ok (.lcmp, 1) := by decide +kernel
theorem dX9_ofTwo_125 : decode cX9_ofTwo 125 = .ok (.ifCond .le 7, 3) := by decide +kernel
theorem dX9_ofTwo_128 : decode cX9_ofTwo 128 = .ok (.lconst 1, 1) := by decide +kernel
theorem dX9_ofTwo_129 : decode cX9_ofTwo 129 = .ok (.goto 4, 3) := by decide +kernel
theorem dX9_ofTwo_132 : decode cX9_ofTwo 132 = .ok (.lconst 0, 1) := by decide +kernel
theorem dX9_ofTwo_133 : decode cX9_ofTwo 133 = .ok (.lreturn, 1) := by decide +kernel
theorem dX9_ofTwo_134 : decode cX9_ofTwo 134 = .ok (.lload_n 1, 1) := by decide +kernel
theorem dX9_ofTwo_135 : decode cX9_ofTwo 135 = .ok (.lload_n 3, 1) := by decide +kernel
theorem dX9_ofTwo_136 : decode cX9_ofTwo 136 = .ok (.lcmp, 1) := by decide +kernel
theorem dX9_ofTwo_137 : decode cX9_ofTwo 137 = .ok (.ifCond .lt 7, 3) := by decide +kernel
theorem dX9_ofTwo_140 : decode cX9_ofTwo 140 = .ok (.lconst 1, 1) := by decide +kernel
theorem dX9_ofTwo_141 : decode cX9_ofTwo 141 = .ok (.goto 4, 3) := by decide +kernel
theorem dX9_ofTwo_144 : decode cX9_ofTwo 144 = .ok (.lconst 0, 1) := by decide +kernel
theorem dX9_ofTwo_145 : decode cX9_ofTwo 145 = .ok (.lreturn, 1) := by decide +kernel
theorem dX9_ofTwo_146 : decode cX9_ofTwo 146 = .ok (.lload_n 1, 1) := by decide +kernel
theorem dX9_ofTwo_147 : decode cX9_ofTwo 147 = .ok (.lload_n 3, 1) := by decide +kernel
theorem dX9_ofTwo_148 : decode cX9_ofTwo 148 = .ok (.lcmp, 1) := by decide +kernel
theorem dX9_ofTwo_149 : decode cX9_ofTwo 149 = .ok (.ifCond .ne 7, 3) := by decide +kernel
theorem dX9_ofTwo_152 : decode cX9_ofTwo 152 = .ok (.lconst 1, 1) := by decide +kernel
theorem dX9_ofTwo_153 : decode cX9_ofTwo 153 = .ok (.goto 4, 3) := by decide +kernel
theorem dX9_ofTwo_156 : decode cX9_ofTwo 156 = .ok (.lconst 0, 1) := by decide +kernel
theorem dX9_ofTwo_157 : decode cX9_ofTwo 157 = .ok (.lreturn, 1) := by decide +kernel
theorem dX9_ofTwo_158 : decode cX9_ofTwo 158 = .ok (.lload_n 1, 1) := by decide +kernel
theorem dX9_ofTwo_159 : decode cX9_ofTwo 159 = .ok (.lload_n 3, 1) := by decide +kernel
theorem dX9_ofTwo_160 : decode cX9_ofTwo 160 = .ok (.lcmp, 1) := by decide +kernel
theorem dX9_ofTwo_161 : decode cX9_ofTwo 161 = .ok (.ifCond .eq 7, 3) := by decide +kernel
theorem dX9_ofTwo_164 : decode cX9_ofTwo 164 = .ok (.lconst 1, 1) := by decide +kernel
theorem dX9_ofTwo_165 : decode cX9_ofTwo 165 = .ok (.goto 4, 3) := by decide +kernel
theorem dX9_ofTwo_168 : decode cX9_ofTwo 168 = .ok (.lconst 0, 1) := by decide +kernel
theorem dX9_ofTwo_169 : decode cX9_ofTwo 169 = .ok (.lreturn, 1) := by decide +kernel
def f_X9_ofTwo_158 (N : Nat) (x1 : Int64) (x3 : Int64) : Option (Int64) := if (lg_cmp x1 x3) = 0 then (some (0 : Int64)) else (some (1 : Int64))
def f_X9_ofTwo (N : Nat) (p0 : Int32) (p1 : Int64) (p3 : Int64) : Option (Int64) := if p0 = (31 : Int32) then (some (p1 &&& p3)) else if p0 = (32 : Int32) then (some (p1 ||| p3)) else if p0 = (33 : Int32) then (if 0 < (lg_cmp p1 p3) then (some (0 : Int64)) else (some (1 : Int64))) else if p0 = (34 : Int32) then (if (lg_cmp p1 p3) < 0 then (some (0 : Int64)) else (some (1 : Int64))) else if p0 = (35 : Int32) then (if 0 ≤ (lg_cmp p1 p3) then (some (0 : Int64)) else (some (1 : Int64))) else if p0 = (36 : Int32) then (if (lg_cmp p1 p3) ≤ 0 then (some (0 : Int64)) else (some (1 : Int64))) else if p0 = (37 : Int32) then (if (lg_cmp p1 p3) = 0 then (some (1 : Int64)) else (some (0 : Int64))) else if p0 = (39 : Int32) then (some (p1 + p3)) else if p0 = (40 : Int32) then (some (p1 - p3)) else if p0 = (41 : Int32) then (some (p1 * p3)) else if p0 = (42 : Int32) then (if (lg_cmp p3 (0 : Int64)) = 0 then (some (0 : Int64)) else (dvL p1 p3 fun v88 => some v88)) else (f_X9_ofTwo_158 N p1 p3)
set_option maxHeartbeats 4000000 in
set_option maxRecDepth 100000 in
theorem k_X9_ofTwo (l : Launch) (N : Nat) (D : va_G) (cI cJ cZ cB cT : ClassId) (p0 : Int32) (p1 : Int64) (p3 : Int64) (o_r : Int64) (hf : f_X9_ofTwo N p0 p1 p3 = some o_r) : ∀ sz, Met l yX9_ofTwo (mw yX9_ofTwo cX9_ofTwo 5 (some .long)) ({ frames := 0, cells := 0, slots := 0, locals := 0 } : Room) (mPre D (mT cI cJ cZ cB cT) [] sz [.int p0, .long p1, .long p3]) ((mQl D [] o_r) (va_A [] sz)) 0 0 (va_A [] sz) := by
  refine mMet (Qc := (mQl D [] o_r)) (by decide) (Nat.le_of_ble_eq_true rfl) (fun p e s m below meth c A ls hx hb hr hml hts hown hlocks hK hA hP hD hl => ?_)
  have hown : s.vm.findClass RX9 = some m.cls := hown
  have hl : lv_has ls 5 [(0, .int p0), (1, .long p1), (3, .long p3)] := hl
  have hS : va_S A s.heap s.heap [] := va_S.rf
  have b158 : ∀ (x1 : Int64) (x3 : Int64) (H : Heap) (locs : List Loc) (ls : Array Slot), f_X9_ofTwo_158 N x1 x3 = some o_r → va_P D vwCl [] H → va_D A [] → va_S A s.heap H locs → lv_has ls 5 [(1, .long x1), (3, .long x3)] → W p l e ({ frames := 0, cells := 0, slots := 0, locals := 0 } : Room) s m ([.int p0, .long p1, .long p3] : List Value).toArray below meth c H locs 0 0 (MQ below ((mQl D [] o_r) A) ([.int p0, .long p1, .long p3] : List Value).toArray s 0 0 A) (F0 m 158 ls []) := by
    intro x1 x3 H locs ls hf hP hD hS hl
    unfold f_X9_ofTwo_158 at hf
    refine lv_lload_n hx hb dX9_ofTwo_158 rfl (lv_at hl 0 rfl) ?_
    refine lv_lload_n hx hb dX9_ofTwo_159 rfl (lv_at hl 1 rfl) ?_
    refine W.lcmp hx hb dX9_ofTwo_160 ?_
    refine xif_eq hx hb 168 dX9_ofTwo_161 (by decide) hf (fun hf => ?_) (fun hf => ?_)
    · refine lv_lconst (v := (0 : Int64)) hx hb dX9_ofTwo_168 (by decide) ?_
      cases hf
      exact mret_l hx hb hr hlocks hP hD hS dX9_ofTwo_169 rfl
    · refine lv_lconst (v := (1 : Int64)) hx hb dX9_ofTwo_164 (by decide) ?_
      refine lv_goto (tgt := 169) hx hb dX9_ofTwo_165 (by decide) ?_
      cases hf
      exact mret_l hx hb hr hlocks hP hD hS dX9_ofTwo_169 rfl
  unfold f_X9_ofTwo at hf
  refine lv_iload_n hx hb dX9_ofTwo_0 rfl (lv_at hl 0 rfl) ?_
  by_cases e1_31 : p0 = (31 : Int32)
  · replace hf := (if_pos e1_31).symm.trans hf
    refine lv_tableIn (off := 89) (tgt := 90) hx hb dX9_ofTwo_1 (by rw [e1_31]; decide) (by rw [e1_31]; decide) (by rw [e1_31]; rfl) (by decide) ?_
    refine lv_lload_n hx hb dX9_ofTwo_90 rfl (lv_at hl 1 rfl) ?_
    refine lv_lload_n hx hb dX9_ofTwo_91 rfl (lv_at hl 2 rfl) ?_
    refine lv_land hx hb dX9_ofTwo_92 ?_
    cases hf
    exact mret_l hx hb hr hlocks hP hD hS dX9_ofTwo_93 rfl
  replace hf := (if_neg e1_31).symm.trans hf
  by_cases e1_32 : p0 = (32 : Int32)
  · replace hf := (if_pos e1_32).symm.trans hf
    refine lv_tableIn (off := 93) (tgt := 94) hx hb dX9_ofTwo_1 (by rw [e1_32]; decide) (by rw [e1_32]; decide) (by rw [e1_32]; rfl) (by decide) ?_
    refine lv_lload_n hx hb dX9_ofTwo_94 rfl (lv_at hl 1 rfl) ?_
    refine lv_lload_n hx hb dX9_ofTwo_95 rfl (lv_at hl 2 rfl) ?_
    refine lv_lor hx hb dX9_ofTwo_96 ?_
    cases hf
    exact mret_l hx hb hr hlocks hP hD hS dX9_ofTwo_97 rfl
  replace hf := (if_neg e1_32).symm.trans hf
  by_cases e1_33 : p0 = (33 : Int32)
  · replace hf := (if_pos e1_33).symm.trans hf
    refine lv_tableIn (off := 109) (tgt := 110) hx hb dX9_ofTwo_1 (by rw [e1_33]; decide) (by rw [e1_33]; decide) (by rw [e1_33]; rfl) (by decide) ?_
    refine lv_lload_n hx hb dX9_ofTwo_110 rfl (lv_at hl 1 rfl) ?_
    refine lv_lload_n hx hb dX9_ofTwo_111 rfl (lv_at hl 2 rfl) ?_
    refine W.lcmp hx hb dX9_ofTwo_112 ?_
    refine xif_gt hx hb 120 dX9_ofTwo_113 (by decide) hf (fun hf => ?_) (fun hf => ?_)
    · refine lv_lconst (v := (0 : Int64)) hx hb dX9_ofTwo_120 (by decide) ?_
      cases hf
      exact mret_l hx hb hr hlocks hP hD hS dX9_ofTwo_121 rfl
    · refine lv_lconst (v := (1 : Int64)) hx hb dX9_ofTwo_116 (by decide) ?_
      refine lv_goto (tgt := 121) hx hb dX9_ofTwo_117 (by decide) ?_
      cases hf
      exact mret_l hx hb hr hlocks hP hD hS dX9_ofTwo_121 rfl
  replace hf := (if_neg e1_33).symm.trans hf
  by_cases e1_34 : p0 = (34 : Int32)
  · replace hf := (if_pos e1_34).symm.trans hf
    refine lv_tableIn (off := 133) (tgt := 134) hx hb dX9_ofTwo_1 (by rw [e1_34]; decide) (by rw [e1_34]; decide) (by rw [e1_34]; rfl) (by decide) ?_
    refine lv_lload_n hx hb dX9_ofTwo_134 rfl (lv_at hl 1 rfl) ?_
    refine lv_lload_n hx hb dX9_ofTwo_135 rfl (lv_at hl 2 rfl) ?_
    refine W.lcmp hx hb dX9_ofTwo_136 ?_
    refine xif_lt hx hb 144 dX9_ofTwo_137 (by decide) hf (fun hf => ?_) (fun hf => ?_)
    · refine lv_lconst (v := (0 : Int64)) hx hb dX9_ofTwo_144 (by decide) ?_
      cases hf
      exact mret_l hx hb hr hlocks hP hD hS dX9_ofTwo_145 rfl
    · refine lv_lconst (v := (1 : Int64)) hx hb dX9_ofTwo_140 (by decide) ?_
      refine lv_goto (tgt := 145) hx hb dX9_ofTwo_141 (by decide) ?_
      cases hf
      exact mret_l hx hb hr hlocks hP hD hS dX9_ofTwo_145 rfl
  replace hf := (if_neg e1_34).symm.trans hf
  by_cases e1_35 : p0 = (35 : Int32)
  · replace hf := (if_pos e1_35).symm.trans hf
    refine lv_tableIn (off := 97) (tgt := 98) hx hb dX9_ofTwo_1 (by rw [e1_35]; decide) (by rw [e1_35]; decide) (by rw [e1_35]; rfl) (by decide) ?_
    refine lv_lload_n hx hb dX9_ofTwo_98 rfl (lv_at hl 1 rfl) ?_
    refine lv_lload_n hx hb dX9_ofTwo_99 rfl (lv_at hl 2 rfl) ?_
    refine W.lcmp hx hb dX9_ofTwo_100 ?_
    refine xif_ge hx hb 108 dX9_ofTwo_101 (by decide) hf (fun hf => ?_) (fun hf => ?_)
    · refine lv_lconst (v := (0 : Int64)) hx hb dX9_ofTwo_108 (by decide) ?_
      cases hf
      exact mret_l hx hb hr hlocks hP hD hS dX9_ofTwo_109 rfl
    · refine lv_lconst (v := (1 : Int64)) hx hb dX9_ofTwo_104 (by decide) ?_
      refine lv_goto (tgt := 109) hx hb dX9_ofTwo_105 (by decide) ?_
      cases hf
      exact mret_l hx hb hr hlocks hP hD hS dX9_ofTwo_109 rfl
  replace hf := (if_neg e1_35).symm.trans hf
  by_cases e1_36 : p0 = (36 : Int32)
  · replace hf := (if_pos e1_36).symm.trans hf
    refine lv_tableIn (off := 121) (tgt := 122) hx hb dX9_ofTwo_1 (by rw [e1_36]; decide) (by rw [e1_36]; decide) (by rw [e1_36]; rfl) (by decide) ?_
    refine lv_lload_n hx hb dX9_ofTwo_122 rfl (lv_at hl 1 rfl) ?_
    refine lv_lload_n hx hb dX9_ofTwo_123 rfl (lv_at hl 2 rfl) ?_
    refine W.lcmp hx hb dX9_ofTwo_124 ?_
    refine xif_le hx hb 132 dX9_ofTwo_125 (by decide) hf (fun hf => ?_) (fun hf => ?_)
    · refine lv_lconst (v := (0 : Int64)) hx hb dX9_ofTwo_132 (by decide) ?_
      cases hf
      exact mret_l hx hb hr hlocks hP hD hS dX9_ofTwo_133 rfl
    · refine lv_lconst (v := (1 : Int64)) hx hb dX9_ofTwo_128 (by decide) ?_
      refine lv_goto (tgt := 133) hx hb dX9_ofTwo_129 (by decide) ?_
      cases hf
      exact mret_l hx hb hr hlocks hP hD hS dX9_ofTwo_133 rfl
  replace hf := (if_neg e1_36).symm.trans hf
  by_cases e1_37 : p0 = (37 : Int32)
  · replace hf := (if_pos e1_37).symm.trans hf
    refine lv_tableIn (off := 145) (tgt := 146) hx hb dX9_ofTwo_1 (by rw [e1_37]; decide) (by rw [e1_37]; decide) (by rw [e1_37]; rfl) (by decide) ?_
    refine lv_lload_n hx hb dX9_ofTwo_146 rfl (lv_at hl 1 rfl) ?_
    refine lv_lload_n hx hb dX9_ofTwo_147 rfl (lv_at hl 2 rfl) ?_
    refine W.lcmp hx hb dX9_ofTwo_148 ?_
    refine xif_ne hx hb 156 dX9_ofTwo_149 (by decide) hf (fun hf => ?_) (fun hf => ?_)
    · refine lv_lconst (v := (1 : Int64)) hx hb dX9_ofTwo_152 (by decide) ?_
      refine lv_goto (tgt := 157) hx hb dX9_ofTwo_153 (by decide) ?_
      cases hf
      exact mret_l hx hb hr hlocks hP hD hS dX9_ofTwo_157 rfl
    · refine lv_lconst (v := (0 : Int64)) hx hb dX9_ofTwo_156 (by decide) ?_
      cases hf
      exact mret_l hx hb hr hlocks hP hD hS dX9_ofTwo_157 rfl
  replace hf := (if_neg e1_37).symm.trans hf
  by_cases e1_39 : p0 = (39 : Int32)
  · replace hf := (if_pos e1_39).symm.trans hf
    refine lv_tableIn (off := 63) (tgt := 64) hx hb dX9_ofTwo_1 (by rw [e1_39]; decide) (by rw [e1_39]; decide) (by rw [e1_39]; rfl) (by decide) ?_
    refine lv_lload_n hx hb dX9_ofTwo_64 rfl (lv_at hl 1 rfl) ?_
    refine lv_lload_n hx hb dX9_ofTwo_65 rfl (lv_at hl 2 rfl) ?_
    refine lv_ladd hx hb dX9_ofTwo_66 ?_
    cases hf
    exact mret_l hx hb hr hlocks hP hD hS dX9_ofTwo_67 rfl
  replace hf := (if_neg e1_39).symm.trans hf
  by_cases e1_40 : p0 = (40 : Int32)
  · replace hf := (if_pos e1_40).symm.trans hf
    refine lv_tableIn (off := 67) (tgt := 68) hx hb dX9_ofTwo_1 (by rw [e1_40]; decide) (by rw [e1_40]; decide) (by rw [e1_40]; rfl) (by decide) ?_
    refine lv_lload_n hx hb dX9_ofTwo_68 rfl (lv_at hl 1 rfl) ?_
    refine lv_lload_n hx hb dX9_ofTwo_69 rfl (lv_at hl 2 rfl) ?_
    refine lv_lsub hx hb dX9_ofTwo_70 ?_
    cases hf
    exact mret_l hx hb hr hlocks hP hD hS dX9_ofTwo_71 rfl
  replace hf := (if_neg e1_40).symm.trans hf
  by_cases e1_41 : p0 = (41 : Int32)
  · replace hf := (if_pos e1_41).symm.trans hf
    refine lv_tableIn (off := 71) (tgt := 72) hx hb dX9_ofTwo_1 (by rw [e1_41]; decide) (by rw [e1_41]; decide) (by rw [e1_41]; rfl) (by decide) ?_
    refine lv_lload_n hx hb dX9_ofTwo_72 rfl (lv_at hl 1 rfl) ?_
    refine lv_lload_n hx hb dX9_ofTwo_73 rfl (lv_at hl 2 rfl) ?_
    refine lv_lmul hx hb dX9_ofTwo_74 ?_
    cases hf
    exact mret_l hx hb hr hlocks hP hD hS dX9_ofTwo_75 rfl
  replace hf := (if_neg e1_41).symm.trans hf
  by_cases e1_42 : p0 = (42 : Int32)
  · replace hf := (if_pos e1_42).symm.trans hf
    refine lv_tableIn (off := 75) (tgt := 76) hx hb dX9_ofTwo_1 (by rw [e1_42]; decide) (by rw [e1_42]; decide) (by rw [e1_42]; rfl) (by decide) ?_
    refine lv_lload_n hx hb dX9_ofTwo_76 rfl (lv_at hl 2 rfl) ?_
    refine lv_lconst (v := (0 : Int64)) hx hb dX9_ofTwo_77 (by decide) ?_
    refine W.lcmp hx hb dX9_ofTwo_78 ?_
    refine xif_ne hx hb 86 dX9_ofTwo_79 (by decide) hf (fun hf => ?_) (fun hf => ?_)
    · refine lv_lconst (v := (0 : Int64)) hx hb dX9_ofTwo_82 (by decide) ?_
      refine lv_goto (tgt := 89) hx hb dX9_ofTwo_83 (by decide) ?_
      cases hf
      exact mret_l hx hb hr hlocks hP hD hS dX9_ofTwo_89 rfl
    · refine lv_lload_n hx hb dX9_ofTwo_86 rfl (lv_at hl 1 rfl) ?_
      refine lv_lload_n hx hb dX9_ofTwo_87 rfl (lv_at hl 2 rfl) ?_
      refine xldiv hx hb dX9_ofTwo_88 hf (fun v88 hf => ?_)
      cases hf
      exact mret_l hx hb hr hlocks hP hD hS dX9_ofTwo_89 rfl
  replace hf := (if_neg e1_42).symm.trans hf
  by_cases e1_38 : p0 = (38 : Int32)
  · refine lv_tableIn (off := 157) (tgt := 158) hx hb dX9_ofTwo_1 (by rw [e1_38]; decide) (by rw [e1_38]; decide) (by rw [e1_38]; rfl) (by decide) ?_
    exact b158 p1 p3 _ _ _ hf hP hD hS (lv_sub hl [1, 2] rfl)
  have ne1_31 : p0.toInt ≠ (31 : Int) := sw_ne e1_31
  have ne1_32 : p0.toInt ≠ (32 : Int) := sw_ne e1_32
  have ne1_33 : p0.toInt ≠ (33 : Int) := sw_ne e1_33
  have ne1_34 : p0.toInt ≠ (34 : Int) := sw_ne e1_34
  have ne1_35 : p0.toInt ≠ (35 : Int) := sw_ne e1_35
  have ne1_36 : p0.toInt ≠ (36 : Int) := sw_ne e1_36
  have ne1_37 : p0.toInt ≠ (37 : Int) := sw_ne e1_37
  have ne1_38 : p0.toInt ≠ (38 : Int) := sw_ne e1_38
  have ne1_39 : p0.toInt ≠ (39 : Int) := sw_ne e1_39
  have ne1_40 : p0.toInt ≠ (40 : Int) := sw_ne e1_40
  have ne1_41 : p0.toInt ≠ (41 : Int) := sw_ne e1_41
  have ne1_42 : p0.toInt ≠ (42 : Int) := sw_ne e1_42
  refine lv_tableOut (tgt := 158) hx hb dX9_ofTwo_1 (by omega) (by decide) ?_
  exact b158 p1 p3 _ _ _ hf hP hD hS (lv_sub hl [1, 2] rfl)
theorem dX9_value_0 : decode cX9_value 0 = .ok (.aload_n 0, 1) := by decide +kernel
theorem dX9_value_1 : decode cX9_value 1 = .ok (.iload_n 1, 1) := by decide +kernel
theorem dX9_value_2 : decode cX9_value 2 = .ok (.invokevirtual 44, 3) := by decide +kernel
theorem dX9_value_5 : decode cX9_value 5 = .ok (.ifCond .ne 5, 3) := by decide +kernel
theorem dX9_value_8 : decode cX9_value 8 = .ok (.iconst 0, 1) := by decide +kernel
theorem dX9_value_9 : decode cX9_value 9 = .ok (.ireturn, 1) := by decide +kernel
theorem dX9_value_10 : decode cX9_value 10 = .ok (.iconst 0, 1) := by decide +kernel
theorem dX9_value_11 : decode cX9_value 11 = .ok (.istore 5, 2) := by decide +kernel
theorem dX9_value_13 : decode cX9_value 13 = .ok (.aload_n 0, 1) := by decide +kernel
theorem dX9_value_14 : decode cX9_value 14 = .ok (.getfield 27, 3) := by decide +kernel
theorem dX9_value_17 : decode cX9_value 17 = .ok (.iload_n 1, 1) := by decide +kernel
theorem dX9_value_18 : decode cX9_value 18 = .ok (.iaload, 1) := by decide +kernel
theorem dX9_value_19 : decode cX9_value 19 = .ok (.istore 6, 2) := by decide +kernel
theorem dX9_value_21 : decode cX9_value 21 = .ok (.iconst 0, 1) := by decide +kernel
theorem dX9_value_22 : decode cX9_value 22 = .ok (.istore 7, 2) := by decide +kernel
theorem dX9_value_24 : decode cX9_value 24 = .ok (.iload 7, 2) := by decide +kernel
theorem dX9_value_26 : decode cX9_value 26 = .ok (.sipush 301, 3) := by decide +kernel
theorem dX9_value_29 : decode cX9_value 29 = .ok (.if_icmp .ge 322, 3) := by decide +kernel
theorem dX9_value_32 : decode cX9_value 32 = .ok (.iload 6, 2) := by decide +kernel
theorem dX9_value_34 : decode cX9_value 34 = .ok (.ifCond .lt 317, 3) := by decide +kernel
theorem dX9_value_37 : decode cX9_value 37 = .ok (.iload 6, 2) := by decide +kernel
theorem dX9_value_39 : decode cX9_value 39 = .ok (.aload_n 0, 1) := by decide +kernel
theorem dX9_value_40 : decode cX9_value 40 = .ok (.getfield 30, 3) := by decide +kernel
theorem dX9_value_43 : decode cX9_value 43 = .ok (.iload_n 1, 1) := by decide +kernel
theorem dX9_value_44 : decode cX9_value 44 = .ok (.iaload, 1) := by decide +kernel
theorem dX9_value_45 : decode cX9_value 45 = .ok (.if_icmp .ge 306, 3) := by decide +kernel
theorem dX9_value_48 : decode cX9_value 48 = .ok (.iload 6, 2) := by decide +kernel
theorem dX9_value_50 : decode cX9_value 50 = .ok (.sipush 301, 3) := by decide +kernel
theorem dX9_value_53 : decode cX9_value 53 = .ok (.if_icmp .ge 298, 3) := by decide +kernel
theorem dX9_value_56 : decode cX9_value 56 = .ok (.aload_n 0, 1) := by decide +kernel
theorem dX9_value_57 : decode cX9_value 57 = .ok (.getfield 23, 3) := by decide +kernel
theorem dX9_value_60 : decode cX9_value 60 = .ok (.iload 6, 2) := by decide +kernel
theorem dX9_value_62 : decode cX9_value 62 = .ok (.iaload, 1) := by decide +kernel
theorem dX9_value_63 : decode cX9_value 63 = .ok (.bipush 63, 2) := by decide +kernel
theorem dX9_value_65 : decode cX9_value 65 = .ok (.iand, 1) := by decide +kernel
theorem dX9_value_66 : decode cX9_value 66 = .ok (.istore 8, 2) := by decide +kernel
theorem dX9_value_68 : decode cX9_value 68 = .ok (.aload_n 0, 1) := by decide +kernel
theorem dX9_value_69 : decode cX9_value 69 = .ok (.getfield 23, 3) := by decide +kernel
theorem dX9_value_72 : decode cX9_value 72 = .ok (.iload 6, 2) := by decide +kernel
theorem dX9_value_74 : decode cX9_value 74 = .ok (.iaload, 1) := by decide +kernel
theorem dX9_value_75 : decode cX9_value 75 = .ok (.bipush 6, 2) := by decide +kernel
theorem dX9_value_77 : decode cX9_value 77 = .ok (.ishr, 1) := by decide +kernel
theorem dX9_value_78 : decode cX9_value 78 = .ok (.istore 9, 2) := by decide +kernel
theorem dX9_value_80 : decode cX9_value 80 = .ok (.iload 8, 2) := by decide +kernel
theorem dX9_value_82 : decode cX9_value 82 = .ok (.bipush 11, 2) := by decide +kernel
theorem dX9_value_84 : decode cX9_value 84 = .ok (.isub, 1) := by decide +kernel
theorem dX9_value_85 : decode cX9_value 85 = .ok (.istore 10, 2) := by decide +kernel
theorem dX9_value_87 : decode cX9_value 87 = .ok (.iload 5, 2) := by decide +kernel
theorem dX9_value_89 : decode cX9_value 89 = .ok (.iconst 1, 1) := by decide +kernel
theorem dX9_value_90 : decode cX9_value 90 = .ok (.isub, 1) := by decide +kernel
theorem dX9_value_91 : decode cX9_value 91 = .ok (.iconst 0, 1) := by decide +kernel
theorem dX9_value_92 : decode cX9_value 92 = .ok (.invokestatic 48, 3) := by decide +kernel
theorem dX9_value_95 : decode cX9_value 95 = .ok (.istore 11, 2) := by decide +kernel
theorem dX9_value_97 : decode cX9_value 97 = .ok (.iinc 6 1, 3) := by decide +kernel
theorem dX9_value_100 : decode cX9_value 100 = .ok (.iload 8, 2) := by decide +kernel
theorem dX9_value_102 : decode cX9_value 102 = .ok (.bipush 28, 2) := by decide +kernel
theorem dX9_value_104 : decode cX9_value 104 = .ok (.if_icmp .ne 10, 3) := by decide +kernel
theorem dX9_value_107 : decode cX9_value 107 = .ok (.iload 9, 2) := by decide +kernel
theorem dX9_value_109 : decode cX9_value 109 = .ok (.istore 6, 2) := by decide +kernel
theorem dX9_value_111 : decode cX9_value 111 = .ok (.goto 234, 3) := by decide +kernel
theorem dX9_value_114 : decode cX9_value 114 = .ok (.iload 8, 2) := by decide +kernel
theorem dX9_value_116 : decode cX9_value 116 = .ok (.bipush 27, 2) := by decide +kernel
theorem dX9_value_118 : decode cX9_value 118 = .ok (.if_icmp .ne 27, 3) := by decide +kernel
theorem dX9_value_121 : decode cX9_value 121 = .ok (.iload 11, 2) := by decide +kernel
theorem dX9_value_123 : decode cX9_value 123 = .ok (.istore 5, 2) := by decide +kernel
theorem dX9_value_125 : decode cX9_value 125 = .ok (.aload 4, 2) := by decide +kernel
theorem dX9_value_127 : decode cX9_value 127 = .ok (.iload 11, 2) := by decide +kernel
theorem dX9_value_129 : decode cX9_value 129 = .ok (.iaload, 1) := by decide +kernel
theorem dX9_value_130 : decode cX9_value 130 = .ok (.ifCond .ne 8, 3) := by decide +kernel
theorem dX9_value_133 : decode cX9_value 133 = .ok (.iload 9, 2) := by decide +kernel
theorem dX9_value_135 : decode cX9_value 135 = .ok (.goto 5, 3) := by decide +kernel
theorem dX9_value_138 : decode cX9_value 138 = .ok (.iload 6, 2) := by decide +kernel
theorem dX9_value_140 : decode cX9_value 140 = .ok (.istore 6, 2) := by decide +kernel
theorem dX9_value_142 : decode cX9_value 142 = .ok (.goto 203, 3) := by decide +kernel
theorem dX9_value_145 : decode cX9_value 145 = .ok (.iload 8, 2) := by decide +kernel
theorem dX9_value_147 : decode cX9_value 147 = .ok (.bipush 46, 2) := by decide +kernel
theorem dX9_value_149 : decode cX9_value 149 = .ok (.if_icmp .eq 15, 3) := by decide +kernel
theorem dX9_value_152 : decode cX9_value 152 = .ok (.iload 10, 2) := by decide +kernel
theorem dX9_value_154 : decode cX9_value 154 = .ok (.ifCond .lt 45, 3) := by decide +kernel
theorem dX9_value_157 : decode cX9_value 157 = .ok (.iload 10, 2) := by decide +kernel
theorem dX9_value_159 : decode cX9_value 159 = .ok (.aload_n 2, 1) := by decide +kernel
theorem dX9_value_160 : decode cX9_value 160 = .ok (.arraylength, 1) := by decide +kernel
theorem dX9_value_161 : decode cX9_value 161 = .ok (.if_icmp .ge 38, 3) := by decide +kernel
theorem dX9_value_164 : decode cX9_value 164 = .ok (.iload 5, 2) := by decide +kernel
theorem dX9_value_166 : decode cX9_value 166 = .ok (.aload 4, 2) := by decide +kernel
theorem dX9_value_168 : decode cX9_value 168 = .ok (.arraylength, 1) := by decide +kernel
theorem dX9_value_169 : decode cX9_value 169 = .ok (.if_icmp .ge 176, 3) := by decide +kernel
theorem dX9_value_172 : decode cX9_value 172 = .ok (.aload 4, 2) := by decide +kernel
theorem dX9_value_174 : decode cX9_value 174 = .ok (.iload 5, 2) := by decide +kernel
theorem dX9_value_176 : decode cX9_value 176 = .ok (.iload 8, 2) := by decide +kernel
theorem dX9_value_178 : decode cX9_value 178 = .ok (.bipush 46, 2) := by decide +kernel
theorem dX9_value_180 : decode cX9_value 180 = .ok (.if_icmp .ne 8, 3) := by decide +kernel
theorem dX9_value_183 : decode cX9_value 183 = .ok (.iload 9, 2) := by decide +kernel
theorem dX9_value_185 : decode cX9_value 185 = .ok (.goto 7, 3) := by decide +kernel
theorem dX9_value_188 : decode cX9_value 188 = .ok (.aload_n 2, 1) := by decide +kernel
theorem dX9_value_189 : decode cX9_value 189 = .ok (.iload 10, 2) := by decide +kernel
theorem dX9_value_191 : decode cX9_value 191 = .ok (.iaload, 1) := by decide +kernel
theorem dX9_value_192 : decode cX9_value 192 = .ok (.iastore, 1) := by decide +kernel
theorem dX9_value_193 : decode cX9_value 193 = .ok (.iinc 5 1, 3) := by decide +kernel
theorem dX9_value_196 : decode cX9_value 196 = .ok (.goto 149, 3) := by decide +kernel
theorem dX9_value_199 : decode cX9_value 199 = .ok (.iload 8, 2) := by decide +kernel
theorem dX9_value_201 : decode cX9_value 201 = .ok (.bipush 25, 2) := by decide +kernel
theorem dX9_value_203 : decode cX9_value 203 = .ok (.if_icmp .ne 20, 3) := by decide +kernel
theorem dX9_value_206 : decode cX9_value 206 = .ok (.aload 4, 2) := by decide +kernel
theorem dX9_value_208 : decode cX9_value 208 = .ok (.iload 11, 2) := by decide +kernel
theorem dX9_value_210 : decode cX9_value 210 = .ok (.aload_n 3, 1) := by decide +kernel
theorem dX9_value_211 : decode cX9_value 211 = .ok (.aload 4, 2) := by decide +kernel
theorem dX9_value_213 : decode cX9_value 213 = .ok (.iload 11, 2) := by decide +kernel
theorem dX9_value_215 : decode cX9_value 215 = .ok (.iaload, 1) := by decide +kernel
theorem dX9_value_216 : decode cX9_value 216 = .ok (.invokevirtual 54, 3) := by decide +kernel
theorem dX9_value_219 : decode cX9_value 219 = .ok (.iastore, 1) := by decide +kernel
theorem dX9_value_220 : decode cX9_value 220 = .ok (.goto 125, 3) := by decide +kernel
theorem dX9_value_223 : decode cX9_value 223 = .ok (.iload 8, 2) := by decide +kernel
theorem dX9_value_225 : decode cX9_value 225 = .ok (.bipush 24, 2) := by decide +kernel
theorem dX9_value_227 : decode cX9_value 227 = .ok (.if_icmp .ne 22, 3) := by decide +kernel
theorem dX9_value_230 : decode cX9_value 230 = .ok (.aload 4, 2) := by decide +kernel
theorem dX9_value_232 : decode cX9_value 232 = .ok (.iload 11, 2) := by decide +kernel
theorem dX9_value_234 : decode cX9_value 234 = .ok (.aload 4, 2) := by decide +kernel
theorem dX9_value_236 : decode cX9_value 236 = .ok (.iload 11, 2) := by decide +kernel
theorem dX9_value_238 : decode cX9_value 238 = .ok (.iaload, 1) := by decide +kernel
theorem dX9_value_239 : decode cX9_value 239 = .ok (.invokestatic 60, 3) := by decide +kernel
theorem dX9_value_242 : decode cX9_value 242 = .ok (.invokestatic 63, 3) := by decide +kernel
theorem dX9_value_245 : decode cX9_value 245 = .ok (.iastore, 1) := by decide +kernel
theorem dX9_value_246 : decode cX9_value 246 = .ok (.goto 99, 3) := by decide +kernel
theorem dX9_value_249 : decode cX9_value 249 = .ok (.iload 8, 2) := by decide +kernel
theorem dX9_value_251 : decode cX9_value 251 = .ok (.bipush 30, 2) := by decide +kernel
theorem dX9_value_253 : decode cX9_value 253 = .ok (.if_icmp .ne 18, 3) := by decide +kernel
theorem dX9_value_256 : decode cX9_value 256 = .ok (.aload 4, 2) := by decide +kernel
theorem dX9_value_258 : decode cX9_value 258 = .ok (.iload 11, 2) := by decide +kernel
theorem dX9_value_260 : decode cX9_value 260 = .ok (.iconst 1, 1) := by decide +kernel
theorem dX9_value_261 : decode cX9_value 261 = .ok (.aload 4, 2) := by decide +kernel
theorem dX9_value_263 : decode cX9_value 263 = .ok (.iload 11, 2) := by decide +kernel
theorem dX9_value_265 : decode cX9_value 265 = .ok (.iaload, 1) := by decide +kernel
theorem dX9_value_266 : decode cX9_value 266 = .ok (.isub, 1) := by decide +kernel
theorem dX9_value_267 : decode cX9_value 267 = .ok (.iastore, 1) := by decide +kernel
theorem dX9_value_268 : decode cX9_value 268 = .ok (.goto 77, 3) := by decide +kernel
theorem dX9_value_271 : decode cX9_value 271 = .ok (.iload 8, 2) := by decide +kernel
theorem dX9_value_273 : decode cX9_value 273 = .ok (.bipush 49, 2) := by decide +kernel
theorem dX9_value_275 : decode cX9_value 275 = .ok (.if_icmp .ne 17, 3) := by decide +kernel
theorem dX9_value_278 : decode cX9_value 278 = .ok (.aload 4, 2) := by decide +kernel
theorem dX9_value_280 : decode cX9_value 280 = .ok (.iload 11, 2) := by decide +kernel
theorem dX9_value_282 : decode cX9_value 282 = .ok (.aload 4, 2) := by decide +kernel
theorem dX9_value_284 : decode cX9_value 284 = .ok (.iload 11, 2) := by decide +kernel
theorem dX9_value_286 : decode cX9_value 286 = .ok (.iaload, 1) := by decide +kernel
theorem dX9_value_287 : decode cX9_value 287 = .ok (.ineg, 1) := by decide +kernel
theorem dX9_value_288 : decode cX9_value 288 = .ok (.iastore, 1) := by decide +kernel
theorem dX9_value_289 : decode cX9_value 289 = .ok (.goto 56, 3) := by decide +kernel
theorem dX9_value_292 : decode cX9_value 292 = .ok (.iload 5, 2) := by decide +kernel
theorem dX9_value_294 : decode cX9_value 294 = .ok (.iconst 2, 1) := by decide +kernel
theorem dX9_value_295 : decode cX9_value 295 = .ok (.if_icmp .lt 50, 3) := by decide +kernel
theorem dX9_value_298 : decode cX9_value 298 = .ok (.iload 11, 2) := by decide +kernel
theorem dX9_value_300 : decode cX9_value 300 = .ok (.istore 5, 2) := by decide +kernel
theorem dX9_value_302 : decode cX9_value 302 = .ok (.iload 8, 2) := by decide +kernel
theorem dX9_value_304 : decode cX9_value 304 = .ok (.aload 4, 2) := by decide +kernel
theorem dX9_value_306 : decode cX9_value 306 = .ok (.iload 11, 2) := by decide +kernel
theorem dX9_value_308 : decode cX9_value 308 = .ok (.iconst 1, 1) := by decide +kernel
theorem dX9_value_309 : decode cX9_value 309 = .ok (.isub, 1) := by decide +kernel
theorem dX9_value_310 : decode cX9_value 310 = .ok (.iaload, 1) := by decide +kernel
theorem dX9_value_311 : decode cX9_value 311 = .ok (.i2l, 1) := by decide +kernel
theorem dX9_value_312 : decode cX9_value 312 = .ok (.aload 4, 2) := by decide +kernel
theorem dX9_value_314 : decode cX9_value 314 = .ok (.iload 11, 2) := by decide +kernel
theorem dX9_value_316 : decode cX9_value 316 = .ok (.iaload, 1) := by decide +kernel
theorem dX9_value_317 : decode cX9_value 317 = .ok (.i2l, 1) := by decide +kernel
theorem dX9_value_318 : decode cX9_value 318 = .ok (.invokestatic 68, 3) := by decide +kernel
theorem dX9_value_321 : decode cX9_value 321 = .ok (.lstore 12, 2) := by decide +kernel
theorem dX9_value_323 : decode cX9_value 323 = .ok (.aload 4, 2) := by decide +kernel
theorem dX9_value_325 : decode cX9_value 325 = .ok (.iload 11, 2) := by decide +kernel
theorem dX9_value_327 : decode cX9_value 327 = .ok (.iconst 1, 1) := by decide +kernel
theorem dX9_value_328 : decode cX9_value 328 = .ok (.isub, 1) := by decide +kernel
theorem dX9_value_329 : decode cX9_value 329 = .ok (.ldc2_w 72, 3) := by decide +kernel
theorem dX9_value_332 : decode cX9_value 332 = .ok (.ldc2_w 74, 3) := by decide +kernel
theorem dX9_value_335 : decode cX9_value 335 = .ok (.lload 12, 2) := by decide +kernel
theorem dX9_value_337 : decode cX9_value 337 = .ok (.invokestatic 76, 3) := by decide +kernel
theorem dX9_value_340 : decode cX9_value 340 = .ok (.invokestatic 80, 3) := by decide +kernel
theorem dX9_value_343 : decode cX9_value 343 = .ok (.l2i, 1) := by decide +kernel
theorem dX9_value_344 : decode cX9_value 344 = .ok (.iastore, 1) := by decide +kernel
theorem dX9_value_345 : decode cX9_value 345 = .ok (.iinc 7 1, 3) := by decide +kernel
theorem dX9_value_348 : decode cX9_value 348 = .ok (.goto (-324), 3) := by decide +kernel
theorem dX9_value_351 : decode cX9_value 351 = .ok (.aload 4, 2) := by decide +kernel
theorem dX9_value_353 : decode cX9_value 353 = .ok (.iconst 0, 1) := by decide +kernel
theorem dX9_value_354 : decode cX9_value 354 = .ok (.iaload, 1) := by decide +kernel
theorem dX9_value_355 : decode cX9_value 355 = .ok (.ireturn, 1) := by decide +kernel
def f_X9_value_351 (N : Nat) (x_code : Nat → Int32) (x_st : Nat → Int32) (x_en : Nat → Int32) (w_names : Nat → Int32) (f_row : Nat → Int32) (f_fears : Nat → Int32) (w_stack : Nat → Int32) : Option (Int32 × (Nat → Int32)) := gA w_stack 64 (0 : Int32) fun v354 => some (v354, w_stack)
def f_X9_value_345 (N : Nat) (k_24 : (Nat → Int32) → (Nat → Int32) → (Nat → Int32) → (Nat → Int32) → (Nat → Int32) → (Nat → Int32) → (Nat → Int32) → Int32 → Int32 → Int32 → Int32 → Option (Int32 × (Nat → Int32))) (x_code : Nat → Int32) (x_st : Nat → Int32) (x_en : Nat → Int32) (w_names : Nat → Int32) (f_row : Nat → Int32) (f_fears : Nat → Int32) (w_stack : Nat → Int32) (x1 : Int32) (x5 : Int32) (x6 : Int32) (x7 : Int32) : Option (Int32 × (Nat → Int32)) := k_24 x_code x_st x_en w_names f_row f_fears w_stack x1 x5 x6 (x7 + (1 : Int32))
def f_X9_value_192 (N : Nat) (k_24 : (Nat → Int32) → (Nat → Int32) → (Nat → Int32) → (Nat → Int32) → (Nat → Int32) → (Nat → Int32) → (Nat → Int32) → Int32 → Int32 → Int32 → Int32 → Option (Int32 × (Nat → Int32))) (x_code : Nat → Int32) (x_st : Nat → Int32) (x_en : Nat → Int32) (w_names : Nat → Int32) (f_row : Nat → Int32) (f_fears : Nat → Int32) (w_stack : Nat → Int32) (x1 : Int32) (x5 : Int32) (x6 : Int32) (x7 : Int32) (s1 : Int32) (s2 : Int32) : Option (Int32 × (Nat → Int32)) := sA w_stack 64 s1 s2 fun w_stack_192 => f_X9_value_345 N k_24 x_code x_st x_en w_names f_row f_fears w_stack_192 x1 (x5 + (1 : Int32)) x6 x7
def f_X9_value_164 (N : Nat) (k_24 : (Nat → Int32) → (Nat → Int32) → (Nat → Int32) → (Nat → Int32) → (Nat → Int32) → (Nat → Int32) → (Nat → Int32) → Int32 → Int32 → Int32 → Int32 → Option (Int32 × (Nat → Int32))) (x_code : Nat → Int32) (x_st : Nat → Int32) (x_en : Nat → Int32) (w_names : Nat → Int32) (f_row : Nat → Int32) (f_fears : Nat → Int32) (w_stack : Nat → Int32) (x1 : Int32) (x5 : Int32) (x6 : Int32) (x7 : Int32) (x8 : Int32) (x9 : Int32) (x10 : Int32) : Option (Int32 × (Nat → Int32)) := if (64 : Int32) ≤ x5 then (f_X9_value_345 N k_24 x_code x_st x_en w_names f_row f_fears w_stack x1 x5 x6 x7) else (if x8 = (46 : Int32) then (f_X9_value_192 N k_24 x_code x_st x_en w_names f_row f_fears w_stack x1 x5 x6 x7 x5 x9) else (gA w_names 10 x10 fun v191 => f_X9_value_192 N k_24 x_code x_st x_en w_names f_row f_fears w_stack x1 x5 x6 x7 x5 v191))
def f_X9_value_199 (N : Nat) (k_24 : (Nat → Int32) → (Nat → Int32) → (Nat → Int32) → (Nat → Int32) → (Nat → Int32) → (Nat → Int32) → (Nat → Int32) → Int32 → Int32 → Int32 → Int32 → Option (Int32 × (Nat → Int32))) (x_code : Nat → Int32) (x_st : Nat → Int32) (x_en : Nat → Int32) (w_names : Nat → Int32) (f_row : Nat → Int32) (f_fears : Nat → Int32) (w_stack : Nat → Int32) (x1 : Int32) (x5 : Int32) (x6 : Int32) (x7 : Int32) (x8 : Int32) (x11 : Int32) : Option (Int32 × (Nat → Int32)) := if x8 = (25 : Int32) then (gA w_stack 64 x11 fun v215 => ob1 (f_X1_fearOf N f_row f_fears v215) fun r216 => sA w_stack 64 x11 r216 fun w_stack_219 => f_X9_value_345 N k_24 x_code x_st x_en w_names f_row f_fears w_stack_219 x1 x5 x6 x7) else (if x8 = (24 : Int32) then (gA w_stack 64 x11 fun v238 => ob1 (f_J6_bitCount_0f7a4 N (abI v238)) fun r242 => sA w_stack 64 x11 r242 fun w_stack_245 => f_X9_value_345 N k_24 x_code x_st x_en w_names f_row f_fears w_stack_245 x1 x5 x6 x7) else (if x8 = (30 : Int32) then (gA w_stack 64 x11 fun v265 => sA w_stack 64 x11 ((1 : Int32) - v265) fun w_stack_267 => f_X9_value_345 N k_24 x_code x_st x_en w_names f_row f_fears w_stack_267 x1 x5 x6 x7) else (if x8 = (49 : Int32) then (gA w_stack 64 x11 fun v286 => sA w_stack 64 x11 (-v286) fun w_stack_288 => f_X9_value_345 N k_24 x_code x_st x_en w_names f_row f_fears w_stack_288 x1 x5 x6 x7) else (if x5 < (2 : Int32) then (f_X9_value_345 N k_24 x_code x_st x_en w_names f_row f_fears w_stack x1 x5 x6 x7) else (gA w_stack 64 (x11 - (1 : Int32)) fun v310 => gA w_stack 64 x11 fun v316 => ob1 (f_X9_ofTwo N x8 v310.toInt64 v316.toInt64) fun r318 => sA w_stack 64 (x11 - (1 : Int32)) ((mxL (-1000000 : Int64) (mnL (1000000 : Int64) r318)).toInt32) fun w_stack_344 => f_X9_value_345 N k_24 x_code x_st x_en w_names f_row f_fears w_stack_344 x1 x11 x6 x7)))))
def f_X9_value_140 (N : Nat) (k_24 : (Nat → Int32) → (Nat → Int32) → (Nat → Int32) → (Nat → Int32) → (Nat → Int32) → (Nat → Int32) → (Nat → Int32) → Int32 → Int32 → Int32 → Int32 → Option (Int32 × (Nat → Int32))) (x_code : Nat → Int32) (x_st : Nat → Int32) (x_en : Nat → Int32) (w_names : Nat → Int32) (f_row : Nat → Int32) (f_fears : Nat → Int32) (w_stack : Nat → Int32) (x1 : Int32) (x5 : Int32) (x7 : Int32) (s0 : Int32) : Option (Int32 × (Nat → Int32)) := f_X9_value_345 N k_24 x_code x_st x_en w_names f_row f_fears w_stack x1 x5 s0 x7
def f_X9_value_24 (N : Nat) : Nat → (Nat → Int32) → (Nat → Int32) → (Nat → Int32) → (Nat → Int32) → (Nat → Int32) → (Nat → Int32) → (Nat → Int32) → Int32 → Int32 → Int32 → Int32 → Option (Int32 × (Nat → Int32))
  | 0, _, _, _, _, _, _, _, _, _, _, _ => none
  | n + 1, x_code, x_st, x_en, w_names, f_row, f_fears, w_stack, x1, x5, x6, x7 => if (301 : Int32) ≤ x7 then (f_X9_value_351 N x_code x_st x_en w_names f_row f_fears w_stack) else (if x6 < 0 then (f_X9_value_351 N x_code x_st x_en w_names f_row f_fears w_stack) else (gA x_en 4 x1 fun v44 => if v44 ≤ x6 then (f_X9_value_351 N x_code x_st x_en w_names f_row f_fears w_stack) else (if (301 : Int32) ≤ x6 then (f_X9_value_351 N x_code x_st x_en w_names f_row f_fears w_stack) else (gA x_code 301 x6 fun v62 => gA x_code 301 x6 fun v74 => if (v62 &&& (63 : Int32)) = (28 : Int32) then (f_X9_value_345 N (f_X9_value_24 N n) x_code x_st x_en w_names f_row f_fears w_stack x1 x5 (v74 >>> ((6 : Int32) &&& 31)) x7) else (if (v62 &&& (63 : Int32)) = (27 : Int32) then (gA w_stack 64 (mxI (x5 - (1 : Int32)) (0 : Int32)) fun v129 => if v129 = 0 then (f_X9_value_140 N (f_X9_value_24 N n) x_code x_st x_en w_names f_row f_fears w_stack x1 (mxI (x5 - (1 : Int32)) (0 : Int32)) x7 (v74 >>> ((6 : Int32) &&& 31))) else (f_X9_value_140 N (f_X9_value_24 N n) x_code x_st x_en w_names f_row f_fears w_stack x1 (mxI (x5 - (1 : Int32)) (0 : Int32)) x7 (x6 + (1 : Int32)))) else (if (v62 &&& (63 : Int32)) = (46 : Int32) then (f_X9_value_164 N (f_X9_value_24 N n) x_code x_st x_en w_names f_row f_fears w_stack x1 x5 (x6 + (1 : Int32)) x7 (v62 &&& (63 : Int32)) (v74 >>> ((6 : Int32) &&& 31)) ((v62 &&& (63 : Int32)) - (11 : Int32))) else (if ((v62 &&& (63 : Int32)) - (11 : Int32)) < 0 then (f_X9_value_199 N (f_X9_value_24 N n) x_code x_st x_en w_names f_row f_fears w_stack x1 x5 (x6 + (1 : Int32)) x7 (v62 &&& (63 : Int32)) (mxI (x5 - (1 : Int32)) (0 : Int32))) else (if (10 : Int32) ≤ ((v62 &&& (63 : Int32)) - (11 : Int32)) then (f_X9_value_199 N (f_X9_value_24 N n) x_code x_st x_en w_names f_row f_fears w_stack x1 x5 (x6 + (1 : Int32)) x7 (v62 &&& (63 : Int32)) (mxI (x5 - (1 : Int32)) (0 : Int32))) else (f_X9_value_164 N (f_X9_value_24 N n) x_code x_st x_en w_names f_row f_fears w_stack x1 x5 (x6 + (1 : Int32)) x7 (v62 &&& (63 : Int32)) (v74 >>> ((6 : Int32) &&& 31)) ((v62 &&& (63 : Int32)) - (11 : Int32)))))))))))
def f_X9_value (N : Nat) (x_code : Nat → Int32) (x_st : Nat → Int32) (x_en : Nat → Int32) (w_names : Nat → Int32) (f_row : Nat → Int32) (f_fears : Nat → Int32) (w_stack : Nat → Int32) (p1 : Int32) : Option (Int32 × (Nat → Int32)) := ob1 (f_X9_begun N x_st p1) fun r2 => if r2 = 0 then (some ((0 : Int32), w_stack)) else (gA x_st 4 p1 fun v18 => f_X9_value_24 N N x_code x_st x_en w_names f_row f_fears w_stack p1 (0 : Int32) v18 (0 : Int32))
set_option maxHeartbeats 4000000 in
set_option maxRecDepth 100000 in
theorem k_X9_value (l : Launch) (N : Nat) (D : va_G) (cI cJ cZ cB cT : ClassId) (qx0 : Nat) (qx1 : Nat) (qx2 : Nat) (qx3 : Nat) (qw1 : Nat) (qf0 : Nat) (qf1 : Nat) (qf2 : Nat) (qw2 : Nat) (qx4 : Nat) (qf3 : Nat) (x_cl : Int32) (x_ln : Int32) (x_pt : Int32) (x_code : Nat → Int32) (x_st : Nat → Int32) (x_en : Nat → Int32) (w_names : Nat → Int32) (f_row : Nat → Int32) (f_fears : Nat → Int32) (w_stack : Nat → Int32) (p1 : Int32) (o_r : Int32) (o_w_stack : Nat → Int32) (hf : f_X9_value N x_code x_st x_en w_names f_row f_fears w_stack p1 = some (o_r, o_w_stack)) : ∀ sz, Met l yX9_value (mw yX9_value cX9_value 14 (some .int)) ({ frames := 1, cells := 0, slots := 0, locals := 40 } : Room) (mPre D (mT cI cJ cZ cB cT) (W_TXV_0t3_5t8_10 qx0 qx1 qx2 qx3 qw1 qf0 qf1 qf2 qw2 qx4 qf3 cI cJ cZ cB cT x_cl x_ln x_pt x_code x_st x_en w_names f_row f_fears w_stack) sz [.ref qx0, .int p1, .ref qw1, .ref qf0, .ref qw2]) ((mQi D (W_TXV_0t3_5t8_10 qx0 qx1 qx2 qx3 qw1 qf0 qf1 qf2 qw2 qx4 qf3 cI cJ cZ cB cT x_cl x_ln x_pt x_code x_st x_en w_names f_row f_fears o_w_stack) o_r True) (va_A (W_TXV_0t3_5t8_10 qx0 qx1 qx2 qx3 qw1 qf0 qf1 qf2 qw2 qx4 qf3 cI cJ cZ cB cT x_cl x_ln x_pt x_code x_st x_en w_names f_row f_fears w_stack) sz)) 0 0 (va_A (W_TXV_0t3_5t8_10 qx0 qx1 qx2 qx3 qw1 qf0 qf1 qf2 qw2 qx4 qf3 cI cJ cZ cB cT x_cl x_ln x_pt x_code x_st x_en w_names f_row f_fears w_stack) sz) := by
  refine mMet (Qc := (mQi D (W_TXV_0t3_5t8_10 qx0 qx1 qx2 qx3 qw1 qf0 qf1 qf2 qw2 qx4 qf3 cI cJ cZ cB cT x_cl x_ln x_pt x_code x_st x_en w_names f_row f_fears o_w_stack) o_r True)) (by decide) (Nat.le_of_ble_eq_true rfl) (fun p e s m below meth c A ls hx hb hr hml hts hown hlocks hK hA hP hD hl => ?_)
  have hown : s.vm.findClass RX9 = some m.cls := hown
  have hl : lv_has ls 14 [(0, .ref qx0), (1, .int p1), (2, .ref qw1), (3, .ref qf0), (4, .ref qw2)] := hl
  have hS : va_S A s.heap s.heap [] := va_S.rf
  have b351 : ∀ (w_stack : Nat → Int32) (H : Heap) (locs : List Loc) (ls : Array Slot), f_X9_value_351 N x_code x_st x_en w_names f_row f_fears w_stack = some (o_r, o_w_stack) → va_P D vwCl (W_TXV_0t3_5t8_10 qx0 qx1 qx2 qx3 qw1 qf0 qf1 qf2 qw2 qx4 qf3 cI cJ cZ cB cT x_cl x_ln x_pt x_code x_st x_en w_names f_row f_fears w_stack) H → va_D A (W_TXV_0t3_5t8_10 qx0 qx1 qx2 qx3 qw1 qf0 qf1 qf2 qw2 qx4 qf3 cI cJ cZ cB cT x_cl x_ln x_pt x_code x_st x_en w_names f_row f_fears w_stack) → va_S A s.heap H locs → lv_has ls 14 [(4, .ref qw2)] → W p l e ({ frames := 1, cells := 0, slots := 0, locals := 40 } : Room) s m ([.ref qx0, .int p1, .ref qw1, .ref qf0, .ref qw2] : List Value).toArray below meth c H locs 0 0 (MQ below ((mQi D (W_TXV_0t3_5t8_10 qx0 qx1 qx2 qx3 qw1 qf0 qf1 qf2 qw2 qx4 qf3 cI cJ cZ cB cT x_cl x_ln x_pt x_code x_st x_en w_names f_row f_fears o_w_stack) o_r True) A) ([.ref qx0, .int p1, .ref qw1, .ref qf0, .ref qw2] : List Value).toArray s 0 0 A) (F0 m 351 ls []) := by
    intro w_stack H locs ls hf hP hD hS hl
    unfold f_X9_value_351 at hf
    refine lv_aload hx hb dX9_value_351 (lv_at hl 0 rfl) ?_
    refine lv_iconst (v := (0 : Int32)) hx hb dX9_value_353 (by decide) ?_
    refine xiald hx hb hK hP 8 0 rfl rfl dX9_value_354 hf (fun v354 hf => ?_)
    cases hf
    exact mret_i hx hb hr hlocks hP hD hS dX9_value_355 rfl trivial
  have b24 : ∀ n24 : Nat, ∀ (w_stack : Nat → Int32) (x1 : Int32) (x5 : Int32) (x6 : Int32) (x7 : Int32) (H : Heap) (locs : List Loc) (ls : Array Slot), f_X9_value_24 N n24 x_code x_st x_en w_names f_row f_fears w_stack x1 x5 x6 x7 = some (o_r, o_w_stack) → va_P D vwCl (W_TXV_0t3_5t8_10 qx0 qx1 qx2 qx3 qw1 qf0 qf1 qf2 qw2 qx4 qf3 cI cJ cZ cB cT x_cl x_ln x_pt x_code x_st x_en w_names f_row f_fears w_stack) H → va_D A (W_TXV_0t3_5t8_10 qx0 qx1 qx2 qx3 qw1 qf0 qf1 qf2 qw2 qx4 qf3 cI cJ cZ cB cT x_cl x_ln x_pt x_code x_st x_en w_names f_row f_fears w_stack) → va_S A s.heap H locs → lv_has ls 14 [(0, .ref qx0), (1, .int x1), (2, .ref qw1), (3, .ref qf0), (4, .ref qw2), (5, .int x5), (6, .int x6), (7, .int x7)] → W p l e ({ frames := 1, cells := 0, slots := 0, locals := 40 } : Room) s m ([.ref qx0, .int p1, .ref qw1, .ref qf0, .ref qw2] : List Value).toArray below meth c H locs 0 0 (MQ below ((mQi D (W_TXV_0t3_5t8_10 qx0 qx1 qx2 qx3 qw1 qf0 qf1 qf2 qw2 qx4 qf3 cI cJ cZ cB cT x_cl x_ln x_pt x_code x_st x_en w_names f_row f_fears o_w_stack) o_r True) A) ([.ref qx0, .int p1, .ref qw1, .ref qf0, .ref qw2] : List Value).toArray s 0 0 A) (F0 m 24 ls []) := by
    intro n24
    induction n24 with
    | zero =>
      intro w_stack x1 x5 x6 x7 H locs ls hf hP hD hS hl
      simp [f_X9_value_24] at hf
    | succ n24 ih24 =>
      have b345 : ∀ (w_stack : Nat → Int32) (x1 : Int32) (x5 : Int32) (x6 : Int32) (x7 : Int32) (H : Heap) (locs : List Loc) (ls : Array Slot), f_X9_value_345 N (f_X9_value_24 N n24) x_code x_st x_en w_names f_row f_fears w_stack x1 x5 x6 x7 = some (o_r, o_w_stack) → va_P D vwCl (W_TXV_0t3_5t8_10 qx0 qx1 qx2 qx3 qw1 qf0 qf1 qf2 qw2 qx4 qf3 cI cJ cZ cB cT x_cl x_ln x_pt x_code x_st x_en w_names f_row f_fears w_stack) H → va_D A (W_TXV_0t3_5t8_10 qx0 qx1 qx2 qx3 qw1 qf0 qf1 qf2 qw2 qx4 qf3 cI cJ cZ cB cT x_cl x_ln x_pt x_code x_st x_en w_names f_row f_fears w_stack) → va_S A s.heap H locs → lv_has ls 14 [(0, .ref qx0), (1, .int x1), (2, .ref qw1), (3, .ref qf0), (4, .ref qw2), (5, .int x5), (6, .int x6), (7, .int x7)] → W p l e ({ frames := 1, cells := 0, slots := 0, locals := 40 } : Room) s m ([.ref qx0, .int p1, .ref qw1, .ref qf0, .ref qw2] : List Value).toArray below meth c H locs 0 0 (MQ below ((mQi D (W_TXV_0t3_5t8_10 qx0 qx1 qx2 qx3 qw1 qf0 qf1 qf2 qw2 qx4 qf3 cI cJ cZ cB cT x_cl x_ln x_pt x_code x_st x_en w_names f_row f_fears o_w_stack) o_r True) A) ([.ref qx0, .int p1, .ref qw1, .ref qf0, .ref qw2] : List Value).toArray s 0 0 A) (F0 m 345 ls []) := by
        intro w_stack x1 x5 x6 x7 H locs ls hf hP hD hS hl
        unfold f_X9_value_345 at hf
        refine lv_iinc (v := (x7 + (1 : Int32))) (lv' := [(7, .int (x7 + (1 : Int32))), (0, .ref qx0), (1, .int x1), (2, .ref qw1), (3, .ref qf0), (4, .ref qw2), (5, .int x5), (6, .int x6)]) hx hb dX9_value_345 hl (k := 7) rfl rfl (by decide) rfl (fun ls hl => ?_)
        refine lv_goto (tgt := 24) hx hb dX9_value_348 (by decide) ?_
        exact ih24 w_stack x1 x5 x6 (x7 + (1 : Int32)) _ _ _ hf hP hD hS (lv_sub hl [1, 2, 3, 4, 5, 6, 7, 0] rfl)
      have b192 : ∀ (w_stack : Nat → Int32) (x1 : Int32) (x5 : Int32) (x6 : Int32) (x7 : Int32) (s1 : Int32) (s2 : Int32) (H : Heap) (locs : List Loc) (ls : Array Slot), f_X9_value_192 N (f_X9_value_24 N n24) x_code x_st x_en w_names f_row f_fears w_stack x1 x5 x6 x7 s1 s2 = some (o_r, o_w_stack) → va_P D vwCl (W_TXV_0t3_5t8_10 qx0 qx1 qx2 qx3 qw1 qf0 qf1 qf2 qw2 qx4 qf3 cI cJ cZ cB cT x_cl x_ln x_pt x_code x_st x_en w_names f_row f_fears w_stack) H → va_D A (W_TXV_0t3_5t8_10 qx0 qx1 qx2 qx3 qw1 qf0 qf1 qf2 qw2 qx4 qf3 cI cJ cZ cB cT x_cl x_ln x_pt x_code x_st x_en w_names f_row f_fears w_stack) → va_S A s.heap H locs → lv_has ls 14 [(0, .ref qx0), (1, .int x1), (2, .ref qw1), (3, .ref qf0), (4, .ref qw2), (5, .int x5), (6, .int x6), (7, .int x7)] → W p l e ({ frames := 1, cells := 0, slots := 0, locals := 40 } : Room) s m ([.ref qx0, .int p1, .ref qw1, .ref qf0, .ref qw2] : List Value).toArray below meth c H locs 0 0 (MQ below ((mQi D (W_TXV_0t3_5t8_10 qx0 qx1 qx2 qx3 qw1 qf0 qf1 qf2 qw2 qx4 qf3 cI cJ cZ cB cT x_cl x_ln x_pt x_code x_st x_en w_names f_row f_fears o_w_stack) o_r True) A) ([.ref qx0, .int p1, .ref qw1, .ref qf0, .ref qw2] : List Value).toArray s 0 0 A) (F0 m 192 ls [.int s2, .int s1, .ref qw2]) := by
        intro w_stack x1 x5 x6 x7 s1 s2 H locs ls hf hP hD hS hl
        unfold f_X9_value_192 at hf
        refine xiast hx hb hK hP hD hS 8 0 rfl rfl dX9_value_192 hf (fun w_stack_192 hf H locs hP hD hS => ?_)
        have hP : va_P D vwCl (W_TXV_0t3_5t8_10 qx0 qx1 qx2 qx3 qw1 qf0 qf1 qf2 qw2 qx4 qf3 cI cJ cZ cB cT x_cl x_ln x_pt x_code x_st x_en w_names f_row f_fears w_stack_192) H := hP
        have hD : va_D A (W_TXV_0t3_5t8_10 qx0 qx1 qx2 qx3 qw1 qf0 qf1 qf2 qw2 qx4 qf3 cI cJ cZ cB cT x_cl x_ln x_pt x_code x_st x_en w_names f_row f_fears w_stack_192) := hD
        refine lv_iinc (v := (x5 + (1 : Int32))) (lv' := [(5, .int (x5 + (1 : Int32))), (0, .ref qx0), (1, .int x1), (2, .ref qw1), (3, .ref qf0), (4, .ref qw2), (6, .int x6), (7, .int x7)]) hx hb dX9_value_193 hl (k := 5) rfl rfl (by decide) rfl (fun ls hl => ?_)
        refine lv_goto (tgt := 345) hx hb dX9_value_196 (by decide) ?_
        exact b345 w_stack_192 x1 (x5 + (1 : Int32)) x6 x7 _ _ _ hf hP hD hS (lv_sub hl [1, 2, 3, 4, 5, 0, 6, 7] rfl)
      have b164 : ∀ (w_stack : Nat → Int32) (x1 : Int32) (x5 : Int32) (x6 : Int32) (x7 : Int32) (x8 : Int32) (x9 : Int32) (x10 : Int32) (H : Heap) (locs : List Loc) (ls : Array Slot), f_X9_value_164 N (f_X9_value_24 N n24) x_code x_st x_en w_names f_row f_fears w_stack x1 x5 x6 x7 x8 x9 x10 = some (o_r, o_w_stack) → va_P D vwCl (W_TXV_0t3_5t8_10 qx0 qx1 qx2 qx3 qw1 qf0 qf1 qf2 qw2 qx4 qf3 cI cJ cZ cB cT x_cl x_ln x_pt x_code x_st x_en w_names f_row f_fears w_stack) H → va_D A (W_TXV_0t3_5t8_10 qx0 qx1 qx2 qx3 qw1 qf0 qf1 qf2 qw2 qx4 qf3 cI cJ cZ cB cT x_cl x_ln x_pt x_code x_st x_en w_names f_row f_fears w_stack) → va_S A s.heap H locs → lv_has ls 14 [(0, .ref qx0), (1, .int x1), (2, .ref qw1), (3, .ref qf0), (4, .ref qw2), (5, .int x5), (6, .int x6), (7, .int x7), (8, .int x8), (9, .int x9), (10, .int x10)] → W p l e ({ frames := 1, cells := 0, slots := 0, locals := 40 } : Room) s m ([.ref qx0, .int p1, .ref qw1, .ref qf0, .ref qw2] : List Value).toArray below meth c H locs 0 0 (MQ below ((mQi D (W_TXV_0t3_5t8_10 qx0 qx1 qx2 qx3 qw1 qf0 qf1 qf2 qw2 qx4 qf3 cI cJ cZ cB cT x_cl x_ln x_pt x_code x_st x_en w_names f_row f_fears o_w_stack) o_r True) A) ([.ref qx0, .int p1, .ref qw1, .ref qf0, .ref qw2] : List Value).toArray s 0 0 A) (F0 m 164 ls []) := by
        intro w_stack x1 x5 x6 x7 x8 x9 x10 H locs ls hf hP hD hS hl
        unfold f_X9_value_164 at hf
        refine lv_iload hx hb dX9_value_164 (lv_at hl 5 rfl) ?_
        refine lv_aload hx hb dX9_value_166 (lv_at hl 4 rfl) ?_
        refine va_alen (v := (64 : Int32)) hx hb hK hP 8 0 rfl rfl rfl dX9_value_168 ?_
        refine xicmp_ge hx hb 345 dX9_value_169 (by decide) hf (fun hf => ?_) (fun hf => ?_)
        · exact b345 w_stack x1 x5 x6 x7 _ _ _ hf hP hD hS (lv_sub hl [0, 1, 2, 3, 4, 5, 6, 7] rfl)
        · refine lv_aload hx hb dX9_value_172 (lv_at hl 4 rfl) ?_
          refine lv_iload hx hb dX9_value_174 (lv_at hl 5 rfl) ?_
          refine lv_iload hx hb dX9_value_176 (lv_at hl 8 rfl) ?_
          refine lv_bipush (v := (46 : Int32)) hx hb dX9_value_178 (by decide) ?_
          refine xicmp_ne hx hb 188 dX9_value_180 (by decide) hf (fun hf => ?_) (fun hf => ?_)
          · refine lv_iload hx hb dX9_value_183 (lv_at hl 9 rfl) ?_
            refine lv_goto (tgt := 192) hx hb dX9_value_185 (by decide) ?_
            exact b192 w_stack x1 x5 x6 x7 x5 x9 _ _ _ hf hP hD hS (lv_sub hl [0, 1, 2, 3, 4, 5, 6, 7] rfl)
          · refine lv_aload_n hx hb dX9_value_188 rfl (lv_at hl 2 rfl) ?_
            refine lv_iload hx hb dX9_value_189 (lv_at hl 10 rfl) ?_
            refine xiald hx hb hK hP 4 0 rfl rfl dX9_value_191 hf (fun v191 hf => ?_)
            exact b192 w_stack x1 x5 x6 x7 x5 v191 _ _ _ hf hP hD hS (lv_sub hl [0, 1, 2, 3, 4, 5, 6, 7] rfl)
      have b199 : ∀ (w_stack : Nat → Int32) (x1 : Int32) (x5 : Int32) (x6 : Int32) (x7 : Int32) (x8 : Int32) (x11 : Int32) (H : Heap) (locs : List Loc) (ls : Array Slot), f_X9_value_199 N (f_X9_value_24 N n24) x_code x_st x_en w_names f_row f_fears w_stack x1 x5 x6 x7 x8 x11 = some (o_r, o_w_stack) → va_P D vwCl (W_TXV_0t3_5t8_10 qx0 qx1 qx2 qx3 qw1 qf0 qf1 qf2 qw2 qx4 qf3 cI cJ cZ cB cT x_cl x_ln x_pt x_code x_st x_en w_names f_row f_fears w_stack) H → va_D A (W_TXV_0t3_5t8_10 qx0 qx1 qx2 qx3 qw1 qf0 qf1 qf2 qw2 qx4 qf3 cI cJ cZ cB cT x_cl x_ln x_pt x_code x_st x_en w_names f_row f_fears w_stack) → va_S A s.heap H locs → lv_has ls 14 [(0, .ref qx0), (1, .int x1), (2, .ref qw1), (3, .ref qf0), (4, .ref qw2), (5, .int x5), (6, .int x6), (7, .int x7), (8, .int x8), (11, .int x11)] → W p l e ({ frames := 1, cells := 0, slots := 0, locals := 40 } : Room) s m ([.ref qx0, .int p1, .ref qw1, .ref qf0, .ref qw2] : List Value).toArray below meth c H locs 0 0 (MQ below ((mQi D (W_TXV_0t3_5t8_10 qx0 qx1 qx2 qx3 qw1 qf0 qf1 qf2 qw2 qx4 qf3 cI cJ cZ cB cT x_cl x_ln x_pt x_code x_st x_en w_names f_row f_fears o_w_stack) o_r True) A) ([.ref qx0, .int p1, .ref qw1, .ref qf0, .ref qw2] : List Value).toArray s 0 0 A) (F0 m 199 ls []) := by
        intro w_stack x1 x5 x6 x7 x8 x11 H locs ls hf hP hD hS hl
        unfold f_X9_value_199 at hf
        refine lv_iload hx hb dX9_value_199 (lv_at hl 8 rfl) ?_
        refine lv_bipush (v := (25 : Int32)) hx hb dX9_value_201 (by decide) ?_
        refine xicmp_ne hx hb 223 dX9_value_203 (by decide) hf (fun hf => ?_) (fun hf => ?_)
        · refine lv_aload hx hb dX9_value_206 (lv_at hl 4 rfl) ?_
          refine lv_iload hx hb dX9_value_208 (lv_at hl 9 rfl) ?_
          refine lv_aload_n hx hb dX9_value_210 rfl (lv_at hl 3 rfl) ?_
          refine lv_aload hx hb dX9_value_211 (lv_at hl 4 rfl) ?_
          refine lv_iload hx hb dX9_value_213 (lv_at hl 9 rfl) ?_
          refine xiald hx hb hK hP 8 0 rfl rfl dX9_value_215 hf (fun v215 hf => ?_)
          obtain ⟨r216, hg216, hf⟩ := ob1_some hf
          refine mcV_i (wr := [(qx0, .inr (9, [.int x_cl, .int x_ln, .int x_pt, .ref qx1, .ref qx2, .ref qx3, .ref qx4])), (qx1, .inl (cI, 301, .inl x_code)), (qx2, .inl (cI, 4, .inl x_st)), (qx3, .inl (cI, 4, .inl x_en)), (qw1, .inl (cI, 10, .inl w_names)), (qw2, .inl (cI, 64, .inl w_stack))]) (As := [.int v215]) (rest := [.int x11, .ref qw2]) hx hb hml hown hts hK hP hD hS hA (k_X1_fearOf l N D cI cJ cZ cB cT qf0 qf1 qf2 qf3 f_row f_fears v215 r216 hg216) (kwX9_54 hts rfl rfl ⟨Nat.le_of_ble_eq_true rfl, Nat.le_of_ble_eq_true rfl⟩) [5, 6, 7] [0, 1, 2, 3, 4, 8] rfl rfl rfl (by decide) rfl 0 rfl rfl rfl rfl hl.1 rfl (Nat.le_of_ble_eq_true rfl) dX9_value_216 ⟨Nat.zero_le _, Nat.zero_le _⟩ (fun hB216 H locs hP hD hS => ?_)
          have hP := mP_sub (wc := (W_TXV_0t3_5t8_10 qx0 qx1 qx2 qx3 qw1 qf0 qf1 qf2 qw2 qx4 qf3 cI cJ cZ cB cT x_cl x_ln x_pt x_code x_st x_en w_names f_row f_fears w_stack)) hP [0, 1, 2, 3, 4, 6, 7, 8, 5] rfl
          have hD := hD.sub (ws' := (W_TXV_0t3_5t8_10 qx0 qx1 qx2 qx3 qw1 qf0 qf1 qf2 qw2 qx4 qf3 cI cJ cZ cB cT x_cl x_ln x_pt x_code x_st x_en w_names f_row f_fears w_stack)) [0, 1, 2, 3, 4, 6, 7, 8, 5] rfl rfl
          refine xiast hx hb hK hP hD hS 8 0 rfl rfl dX9_value_219 hf (fun w_stack_219 hf H locs hP hD hS => ?_)
          have hP : va_P D vwCl (W_TXV_0t3_5t8_10 qx0 qx1 qx2 qx3 qw1 qf0 qf1 qf2 qw2 qx4 qf3 cI cJ cZ cB cT x_cl x_ln x_pt x_code x_st x_en w_names f_row f_fears w_stack_219) H := hP
          have hD : va_D A (W_TXV_0t3_5t8_10 qx0 qx1 qx2 qx3 qw1 qf0 qf1 qf2 qw2 qx4 qf3 cI cJ cZ cB cT x_cl x_ln x_pt x_code x_st x_en w_names f_row f_fears w_stack_219) := hD
          refine lv_goto (tgt := 345) hx hb dX9_value_220 (by decide) ?_
          exact b345 w_stack_219 x1 x5 x6 x7 _ _ _ hf hP hD hS (lv_sub hl [0, 1, 2, 3, 4, 5, 6, 7] rfl)
        · refine lv_iload hx hb dX9_value_223 (lv_at hl 8 rfl) ?_
          refine lv_bipush (v := (24 : Int32)) hx hb dX9_value_225 (by decide) ?_
          refine xicmp_ne hx hb 249 dX9_value_227 (by decide) hf (fun hf => ?_) (fun hf => ?_)
          · refine lv_aload hx hb dX9_value_230 (lv_at hl 4 rfl) ?_
            refine lv_iload hx hb dX9_value_232 (lv_at hl 9 rfl) ?_
            refine lv_aload hx hb dX9_value_234 (lv_at hl 4 rfl) ?_
            refine lv_iload hx hb dX9_value_236 (lv_at hl 9 rfl) ?_
            refine xiald hx hb hK hP 8 0 rfl rfl dX9_value_238 hf (fun v238 hf => ?_)
            refine xabs hx hb hml hl.1 hown hts mtX9_60 (Nat.le_of_ble_eq_true rfl) (Nat.le_of_ble_eq_true rfl) ⟨Nat.zero_le _, Nat.zero_le _⟩ dX9_value_239 ?_
            obtain ⟨r242, hg242, hf⟩ := ob1_some hf
            refine mcS0_i (As := [.int (abI v238)]) (rest := [.int x11, .ref qw2]) hx hb hml hown hts hK hP hD hS hA (k_J6_bitCount_0f7a4 l N D cI cJ cZ cB cT (abI v238) r242 hg242) (kwX9_63 hts rfl rfl ⟨Nat.le_of_ble_eq_true rfl, Nat.le_of_ble_eq_true rfl⟩) rfl hl.1 rfl (Nat.le_of_ble_eq_true rfl) dX9_value_242 ⟨Nat.zero_le _, Nat.zero_le _⟩ (fun hB242 H locs hP hD hS => ?_)
            refine xiast hx hb hK hP hD hS 8 0 rfl rfl dX9_value_245 hf (fun w_stack_245 hf H locs hP hD hS => ?_)
            have hP : va_P D vwCl (W_TXV_0t3_5t8_10 qx0 qx1 qx2 qx3 qw1 qf0 qf1 qf2 qw2 qx4 qf3 cI cJ cZ cB cT x_cl x_ln x_pt x_code x_st x_en w_names f_row f_fears w_stack_245) H := hP
            have hD : va_D A (W_TXV_0t3_5t8_10 qx0 qx1 qx2 qx3 qw1 qf0 qf1 qf2 qw2 qx4 qf3 cI cJ cZ cB cT x_cl x_ln x_pt x_code x_st x_en w_names f_row f_fears w_stack_245) := hD
            refine lv_goto (tgt := 345) hx hb dX9_value_246 (by decide) ?_
            exact b345 w_stack_245 x1 x5 x6 x7 _ _ _ hf hP hD hS (lv_sub hl [0, 1, 2, 3, 4, 5, 6, 7] rfl)
          · refine lv_iload hx hb dX9_value_249 (lv_at hl 8 rfl) ?_
            refine lv_bipush (v := (30 : Int32)) hx hb dX9_value_251 (by decide) ?_
            refine xicmp_ne hx hb 271 dX9_value_253 (by decide) hf (fun hf => ?_) (fun hf => ?_)
            · refine lv_aload hx hb dX9_value_256 (lv_at hl 4 rfl) ?_
              refine lv_iload hx hb dX9_value_258 (lv_at hl 9 rfl) ?_
              refine lv_iconst (v := (1 : Int32)) hx hb dX9_value_260 (by decide) ?_
              refine lv_aload hx hb dX9_value_261 (lv_at hl 4 rfl) ?_
              refine lv_iload hx hb dX9_value_263 (lv_at hl 9 rfl) ?_
              refine xiald hx hb hK hP 8 0 rfl rfl dX9_value_265 hf (fun v265 hf => ?_)
              refine lv_isub hx hb dX9_value_266 ?_
              refine xiast hx hb hK hP hD hS 8 0 rfl rfl dX9_value_267 hf (fun w_stack_267 hf H locs hP hD hS => ?_)
              have hP : va_P D vwCl (W_TXV_0t3_5t8_10 qx0 qx1 qx2 qx3 qw1 qf0 qf1 qf2 qw2 qx4 qf3 cI cJ cZ cB cT x_cl x_ln x_pt x_code x_st x_en w_names f_row f_fears w_stack_267) H := hP
              have hD : va_D A (W_TXV_0t3_5t8_10 qx0 qx1 qx2 qx3 qw1 qf0 qf1 qf2 qw2 qx4 qf3 cI cJ cZ cB cT x_cl x_ln x_pt x_code x_st x_en w_names f_row f_fears w_stack_267) := hD
              refine lv_goto (tgt := 345) hx hb dX9_value_268 (by decide) ?_
              exact b345 w_stack_267 x1 x5 x6 x7 _ _ _ hf hP hD hS (lv_sub hl [0, 1, 2, 3, 4, 5, 6, 7] rfl)
            · refine lv_iload hx hb dX9_value_271 (lv_at hl 8 rfl) ?_
              refine lv_bipush (v := (49 : Int32)) hx hb dX9_value_273 (by decide) ?_
              refine xicmp_ne hx hb 292 dX9_value_275 (by decide) hf (fun hf => ?_) (fun hf => ?_)
              · refine lv_aload hx hb dX9_value_278 (lv_at hl 4 rfl) ?_
                refine lv_iload hx hb dX9_value_280 (lv_at hl 9 rfl) ?_
                refine lv_aload hx hb dX9_value_282 (lv_at hl 4 rfl) ?_
                refine lv_iload hx hb dX9_value_284 (lv_at hl 9 rfl) ?_
                refine xiald hx hb hK hP 8 0 rfl rfl dX9_value_286 hf (fun v286 hf => ?_)
                refine lv_ineg hx hb dX9_value_287 ?_
                refine xiast hx hb hK hP hD hS 8 0 rfl rfl dX9_value_288 hf (fun w_stack_288 hf H locs hP hD hS => ?_)
                have hP : va_P D vwCl (W_TXV_0t3_5t8_10 qx0 qx1 qx2 qx3 qw1 qf0 qf1 qf2 qw2 qx4 qf3 cI cJ cZ cB cT x_cl x_ln x_pt x_code x_st x_en w_names f_row f_fears w_stack_288) H := hP
                have hD : va_D A (W_TXV_0t3_5t8_10 qx0 qx1 qx2 qx3 qw1 qf0 qf1 qf2 qw2 qx4 qf3 cI cJ cZ cB cT x_cl x_ln x_pt x_code x_st x_en w_names f_row f_fears w_stack_288) := hD
                refine lv_goto (tgt := 345) hx hb dX9_value_289 (by decide) ?_
                exact b345 w_stack_288 x1 x5 x6 x7 _ _ _ hf hP hD hS (lv_sub hl [0, 1, 2, 3, 4, 5, 6, 7] rfl)
              · refine lv_iload hx hb dX9_value_292 (lv_at hl 5 rfl) ?_
                refine lv_iconst (v := (2 : Int32)) hx hb dX9_value_294 (by decide) ?_
                refine xicmp_lt hx hb 345 dX9_value_295 (by decide) hf (fun hf => ?_) (fun hf => ?_)
                · exact b345 w_stack x1 x5 x6 x7 _ _ _ hf hP hD hS (lv_sub hl [0, 1, 2, 3, 4, 5, 6, 7] rfl)
                · refine lv_iload hx hb dX9_value_298 (lv_at hl 9 rfl) ?_
                  refine lv_istore (lv' := [(5, .int x11), (0, .ref qx0), (1, .int x1), (2, .ref qw1), (3, .ref qf0), (4, .ref qw2), (6, .int x6), (7, .int x7), (8, .int x8), (11, .int x11)]) hx hb dX9_value_300 hl (by decide) rfl (fun ls hl => ?_)
                  refine lv_iload hx hb dX9_value_302 (lv_at hl 8 rfl) ?_
                  refine lv_aload hx hb dX9_value_304 (lv_at hl 5 rfl) ?_
                  refine lv_iload hx hb dX9_value_306 (lv_at hl 9 rfl) ?_
                  refine lv_iconst (v := (1 : Int32)) hx hb dX9_value_308 (by decide) ?_
                  refine lv_isub hx hb dX9_value_309 ?_
                  refine xiald hx hb hK hP 8 0 rfl rfl dX9_value_310 hf (fun v310 hf => ?_)
                  refine lv_i2l hx hb dX9_value_311 rfl ?_
                  refine lv_aload hx hb dX9_value_312 (lv_at hl 5 rfl) ?_
                  refine lv_iload hx hb dX9_value_314 (lv_at hl 9 rfl) ?_
                  refine xiald hx hb hK hP 8 0 rfl rfl dX9_value_316 hf (fun v316 hf => ?_)
                  refine lv_i2l hx hb dX9_value_317 rfl ?_
                  obtain ⟨r318, hg318, hf⟩ := ob1_some hf
                  refine mcS0_l (As := [.int x8, .long v310.toInt64, .long v316.toInt64]) (rest := []) hx hb hml hown hts hK hP hD hS hA (k_X9_ofTwo l N D cI cJ cZ cB cT x8 v310.toInt64 v316.toInt64 r318 hg318) (kwX9_68 hts rfl rfl ⟨Nat.le_of_ble_eq_true rfl, Nat.le_of_ble_eq_true rfl⟩) rfl hl.1 rfl (Nat.le_of_ble_eq_true rfl) dX9_value_318 ⟨Nat.zero_le _, Nat.zero_le _⟩ (fun H locs hP hD hS => ?_)
                  refine lv_lstore (lv' := [(12, .long r318), (5, .int x11), (0, .ref qx0), (1, .int x1), (2, .ref qw1), (3, .ref qf0), (4, .ref qw2), (6, .int x6), (7, .int x7), (8, .int x8), (11, .int x11)]) hx hb dX9_value_321 hl (by decide) rfl (fun ls hl => ?_)
                  refine lv_aload hx hb dX9_value_323 (lv_at hl 6 rfl) ?_
                  refine lv_iload hx hb dX9_value_325 (lv_at hl 10 rfl) ?_
                  refine lv_iconst (v := (1 : Int32)) hx hb dX9_value_327 (by decide) ?_
                  refine lv_isub hx hb dX9_value_328 ?_
                  refine lv_ldc2 hx hb hown (hts _ ctX9_72) dX9_value_329 ?_
                  refine lv_ldc2 hx hb hown (hts _ ctX9_74) dX9_value_332 ?_
                  refine lv_lload hx hb dX9_value_335 (lv_at hl 0 rfl) ?_
                  refine xminL hx hb hml hl.1 hown hts mtX9_76 (Nat.le_of_ble_eq_true rfl) (Nat.le_of_ble_eq_true rfl) ⟨Nat.zero_le _, Nat.zero_le _⟩ dX9_value_337 ?_
                  refine xmaxL hx hb hml hl.1 hown hts mtX9_80 (Nat.le_of_ble_eq_true rfl) (Nat.le_of_ble_eq_true rfl) ⟨Nat.zero_le _, Nat.zero_le _⟩ dX9_value_340 ?_
                  refine lv_l2i hx hb dX9_value_343 rfl ?_
                  refine xiast hx hb hK hP hD hS 8 0 rfl rfl dX9_value_344 hf (fun w_stack_344 hf H locs hP hD hS => ?_)
                  have hP : va_P D vwCl (W_TXV_0t3_5t8_10 qx0 qx1 qx2 qx3 qw1 qf0 qf1 qf2 qw2 qx4 qf3 cI cJ cZ cB cT x_cl x_ln x_pt x_code x_st x_en w_names f_row f_fears w_stack_344) H := hP
                  have hD : va_D A (W_TXV_0t3_5t8_10 qx0 qx1 qx2 qx3 qw1 qf0 qf1 qf2 qw2 qx4 qf3 cI cJ cZ cB cT x_cl x_ln x_pt x_code x_st x_en w_names f_row f_fears w_stack_344) := hD
                  exact b345 w_stack_344 x1 x11 x6 x7 _ _ _ hf hP hD hS (lv_sub hl [2, 3, 4, 5, 6, 1, 7, 8] rfl)
      have b140 : ∀ (w_stack : Nat → Int32) (x1 : Int32) (x5 : Int32) (x7 : Int32) (s0 : Int32) (H : Heap) (locs : List Loc) (ls : Array Slot), f_X9_value_140 N (f_X9_value_24 N n24) x_code x_st x_en w_names f_row f_fears w_stack x1 x5 x7 s0 = some (o_r, o_w_stack) → va_P D vwCl (W_TXV_0t3_5t8_10 qx0 qx1 qx2 qx3 qw1 qf0 qf1 qf2 qw2 qx4 qf3 cI cJ cZ cB cT x_cl x_ln x_pt x_code x_st x_en w_names f_row f_fears w_stack) H → va_D A (W_TXV_0t3_5t8_10 qx0 qx1 qx2 qx3 qw1 qf0 qf1 qf2 qw2 qx4 qf3 cI cJ cZ cB cT x_cl x_ln x_pt x_code x_st x_en w_names f_row f_fears w_stack) → va_S A s.heap H locs → lv_has ls 14 [(0, .ref qx0), (1, .int x1), (2, .ref qw1), (3, .ref qf0), (4, .ref qw2), (5, .int x5), (7, .int x7)] → W p l e ({ frames := 1, cells := 0, slots := 0, locals := 40 } : Room) s m ([.ref qx0, .int p1, .ref qw1, .ref qf0, .ref qw2] : List Value).toArray below meth c H locs 0 0 (MQ below ((mQi D (W_TXV_0t3_5t8_10 qx0 qx1 qx2 qx3 qw1 qf0 qf1 qf2 qw2 qx4 qf3 cI cJ cZ cB cT x_cl x_ln x_pt x_code x_st x_en w_names f_row f_fears o_w_stack) o_r True) A) ([.ref qx0, .int p1, .ref qw1, .ref qf0, .ref qw2] : List Value).toArray s 0 0 A) (F0 m 140 ls [.int s0]) := by
        intro w_stack x1 x5 x7 s0 H locs ls hf hP hD hS hl
        unfold f_X9_value_140 at hf
        refine lv_istore (lv' := [(6, .int s0), (0, .ref qx0), (1, .int x1), (2, .ref qw1), (3, .ref qf0), (4, .ref qw2), (5, .int x5), (7, .int x7)]) hx hb dX9_value_140 hl (by decide) rfl (fun ls hl => ?_)
        refine lv_goto (tgt := 345) hx hb dX9_value_142 (by decide) ?_
        exact b345 w_stack x1 x5 s0 x7 _ _ _ hf hP hD hS (lv_sub hl [1, 2, 3, 4, 5, 6, 0, 7] rfl)
      intro w_stack x1 x5 x6 x7 H locs ls hf hP hD hS hl
      rw [f_X9_value_24.eq_2] at hf
      refine lv_iload hx hb dX9_value_24 (lv_at hl 7 rfl) ?_
      refine lv_sipush (v := (301 : Int32)) hx hb dX9_value_26 (by decide) ?_
      refine xicmp_ge hx hb 351 dX9_value_29 (by decide) hf (fun hf => ?_) (fun hf => ?_)
      · exact b351 w_stack _ _ _ hf hP hD hS (lv_sub hl [4] rfl)
      · refine lv_iload hx hb dX9_value_32 (lv_at hl 6 rfl) ?_
        refine xif_lt hx hb 351 dX9_value_34 (by decide) hf (fun hf => ?_) (fun hf => ?_)
        · exact b351 w_stack _ _ _ hf hP hD hS (lv_sub hl [4] rfl)
        · refine lv_iload hx hb dX9_value_37 (lv_at hl 6 rfl) ?_
          refine lv_aload_n hx hb dX9_value_39 rfl (lv_at hl 0 rfl) ?_
          refine gfX9_30 hx hb hts hown hK hP 0 rfl rfl dX9_value_40 ?_
          refine lv_iload_n hx hb dX9_value_43 rfl (lv_at hl 1 rfl) ?_
          refine xiald hx hb hK hP 3 0 rfl rfl dX9_value_44 hf (fun v44 hf => ?_)
          refine xicmp_ge hx hb 351 dX9_value_45 (by decide) hf (fun hf => ?_) (fun hf => ?_)
          · exact b351 w_stack _ _ _ hf hP hD hS (lv_sub hl [4] rfl)
          · refine lv_iload hx hb dX9_value_48 (lv_at hl 6 rfl) ?_
            refine lv_sipush (v := (301 : Int32)) hx hb dX9_value_50 (by decide) ?_
            refine xicmp_ge hx hb 351 dX9_value_53 (by decide) hf (fun hf => ?_) (fun hf => ?_)
            · exact b351 w_stack _ _ _ hf hP hD hS (lv_sub hl [4] rfl)
            · refine lv_aload_n hx hb dX9_value_56 rfl (lv_at hl 0 rfl) ?_
              refine gfX9_23 hx hb hts hown hK hP 0 rfl rfl dX9_value_57 ?_
              refine lv_iload hx hb dX9_value_60 (lv_at hl 6 rfl) ?_
              refine xiald hx hb hK hP 1 0 rfl rfl dX9_value_62 hf (fun v62 hf => ?_)
              refine lv_bipush (v := (63 : Int32)) hx hb dX9_value_63 (by decide) ?_
              refine lv_iand hx hb dX9_value_65 ?_
              refine lv_istore (lv' := [(8, .int (v62 &&& (63 : Int32))), (0, .ref qx0), (1, .int x1), (2, .ref qw1), (3, .ref qf0), (4, .ref qw2), (5, .int x5), (6, .int x6), (7, .int x7)]) hx hb dX9_value_66 hl (by decide) rfl (fun ls hl => ?_)
              refine lv_aload_n hx hb dX9_value_68 rfl (lv_at hl 1 rfl) ?_
              refine gfX9_23 hx hb hts hown hK hP 0 rfl rfl dX9_value_69 ?_
              refine lv_iload hx hb dX9_value_72 (lv_at hl 7 rfl) ?_
              refine xiald hx hb hK hP 1 0 rfl rfl dX9_value_74 hf (fun v74 hf => ?_)
              refine lv_bipush (v := (6 : Int32)) hx hb dX9_value_75 (by decide) ?_
              refine lv_ishr hx hb dX9_value_77 ?_
              refine lv_istore (lv' := [(9, .int (v74 >>> ((6 : Int32) &&& 31))), (8, .int (v62 &&& (63 : Int32))), (0, .ref qx0), (1, .int x1), (2, .ref qw1), (3, .ref qf0), (4, .ref qw2), (5, .int x5), (6, .int x6), (7, .int x7)]) hx hb dX9_value_78 hl (by decide) rfl (fun ls hl => ?_)
              refine lv_iload hx hb dX9_value_80 (lv_at hl 1 rfl) ?_
              refine lv_bipush (v := (11 : Int32)) hx hb dX9_value_82 (by decide) ?_
              refine lv_isub hx hb dX9_value_84 ?_
              refine lv_istore (lv' := [(10, .int ((v62 &&& (63 : Int32)) - (11 : Int32))), (9, .int (v74 >>> ((6 : Int32) &&& 31))), (8, .int (v62 &&& (63 : Int32))), (0, .ref qx0), (1, .int x1), (2, .ref qw1), (3, .ref qf0), (4, .ref qw2), (5, .int x5), (6, .int x6), (7, .int x7)]) hx hb dX9_value_85 hl (by decide) rfl (fun ls hl => ?_)
              refine lv_iload hx hb dX9_value_87 (lv_at hl 8 rfl) ?_
              refine lv_iconst (v := (1 : Int32)) hx hb dX9_value_89 (by decide) ?_
              refine lv_isub hx hb dX9_value_90 ?_
              refine lv_iconst (v := (0 : Int32)) hx hb dX9_value_91 (by decide) ?_
              refine xmax hx hb hml hl.1 hown hts mtX9_48 (Nat.le_of_ble_eq_true rfl) (Nat.le_of_ble_eq_true rfl) ⟨Nat.zero_le _, Nat.zero_le _⟩ dX9_value_92 ?_
              refine lv_istore (lv' := [(11, .int (mxI (x5 - (1 : Int32)) (0 : Int32))), (10, .int ((v62 &&& (63 : Int32)) - (11 : Int32))), (9, .int (v74 >>> ((6 : Int32) &&& 31))), (8, .int (v62 &&& (63 : Int32))), (0, .ref qx0), (1, .int x1), (2, .ref qw1), (3, .ref qf0), (4, .ref qw2), (5, .int x5), (6, .int x6), (7, .int x7)]) hx hb dX9_value_95 hl (by decide) rfl (fun ls hl => ?_)
              refine lv_iinc (v := (x6 + (1 : Int32))) (lv' := [(6, .int (x6 + (1 : Int32))), (11, .int (mxI (x5 - (1 : Int32)) (0 : Int32))), (10, .int ((v62 &&& (63 : Int32)) - (11 : Int32))), (9, .int (v74 >>> ((6 : Int32) &&& 31))), (8, .int (v62 &&& (63 : Int32))), (0, .ref qx0), (1, .int x1), (2, .ref qw1), (3, .ref qf0), (4, .ref qw2), (5, .int x5), (7, .int x7)]) hx hb dX9_value_97 hl (k := 10) rfl rfl (by decide) rfl (fun ls hl => ?_)
              refine lv_iload hx hb dX9_value_100 (lv_at hl 4 rfl) ?_
              refine lv_bipush (v := (28 : Int32)) hx hb dX9_value_102 (by decide) ?_
              refine xicmp_ne hx hb 114 dX9_value_104 (by decide) hf (fun hf => ?_) (fun hf => ?_)
              · refine lv_iload hx hb dX9_value_107 (lv_at hl 3 rfl) ?_
                refine lv_istore (lv' := [(6, .int (v74 >>> ((6 : Int32) &&& 31))), (11, .int (mxI (x5 - (1 : Int32)) (0 : Int32))), (10, .int ((v62 &&& (63 : Int32)) - (11 : Int32))), (9, .int (v74 >>> ((6 : Int32) &&& 31))), (8, .int (v62 &&& (63 : Int32))), (0, .ref qx0), (1, .int x1), (2, .ref qw1), (3, .ref qf0), (4, .ref qw2), (5, .int x5), (7, .int x7)]) hx hb dX9_value_109 hl (by decide) rfl (fun ls hl => ?_)
                refine lv_goto (tgt := 345) hx hb dX9_value_111 (by decide) ?_
                exact b345 w_stack x1 x5 (v74 >>> ((6 : Int32) &&& 31)) x7 _ _ _ hf hP hD hS (lv_sub hl [5, 6, 7, 8, 9, 10, 0, 11] rfl)
              · refine lv_iload hx hb dX9_value_114 (lv_at hl 4 rfl) ?_
                refine lv_bipush (v := (27 : Int32)) hx hb dX9_value_116 (by decide) ?_
                refine xicmp_ne hx hb 145 dX9_value_118 (by decide) hf (fun hf => ?_) (fun hf => ?_)
                · refine lv_iload hx hb dX9_value_121 (lv_at hl 1 rfl) ?_
                  refine lv_istore (lv' := [(5, .int (mxI (x5 - (1 : Int32)) (0 : Int32))), (6, .int (x6 + (1 : Int32))), (11, .int (mxI (x5 - (1 : Int32)) (0 : Int32))), (10, .int ((v62 &&& (63 : Int32)) - (11 : Int32))), (9, .int (v74 >>> ((6 : Int32) &&& 31))), (8, .int (v62 &&& (63 : Int32))), (0, .ref qx0), (1, .int x1), (2, .ref qw1), (3, .ref qf0), (4, .ref qw2), (7, .int x7)]) hx hb dX9_value_123 hl (by decide) rfl (fun ls hl => ?_)
                  refine lv_aload hx hb dX9_value_125 (lv_at hl 10 rfl) ?_
                  refine lv_iload hx hb dX9_value_127 (lv_at hl 2 rfl) ?_
                  refine xiald hx hb hK hP 8 0 rfl rfl dX9_value_129 hf (fun v129 hf => ?_)
                  refine xif_ne hx hb 138 dX9_value_130 (by decide) hf (fun hf => ?_) (fun hf => ?_)
                  · refine lv_iload hx hb dX9_value_133 (lv_at hl 4 rfl) ?_
                    refine lv_goto (tgt := 140) hx hb dX9_value_135 (by decide) ?_
                    exact b140 w_stack x1 (mxI (x5 - (1 : Int32)) (0 : Int32)) x7 (v74 >>> ((6 : Int32) &&& 31)) _ _ _ hf hP hD hS (lv_sub hl [6, 7, 8, 9, 10, 0, 11] rfl)
                  · refine lv_iload hx hb dX9_value_138 (lv_at hl 1 rfl) ?_
                    exact b140 w_stack x1 (mxI (x5 - (1 : Int32)) (0 : Int32)) x7 (x6 + (1 : Int32)) _ _ _ hf hP hD hS (lv_sub hl [6, 7, 8, 9, 10, 0, 11] rfl)
                · refine lv_iload hx hb dX9_value_145 (lv_at hl 4 rfl) ?_
                  refine lv_bipush (v := (46 : Int32)) hx hb dX9_value_147 (by decide) ?_
                  refine xicmp_eq hx hb 164 dX9_value_149 (by decide) hf (fun hf => ?_) (fun hf => ?_)
                  · exact b164 w_stack x1 x5 (x6 + (1 : Int32)) x7 (v62 &&& (63 : Int32)) (v74 >>> ((6 : Int32) &&& 31)) ((v62 &&& (63 : Int32)) - (11 : Int32)) _ _ _ hf hP hD hS (lv_sub hl [5, 6, 7, 8, 9, 10, 0, 11, 4, 3, 2] rfl)
                  · refine lv_iload hx hb dX9_value_152 (lv_at hl 2 rfl) ?_
                    refine xif_lt hx hb 199 dX9_value_154 (by decide) hf (fun hf => ?_) (fun hf => ?_)
                    · exact b199 w_stack x1 x5 (x6 + (1 : Int32)) x7 (v62 &&& (63 : Int32)) (mxI (x5 - (1 : Int32)) (0 : Int32)) _ _ _ hf hP hD hS (lv_sub hl [5, 6, 7, 8, 9, 10, 0, 11, 4, 1] rfl)
                    · refine lv_iload hx hb dX9_value_157 (lv_at hl 2 rfl) ?_
                      refine lv_aload_n hx hb dX9_value_159 rfl (lv_at hl 7 rfl) ?_
                      refine va_alen (v := (10 : Int32)) hx hb hK hP 4 0 rfl rfl rfl dX9_value_160 ?_
                      refine xicmp_ge hx hb 199 dX9_value_161 (by decide) hf (fun hf => ?_) (fun hf => ?_)
                      · exact b199 w_stack x1 x5 (x6 + (1 : Int32)) x7 (v62 &&& (63 : Int32)) (mxI (x5 - (1 : Int32)) (0 : Int32)) _ _ _ hf hP hD hS (lv_sub hl [5, 6, 7, 8, 9, 10, 0, 11, 4, 1] rfl)
                      · exact b164 w_stack x1 x5 (x6 + (1 : Int32)) x7 (v62 &&& (63 : Int32)) (v74 >>> ((6 : Int32) &&& 31)) ((v62 &&& (63 : Int32)) - (11 : Int32)) _ _ _ hf hP hD hS (lv_sub hl [5, 6, 7, 8, 9, 10, 0, 11, 4, 3, 2] rfl)
  unfold f_X9_value at hf
  refine lv_aload_n hx hb dX9_value_0 rfl (lv_at hl 0 rfl) ?_
  refine lv_iload_n hx hb dX9_value_1 rfl (lv_at hl 1 rfl) ?_
  obtain ⟨r2, hg2, hf⟩ := ob1_some hf
  refine mcV_i (wr := [(qx1, .inl (cI, 301, .inl x_code)), (qx3, .inl (cI, 4, .inl x_en)), (qw1, .inl (cI, 10, .inl w_names)), (qf0, .inr (1, [.ref qf1, .ref qf2, .ref qf3])), (qf1, .inl (cI, 76, .inl f_row)), (qf2, .inl (cI, 6, .inl f_fears)), (qw2, .inl (cI, 64, .inl w_stack))]) (As := [.int p1]) (rest := []) hx hb hml hown hts hK hP hD hS hA (k_X9_begun l N D cI cJ cZ cB cT qx0 qx2 qx1 qx3 qx4 x_cl x_ln x_pt x_st p1 r2 hg2) (kwX9_44 hts rfl rfl ⟨Nat.le_of_ble_eq_true rfl, Nat.le_of_ble_eq_true rfl⟩) [0, 2] [1, 3, 4, 5, 6, 7, 8] rfl rfl rfl (by decide) rfl 0 rfl rfl rfl rfl hl.1 rfl (Nat.le_of_ble_eq_true rfl) dX9_value_2 ⟨Nat.zero_le _, Nat.zero_le _⟩ (fun hB2 H locs hP hD hS => ?_)
  have hP := mP_sub (wc := (W_TXV_0t3_5t8_10 qx0 qx1 qx2 qx3 qw1 qf0 qf1 qf2 qw2 qx4 qf3 cI cJ cZ cB cT x_cl x_ln x_pt x_code x_st x_en w_names f_row f_fears w_stack)) hP [7, 0, 8, 1, 2, 3, 4, 5, 6] rfl
  have hD := hD.sub (ws' := (W_TXV_0t3_5t8_10 qx0 qx1 qx2 qx3 qw1 qf0 qf1 qf2 qw2 qx4 qf3 cI cJ cZ cB cT x_cl x_ln x_pt x_code x_st x_en w_names f_row f_fears w_stack)) [7, 0, 8, 1, 2, 3, 4, 5, 6] rfl rfl
  refine xif_ne hx hb 10 dX9_value_5 (by decide) hf (fun hf => ?_) (fun hf => ?_)
  · refine lv_iconst (v := (0 : Int32)) hx hb dX9_value_8 (by decide) ?_
    cases hf
    exact mret_i hx hb hr hlocks hP hD hS dX9_value_9 rfl trivial
  · refine lv_iconst (v := (0 : Int32)) hx hb dX9_value_10 (by decide) ?_
    refine lv_istore (lv' := [(5, .int (0 : Int32)), (0, .ref qx0), (1, .int p1), (2, .ref qw1), (3, .ref qf0), (4, .ref qw2)]) hx hb dX9_value_11 hl (by decide) rfl (fun ls hl => ?_)
    refine lv_aload_n hx hb dX9_value_13 rfl (lv_at hl 1 rfl) ?_
    refine gfX9_27 hx hb hts hown hK hP 0 rfl rfl dX9_value_14 ?_
    refine lv_iload_n hx hb dX9_value_17 rfl (lv_at hl 2 rfl) ?_
    refine xiald hx hb hK hP 2 0 rfl rfl dX9_value_18 hf (fun v18 hf => ?_)
    refine lv_istore (lv' := [(6, .int v18), (5, .int (0 : Int32)), (0, .ref qx0), (1, .int p1), (2, .ref qw1), (3, .ref qf0), (4, .ref qw2)]) hx hb dX9_value_19 hl (by decide) rfl (fun ls hl => ?_)
    refine lv_iconst (v := (0 : Int32)) hx hb dX9_value_21 (by decide) ?_
    refine lv_istore (lv' := [(7, .int (0 : Int32)), (6, .int v18), (5, .int (0 : Int32)), (0, .ref qx0), (1, .int p1), (2, .ref qw1), (3, .ref qf0), (4, .ref qw2)]) hx hb dX9_value_22 hl (by decide) rfl (fun ls hl => ?_)
    exact b24 N w_stack p1 (0 : Int32) v18 (0 : Int32) _ _ _ hf hP hD hS (lv_sub hl [3, 4, 5, 6, 7, 2, 1, 0] rfl)
theorem dX1_count_0 : decode cX1_count 0 = .ok (.aload_n 0, 1) := by decide +kernel
theorem dX1_count_1 : decode cX1_count 1 = .ok (.getfield 11, 3) := by decide +kernel
theorem dX1_count_4 : decode cX1_count 4 = .ok (.iconst 2, 1) := by decide +kernel
theorem dX1_count_5 : decode cX1_count 5 = .ok (.iaload, 1) := by decide +kernel
theorem dX1_count_6 : decode cX1_count 6 = .ok (.ireturn, 1) := by decide +kernel
def f_X1_count (N : Nat) (f_row : Nat → Int32) : Option (Int32) := gA f_row 76 (2 : Int32) fun v5 => some v5
set_option maxHeartbeats 4000000 in
set_option maxRecDepth 100000 in
theorem k_X1_count (l : Launch) (N : Nat) (D : va_G) (cI cJ cZ cB cT : ClassId) (qf0 : Nat) (qf1 : Nat) (qf2 : Nat) (qf3 : Nat) (f_row : Nat → Int32) (o_r : Int32) (hf : f_X1_count N f_row = some o_r) : ∀ sz, Met l yX1_count (mw yX1_count cX1_count 1 (some .int)) ({ frames := 0, cells := 0, slots := 0, locals := 0 } : Room) (mPre D (mT cI cJ cZ cB cT) (W_F_0t1 qf0 qf1 qf2 qf3 cI cJ cZ cB cT f_row) sz [.ref qf0]) ((mQi D (W_F_0t1 qf0 qf1 qf2 qf3 cI cJ cZ cB cT f_row) o_r True) (va_A (W_F_0t1 qf0 qf1 qf2 qf3 cI cJ cZ cB cT f_row) sz)) 0 0 (va_A (W_F_0t1 qf0 qf1 qf2 qf3 cI cJ cZ cB cT f_row) sz) := by
  refine mMet (Qc := (mQi D (W_F_0t1 qf0 qf1 qf2 qf3 cI cJ cZ cB cT f_row) o_r True)) (by decide) (Nat.le_of_ble_eq_true rfl) (fun p e s m below meth c A ls hx hb hr hml hts hown hlocks hK hA hP hD hl => ?_)
  have hown : s.vm.findClass RX1 = some m.cls := hown
  have hl : lv_has ls 1 [(0, .ref qf0)] := hl
  have hS : va_S A s.heap s.heap [] := va_S.rf
  unfold f_X1_count at hf
  refine lv_aload_n hx hb dX1_count_0 rfl (lv_at hl 0 rfl) ?_
  refine gfX1_11 hx hb hts hown hK hP 0 rfl rfl dX1_count_1 ?_
  refine lv_iconst (v := (2 : Int32)) hx hb dX1_count_4 (by decide) ?_
  refine xiald hx hb hK hP 1 0 rfl rfl dX1_count_5 hf (fun v5 hf => ?_)
  cases hf
  exact mret_i hx hb hr hlocks hP hD hS dX1_count_6 rfl trivial
theorem dX1_nextMonth_0 : decode cX1_nextMonth 0 = .ok (.aload_n 0, 1) := by decide +kernel
theorem dX1_nextMonth_1 : decode cX1_nextMonth 1 = .ok (.getfield 11, 3) := by decide +kernel
theorem dX1_nextMonth_4 : decode cX1_nextMonth 4 = .ok (.iconst 0, 1) := by decide +kernel
theorem dX1_nextMonth_5 : decode cX1_nextMonth 5 = .ok (.dup2, 1) := by decide +kernel
theorem dX1_nextMonth_6 : decode cX1_nextMonth 6 = .ok (.iaload, 1) := by decide +kernel
theorem dX1_nextMonth_7 : decode cX1_nextMonth 7 = .ok (.iconst 1, 1) := by decide +kernel
theorem dX1_nextMonth_8 : decode cX1_nextMonth 8 = .ok (.iadd, 1) := by decide +kernel
theorem dX1_nextMonth_9 : decode cX1_nextMonth 9 = .ok (.iastore, 1) := by decide +kernel
theorem dX1_nextMonth_10 : decode cX1_nextMonth 10 = .ok (.return_, 1) := by decide +kernel
def f_X1_nextMonth (N : Nat) (f_row : Nat → Int32) : Option ((Nat → Int32)) := gA f_row 76 (0 : Int32) fun v6 => sA f_row 76 (0 : Int32) (v6 + (1 : Int32)) fun f_row_9 => some f_row_9
set_option maxHeartbeats 4000000 in
set_option maxRecDepth 100000 in
theorem k_X1_nextMonth (l : Launch) (N : Nat) (D : va_G) (cI cJ cZ cB cT : ClassId) (qf0 : Nat) (qf1 : Nat) (qf2 : Nat) (qf3 : Nat) (f_row : Nat → Int32) (o_f_row : Nat → Int32) (hf : f_X1_nextMonth N f_row = some o_f_row) : ∀ sz, Met l yX1_nextMonth (mw yX1_nextMonth cX1_nextMonth 1 none) ({ frames := 0, cells := 0, slots := 0, locals := 0 } : Room) (mPre D (mT cI cJ cZ cB cT) (W_F_0t1 qf0 qf1 qf2 qf3 cI cJ cZ cB cT f_row) sz [.ref qf0]) ((mQv D (W_F_0t1 qf0 qf1 qf2 qf3 cI cJ cZ cB cT o_f_row)) (va_A (W_F_0t1 qf0 qf1 qf2 qf3 cI cJ cZ cB cT f_row) sz)) 0 0 (va_A (W_F_0t1 qf0 qf1 qf2 qf3 cI cJ cZ cB cT f_row) sz) := by
  refine mMet (Qc := (mQv D (W_F_0t1 qf0 qf1 qf2 qf3 cI cJ cZ cB cT o_f_row))) (by decide) (Nat.le_of_ble_eq_true rfl) (fun p e s m below meth c A ls hx hb hr hml hts hown hlocks hK hA hP hD hl => ?_)
  have hown : s.vm.findClass RX1 = some m.cls := hown
  have hl : lv_has ls 1 [(0, .ref qf0)] := hl
  have hS : va_S A s.heap s.heap [] := va_S.rf
  unfold f_X1_nextMonth at hf
  refine lv_aload_n hx hb dX1_nextMonth_0 rfl (lv_at hl 0 rfl) ?_
  refine gfX1_11 hx hb hts hown hK hP 0 rfl rfl dX1_nextMonth_1 ?_
  refine lv_iconst (v := (0 : Int32)) hx hb dX1_nextMonth_4 (by decide) ?_
  refine lv_dup2_11 hx hb dX1_nextMonth_5 rfl rfl ?_
  refine xiald hx hb hK hP 1 0 rfl rfl dX1_nextMonth_6 hf (fun v6 hf => ?_)
  refine lv_iconst (v := (1 : Int32)) hx hb dX1_nextMonth_7 (by decide) ?_
  refine lv_iadd hx hb dX1_nextMonth_8 ?_
  refine xiast hx hb hK hP hD hS 1 0 rfl rfl dX1_nextMonth_9 hf (fun f_row_9 hf H locs hP hD hS => ?_)
  have hP : va_P D vwCl (W_F_0t1 qf0 qf1 qf2 qf3 cI cJ cZ cB cT f_row_9) H := hP
  have hD : va_D A (W_F_0t1 qf0 qf1 qf2 qf3 cI cJ cZ cB cT f_row_9) := hD
  cases hf
  exact mret_v hx hb hr hlocks hP hD hS dX1_nextMonth_10
theorem dX1_become_0 : decode cX1_become 0 = .ok (.aload_n 1, 1) := by decide +kernel
theorem dX1_become_1 : decode cX1_become 1 = .ok (.getfield 11, 3) := by decide +kernel
theorem dX1_become_4 : decode cX1_become 4 = .ok (.iconst 0, 1) := by decide +kernel
theorem dX1_become_5 : decode cX1_become 5 = .ok (.aload_n 0, 1) := by decide +kernel
theorem dX1_become_6 : decode cX1_become 6 = .ok (.getfield 11, 3) := by decide +kernel
theorem dX1_become_9 : decode cX1_become 9 = .ok (.iconst 0, 1) := by decide +kernel
theorem dX1_become_10 : decode cX1_become 10 = .ok (.bipush 76, 2) := by decide +kernel
theorem dX1_become_12 : decode cX1_become 12 = .ok (.invokestatic 21, 3) := by decide +kernel
theorem dX1_become_15 : decode cX1_become 15 = .ok (.aload_n 1, 1) := by decide +kernel
theorem dX1_become_16 : decode cX1_become 16 = .ok (.getfield 15, 3) := by decide +kernel
theorem dX1_become_19 : decode cX1_become 19 = .ok (.iconst 0, 1) := by decide +kernel
theorem dX1_become_20 : decode cX1_become 20 = .ok (.aload_n 0, 1) := by decide +kernel
theorem dX1_become_21 : decode cX1_become 21 = .ok (.getfield 15, 3) := by decide +kernel
theorem dX1_become_24 : decode cX1_become 24 = .ok (.iconst 0, 1) := by decide +kernel
theorem dX1_become_25 : decode cX1_become 25 = .ok (.bipush 6, 2) := by decide +kernel
theorem dX1_become_27 : decode cX1_become 27 = .ok (.invokestatic 21, 3) := by decide +kernel
theorem dX1_become_30 : decode cX1_become 30 = .ok (.aload_n 1, 1) := by decide +kernel
theorem dX1_become_31 : decode cX1_become 31 = .ok (.getfield 18, 3) := by decide +kernel
theorem dX1_become_34 : decode cX1_become 34 = .ok (.iconst 0, 1) := by decide +kernel
theorem dX1_become_35 : decode cX1_become 35 = .ok (.aload_n 0, 1) := by decide +kernel
theorem dX1_become_36 : decode cX1_become 36 = .ok (.getfield 18, 3) := by decide +kernel
theorem dX1_become_39 : decode cX1_become 39 = .ok (.iconst 0, 1) := by decide +kernel
theorem dX1_become_40 : decode cX1_become 40 = .ok (.bipush 18, 2) := by decide +kernel
theorem dX1_become_42 : decode cX1_become 42 = .ok (.invokestatic 21, 3) := by decide +kernel
theorem dX1_become_45 : decode cX1_become 45 = .ok (.return_, 1) := by decide +kernel
def f_X1_become (N : Nat) (f_row : Nat → Int32) (f_fears : Nat → Int32) (f_told : Nat → Int32) (g_row : Nat → Int32) (g_fears : Nat → Int32) (g_told : Nat → Int32) : Option ((Nat → Int32) × (Nat → Int32) × (Nat → Int32)) := cpI g_row 76 f_row 76 (0 : Int32) (0 : Int32) (76 : Int32) fun f_row_12 => cpI g_fears 6 f_fears 6 (0 : Int32) (0 : Int32) (6 : Int32) fun f_fears_27 => cpI g_told 18 f_told 18 (0 : Int32) (0 : Int32) (18 : Int32) fun f_told_42 => some (f_row_12, f_fears_27, f_told_42)
set_option maxHeartbeats 4000000 in
set_option maxRecDepth 100000 in
theorem k_X1_become (l : Launch) (N : Nat) (D : va_G) (cI cJ cZ cB cT : ClassId) (qf0 : Nat) (qf1 : Nat) (qf2 : Nat) (qf3 : Nat) (qg0 : Nat) (qg1 : Nat) (qg2 : Nat) (qg3 : Nat) (f_row : Nat → Int32) (f_fears : Nat → Int32) (f_told : Nat → Int32) (g_row : Nat → Int32) (g_fears : Nat → Int32) (g_told : Nat → Int32) (o_f_row : Nat → Int32) (o_f_fears : Nat → Int32) (o_f_told : Nat → Int32) (hf : f_X1_become N f_row f_fears f_told g_row g_fears g_told = some (o_f_row, o_f_fears, o_f_told)) : ∀ sz, Met l yX1_become (mw yX1_become cX1_become 2 none) ({ frames := 1, cells := 0, slots := 0, locals := 60 } : Room) (mPre D (mT cI cJ cZ cB cT) (W_FF_0t7 qf0 qf1 qf2 qf3 qg0 qg1 qg2 qg3 cI cJ cZ cB cT f_row f_fears f_told g_row g_fears g_told) sz [.ref qf0, .ref qg0]) ((mQv D (W_FF_0t7 qf0 qf1 qf2 qf3 qg0 qg1 qg2 qg3 cI cJ cZ cB cT o_f_row o_f_fears o_f_told g_row g_fears g_told)) (va_A (W_FF_0t7 qf0 qf1 qf2 qf3 qg0 qg1 qg2 qg3 cI cJ cZ cB cT f_row f_fears f_told g_row g_fears g_told) sz)) 0 0 (va_A (W_FF_0t7 qf0 qf1 qf2 qf3 qg0 qg1 qg2 qg3 cI cJ cZ cB cT f_row f_fears f_told g_row g_fears g_told) sz) := by
  refine mMet (Qc := (mQv D (W_FF_0t7 qf0 qf1 qf2 qf3 qg0 qg1 qg2 qg3 cI cJ cZ cB cT o_f_row o_f_fears o_f_told g_row g_fears g_told))) (by decide) (Nat.le_of_ble_eq_true rfl) (fun p e s m below meth c A ls hx hb hr hml hts hown hlocks hK hA hP hD hl => ?_)
  have hown : s.vm.findClass RX1 = some m.cls := hown
  have hl : lv_has ls 2 [(0, .ref qf0), (1, .ref qg0)] := hl
  have hS : va_S A s.heap s.heap [] := va_S.rf
  unfold f_X1_become at hf
  refine lv_aload_n hx hb dX1_become_0 rfl (lv_at hl 1 rfl) ?_
  refine gfX1_11 hx hb hts hown hK hP 4 rfl rfl dX1_become_1 ?_
  refine lv_iconst (v := (0 : Int32)) hx hb dX1_become_4 (by decide) ?_
  refine lv_aload_n hx hb dX1_become_5 rfl (lv_at hl 0 rfl) ?_
  refine gfX1_11 hx hb hts hown hK hP 0 rfl rfl dX1_become_6 ?_
  refine lv_iconst (v := (0 : Int32)) hx hb dX1_become_9 (by decide) ?_
  refine lv_bipush (v := (76 : Int32)) hx hb dX1_become_10 (by decide) ?_
  refine xcopy hx hb hml hl.1 hown hts cpwX1_21 hK hP hD hS 5 1 0 0 rfl rfl rfl rfl (Nat.le_of_ble_eq_true rfl) (by decide) dX1_become_12 hf (fun f_row_12 hf H locs hP hD hS => ?_)
  have hP : va_P D vwCl (W_FF_0t7 qf0 qf1 qf2 qf3 qg0 qg1 qg2 qg3 cI cJ cZ cB cT f_row_12 f_fears f_told g_row g_fears g_told) H := hP
  have hD : va_D A (W_FF_0t7 qf0 qf1 qf2 qf3 qg0 qg1 qg2 qg3 cI cJ cZ cB cT f_row_12 f_fears f_told g_row g_fears g_told) := hD
  refine lv_aload_n hx hb dX1_become_15 rfl (lv_at hl 1 rfl) ?_
  refine gfX1_15 hx hb hts hown hK hP 4 rfl rfl dX1_become_16 ?_
  refine lv_iconst (v := (0 : Int32)) hx hb dX1_become_19 (by decide) ?_
  refine lv_aload_n hx hb dX1_become_20 rfl (lv_at hl 0 rfl) ?_
  refine gfX1_15 hx hb hts hown hK hP 0 rfl rfl dX1_become_21 ?_
  refine lv_iconst (v := (0 : Int32)) hx hb dX1_become_24 (by decide) ?_
  refine lv_bipush (v := (6 : Int32)) hx hb dX1_become_25 (by decide) ?_
  refine xcopy hx hb hml hl.1 hown hts cpwX1_21 hK hP hD hS 6 2 0 0 rfl rfl rfl rfl (Nat.le_of_ble_eq_true rfl) (by decide) dX1_become_27 hf (fun f_fears_27 hf H locs hP hD hS => ?_)
  have hP : va_P D vwCl (W_FF_0t7 qf0 qf1 qf2 qf3 qg0 qg1 qg2 qg3 cI cJ cZ cB cT f_row_12 f_fears_27 f_told g_row g_fears g_told) H := hP
  have hD : va_D A (W_FF_0t7 qf0 qf1 qf2 qf3 qg0 qg1 qg2 qg3 cI cJ cZ cB cT f_row_12 f_fears_27 f_told g_row g_fears g_told) := hD
  refine lv_aload_n hx hb dX1_become_30 rfl (lv_at hl 1 rfl) ?_
  refine gfX1_18 hx hb hts hown hK hP 4 rfl rfl dX1_become_31 ?_
  refine lv_iconst (v := (0 : Int32)) hx hb dX1_become_34 (by decide) ?_
  refine lv_aload_n hx hb dX1_become_35 rfl (lv_at hl 0 rfl) ?_
  refine gfX1_18 hx hb hts hown hK hP 0 rfl rfl dX1_become_36 ?_
  refine lv_iconst (v := (0 : Int32)) hx hb dX1_become_39 (by decide) ?_
  refine lv_bipush (v := (18 : Int32)) hx hb dX1_become_40 (by decide) ?_
  refine xcopy hx hb hml hl.1 hown hts cpwX1_21 hK hP hD hS 7 3 0 0 rfl rfl rfl rfl (Nat.le_of_ble_eq_true rfl) (by decide) dX1_become_42 hf (fun f_told_42 hf H locs hP hD hS => ?_)
  have hP : va_P D vwCl (W_FF_0t7 qf0 qf1 qf2 qf3 qg0 qg1 qg2 qg3 cI cJ cZ cB cT f_row_12 f_fears_27 f_told_42 g_row g_fears g_told) H := hP
  have hD : va_D A (W_FF_0t7 qf0 qf1 qf2 qf3 qg0 qg1 qg2 qg3 cI cJ cZ cB cT f_row_12 f_fears_27 f_told_42 g_row g_fears g_told) := hD
  cases hf
  exact mret_v hx hb hr hlocks hP hD hS dX1_become_45
theorem dX1_copyTo_0 : decode cX1_copyTo 0 = .ok (.iload_n 2, 1) := by decide +kernel
theorem dX1_copyTo_1 : decode cX1_copyTo 1 = .ok (.ifCond .lt 24, 3) := by decide +kernel
theorem dX1_copyTo_4 : decode cX1_copyTo 4 = .ok (.iload_n 2, 1) := by decide +kernel
theorem dX1_copyTo_5 : decode cX1_copyTo 5 = .ok (.aload_n 1, 1) := by decide +kernel
theorem dX1_copyTo_6 : decode cX1_copyTo 6 = .ok (.arraylength, 1) := by decide +kernel
theorem dX1_copyTo_7 : decode cX1_copyTo 7 = .ok (.bipush 76, 2) := by decide +kernel
theorem dX1_copyTo_9 : decode cX1_copyTo 9 = .ok (.isub, 1) := by decide +kernel
theorem dX1_copyTo_10 : decode cX1_copyTo 10 = .ok (.if_icmp .gt 15, 3) := by decide +kernel
theorem dX1_copyTo_13 : decode cX1_copyTo 13 = .ok (.aload_n 0, 1) := by decide +kernel
theorem dX1_copyTo_14 : decode cX1_copyTo 14 = .ok (.getfield 11, 3) := by decide +kernel
theorem dX1_copyTo_17 : decode cX1_copyTo 17 = .ok (.iconst 0, 1) := by decide +kernel
theorem dX1_copyTo_18 : decode cX1_copyTo 18 = .ok (.aload_n 1, 1) := by decide +kernel
theorem dX1_copyTo_19 : decode cX1_copyTo 19 = .ok (.iload_n 2, 1) := by decide +kernel
theorem dX1_copyTo_20 : decode cX1_copyTo 20 = .ok (.bipush 76, 2) := by decide +kernel
theorem dX1_copyTo_22 : decode cX1_copyTo 22 = .ok (.invokestatic 21, 3) := by decide +kernel
theorem dX1_copyTo_25 : decode cX1_copyTo 25 = .ok (.return_, 1) := by decide +kernel
def f_X1_copyTo (N : Nat) (f_row : Nat → Int32) (z_store : Nat → Int32) (p2 : Int32) : Option ((Nat → Int32)) := if p2 < 0 then (some z_store) else (if ((2356 : Int32) - (76 : Int32)) < p2 then (some z_store) else (cpI f_row 76 z_store 2356 (0 : Int32) p2 (76 : Int32) fun z_store_22 => some z_store_22))
set_option maxHeartbeats 4000000 in
set_option maxRecDepth 100000 in
theorem k_X1_copyTo (l : Launch) (N : Nat) (D : va_G) (cI cJ cZ cB cT : ClassId) (qf0 : Nat) (qf1 : Nat) (qz1 : Nat) (qf2 : Nat) (qf3 : Nat) (f_row : Nat → Int32) (z_store : Nat → Int32) (p2 : Int32) (o_z_store : Nat → Int32) (hf : f_X1_copyTo N f_row z_store p2 = some o_z_store) : ∀ sz, Met l yX1_copyTo (mw yX1_copyTo cX1_copyTo 3 none) ({ frames := 1, cells := 0, slots := 0, locals := 60 } : Room) (mPre D (mT cI cJ cZ cB cT) (W_FS_0t1_4 qf0 qf1 qz1 qf2 qf3 cI cJ cZ cB cT f_row z_store) sz [.ref qf0, .ref qz1, .int p2]) ((mQv D (W_FS_0t1_4 qf0 qf1 qz1 qf2 qf3 cI cJ cZ cB cT f_row o_z_store)) (va_A (W_FS_0t1_4 qf0 qf1 qz1 qf2 qf3 cI cJ cZ cB cT f_row z_store) sz)) 0 0 (va_A (W_FS_0t1_4 qf0 qf1 qz1 qf2 qf3 cI cJ cZ cB cT f_row z_store) sz) := by
  refine mMet (Qc := (mQv D (W_FS_0t1_4 qf0 qf1 qz1 qf2 qf3 cI cJ cZ cB cT f_row o_z_store))) (by decide) (Nat.le_of_ble_eq_true rfl) (fun p e s m below meth c A ls hx hb hr hml hts hown hlocks hK hA hP hD hl => ?_)
  have hown : s.vm.findClass RX1 = some m.cls := hown
  have hl : lv_has ls 3 [(0, .ref qf0), (1, .ref qz1), (2, .int p2)] := hl
  have hS : va_S A s.heap s.heap [] := va_S.rf
  unfold f_X1_copyTo at hf
  refine lv_iload_n hx hb dX1_copyTo_0 rfl (lv_at hl 2 rfl) ?_
  refine xif_lt hx hb 25 dX1_copyTo_1 (by decide) hf (fun hf => ?_) (fun hf => ?_)
  · cases hf
    exact mret_v hx hb hr hlocks hP hD hS dX1_copyTo_25
  · refine lv_iload_n hx hb dX1_copyTo_4 rfl (lv_at hl 2 rfl) ?_
    refine lv_aload_n hx hb dX1_copyTo_5 rfl (lv_at hl 1 rfl) ?_
    refine va_alen (v := (2356 : Int32)) hx hb hK hP 2 0 rfl rfl rfl dX1_copyTo_6 ?_
    refine lv_bipush (v := (76 : Int32)) hx hb dX1_copyTo_7 (by decide) ?_
    refine lv_isub hx hb dX1_copyTo_9 ?_
    refine xicmp_gt hx hb 25 dX1_copyTo_10 (by decide) hf (fun hf => ?_) (fun hf => ?_)
    · cases hf
      exact mret_v hx hb hr hlocks hP hD hS dX1_copyTo_25
    · refine lv_aload_n hx hb dX1_copyTo_13 rfl (lv_at hl 0 rfl) ?_
      refine gfX1_11 hx hb hts hown hK hP 0 rfl rfl dX1_copyTo_14 ?_
      refine lv_iconst (v := (0 : Int32)) hx hb dX1_copyTo_17 (by decide) ?_
      refine lv_aload_n hx hb dX1_copyTo_18 rfl (lv_at hl 1 rfl) ?_
      refine lv_iload_n hx hb dX1_copyTo_19 rfl (lv_at hl 2 rfl) ?_
      refine lv_bipush (v := (76 : Int32)) hx hb dX1_copyTo_20 (by decide) ?_
      refine xcopy hx hb hml hl.1 hown hts cpwX1_21 hK hP hD hS 1 2 0 0 rfl rfl rfl rfl (Nat.le_of_ble_eq_true rfl) (by decide) dX1_copyTo_22 hf (fun z_store_22 hf H locs hP hD hS => ?_)
      have hP : va_P D vwCl (W_FS_0t1_4 qf0 qf1 qz1 qf2 qf3 cI cJ cZ cB cT f_row z_store_22) H := hP
      have hD : va_D A (W_FS_0t1_4 qf0 qf1 qz1 qf2 qf3 cI cJ cZ cB cT f_row z_store_22) := hD
      cases hf
      exact mret_v hx hb hr hlocks hP hD hS dX1_copyTo_25
theorem dX1_settle_0 : decode cX1_settle 0 = .ok (.aload_n 0, 1) := by decide +kernel
theorem dX1_settle_1 : decode cX1_settle 1 = .ok (.iload_n 1, 1) := by decide +kernel
theorem dX1_settle_2 : decode cX1_settle 2 = .ok (.invokevirtual 41, 3) := by decide +kernel
theorem dX1_settle_5 : decode cX1_settle 5 = .ok (.ifCond .ne 4, 3) := by decide +kernel
theorem dX1_settle_8 : decode cX1_settle 8 = .ok (.return_, 1) := by decide +kernel
theorem dX1_settle_9 : decode cX1_settle 9 = .ok (.aload_n 0, 1) := by decide +kernel
theorem dX1_settle_10 : decode cX1_settle 10 = .ok (.iload_n 1, 1) := by decide +kernel
theorem dX1_settle_11 : decode cX1_settle 11 = .ok (.iconst 0, 1) := by decide +kernel
theorem dX1_settle_12 : decode cX1_settle 12 = .ok (.aload_n 0, 1) := by decide +kernel
theorem dX1_settle_13 : decode cX1_settle 13 = .ok (.getfield 18, 3) := by decide +kernel
theorem dX1_settle_16 : decode cX1_settle 16 = .ok (.iload_n 1, 1) := by decide +kernel
theorem dX1_settle_17 : decode cX1_settle 17 = .ok (.iconst 3, 1) := by decide +kernel
theorem dX1_settle_18 : decode cX1_settle 18 = .ok (.imul, 1) := by decide +kernel
theorem dX1_settle_19 : decode cX1_settle 19 = .ok (.iaload, 1) := by decide +kernel
theorem dX1_settle_20 : decode cX1_settle 20 = .ok (.invokevirtual 45, 3) := by decide +kernel
theorem dX1_settle_23 : decode cX1_settle 23 = .ok (.aload_n 0, 1) := by decide +kernel
theorem dX1_settle_24 : decode cX1_settle 24 = .ok (.iload_n 1, 1) := by decide +kernel
theorem dX1_settle_25 : decode cX1_settle 25 = .ok (.iconst 1, 1) := by decide +kernel
theorem dX1_settle_26 : decode cX1_settle 26 = .ok (.aload_n 0, 1) := by decide +kernel
theorem dX1_settle_27 : decode cX1_settle 27 = .ok (.getfield 18, 3) := by decide +kernel
theorem dX1_settle_30 : decode cX1_settle 30 = .ok (.iload_n 1, 1) := by decide +kernel
theorem dX1_settle_31 : decode cX1_settle 31 = .ok (.iconst 3, 1) := by decide +kernel
theorem dX1_settle_32 : decode cX1_settle 32 = .ok (.imul, 1) := by decide +kernel
theorem dX1_settle_33 : decode cX1_settle 33 = .ok (.iconst 1, 1) := by decide +kernel
theorem dX1_settle_34 : decode cX1_settle 34 = .ok (.iadd, 1) := by decide +kernel
theorem dX1_settle_35 : decode cX1_settle 35 = .ok (.iaload, 1) := by decide +kernel
theorem dX1_settle_36 : decode cX1_settle 36 = .ok (.invokevirtual 45, 3) := by decide +kernel
theorem dX1_settle_39 : decode cX1_settle 39 = .ok (.aload_n 0, 1) := by decide +kernel
theorem dX1_settle_40 : decode cX1_settle 40 = .ok (.iload_n 1, 1) := by decide +kernel
theorem dX1_settle_41 : decode cX1_settle 41 = .ok (.iconst 2, 1) := by decide +kernel
theorem dX1_settle_42 : decode cX1_settle 42 = .ok (.aload_n 0, 1) := by decide +kernel
theorem dX1_settle_43 : decode cX1_settle 43 = .ok (.getfield 18, 3) := by decide +kernel
theorem dX1_settle_46 : decode cX1_settle 46 = .ok (.iload_n 1, 1) := by decide +kernel
theorem dX1_settle_47 : decode cX1_settle 47 = .ok (.iconst 3, 1) := by decide +kernel
theorem dX1_settle_48 : decode cX1_settle 48 = .ok (.imul, 1) := by decide +kernel
theorem dX1_settle_49 : decode cX1_settle 49 = .ok (.iconst 2, 1) := by decide +kernel
theorem dX1_settle_50 : decode cX1_settle 50 = .ok (.iadd, 1) := by decide +kernel
theorem dX1_settle_51 : decode cX1_settle 51 = .ok (.iaload, 1) := by decide +kernel
theorem dX1_settle_52 : decode cX1_settle 52 = .ok (.invokevirtual 45, 3) := by decide +kernel
theorem dX1_settle_55 : decode cX1_settle 55 = .ok (.aload_n 0, 1) := by decide +kernel
theorem dX1_settle_56 : decode cX1_settle 56 = .ok (.iload_n 1, 1) := by decide +kernel
theorem dX1_settle_57 : decode cX1_settle 57 = .ok (.iconst 3, 1) := by decide +kernel
theorem dX1_settle_58 : decode cX1_settle 58 = .ok (.iconst 0, 1) := by decide +kernel
theorem dX1_settle_59 : decode cX1_settle 59 = .ok (.invokevirtual 45, 3) := by decide +kernel
theorem dX1_settle_62 : decode cX1_settle 62 = .ok (.aload_n 0, 1) := by decide +kernel
theorem dX1_settle_63 : decode cX1_settle 63 = .ok (.iload_n 1, 1) := by decide +kernel
theorem dX1_settle_64 : decode cX1_settle 64 = .ok (.iconst 4, 1) := by decide +kernel
theorem dX1_settle_65 : decode cX1_settle 65 = .ok (.iconst 0, 1) := by decide +kernel
theorem dX1_settle_66 : decode cX1_settle 66 = .ok (.invokevirtual 45, 3) := by decide +kernel
theorem dX1_settle_69 : decode cX1_settle 69 = .ok (.aload_n 0, 1) := by decide +kernel
theorem dX1_settle_70 : decode cX1_settle 70 = .ok (.iload_n 1, 1) := by decide +kernel
theorem dX1_settle_71 : decode cX1_settle 71 = .ok (.iconst 5, 1) := by decide +kernel
theorem dX1_settle_72 : decode cX1_settle 72 = .ok (.iconst 0, 1) := by decide +kernel
theorem dX1_settle_73 : decode cX1_settle 73 = .ok (.invokevirtual 45, 3) := by decide +kernel
theorem dX1_settle_76 : decode cX1_settle 76 = .ok (.aload_n 0, 1) := by decide +kernel
theorem dX1_settle_77 : decode cX1_settle 77 = .ok (.iload_n 1, 1) := by decide +kernel
theorem dX1_settle_78 : decode cX1_settle 78 = .ok (.bipush 6, 2) := by decide +kernel
theorem dX1_settle_80 : decode cX1_settle 80 = .ok (.iconst 0, 1) := by decide +kernel
theorem dX1_settle_81 : decode cX1_settle 81 = .ok (.invokevirtual 45, 3) := by decide +kernel
theorem dX1_settle_84 : decode cX1_settle 84 = .ok (.return_, 1) := by decide +kernel
def f_X1_settle (N : Nat) (f_row : Nat → Int32) (f_told : Nat → Int32) (p1 : Int32) : Option ((Nat → Int32)) := ob1 (f_X1_told N f_row p1) fun r2 => if r2 = 0 then (some f_row) else (gA f_told 18 (p1 * (3 : Int32)) fun v19 => ob1 (f_X1_set N f_row p1 (0 : Int32) v19) fun f_row_20 => gA f_told 18 ((p1 * (3 : Int32)) + (1 : Int32)) fun v35 => ob1 (f_X1_set N f_row_20 p1 (1 : Int32) v35) fun f_row_36 => gA f_told 18 ((p1 * (3 : Int32)) + (2 : Int32)) fun v51 => ob1 (f_X1_set N f_row_36 p1 (2 : Int32) v51) fun f_row_52 => ob1 (f_X1_set N f_row_52 p1 (3 : Int32) (0 : Int32)) fun f_row_59 => ob1 (f_X1_set N f_row_59 p1 (4 : Int32) (0 : Int32)) fun f_row_66 => ob1 (f_X1_set N f_row_66 p1 (5 : Int32) (0 : Int32)) fun f_row_73 => ob1 (f_X1_set N f_row_73 p1 (6 : Int32) (0 : Int32)) fun f_row_81 => some f_row_81)
set_option maxHeartbeats 4000000 in
set_option maxRecDepth 100000 in
theorem k_X1_settle (l : Launch) (N : Nat) (D : va_G) (cI cJ cZ cB cT : ClassId) (qf0 : Nat) (qf1 : Nat) (qf3 : Nat) (qf2 : Nat) (f_row : Nat → Int32) (f_told : Nat → Int32) (p1 : Int32) (o_f_row : Nat → Int32) (hf : f_X1_settle N f_row f_told p1 = some o_f_row) : ∀ sz, Met l yX1_settle (mw yX1_settle cX1_settle 2 none) ({ frames := 2, cells := 0, slots := 0, locals := 44 } : Room) (mPre D (mT cI cJ cZ cB cT) (W_F_0t1_3 qf0 qf1 qf3 qf2 cI cJ cZ cB cT f_row f_told) sz [.ref qf0, .int p1]) ((mQv D (W_F_0t1_3 qf0 qf1 qf3 qf2 cI cJ cZ cB cT o_f_row f_told)) (va_A (W_F_0t1_3 qf0 qf1 qf3 qf2 cI cJ cZ cB cT f_row f_told) sz)) 0 0 (va_A (W_F_0t1_3 qf0 qf1 qf3 qf2 cI cJ cZ cB cT f_row f_told) sz) := by
  refine mMet (Qc := (mQv D (W_F_0t1_3 qf0 qf1 qf3 qf2 cI cJ cZ cB cT o_f_row f_told))) (by decide) (Nat.le_of_ble_eq_true rfl) (fun p e s m below meth c A ls hx hb hr hml hts hown hlocks hK hA hP hD hl => ?_)
  have hown : s.vm.findClass RX1 = some m.cls := hown
  have hl : lv_has ls 2 [(0, .ref qf0), (1, .int p1)] := hl
  have hS : va_S A s.heap s.heap [] := va_S.rf
  unfold f_X1_settle at hf
  refine lv_aload_n hx hb dX1_settle_0 rfl (lv_at hl 0 rfl) ?_
  refine lv_iload_n hx hb dX1_settle_1 rfl (lv_at hl 1 rfl) ?_
  obtain ⟨r2, hg2, hf⟩ := ob1_some hf
  refine mcV_i (wr := [(qf3, .inl (cI, 18, .inl f_told))]) (As := [.int p1]) (rest := []) hx hb hml hown hts hK hP hD hS hA (k_X1_told l N D cI cJ cZ cB cT qf0 qf1 qf2 qf3 f_row p1 r2 hg2) (kwX1_41 hts rfl rfl ⟨Nat.le_of_ble_eq_true rfl, Nat.le_of_ble_eq_true rfl⟩) [0, 1] [2] rfl rfl rfl (by decide) rfl 0 rfl rfl rfl rfl hl.1 rfl (Nat.le_of_ble_eq_true rfl) dX1_settle_2 ⟨Nat.zero_le _, Nat.zero_le _⟩ (fun hB2 H locs hP hD hS => ?_)
  have hP := mP_sub (wc := (W_F_0t1_3 qf0 qf1 qf3 qf2 cI cJ cZ cB cT f_row f_told)) hP [1, 2, 0] rfl
  have hD := hD.sub (ws' := (W_F_0t1_3 qf0 qf1 qf3 qf2 cI cJ cZ cB cT f_row f_told)) [1, 2, 0] rfl rfl
  refine xif_ne hx hb 9 dX1_settle_5 (by decide) hf (fun hf => ?_) (fun hf => ?_)
  · cases hf
    exact mret_v hx hb hr hlocks hP hD hS dX1_settle_8
  · refine lv_aload_n hx hb dX1_settle_9 rfl (lv_at hl 0 rfl) ?_
    refine lv_iload_n hx hb dX1_settle_10 rfl (lv_at hl 1 rfl) ?_
    refine lv_iconst (v := (0 : Int32)) hx hb dX1_settle_11 (by decide) ?_
    refine lv_aload_n hx hb dX1_settle_12 rfl (lv_at hl 0 rfl) ?_
    refine gfX1_18 hx hb hts hown hK hP 0 rfl rfl dX1_settle_13 ?_
    refine lv_iload_n hx hb dX1_settle_16 rfl (lv_at hl 1 rfl) ?_
    refine lv_iconst (v := (3 : Int32)) hx hb dX1_settle_17 (by decide) ?_
    refine lv_imul hx hb dX1_settle_18 ?_
    refine xiald hx hb hK hP 2 0 rfl rfl dX1_settle_19 hf (fun v19 hf => ?_)
    obtain ⟨f_row_20, hg20, hf⟩ := ob1_some hf
    refine mcV_v (wr := [(qf3, .inl (cI, 18, .inl f_told))]) (As := [.int p1, .int (0 : Int32), .int v19]) (rest := []) hx hb hml hown hts hK hP hD hS hA (k_X1_set l N D cI cJ cZ cB cT qf0 qf1 qf2 qf3 f_row p1 (0 : Int32) v19 f_row_20 hg20) (kwX1_45 hts rfl rfl ⟨Nat.le_of_ble_eq_true rfl, Nat.le_of_ble_eq_true rfl⟩) [0, 1] [2] rfl rfl rfl (by decide) rfl 0 rfl rfl rfl rfl hl.1 rfl (Nat.le_of_ble_eq_true rfl) dX1_settle_20 ⟨Nat.zero_le _, Nat.zero_le _⟩ (fun H locs hP hD hS => ?_)
    have hP := mP_sub (wc := (W_F_0t1_3 qf0 qf1 qf3 qf2 cI cJ cZ cB cT f_row_20 f_told)) hP [1, 2, 0] rfl
    have hD := hD.sub (ws' := (W_F_0t1_3 qf0 qf1 qf3 qf2 cI cJ cZ cB cT f_row_20 f_told)) [1, 2, 0] rfl rfl
    refine lv_aload_n hx hb dX1_settle_23 rfl (lv_at hl 0 rfl) ?_
    refine lv_iload_n hx hb dX1_settle_24 rfl (lv_at hl 1 rfl) ?_
    refine lv_iconst (v := (1 : Int32)) hx hb dX1_settle_25 (by decide) ?_
    refine lv_aload_n hx hb dX1_settle_26 rfl (lv_at hl 0 rfl) ?_
    refine gfX1_18 hx hb hts hown hK hP 0 rfl rfl dX1_settle_27 ?_
    refine lv_iload_n hx hb dX1_settle_30 rfl (lv_at hl 1 rfl) ?_
    refine lv_iconst (v := (3 : Int32)) hx hb dX1_settle_31 (by decide) ?_
    refine lv_imul hx hb dX1_settle_32 ?_
    refine lv_iconst (v := (1 : Int32)) hx hb dX1_settle_33 (by decide) ?_
    refine lv_iadd hx hb dX1_settle_34 ?_
    refine xiald hx hb hK hP 2 0 rfl rfl dX1_settle_35 hf (fun v35 hf => ?_)
    obtain ⟨f_row_36, hg36, hf⟩ := ob1_some hf
    refine mcV_v (wr := [(qf3, .inl (cI, 18, .inl f_told))]) (As := [.int p1, .int (1 : Int32), .int v35]) (rest := []) hx hb hml hown hts hK hP hD hS hA (k_X1_set l N D cI cJ cZ cB cT qf0 qf1 qf2 qf3 f_row_20 p1 (1 : Int32) v35 f_row_36 hg36) (kwX1_45 hts rfl rfl ⟨Nat.le_of_ble_eq_true rfl, Nat.le_of_ble_eq_true rfl⟩) [0, 1] [2] rfl rfl rfl (by decide) rfl 0 rfl rfl rfl rfl hl.1 rfl (Nat.le_of_ble_eq_true rfl) dX1_settle_36 ⟨Nat.zero_le _, Nat.zero_le _⟩ (fun H locs hP hD hS => ?_)
    have hP := mP_sub (wc := (W_F_0t1_3 qf0 qf1 qf3 qf2 cI cJ cZ cB cT f_row_36 f_told)) hP [1, 2, 0] rfl
    have hD := hD.sub (ws' := (W_F_0t1_3 qf0 qf1 qf3 qf2 cI cJ cZ cB cT f_row_36 f_told)) [1, 2, 0] rfl rfl
    refine lv_aload_n hx hb dX1_settle_39 rfl (lv_at hl 0 rfl) ?_
    refine lv_iload_n hx hb dX1_settle_40 rfl (lv_at hl 1 rfl) ?_
    refine lv_iconst (v := (2 : Int32)) hx hb dX1_settle_41 (by decide) ?_
    refine lv_aload_n hx hb dX1_settle_42 rfl (lv_at hl 0 rfl) ?_
    refine gfX1_18 hx hb hts hown hK hP 0 rfl rfl dX1_settle_43 ?_
    refine lv_iload_n hx hb dX1_settle_46 rfl (lv_at hl 1 rfl) ?_
    refine lv_iconst (v := (3 : Int32)) hx hb dX1_settle_47 (by decide) ?_
    refine lv_imul hx hb dX1_settle_48 ?_
    refine lv_iconst (v := (2 : Int32)) hx hb dX1_settle_49 (by decide) ?_
    refine lv_iadd hx hb dX1_settle_50 ?_
    refine xiald hx hb hK hP 2 0 rfl rfl dX1_settle_51 hf (fun v51 hf => ?_)
    obtain ⟨f_row_52, hg52, hf⟩ := ob1_some hf
    refine mcV_v (wr := [(qf3, .inl (cI, 18, .inl f_told))]) (As := [.int p1, .int (2 : Int32), .int v51]) (rest := []) hx hb hml hown hts hK hP hD hS hA (k_X1_set l N D cI cJ cZ cB cT qf0 qf1 qf2 qf3 f_row_36 p1 (2 : Int32) v51 f_row_52 hg52) (kwX1_45 hts rfl rfl ⟨Nat.le_of_ble_eq_true rfl, Nat.le_of_ble_eq_true rfl⟩) [0, 1] [2] rfl rfl rfl (by decide) rfl 0 rfl rfl rfl rfl hl.1 rfl (Nat.le_of_ble_eq_true rfl) dX1_settle_52 ⟨Nat.zero_le _, Nat.zero_le _⟩ (fun H locs hP hD hS => ?_)
    have hP := mP_sub (wc := (W_F_0t1_3 qf0 qf1 qf3 qf2 cI cJ cZ cB cT f_row_52 f_told)) hP [1, 2, 0] rfl
    have hD := hD.sub (ws' := (W_F_0t1_3 qf0 qf1 qf3 qf2 cI cJ cZ cB cT f_row_52 f_told)) [1, 2, 0] rfl rfl
    refine lv_aload_n hx hb dX1_settle_55 rfl (lv_at hl 0 rfl) ?_
    refine lv_iload_n hx hb dX1_settle_56 rfl (lv_at hl 1 rfl) ?_
    refine lv_iconst (v := (3 : Int32)) hx hb dX1_settle_57 (by decide) ?_
    refine lv_iconst (v := (0 : Int32)) hx hb dX1_settle_58 (by decide) ?_
    obtain ⟨f_row_59, hg59, hf⟩ := ob1_some hf
    refine mcV_v (wr := [(qf3, .inl (cI, 18, .inl f_told))]) (As := [.int p1, .int (3 : Int32), .int (0 : Int32)]) (rest := []) hx hb hml hown hts hK hP hD hS hA (k_X1_set l N D cI cJ cZ cB cT qf0 qf1 qf2 qf3 f_row_52 p1 (3 : Int32) (0 : Int32) f_row_59 hg59) (kwX1_45 hts rfl rfl ⟨Nat.le_of_ble_eq_true rfl, Nat.le_of_ble_eq_true rfl⟩) [0, 1] [2] rfl rfl rfl (by decide) rfl 0 rfl rfl rfl rfl hl.1 rfl (Nat.le_of_ble_eq_true rfl) dX1_settle_59 ⟨Nat.zero_le _, Nat.zero_le _⟩ (fun H locs hP hD hS => ?_)
    have hP := mP_sub (wc := (W_F_0t1_3 qf0 qf1 qf3 qf2 cI cJ cZ cB cT f_row_59 f_told)) hP [1, 2, 0] rfl
    have hD := hD.sub (ws' := (W_F_0t1_3 qf0 qf1 qf3 qf2 cI cJ cZ cB cT f_row_59 f_told)) [1, 2, 0] rfl rfl
    refine lv_aload_n hx hb dX1_settle_62 rfl (lv_at hl 0 rfl) ?_
    refine lv_iload_n hx hb dX1_settle_63 rfl (lv_at hl 1 rfl) ?_
    refine lv_iconst (v := (4 : Int32)) hx hb dX1_settle_64 (by decide) ?_
    refine lv_iconst (v := (0 : Int32)) hx hb dX1_settle_65 (by decide) ?_
    obtain ⟨f_row_66, hg66, hf⟩ := ob1_some hf
    refine mcV_v (wr := [(qf3, .inl (cI, 18, .inl f_told))]) (As := [.int p1, .int (4 : Int32), .int (0 : Int32)]) (rest := []) hx hb hml hown hts hK hP hD hS hA (k_X1_set l N D cI cJ cZ cB cT qf0 qf1 qf2 qf3 f_row_59 p1 (4 : Int32) (0 : Int32) f_row_66 hg66) (kwX1_45 hts rfl rfl ⟨Nat.le_of_ble_eq_true rfl, Nat.le_of_ble_eq_true rfl⟩) [0, 1] [2] rfl rfl rfl (by decide) rfl 0 rfl rfl rfl rfl hl.1 rfl (Nat.le_of_ble_eq_true rfl) dX1_settle_66 ⟨Nat.zero_le _, Nat.zero_le _⟩ (fun H locs hP hD hS => ?_)
    have hP := mP_sub (wc := (W_F_0t1_3 qf0 qf1 qf3 qf2 cI cJ cZ cB cT f_row_66 f_told)) hP [1, 2, 0] rfl
    have hD := hD.sub (ws' := (W_F_0t1_3 qf0 qf1 qf3 qf2 cI cJ cZ cB cT f_row_66 f_told)) [1, 2, 0] rfl rfl
    refine lv_aload_n hx hb dX1_settle_69 rfl (lv_at hl 0 rfl) ?_
    refine lv_iload_n hx hb dX1_settle_70 rfl (lv_at hl 1 rfl) ?_
    refine lv_iconst (v := (5 : Int32)) hx hb dX1_settle_71 (by decide) ?_
    refine lv_iconst (v := (0 : Int32)) hx hb dX1_settle_72 (by decide) ?_
    obtain ⟨f_row_73, hg73, hf⟩ := ob1_some hf
    refine mcV_v (wr := [(qf3, .inl (cI, 18, .inl f_told))]) (As := [.int p1, .int (5 : Int32), .int (0 : Int32)]) (rest := []) hx hb hml hown hts hK hP hD hS hA (k_X1_set l N D cI cJ cZ cB cT qf0 qf1 qf2 qf3 f_row_66 p1 (5 : Int32) (0 : Int32) f_row_73 hg73) (kwX1_45 hts rfl rfl ⟨Nat.le_of_ble_eq_true rfl, Nat.le_of_ble_eq_true rfl⟩) [0, 1] [2] rfl rfl rfl (by decide) rfl 0 rfl rfl rfl rfl hl.1 rfl (Nat.le_of_ble_eq_true rfl) dX1_settle_73 ⟨Nat.zero_le _, Nat.zero_le _⟩ (fun H locs hP hD hS => ?_)
    have hP := mP_sub (wc := (W_F_0t1_3 qf0 qf1 qf3 qf2 cI cJ cZ cB cT f_row_73 f_told)) hP [1, 2, 0] rfl
    have hD := hD.sub (ws' := (W_F_0t1_3 qf0 qf1 qf3 qf2 cI cJ cZ cB cT f_row_73 f_told)) [1, 2, 0] rfl rfl
    refine lv_aload_n hx hb dX1_settle_76 rfl (lv_at hl 0 rfl) ?_
    refine lv_iload_n hx hb dX1_settle_77 rfl (lv_at hl 1 rfl) ?_
    refine lv_bipush (v := (6 : Int32)) hx hb dX1_settle_78 (by decide) ?_
    refine lv_iconst (v := (0 : Int32)) hx hb dX1_settle_80 (by decide) ?_
    obtain ⟨f_row_81, hg81, hf⟩ := ob1_some hf
    refine mcV_v (wr := [(qf3, .inl (cI, 18, .inl f_told))]) (As := [.int p1, .int (6 : Int32), .int (0 : Int32)]) (rest := []) hx hb hml hown hts hK hP hD hS hA (k_X1_set l N D cI cJ cZ cB cT qf0 qf1 qf2 qf3 f_row_73 p1 (6 : Int32) (0 : Int32) f_row_81 hg81) (kwX1_45 hts rfl rfl ⟨Nat.le_of_ble_eq_true rfl, Nat.le_of_ble_eq_true rfl⟩) [0, 1] [2] rfl rfl rfl (by decide) rfl 0 rfl rfl rfl rfl hl.1 rfl (Nat.le_of_ble_eq_true rfl) dX1_settle_81 ⟨Nat.zero_le _, Nat.zero_le _⟩ (fun H locs hP hD hS => ?_)
    have hP := mP_sub (wc := (W_F_0t1_3 qf0 qf1 qf3 qf2 cI cJ cZ cB cT f_row_81 f_told)) hP [1, 2, 0] rfl
    have hD := hD.sub (ws' := (W_F_0t1_3 qf0 qf1 qf3 qf2 cI cJ cZ cB cT f_row_81 f_told)) [1, 2, 0] rfl rfl
    cases hf
    exact mret_v hx hb hr hlocks hP hD hS dX1_settle_84
theorem dX1_takeFrom_0 : decode cX1_takeFrom 0 = .ok (.iload_n 2, 1) := by decide +kernel
theorem dX1_takeFrom_1 : decode cX1_takeFrom 1 = .ok (.ifCond .lt 12, 3) := by decide +kernel
theorem dX1_takeFrom_4 : decode cX1_takeFrom 4 = .ok (.iload_n 2, 1) := by decide +kernel
theorem dX1_takeFrom_5 : decode cX1_takeFrom 5 = .ok (.aload_n 1, 1) := by decide +kernel
theorem dX1_takeFrom_6 : decode cX1_takeFrom 6 = .ok (.arraylength, 1) := by decide +kernel
theorem dX1_takeFrom_7 : decode cX1_takeFrom 7 = .ok (.bipush 76, 2) := by decide +kernel
theorem dX1_takeFrom_9 : decode cX1_takeFrom 9 = .ok (.isub, 1) := by decide +kernel
theorem dX1_takeFrom_10 : decode cX1_takeFrom 10 = .ok (.if_icmp .le 4, 3) := by decide +kernel
theorem dX1_takeFrom_13 : decode cX1_takeFrom 13 = .ok (.return_, 1) := by decide +kernel
theorem dX1_takeFrom_14 : decode cX1_takeFrom 14 = .ok (.aload_n 0, 1) := by decide +kernel
theorem dX1_takeFrom_15 : decode cX1_takeFrom 15 = .ok (.invokevirtual 27, 3) := by decide +kernel
theorem dX1_takeFrom_18 : decode cX1_takeFrom 18 = .ok (.istore_n 3, 1) := by decide +kernel
theorem dX1_takeFrom_19 : decode cX1_takeFrom 19 = .ok (.aload_n 1, 1) := by decide +kernel
theorem dX1_takeFrom_20 : decode cX1_takeFrom 20 = .ok (.iload_n 2, 1) := by decide +kernel
theorem dX1_takeFrom_21 : decode cX1_takeFrom 21 = .ok (.aload_n 0, 1) := by decide +kernel
theorem dX1_takeFrom_22 : decode cX1_takeFrom 22 = .ok (.getfield 11, 3) := by decide +kernel
theorem dX1_takeFrom_25 : decode cX1_takeFrom 25 = .ok (.iconst 0, 1) := by decide +kernel
theorem dX1_takeFrom_26 : decode cX1_takeFrom 26 = .ok (.bipush 76, 2) := by decide +kernel
theorem dX1_takeFrom_28 : decode cX1_takeFrom 28 = .ok (.invokestatic 21, 3) := by decide +kernel
theorem dX1_takeFrom_31 : decode cX1_takeFrom 31 = .ok (.aload_n 0, 1) := by decide +kernel
theorem dX1_takeFrom_32 : decode cX1_takeFrom 32 = .ok (.invokevirtual 27, 3) := by decide +kernel
theorem dX1_takeFrom_35 : decode cX1_takeFrom 35 = .ok (.istore 4, 2) := by decide +kernel
theorem dX1_takeFrom_37 : decode cX1_takeFrom 37 = .ok (.aload_n 0, 1) := by decide +kernel
theorem dX1_takeFrom_38 : decode cX1_takeFrom 38 = .ok (.getfield 11, 3) := by decide +kernel
theorem dX1_takeFrom_41 : decode cX1_takeFrom 41 = .ok (.iconst 2, 1) := by decide +kernel
theorem dX1_takeFrom_42 : decode cX1_takeFrom 42 = .ok (.iload_n 3, 1) := by decide +kernel
theorem dX1_takeFrom_43 : decode cX1_takeFrom 43 = .ok (.iload 4, 2) := by decide +kernel
theorem dX1_takeFrom_45 : decode cX1_takeFrom 45 = .ok (.invokestatic 31, 3) := by decide +kernel
theorem dX1_takeFrom_48 : decode cX1_takeFrom 48 = .ok (.iastore, 1) := by decide +kernel
theorem dX1_takeFrom_49 : decode cX1_takeFrom 49 = .ok (.iload 4, 2) := by decide +kernel
theorem dX1_takeFrom_51 : decode cX1_takeFrom 51 = .ok (.istore 5, 2) := by decide +kernel
theorem dX1_takeFrom_53 : decode cX1_takeFrom 53 = .ok (.iload 5, 2) := by decide +kernel
theorem dX1_takeFrom_55 : decode cX1_takeFrom 55 = .ok (.iload_n 3, 1) := by decide +kernel
theorem dX1_takeFrom_56 : decode cX1_takeFrom 56 = .ok (.if_icmp .ge 15, 3) := by decide +kernel
theorem dX1_takeFrom_59 : decode cX1_takeFrom 59 = .ok (.aload_n 0, 1) := by decide +kernel
theorem dX1_takeFrom_60 : decode cX1_takeFrom 60 = .ok (.iload 5, 2) := by decide +kernel
theorem dX1_takeFrom_62 : decode cX1_takeFrom 62 = .ok (.invokevirtual 37, 3) := by decide +kernel
theorem dX1_takeFrom_65 : decode cX1_takeFrom 65 = .ok (.iinc 5 1, 3) := by decide +kernel
theorem dX1_takeFrom_68 : decode cX1_takeFrom 68 = .ok (.goto (-15), 3) := by decide +kernel
theorem dX1_takeFrom_71 : decode cX1_takeFrom 71 = .ok (.return_, 1) := by decide +kernel
def f_X1_takeFrom_53 (N : Nat) : Nat → (Nat → Int32) → (Nat → Int32) → (Nat → Int32) → Int32 → Int32 → Option ((Nat → Int32))
  | 0, _, _, _, _, _ => none
  | n + 1, f_row, f_told, z_store, x3, x5 => if x3 ≤ x5 then (some f_row) else (ob1 (f_X1_settle N f_row f_told x5) fun f_row_62 => (f_X1_takeFrom_53 N n) f_row_62 f_told z_store x3 (x5 + (1 : Int32)))
def f_X1_takeFrom (N : Nat) (f_row : Nat → Int32) (f_told : Nat → Int32) (z_store : Nat → Int32) (p2 : Int32) : Option ((Nat → Int32)) := if p2 < 0 then (some f_row) else (if p2 ≤ ((2356 : Int32) - (76 : Int32)) then (ob1 (f_X1_count N f_row) fun r15 => cpI z_store 2356 f_row 76 p2 (0 : Int32) (76 : Int32) fun f_row_28 => ob1 (f_X1_count N f_row_28) fun r32 => sA f_row_28 76 (2 : Int32) (mxI r15 r32) fun f_row_48 => f_X1_takeFrom_53 N N f_row_48 f_told z_store r15 r32) else (some f_row))
set_option maxHeartbeats 4000000 in
set_option maxRecDepth 100000 in
theorem k_X1_takeFrom (l : Launch) (N : Nat) (D : va_G) (cI cJ cZ cB cT : ClassId) (qf0 : Nat) (qf1 : Nat) (qf3 : Nat) (qz1 : Nat) (qf2 : Nat) (f_row : Nat → Int32) (f_told : Nat → Int32) (z_store : Nat → Int32) (p2 : Int32) (o_f_row : Nat → Int32) (hf : f_X1_takeFrom N f_row f_told z_store p2 = some o_f_row) : ∀ sz, Met l yX1_takeFrom (mw yX1_takeFrom cX1_takeFrom 6 none) ({ frames := 3, cells := 0, slots := 0, locals := 65 } : Room) (mPre D (mT cI cJ cZ cB cT) (W_FS_0t1_3t4 qf0 qf1 qf3 qz1 qf2 cI cJ cZ cB cT f_row f_told z_store) sz [.ref qf0, .ref qz1, .int p2]) ((mQv D (W_FS_0t1_3t4 qf0 qf1 qf3 qz1 qf2 cI cJ cZ cB cT o_f_row f_told z_store)) (va_A (W_FS_0t1_3t4 qf0 qf1 qf3 qz1 qf2 cI cJ cZ cB cT f_row f_told z_store) sz)) 0 0 (va_A (W_FS_0t1_3t4 qf0 qf1 qf3 qz1 qf2 cI cJ cZ cB cT f_row f_told z_store) sz) := by
  refine mMet (Qc := (mQv D (W_FS_0t1_3t4 qf0 qf1 qf3 qz1 qf2 cI cJ cZ cB cT o_f_row f_told z_store))) (by decide) (Nat.le_of_ble_eq_true rfl) (fun p e s m below meth c A ls hx hb hr hml hts hown hlocks hK hA hP hD hl => ?_)
  have hown : s.vm.findClass RX1 = some m.cls := hown
  have hl : lv_has ls 6 [(0, .ref qf0), (1, .ref qz1), (2, .int p2)] := hl
  have hS : va_S A s.heap s.heap [] := va_S.rf
  have b53 : ∀ n53 : Nat, ∀ (f_row : Nat → Int32) (x3 : Int32) (x5 : Int32) (H : Heap) (locs : List Loc) (ls : Array Slot), f_X1_takeFrom_53 N n53 f_row f_told z_store x3 x5 = some o_f_row → va_P D vwCl (W_FS_0t1_3t4 qf0 qf1 qf3 qz1 qf2 cI cJ cZ cB cT f_row f_told z_store) H → va_D A (W_FS_0t1_3t4 qf0 qf1 qf3 qz1 qf2 cI cJ cZ cB cT f_row f_told z_store) → va_S A s.heap H locs → lv_has ls 6 [(0, .ref qf0), (3, .int x3), (5, .int x5)] → W p l e ({ frames := 3, cells := 0, slots := 0, locals := 65 } : Room) s m ([.ref qf0, .ref qz1, .int p2] : List Value).toArray below meth c H locs 0 0 (MQ below ((mQv D (W_FS_0t1_3t4 qf0 qf1 qf3 qz1 qf2 cI cJ cZ cB cT o_f_row f_told z_store)) A) ([.ref qf0, .ref qz1, .int p2] : List Value).toArray s 0 0 A) (F0 m 53 ls []) := by
    intro n53
    induction n53 with
    | zero =>
      intro f_row x3 x5 H locs ls hf hP hD hS hl
      simp [f_X1_takeFrom_53] at hf
    | succ n53 ih53 =>
      intro f_row x3 x5 H locs ls hf hP hD hS hl
      rw [f_X1_takeFrom_53.eq_2] at hf
      refine lv_iload hx hb dX1_takeFrom_53 (lv_at hl 2 rfl) ?_
      refine lv_iload_n hx hb dX1_takeFrom_55 rfl (lv_at hl 1 rfl) ?_
      refine xicmp_ge hx hb 71 dX1_takeFrom_56 (by decide) hf (fun hf => ?_) (fun hf => ?_)
      · cases hf
        exact mret_v hx hb hr hlocks hP hD hS dX1_takeFrom_71
      · refine lv_aload_n hx hb dX1_takeFrom_59 rfl (lv_at hl 0 rfl) ?_
        refine lv_iload hx hb dX1_takeFrom_60 (lv_at hl 2 rfl) ?_
        obtain ⟨f_row_62, hg62, hf⟩ := ob1_some hf
        refine mcV_v (wr := [(qz1, .inl (cI, 2356, .inl z_store))]) (As := [.int x5]) (rest := []) hx hb hml hown hts hK hP hD hS hA (k_X1_settle l N D cI cJ cZ cB cT qf0 qf1 qf3 qf2 f_row f_told x5 f_row_62 hg62) (kwX1_37 hts rfl rfl ⟨Nat.le_of_ble_eq_true rfl, Nat.le_of_ble_eq_true rfl⟩) [0, 1, 2] [3] rfl rfl rfl (by decide) rfl 0 rfl rfl rfl rfl hl.1 rfl (Nat.le_of_ble_eq_true rfl) dX1_takeFrom_62 ⟨Nat.zero_le _, Nat.zero_le _⟩ (fun H locs hP hD hS => ?_)
        have hP := mP_sub (wc := (W_FS_0t1_3t4 qf0 qf1 qf3 qz1 qf2 cI cJ cZ cB cT f_row_62 f_told z_store)) hP [1, 2, 3, 0] rfl
        have hD := hD.sub (ws' := (W_FS_0t1_3t4 qf0 qf1 qf3 qz1 qf2 cI cJ cZ cB cT f_row_62 f_told z_store)) [1, 2, 3, 0] rfl rfl
        refine lv_iinc (v := (x5 + (1 : Int32))) (lv' := [(5, .int (x5 + (1 : Int32))), (0, .ref qf0), (3, .int x3)]) hx hb dX1_takeFrom_65 hl (k := 2) rfl rfl (by decide) rfl (fun ls hl => ?_)
        refine lv_goto (tgt := 53) hx hb dX1_takeFrom_68 (by decide) ?_
        exact ih53 f_row_62 x3 (x5 + (1 : Int32)) _ _ _ hf hP hD hS (lv_sub hl [1, 2, 0] rfl)
  unfold f_X1_takeFrom at hf
  refine lv_iload_n hx hb dX1_takeFrom_0 rfl (lv_at hl 2 rfl) ?_
  refine xif_lt hx hb 13 dX1_takeFrom_1 (by decide) hf (fun hf => ?_) (fun hf => ?_)
  · cases hf
    exact mret_v hx hb hr hlocks hP hD hS dX1_takeFrom_13
  · refine lv_iload_n hx hb dX1_takeFrom_4 rfl (lv_at hl 2 rfl) ?_
    refine lv_aload_n hx hb dX1_takeFrom_5 rfl (lv_at hl 1 rfl) ?_
    refine va_alen (v := (2356 : Int32)) hx hb hK hP 3 0 rfl rfl rfl dX1_takeFrom_6 ?_
    refine lv_bipush (v := (76 : Int32)) hx hb dX1_takeFrom_7 (by decide) ?_
    refine lv_isub hx hb dX1_takeFrom_9 ?_
    refine xicmp_le hx hb 14 dX1_takeFrom_10 (by decide) hf (fun hf => ?_) (fun hf => ?_)
    · refine lv_aload_n hx hb dX1_takeFrom_14 rfl (lv_at hl 0 rfl) ?_
      obtain ⟨r15, hg15, hf⟩ := ob1_some hf
      refine mcV_i (wr := [(qf3, .inl (cI, 18, .inl f_told)), (qz1, .inl (cI, 2356, .inl z_store))]) (As := []) (rest := []) hx hb hml hown hts hK hP hD hS hA (k_X1_count l N D cI cJ cZ cB cT qf0 qf1 qf2 qf3 f_row r15 hg15) (kwX1_27 hts rfl rfl ⟨Nat.le_of_ble_eq_true rfl, Nat.le_of_ble_eq_true rfl⟩) [0, 1] [2, 3] rfl rfl rfl (by decide) rfl 0 rfl rfl rfl rfl hl.1 rfl (Nat.le_of_ble_eq_true rfl) dX1_takeFrom_15 ⟨Nat.zero_le _, Nat.zero_le _⟩ (fun hB15 H locs hP hD hS => ?_)
      have hP := mP_sub (wc := (W_FS_0t1_3t4 qf0 qf1 qf3 qz1 qf2 cI cJ cZ cB cT f_row f_told z_store)) hP [2, 3, 0, 1] rfl
      have hD := hD.sub (ws' := (W_FS_0t1_3t4 qf0 qf1 qf3 qz1 qf2 cI cJ cZ cB cT f_row f_told z_store)) [2, 3, 0, 1] rfl rfl
      refine lv_istore_n (lv' := [(3, .int r15), (0, .ref qf0), (1, .ref qz1), (2, .int p2)]) hx hb dX1_takeFrom_18 rfl hl (by decide) rfl (fun ls hl => ?_)
      refine lv_aload_n hx hb dX1_takeFrom_19 rfl (lv_at hl 2 rfl) ?_
      refine lv_iload_n hx hb dX1_takeFrom_20 rfl (lv_at hl 3 rfl) ?_
      refine lv_aload_n hx hb dX1_takeFrom_21 rfl (lv_at hl 1 rfl) ?_
      refine gfX1_11 hx hb hts hown hK hP 0 rfl rfl dX1_takeFrom_22 ?_
      refine lv_iconst (v := (0 : Int32)) hx hb dX1_takeFrom_25 (by decide) ?_
      refine lv_bipush (v := (76 : Int32)) hx hb dX1_takeFrom_26 (by decide) ?_
      refine xcopy hx hb hml hl.1 hown hts cpwX1_21 hK hP hD hS 3 1 0 0 rfl rfl rfl rfl (Nat.le_of_ble_eq_true rfl) (by decide) dX1_takeFrom_28 hf (fun f_row_28 hf H locs hP hD hS => ?_)
      have hP : va_P D vwCl (W_FS_0t1_3t4 qf0 qf1 qf3 qz1 qf2 cI cJ cZ cB cT f_row_28 f_told z_store) H := hP
      have hD : va_D A (W_FS_0t1_3t4 qf0 qf1 qf3 qz1 qf2 cI cJ cZ cB cT f_row_28 f_told z_store) := hD
      refine lv_aload_n hx hb dX1_takeFrom_31 rfl (lv_at hl 1 rfl) ?_
      obtain ⟨r32, hg32, hf⟩ := ob1_some hf
      refine mcV_i (wr := [(qf3, .inl (cI, 18, .inl f_told)), (qz1, .inl (cI, 2356, .inl z_store))]) (As := []) (rest := []) hx hb hml hown hts hK hP hD hS hA (k_X1_count l N D cI cJ cZ cB cT qf0 qf1 qf2 qf3 f_row_28 r32 hg32) (kwX1_27 hts rfl rfl ⟨Nat.le_of_ble_eq_true rfl, Nat.le_of_ble_eq_true rfl⟩) [0, 1] [2, 3] rfl rfl rfl (by decide) rfl 0 rfl rfl rfl rfl hl.1 rfl (Nat.le_of_ble_eq_true rfl) dX1_takeFrom_32 ⟨Nat.zero_le _, Nat.zero_le _⟩ (fun hB32 H locs hP hD hS => ?_)
      have hP := mP_sub (wc := (W_FS_0t1_3t4 qf0 qf1 qf3 qz1 qf2 cI cJ cZ cB cT f_row_28 f_told z_store)) hP [2, 3, 0, 1] rfl
      have hD := hD.sub (ws' := (W_FS_0t1_3t4 qf0 qf1 qf3 qz1 qf2 cI cJ cZ cB cT f_row_28 f_told z_store)) [2, 3, 0, 1] rfl rfl
      refine lv_istore (lv' := [(4, .int r32), (3, .int r15), (0, .ref qf0), (1, .ref qz1), (2, .int p2)]) hx hb dX1_takeFrom_35 hl (by decide) rfl (fun ls hl => ?_)
      refine lv_aload_n hx hb dX1_takeFrom_37 rfl (lv_at hl 2 rfl) ?_
      refine gfX1_11 hx hb hts hown hK hP 0 rfl rfl dX1_takeFrom_38 ?_
      refine lv_iconst (v := (2 : Int32)) hx hb dX1_takeFrom_41 (by decide) ?_
      refine lv_iload_n hx hb dX1_takeFrom_42 rfl (lv_at hl 1 rfl) ?_
      refine lv_iload hx hb dX1_takeFrom_43 (lv_at hl 0 rfl) ?_
      refine xmax hx hb hml hl.1 hown hts mtX1_31 (Nat.le_of_ble_eq_true rfl) (Nat.le_of_ble_eq_true rfl) ⟨Nat.zero_le _, Nat.zero_le _⟩ dX1_takeFrom_45 ?_
      refine xiast hx hb hK hP hD hS 1 0 rfl rfl dX1_takeFrom_48 hf (fun f_row_48 hf H locs hP hD hS => ?_)
      have hP : va_P D vwCl (W_FS_0t1_3t4 qf0 qf1 qf3 qz1 qf2 cI cJ cZ cB cT f_row_48 f_told z_store) H := hP
      have hD : va_D A (W_FS_0t1_3t4 qf0 qf1 qf3 qz1 qf2 cI cJ cZ cB cT f_row_48 f_told z_store) := hD
      refine lv_iload hx hb dX1_takeFrom_49 (lv_at hl 0 rfl) ?_
      refine lv_istore (lv' := [(5, .int r32), (4, .int r32), (3, .int r15), (0, .ref qf0), (1, .ref qz1), (2, .int p2)]) hx hb dX1_takeFrom_51 hl (by decide) rfl (fun ls hl => ?_)
      exact b53 N f_row_48 r15 r32 _ _ _ hf hP hD hS (lv_sub hl [3, 2, 0] rfl)
    · cases hf
      exact mret_v hx hb hr hlocks hP hD hS dX1_takeFrom_13
theorem dX1_tell_0 : decode cX1_tell 0 = .ok (.aload_n 0, 1) := by decide +kernel
theorem dX1_tell_1 : decode cX1_tell 1 = .ok (.invokevirtual 27, 3) := by decide +kernel
theorem dX1_tell_4 : decode cX1_tell 4 = .ok (.istore 5, 2) := by decide +kernel
theorem dX1_tell_6 : decode cX1_tell 6 = .ok (.iload 5, 2) := by decide +kernel
theorem dX1_tell_8 : decode cX1_tell 8 = .ok (.ifCond .lt 20, 3) := by decide +kernel
theorem dX1_tell_11 : decode cX1_tell 11 = .ok (.iload 5, 2) := by decide +kernel
theorem dX1_tell_13 : decode cX1_tell 13 = .ok (.bipush 6, 2) := by decide +kernel
theorem dX1_tell_15 : decode cX1_tell 15 = .ok (.if_icmp .ge 13, 3) := by decide +kernel
theorem dX1_tell_18 : decode cX1_tell 18 = .ok (.iload_n 2, 1) := by decide +kernel
theorem dX1_tell_19 : decode cX1_tell 19 = .ok (.ifCond .lt 9, 3) := by decide +kernel
theorem dX1_tell_22 : decode cX1_tell 22 = .ok (.iload_n 2, 1) := by decide +kernel
theorem dX1_tell_23 : decode cX1_tell 23 = .ok (.bipush 9, 2) := by decide +kernel
theorem dX1_tell_25 : decode cX1_tell 25 = .ok (.if_icmp .le 5, 3) := by decide +kernel
theorem dX1_tell_28 : decode cX1_tell 28 = .ok (.iconst (-1), 1) := by decide +kernel
theorem dX1_tell_29 : decode cX1_tell 29 = .ok (.ireturn, 1) := by decide +kernel
theorem dX1_tell_30 : decode cX1_tell 30 = .ok (.iload_n 3, 1) := by decide +kernel
theorem dX1_tell_31 : decode cX1_tell 31 = .ok (.ifCond .lt 23, 3) := by decide +kernel
theorem dX1_tell_34 : decode cX1_tell 34 = .ok (.iload_n 3, 1) := by decide +kernel
theorem dX1_tell_35 : decode cX1_tell 35 = .ok (.sipush 9999, 3) := by decide +kernel
theorem dX1_tell_38 : decode cX1_tell 38 = .ok (.if_icmp .gt 16, 3) := by decide +kernel
theorem dX1_tell_41 : decode cX1_tell 41 = .ok (.iload 4, 2) := by decide +kernel
theorem dX1_tell_43 : decode cX1_tell 43 = .ok (.ifCond .lt 11, 3) := by decide +kernel
theorem dX1_tell_46 : decode cX1_tell 46 = .ok (.iload 4, 2) := by decide +kernel
theorem dX1_tell_48 : decode cX1_tell 48 = .ok (.sipush 9999, 3) := by decide +kernel
theorem dX1_tell_51 : decode cX1_tell 51 = .ok (.if_icmp .le 5, 3) := by decide +kernel
theorem dX1_tell_54 : decode cX1_tell 54 = .ok (.iconst (-1), 1) := by decide +kernel
theorem dX1_tell_55 : decode cX1_tell 55 = .ok (.ireturn, 1) := by decide +kernel
theorem dX1_tell_56 : decode cX1_tell 56 = .ok (.aload_n 0, 1) := by decide +kernel
theorem dX1_tell_57 : decode cX1_tell 57 = .ok (.getfield 15, 3) := by decide +kernel
theorem dX1_tell_60 : decode cX1_tell 60 = .ok (.iload 5, 2) := by decide +kernel
theorem dX1_tell_62 : decode cX1_tell 62 = .ok (.iload_n 2, 1) := by decide +kernel
theorem dX1_tell_63 : decode cX1_tell 63 = .ok (.iastore, 1) := by decide +kernel
theorem dX1_tell_64 : decode cX1_tell 64 = .ok (.aload_n 0, 1) := by decide +kernel
theorem dX1_tell_65 : decode cX1_tell 65 = .ok (.getfield 18, 3) := by decide +kernel
theorem dX1_tell_68 : decode cX1_tell 68 = .ok (.iload 5, 2) := by decide +kernel
theorem dX1_tell_70 : decode cX1_tell 70 = .ok (.iconst 3, 1) := by decide +kernel
theorem dX1_tell_71 : decode cX1_tell 71 = .ok (.imul, 1) := by decide +kernel
theorem dX1_tell_72 : decode cX1_tell 72 = .ok (.iload_n 1, 1) := by decide +kernel
theorem dX1_tell_73 : decode cX1_tell 73 = .ok (.iastore, 1) := by decide +kernel
theorem dX1_tell_74 : decode cX1_tell 74 = .ok (.aload_n 0, 1) := by decide +kernel
theorem dX1_tell_75 : decode cX1_tell 75 = .ok (.getfield 18, 3) := by decide +kernel
theorem dX1_tell_78 : decode cX1_tell 78 = .ok (.iload 5, 2) := by decide +kernel
theorem dX1_tell_80 : decode cX1_tell 80 = .ok (.iconst 3, 1) := by decide +kernel
theorem dX1_tell_81 : decode cX1_tell 81 = .ok (.imul, 1) := by decide +kernel
theorem dX1_tell_82 : decode cX1_tell 82 = .ok (.iconst 1, 1) := by decide +kernel
theorem dX1_tell_83 : decode cX1_tell 83 = .ok (.iadd, 1) := by decide +kernel
theorem dX1_tell_84 : decode cX1_tell 84 = .ok (.iload_n 3, 1) := by decide +kernel
theorem dX1_tell_85 : decode cX1_tell 85 = .ok (.iastore, 1) := by decide +kernel
theorem dX1_tell_86 : decode cX1_tell 86 = .ok (.aload_n 0, 1) := by decide +kernel
theorem dX1_tell_87 : decode cX1_tell 87 = .ok (.getfield 18, 3) := by decide +kernel
theorem dX1_tell_90 : decode cX1_tell 90 = .ok (.iload 5, 2) := by decide +kernel
theorem dX1_tell_92 : decode cX1_tell 92 = .ok (.iconst 3, 1) := by decide +kernel
theorem dX1_tell_93 : decode cX1_tell 93 = .ok (.imul, 1) := by decide +kernel
theorem dX1_tell_94 : decode cX1_tell 94 = .ok (.iconst 2, 1) := by decide +kernel
theorem dX1_tell_95 : decode cX1_tell 95 = .ok (.iadd, 1) := by decide +kernel
theorem dX1_tell_96 : decode cX1_tell 96 = .ok (.iload 4, 2) := by decide +kernel
theorem dX1_tell_98 : decode cX1_tell 98 = .ok (.iastore, 1) := by decide +kernel
theorem dX1_tell_99 : decode cX1_tell 99 = .ok (.aload_n 0, 1) := by decide +kernel
theorem dX1_tell_100 : decode cX1_tell 100 = .ok (.getfield 11, 3) := by decide +kernel
theorem dX1_tell_103 : decode cX1_tell 103 = .ok (.iconst 2, 1) := by decide +kernel
theorem dX1_tell_104 : decode cX1_tell 104 = .ok (.iload 5, 2) := by decide +kernel
theorem dX1_tell_106 : decode cX1_tell 106 = .ok (.iconst 1, 1) := by decide +kernel
theorem dX1_tell_107 : decode cX1_tell 107 = .ok (.iadd, 1) := by decide +kernel
theorem dX1_tell_108 : decode cX1_tell 108 = .ok (.iastore, 1) := by decide +kernel
theorem dX1_tell_109 : decode cX1_tell 109 = .ok (.aload_n 0, 1) := by decide +kernel
theorem dX1_tell_110 : decode cX1_tell 110 = .ok (.iload 5, 2) := by decide +kernel
theorem dX1_tell_112 : decode cX1_tell 112 = .ok (.invokevirtual 37, 3) := by decide +kernel
theorem dX1_tell_115 : decode cX1_tell 115 = .ok (.iload 5, 2) := by decide +kernel
theorem dX1_tell_117 : decode cX1_tell 117 = .ok (.ireturn, 1) := by decide +kernel
def f_X1_tell (N : Nat) (f_row : Nat → Int32) (f_fears : Nat → Int32) (f_told : Nat → Int32) (p1 : Int32) (p2 : Int32) (p3 : Int32) (p4 : Int32) : Option (Int32 × (Nat → Int32) × (Nat → Int32) × (Nat → Int32)) := ob1 (f_X1_count N f_row) fun r1 => if r1 < 0 then (some ((-1 : Int32), f_row, f_fears, f_told)) else (if (6 : Int32) ≤ r1 then (some ((-1 : Int32), f_row, f_fears, f_told)) else (if p2 < 0 then (some ((-1 : Int32), f_row, f_fears, f_told)) else (if p2 ≤ (9 : Int32) then (if p3 < 0 then (some ((-1 : Int32), f_row, f_fears, f_told)) else (if (9999 : Int32) < p3 then (some ((-1 : Int32), f_row, f_fears, f_told)) else (if p4 < 0 then (some ((-1 : Int32), f_row, f_fears, f_told)) else (if p4 ≤ (9999 : Int32) then (sA f_fears 6 r1 p2 fun f_fears_63 => sA f_told 18 (r1 * (3 : Int32)) p1 fun f_told_73 => sA f_told_73 18 ((r1 * (3 : Int32)) + (1 : Int32)) p3 fun f_told_85 => sA f_told_85 18 ((r1 * (3 : Int32)) + (2 : Int32)) p4 fun f_told_98 => sA f_row 76 (2 : Int32) (r1 + (1 : Int32)) fun f_row_108 => ob1 (f_X1_settle N f_row_108 f_told_98 r1) fun f_row_112 => some (r1, f_row_112, f_fears_63, f_told_98)) else (some ((-1 : Int32), f_row, f_fears, f_told)))))) else (some ((-1 : Int32), f_row, f_fears, f_told)))))
set_option maxHeartbeats 4000000 in
set_option maxRecDepth 100000 in
theorem k_X1_tell (l : Launch) (N : Nat) (D : va_G) (cI cJ cZ cB cT : ClassId) (qf0 : Nat) (qf1 : Nat) (qf2 : Nat) (qf3 : Nat) (f_row : Nat → Int32) (f_fears : Nat → Int32) (f_told : Nat → Int32) (p1 : Int32) (p2 : Int32) (p3 : Int32) (p4 : Int32) (o_r : Int32) (o_f_row : Nat → Int32) (o_f_fears : Nat → Int32) (o_f_told : Nat → Int32) (hf : f_X1_tell N f_row f_fears f_told p1 p2 p3 p4 = some (o_r, o_f_row, o_f_fears, o_f_told)) : ∀ sz, Met l yX1_tell (mw yX1_tell cX1_tell 6 (some .int)) ({ frames := 3, cells := 0, slots := 0, locals := 65 } : Room) (mPre D (mT cI cJ cZ cB cT) (W_F_0t3 qf0 qf1 qf2 qf3 cI cJ cZ cB cT f_row f_fears f_told) sz [.ref qf0, .int p1, .int p2, .int p3, .int p4]) ((mQi D (W_F_0t3 qf0 qf1 qf2 qf3 cI cJ cZ cB cT o_f_row o_f_fears o_f_told) o_r True) (va_A (W_F_0t3 qf0 qf1 qf2 qf3 cI cJ cZ cB cT f_row f_fears f_told) sz)) 0 0 (va_A (W_F_0t3 qf0 qf1 qf2 qf3 cI cJ cZ cB cT f_row f_fears f_told) sz) := by
  refine mMet (Qc := (mQi D (W_F_0t3 qf0 qf1 qf2 qf3 cI cJ cZ cB cT o_f_row o_f_fears o_f_told) o_r True)) (by decide) (Nat.le_of_ble_eq_true rfl) (fun p e s m below meth c A ls hx hb hr hml hts hown hlocks hK hA hP hD hl => ?_)
  have hown : s.vm.findClass RX1 = some m.cls := hown
  have hl : lv_has ls 6 [(0, .ref qf0), (1, .int p1), (2, .int p2), (3, .int p3), (4, .int p4)] := hl
  have hS : va_S A s.heap s.heap [] := va_S.rf
  unfold f_X1_tell at hf
  refine lv_aload_n hx hb dX1_tell_0 rfl (lv_at hl 0 rfl) ?_
  obtain ⟨r1, hg1, hf⟩ := ob1_some hf
  refine mcV_i (wr := [(qf2, .inl (cI, 6, .inl f_fears)), (qf3, .inl (cI, 18, .inl f_told))]) (As := []) (rest := []) hx hb hml hown hts hK hP hD hS hA (k_X1_count l N D cI cJ cZ cB cT qf0 qf1 qf2 qf3 f_row r1 hg1) (kwX1_27 hts rfl rfl ⟨Nat.le_of_ble_eq_true rfl, Nat.le_of_ble_eq_true rfl⟩) [0, 1] [2, 3] rfl rfl rfl (by decide) rfl 0 rfl rfl rfl rfl hl.1 rfl (Nat.le_of_ble_eq_true rfl) dX1_tell_1 ⟨Nat.zero_le _, Nat.zero_le _⟩ (fun hB1 H locs hP hD hS => ?_)
  have hP := mP_sub (wc := (W_F_0t3 qf0 qf1 qf2 qf3 cI cJ cZ cB cT f_row f_fears f_told)) hP [2, 3, 0, 1] rfl
  have hD := hD.sub (ws' := (W_F_0t3 qf0 qf1 qf2 qf3 cI cJ cZ cB cT f_row f_fears f_told)) [2, 3, 0, 1] rfl rfl
  refine lv_istore (lv' := [(5, .int r1), (0, .ref qf0), (1, .int p1), (2, .int p2), (3, .int p3), (4, .int p4)]) hx hb dX1_tell_4 hl (by decide) rfl (fun ls hl => ?_)
  refine lv_iload hx hb dX1_tell_6 (lv_at hl 0 rfl) ?_
  refine xif_lt hx hb 28 dX1_tell_8 (by decide) hf (fun hf => ?_) (fun hf => ?_)
  · refine lv_iconst (v := (-1 : Int32)) hx hb dX1_tell_28 (by decide) ?_
    cases hf
    exact mret_i hx hb hr hlocks hP hD hS dX1_tell_29 rfl trivial
  · refine lv_iload hx hb dX1_tell_11 (lv_at hl 0 rfl) ?_
    refine lv_bipush (v := (6 : Int32)) hx hb dX1_tell_13 (by decide) ?_
    refine xicmp_ge hx hb 28 dX1_tell_15 (by decide) hf (fun hf => ?_) (fun hf => ?_)
    · refine lv_iconst (v := (-1 : Int32)) hx hb dX1_tell_28 (by decide) ?_
      cases hf
      exact mret_i hx hb hr hlocks hP hD hS dX1_tell_29 rfl trivial
    · refine lv_iload_n hx hb dX1_tell_18 rfl (lv_at hl 3 rfl) ?_
      refine xif_lt hx hb 28 dX1_tell_19 (by decide) hf (fun hf => ?_) (fun hf => ?_)
      · refine lv_iconst (v := (-1 : Int32)) hx hb dX1_tell_28 (by decide) ?_
        cases hf
        exact mret_i hx hb hr hlocks hP hD hS dX1_tell_29 rfl trivial
      · refine lv_iload_n hx hb dX1_tell_22 rfl (lv_at hl 3 rfl) ?_
        refine lv_bipush (v := (9 : Int32)) hx hb dX1_tell_23 (by decide) ?_
        refine xicmp_le hx hb 30 dX1_tell_25 (by decide) hf (fun hf => ?_) (fun hf => ?_)
        · refine lv_iload_n hx hb dX1_tell_30 rfl (lv_at hl 4 rfl) ?_
          refine xif_lt hx hb 54 dX1_tell_31 (by decide) hf (fun hf => ?_) (fun hf => ?_)
          · refine lv_iconst (v := (-1 : Int32)) hx hb dX1_tell_54 (by decide) ?_
            cases hf
            exact mret_i hx hb hr hlocks hP hD hS dX1_tell_55 rfl trivial
          · refine lv_iload_n hx hb dX1_tell_34 rfl (lv_at hl 4 rfl) ?_
            refine lv_sipush (v := (9999 : Int32)) hx hb dX1_tell_35 (by decide) ?_
            refine xicmp_gt hx hb 54 dX1_tell_38 (by decide) hf (fun hf => ?_) (fun hf => ?_)
            · refine lv_iconst (v := (-1 : Int32)) hx hb dX1_tell_54 (by decide) ?_
              cases hf
              exact mret_i hx hb hr hlocks hP hD hS dX1_tell_55 rfl trivial
            · refine lv_iload hx hb dX1_tell_41 (lv_at hl 5 rfl) ?_
              refine xif_lt hx hb 54 dX1_tell_43 (by decide) hf (fun hf => ?_) (fun hf => ?_)
              · refine lv_iconst (v := (-1 : Int32)) hx hb dX1_tell_54 (by decide) ?_
                cases hf
                exact mret_i hx hb hr hlocks hP hD hS dX1_tell_55 rfl trivial
              · refine lv_iload hx hb dX1_tell_46 (lv_at hl 5 rfl) ?_
                refine lv_sipush (v := (9999 : Int32)) hx hb dX1_tell_48 (by decide) ?_
                refine xicmp_le hx hb 56 dX1_tell_51 (by decide) hf (fun hf => ?_) (fun hf => ?_)
                · refine lv_aload_n hx hb dX1_tell_56 rfl (lv_at hl 1 rfl) ?_
                  refine gfX1_15 hx hb hts hown hK hP 0 rfl rfl dX1_tell_57 ?_
                  refine lv_iload hx hb dX1_tell_60 (lv_at hl 0 rfl) ?_
                  refine lv_iload_n hx hb dX1_tell_62 rfl (lv_at hl 3 rfl) ?_
                  refine xiast hx hb hK hP hD hS 2 0 rfl rfl dX1_tell_63 hf (fun f_fears_63 hf H locs hP hD hS => ?_)
                  have hP : va_P D vwCl (W_F_0t3 qf0 qf1 qf2 qf3 cI cJ cZ cB cT f_row f_fears_63 f_told) H := hP
                  have hD : va_D A (W_F_0t3 qf0 qf1 qf2 qf3 cI cJ cZ cB cT f_row f_fears_63 f_told) := hD
                  refine lv_aload_n hx hb dX1_tell_64 rfl (lv_at hl 1 rfl) ?_
                  refine gfX1_18 hx hb hts hown hK hP 0 rfl rfl dX1_tell_65 ?_
                  refine lv_iload hx hb dX1_tell_68 (lv_at hl 0 rfl) ?_
                  refine lv_iconst (v := (3 : Int32)) hx hb dX1_tell_70 (by decide) ?_
                  refine lv_imul hx hb dX1_tell_71 ?_
                  refine lv_iload_n hx hb dX1_tell_72 rfl (lv_at hl 2 rfl) ?_
                  refine xiast hx hb hK hP hD hS 3 0 rfl rfl dX1_tell_73 hf (fun f_told_73 hf H locs hP hD hS => ?_)
                  have hP : va_P D vwCl (W_F_0t3 qf0 qf1 qf2 qf3 cI cJ cZ cB cT f_row f_fears_63 f_told_73) H := hP
                  have hD : va_D A (W_F_0t3 qf0 qf1 qf2 qf3 cI cJ cZ cB cT f_row f_fears_63 f_told_73) := hD
                  refine lv_aload_n hx hb dX1_tell_74 rfl (lv_at hl 1 rfl) ?_
                  refine gfX1_18 hx hb hts hown hK hP 0 rfl rfl dX1_tell_75 ?_
                  refine lv_iload hx hb dX1_tell_78 (lv_at hl 0 rfl) ?_
                  refine lv_iconst (v := (3 : Int32)) hx hb dX1_tell_80 (by decide) ?_
                  refine lv_imul hx hb dX1_tell_81 ?_
                  refine lv_iconst (v := (1 : Int32)) hx hb dX1_tell_82 (by decide) ?_
                  refine lv_iadd hx hb dX1_tell_83 ?_
                  refine lv_iload_n hx hb dX1_tell_84 rfl (lv_at hl 4 rfl) ?_
                  refine xiast hx hb hK hP hD hS 3 0 rfl rfl dX1_tell_85 hf (fun f_told_85 hf H locs hP hD hS => ?_)
                  have hP : va_P D vwCl (W_F_0t3 qf0 qf1 qf2 qf3 cI cJ cZ cB cT f_row f_fears_63 f_told_85) H := hP
                  have hD : va_D A (W_F_0t3 qf0 qf1 qf2 qf3 cI cJ cZ cB cT f_row f_fears_63 f_told_85) := hD
                  refine lv_aload_n hx hb dX1_tell_86 rfl (lv_at hl 1 rfl) ?_
                  refine gfX1_18 hx hb hts hown hK hP 0 rfl rfl dX1_tell_87 ?_
                  refine lv_iload hx hb dX1_tell_90 (lv_at hl 0 rfl) ?_
                  refine lv_iconst (v := (3 : Int32)) hx hb dX1_tell_92 (by decide) ?_
                  refine lv_imul hx hb dX1_tell_93 ?_
                  refine lv_iconst (v := (2 : Int32)) hx hb dX1_tell_94 (by decide) ?_
                  refine lv_iadd hx hb dX1_tell_95 ?_
                  refine lv_iload hx hb dX1_tell_96 (lv_at hl 5 rfl) ?_
                  refine xiast hx hb hK hP hD hS 3 0 rfl rfl dX1_tell_98 hf (fun f_told_98 hf H locs hP hD hS => ?_)
                  have hP : va_P D vwCl (W_F_0t3 qf0 qf1 qf2 qf3 cI cJ cZ cB cT f_row f_fears_63 f_told_98) H := hP
                  have hD : va_D A (W_F_0t3 qf0 qf1 qf2 qf3 cI cJ cZ cB cT f_row f_fears_63 f_told_98) := hD
                  refine lv_aload_n hx hb dX1_tell_99 rfl (lv_at hl 1 rfl) ?_
                  refine gfX1_11 hx hb hts hown hK hP 0 rfl rfl dX1_tell_100 ?_
                  refine lv_iconst (v := (2 : Int32)) hx hb dX1_tell_103 (by decide) ?_
                  refine lv_iload hx hb dX1_tell_104 (lv_at hl 0 rfl) ?_
                  refine lv_iconst (v := (1 : Int32)) hx hb dX1_tell_106 (by decide) ?_
                  refine lv_iadd hx hb dX1_tell_107 ?_
                  refine xiast hx hb hK hP hD hS 1 0 rfl rfl dX1_tell_108 hf (fun f_row_108 hf H locs hP hD hS => ?_)
                  have hP : va_P D vwCl (W_F_0t3 qf0 qf1 qf2 qf3 cI cJ cZ cB cT f_row_108 f_fears_63 f_told_98) H := hP
                  have hD : va_D A (W_F_0t3 qf0 qf1 qf2 qf3 cI cJ cZ cB cT f_row_108 f_fears_63 f_told_98) := hD
                  refine lv_aload_n hx hb dX1_tell_109 rfl (lv_at hl 1 rfl) ?_
                  refine lv_iload hx hb dX1_tell_110 (lv_at hl 0 rfl) ?_
                  obtain ⟨f_row_112, hg112, hf⟩ := ob1_some hf
                  refine mcV_v (wr := [(qf2, .inl (cI, 6, .inl f_fears_63))]) (As := [.int r1]) (rest := []) hx hb hml hown hts hK hP hD hS hA (k_X1_settle l N D cI cJ cZ cB cT qf0 qf1 qf3 qf2 f_row_108 f_told_98 r1 f_row_112 hg112) (kwX1_37 hts rfl rfl ⟨Nat.le_of_ble_eq_true rfl, Nat.le_of_ble_eq_true rfl⟩) [0, 1, 3] [2] rfl rfl rfl (by decide) rfl 0 rfl rfl rfl rfl hl.1 rfl (Nat.le_of_ble_eq_true rfl) dX1_tell_112 ⟨Nat.zero_le _, Nat.zero_le _⟩ (fun H locs hP hD hS => ?_)
                  have hP := mP_sub (wc := (W_F_0t3 qf0 qf1 qf2 qf3 cI cJ cZ cB cT f_row_112 f_fears_63 f_told_98)) hP [1, 2, 0, 3] rfl
                  have hD := hD.sub (ws' := (W_F_0t3 qf0 qf1 qf2 qf3 cI cJ cZ cB cT f_row_112 f_fears_63 f_told_98)) [1, 2, 0, 3] rfl rfl
                  refine lv_iload hx hb dX1_tell_115 (lv_at hl 0 rfl) ?_
                  cases hf
                  exact mret_i hx hb hr hlocks hP hD hS dX1_tell_117 rfl trivial
                · refine lv_iconst (v := (-1 : Int32)) hx hb dX1_tell_54 (by decide) ?_
                  cases hf
                  exact mret_i hx hb hr hlocks hP hD hS dX1_tell_55 rfl trivial
        · refine lv_iconst (v := (-1 : Int32)) hx hb dX1_tell_28 (by decide) ?_
          cases hf
          exact mret_i hx hb hr hlocks hP hD hS dX1_tell_29 rfl trivial
theorem dX1_outlaws_0 : decode cX1_outlaws 0 = .ok (.iconst 0, 1) := by decide +kernel
theorem dX1_outlaws_1 : decode cX1_outlaws 1 = .ok (.istore_n 1, 1) := by decide +kernel
theorem dX1_outlaws_2 : decode cX1_outlaws 2 = .ok (.iconst 0, 1) := by decide +kernel
theorem dX1_outlaws_3 : decode cX1_outlaws 3 = .ok (.istore_n 2, 1) := by decide +kernel
theorem dX1_outlaws_4 : decode cX1_outlaws 4 = .ok (.iload_n 2, 1) := by decide +kernel
theorem dX1_outlaws_5 : decode cX1_outlaws 5 = .ok (.aload_n 0, 1) := by decide +kernel
theorem dX1_outlaws_6 : decode cX1_outlaws 6 = .ok (.invokevirtual 27, 3) := by decide +kernel
theorem dX1_outlaws_9 : decode cX1_outlaws 9 = .ok (.if_icmp .ge 26, 3) := by decide +kernel
theorem dX1_outlaws_12 : decode cX1_outlaws 12 = .ok (.aload_n 0, 1) := by decide +kernel
theorem dX1_outlaws_13 : decode cX1_outlaws 13 = .ok (.iload_n 2, 1) := by decide +kernel
theorem dX1_outlaws_14 : decode cX1_outlaws 14 = .ok (.bipush 6, 2) := by decide +kernel
theorem dX1_outlaws_16 : decode cX1_outlaws 16 = .ok (.invokevirtual 49, 3) := by decide +kernel
theorem dX1_outlaws_19 : decode cX1_outlaws 19 = .ok (.iconst 1, 1) := by decide +kernel
theorem dX1_outlaws_20 : decode cX1_outlaws 20 = .ok (.if_icmp .ne 9, 3) := by decide +kernel
theorem dX1_outlaws_23 : decode cX1_outlaws 23 = .ok (.iload_n 1, 1) := by decide +kernel
theorem dX1_outlaws_24 : decode cX1_outlaws 24 = .ok (.iconst 1, 1) := by decide +kernel
theorem dX1_outlaws_25 : decode cX1_outlaws 25 = .ok (.iload_n 2, 1) := by decide +kernel
theorem dX1_outlaws_26 : decode cX1_outlaws 26 = .ok (.ishl, 1) := by decide +kernel
theorem dX1_outlaws_27 : decode cX1_outlaws 27 = .ok (.ior, 1) := by decide +kernel
theorem dX1_outlaws_28 : decode cX1_outlaws 28 = .ok (.istore_n 1, 1) := by decide +kernel
theorem dX1_outlaws_29 : decode cX1_outlaws 29 = .ok (.iinc 2 1, 3) := by decide +kernel
theorem dX1_outlaws_32 : decode cX1_outlaws 32 = .ok (.goto (-28), 3) := by decide +kernel
theorem dX1_outlaws_35 : decode cX1_outlaws 35 = .ok (.iload_n 1, 1) := by decide +kernel
theorem dX1_outlaws_36 : decode cX1_outlaws 36 = .ok (.ireturn, 1) := by decide +kernel
def f_X1_outlaws_29 (N : Nat) (k_4 : (Nat → Int32) → Int32 → Int32 → Option (Int32)) (f_row : Nat → Int32) (x1 : Int32) (x2 : Int32) : Option (Int32) := k_4 f_row x1 (x2 + (1 : Int32))
def f_X1_outlaws_4 (N : Nat) : Nat → (Nat → Int32) → Int32 → Int32 → Option (Int32)
  | 0, _, _, _ => none
  | n + 1, f_row, x1, x2 => ob1 (f_X1_count N f_row) fun r6 => if r6 ≤ x2 then (some x1) else (ob1 (f_X1_get N f_row x2 (6 : Int32)) fun r16 => if r16 = (1 : Int32) then (f_X1_outlaws_29 N (f_X1_outlaws_4 N n) f_row (x1 ||| ((1 : Int32) <<< (x2 &&& 31))) x2) else (f_X1_outlaws_29 N (f_X1_outlaws_4 N n) f_row x1 x2))
def f_X1_outlaws (N : Nat) (f_row : Nat → Int32) : Option (Int32) := f_X1_outlaws_4 N N f_row (0 : Int32) (0 : Int32)
set_option maxHeartbeats 4000000 in
set_option maxRecDepth 100000 in
theorem k_X1_outlaws (l : Launch) (N : Nat) (D : va_G) (cI cJ cZ cB cT : ClassId) (qf0 : Nat) (qf1 : Nat) (qf2 : Nat) (qf3 : Nat) (f_row : Nat → Int32) (o_r : Int32) (hf : f_X1_outlaws N f_row = some o_r) : ∀ sz, Met l yX1_outlaws (mw yX1_outlaws cX1_outlaws 3 (some .int)) ({ frames := 1, cells := 0, slots := 0, locals := 23 } : Room) (mPre D (mT cI cJ cZ cB cT) (W_F_0t1 qf0 qf1 qf2 qf3 cI cJ cZ cB cT f_row) sz [.ref qf0]) ((mQi D (W_F_0t1 qf0 qf1 qf2 qf3 cI cJ cZ cB cT f_row) o_r True) (va_A (W_F_0t1 qf0 qf1 qf2 qf3 cI cJ cZ cB cT f_row) sz)) 0 0 (va_A (W_F_0t1 qf0 qf1 qf2 qf3 cI cJ cZ cB cT f_row) sz) := by
  refine mMet (Qc := (mQi D (W_F_0t1 qf0 qf1 qf2 qf3 cI cJ cZ cB cT f_row) o_r True)) (by decide) (Nat.le_of_ble_eq_true rfl) (fun p e s m below meth c A ls hx hb hr hml hts hown hlocks hK hA hP hD hl => ?_)
  have hown : s.vm.findClass RX1 = some m.cls := hown
  have hl : lv_has ls 3 [(0, .ref qf0)] := hl
  have hS : va_S A s.heap s.heap [] := va_S.rf
  have b4 : ∀ n4 : Nat, ∀ (x1 : Int32) (x2 : Int32) (H : Heap) (locs : List Loc) (ls : Array Slot), f_X1_outlaws_4 N n4 f_row x1 x2 = some o_r → va_P D vwCl (W_F_0t1 qf0 qf1 qf2 qf3 cI cJ cZ cB cT f_row) H → va_D A (W_F_0t1 qf0 qf1 qf2 qf3 cI cJ cZ cB cT f_row) → va_S A s.heap H locs → lv_has ls 3 [(0, .ref qf0), (1, .int x1), (2, .int x2)] → W p l e ({ frames := 1, cells := 0, slots := 0, locals := 23 } : Room) s m ([.ref qf0] : List Value).toArray below meth c H locs 0 0 (MQ below ((mQi D (W_F_0t1 qf0 qf1 qf2 qf3 cI cJ cZ cB cT f_row) o_r True) A) ([.ref qf0] : List Value).toArray s 0 0 A) (F0 m 4 ls []) := by
    intro n4
    induction n4 with
    | zero =>
      intro x1 x2 H locs ls hf hP hD hS hl
      simp [f_X1_outlaws_4] at hf
    | succ n4 ih4 =>
      have b29 : ∀ (x1 : Int32) (x2 : Int32) (H : Heap) (locs : List Loc) (ls : Array Slot), f_X1_outlaws_29 N (f_X1_outlaws_4 N n4) f_row x1 x2 = some o_r → va_P D vwCl (W_F_0t1 qf0 qf1 qf2 qf3 cI cJ cZ cB cT f_row) H → va_D A (W_F_0t1 qf0 qf1 qf2 qf3 cI cJ cZ cB cT f_row) → va_S A s.heap H locs → lv_has ls 3 [(0, .ref qf0), (1, .int x1), (2, .int x2)] → W p l e ({ frames := 1, cells := 0, slots := 0, locals := 23 } : Room) s m ([.ref qf0] : List Value).toArray below meth c H locs 0 0 (MQ below ((mQi D (W_F_0t1 qf0 qf1 qf2 qf3 cI cJ cZ cB cT f_row) o_r True) A) ([.ref qf0] : List Value).toArray s 0 0 A) (F0 m 29 ls []) := by
        intro x1 x2 H locs ls hf hP hD hS hl
        unfold f_X1_outlaws_29 at hf
        refine lv_iinc (v := (x2 + (1 : Int32))) (lv' := [(2, .int (x2 + (1 : Int32))), (0, .ref qf0), (1, .int x1)]) hx hb dX1_outlaws_29 hl (k := 2) rfl rfl (by decide) rfl (fun ls hl => ?_)
        refine lv_goto (tgt := 4) hx hb dX1_outlaws_32 (by decide) ?_
        exact ih4 x1 (x2 + (1 : Int32)) _ _ _ hf hP hD hS (lv_sub hl [1, 2, 0] rfl)
      intro x1 x2 H locs ls hf hP hD hS hl
      rw [f_X1_outlaws_4.eq_2] at hf
      refine lv_iload_n hx hb dX1_outlaws_4 rfl (lv_at hl 2 rfl) ?_
      refine lv_aload_n hx hb dX1_outlaws_5 rfl (lv_at hl 0 rfl) ?_
      obtain ⟨r6, hg6, hf⟩ := ob1_some hf
      refine mcV1_i (As := []) (rest := [.int x2]) hx hb hml hown hts hK hP hD hS hA (k_X1_count l N D cI cJ cZ cB cT qf0 qf1 qf2 qf3 f_row r6 hg6) (kwX1_27 hts rfl rfl ⟨Nat.le_of_ble_eq_true rfl, Nat.le_of_ble_eq_true rfl⟩) 0 rfl rfl rfl rfl hl.1 rfl (Nat.le_of_ble_eq_true rfl) dX1_outlaws_6 ⟨Nat.zero_le _, Nat.zero_le _⟩ (fun hB6 H locs hP hD hS => ?_)
      have hP : va_P D vwCl (W_F_0t1 qf0 qf1 qf2 qf3 cI cJ cZ cB cT f_row) H := hP
      have hD : va_D A (W_F_0t1 qf0 qf1 qf2 qf3 cI cJ cZ cB cT f_row) := hD
      refine xicmp_ge hx hb 35 dX1_outlaws_9 (by decide) hf (fun hf => ?_) (fun hf => ?_)
      · refine lv_iload_n hx hb dX1_outlaws_35 rfl (lv_at hl 1 rfl) ?_
        cases hf
        exact mret_i hx hb hr hlocks hP hD hS dX1_outlaws_36 rfl trivial
      · refine lv_aload_n hx hb dX1_outlaws_12 rfl (lv_at hl 0 rfl) ?_
        refine lv_iload_n hx hb dX1_outlaws_13 rfl (lv_at hl 2 rfl) ?_
        refine lv_bipush (v := (6 : Int32)) hx hb dX1_outlaws_14 (by decide) ?_
        obtain ⟨r16, hg16, hf⟩ := ob1_some hf
        refine mcV1_i (As := [.int x2, .int (6 : Int32)]) (rest := []) hx hb hml hown hts hK hP hD hS hA (k_X1_get l N D cI cJ cZ cB cT qf0 qf1 qf2 qf3 f_row x2 (6 : Int32) r16 hg16) (kwX1_49 hts rfl rfl ⟨Nat.le_of_ble_eq_true rfl, Nat.le_of_ble_eq_true rfl⟩) 0 rfl rfl rfl rfl hl.1 rfl (Nat.le_of_ble_eq_true rfl) dX1_outlaws_16 ⟨Nat.zero_le _, Nat.zero_le _⟩ (fun hB16 H locs hP hD hS => ?_)
        have hP : va_P D vwCl (W_F_0t1 qf0 qf1 qf2 qf3 cI cJ cZ cB cT f_row) H := hP
        have hD : va_D A (W_F_0t1 qf0 qf1 qf2 qf3 cI cJ cZ cB cT f_row) := hD
        refine lv_iconst (v := (1 : Int32)) hx hb dX1_outlaws_19 (by decide) ?_
        refine xicmp_ne hx hb 29 dX1_outlaws_20 (by decide) hf (fun hf => ?_) (fun hf => ?_)
        · refine lv_iload_n hx hb dX1_outlaws_23 rfl (lv_at hl 1 rfl) ?_
          refine lv_iconst (v := (1 : Int32)) hx hb dX1_outlaws_24 (by decide) ?_
          refine lv_iload_n hx hb dX1_outlaws_25 rfl (lv_at hl 2 rfl) ?_
          refine lv_ishl hx hb dX1_outlaws_26 ?_
          refine lv_ior hx hb dX1_outlaws_27 ?_
          refine lv_istore_n (lv' := [(1, .int (x1 ||| ((1 : Int32) <<< (x2 &&& 31)))), (0, .ref qf0), (2, .int x2)]) hx hb dX1_outlaws_28 rfl hl (by decide) rfl (fun ls hl => ?_)
          exact b29 (x1 ||| ((1 : Int32) <<< (x2 &&& 31))) x2 _ _ _ hf hP hD hS (lv_sub hl [1, 0, 2] rfl)
        · exact b29 x1 x2 _ _ _ hf hP hD hS (lv_sub hl [0, 1, 2] rfl)
  unfold f_X1_outlaws at hf
  refine lv_iconst (v := (0 : Int32)) hx hb dX1_outlaws_0 (by decide) ?_
  refine lv_istore_n (lv' := [(1, .int (0 : Int32)), (0, .ref qf0)]) hx hb dX1_outlaws_1 rfl hl (by decide) rfl (fun ls hl => ?_)
  refine lv_iconst (v := (0 : Int32)) hx hb dX1_outlaws_2 (by decide) ?_
  refine lv_istore_n (lv' := [(2, .int (0 : Int32)), (1, .int (0 : Int32)), (0, .ref qf0)]) hx hb dX1_outlaws_3 rfl hl (by decide) rfl (fun ls hl => ?_)
  exact b4 N (0 : Int32) (0 : Int32) _ _ _ hf hP hD hS (lv_sub hl [2, 1, 0] rfl)
theorem dX1_x_0 : decode cX1_x 0 = .ok (.aload_n 0, 1) := by decide +kernel
theorem dX1_x_1 : decode cX1_x 1 = .ok (.getfield 11, 3) := by decide +kernel
theorem dX1_x_4 : decode cX1_x 4 = .ok (.iconst 1, 1) := by decide +kernel
theorem dX1_x_5 : decode cX1_x 5 = .ok (.iaload, 1) := by decide +kernel
theorem dX1_x_6 : decode cX1_x 6 = .ok (.ireturn, 1) := by decide +kernel
def f_X1_x (N : Nat) (f_row : Nat → Int32) : Option (Int32) := gA f_row 76 (1 : Int32) fun v5 => some v5
set_option maxHeartbeats 4000000 in
set_option maxRecDepth 100000 in
theorem k_X1_x (l : Launch) (N : Nat) (D : va_G) (cI cJ cZ cB cT : ClassId) (qf0 : Nat) (qf1 : Nat) (qf2 : Nat) (qf3 : Nat) (f_row : Nat → Int32) (o_r : Int32) (hf : f_X1_x N f_row = some o_r) : ∀ sz, Met l yX1_x (mw yX1_x cX1_x 1 (some .int)) ({ frames := 0, cells := 0, slots := 0, locals := 0 } : Room) (mPre D (mT cI cJ cZ cB cT) (W_F_0t1 qf0 qf1 qf2 qf3 cI cJ cZ cB cT f_row) sz [.ref qf0]) ((mQi D (W_F_0t1 qf0 qf1 qf2 qf3 cI cJ cZ cB cT f_row) o_r True) (va_A (W_F_0t1 qf0 qf1 qf2 qf3 cI cJ cZ cB cT f_row) sz)) 0 0 (va_A (W_F_0t1 qf0 qf1 qf2 qf3 cI cJ cZ cB cT f_row) sz) := by
  refine mMet (Qc := (mQi D (W_F_0t1 qf0 qf1 qf2 qf3 cI cJ cZ cB cT f_row) o_r True)) (by decide) (Nat.le_of_ble_eq_true rfl) (fun p e s m below meth c A ls hx hb hr hml hts hown hlocks hK hA hP hD hl => ?_)
  have hown : s.vm.findClass RX1 = some m.cls := hown
  have hl : lv_has ls 1 [(0, .ref qf0)] := hl
  have hS : va_S A s.heap s.heap [] := va_S.rf
  unfold f_X1_x at hf
  refine lv_aload_n hx hb dX1_x_0 rfl (lv_at hl 0 rfl) ?_
  refine gfX1_11 hx hb hts hown hK hP 0 rfl rfl dX1_x_1 ?_
  refine lv_iconst (v := (1 : Int32)) hx hb dX1_x_4 (by decide) ?_
  refine xiald hx hb hK hP 1 0 rfl rfl dX1_x_5 hf (fun v5 hf => ?_)
  cases hf
  exact mret_i hx hb hr hlocks hP hD hS dX1_x_6 rfl trivial
theorem dX1_setX_0 : decode cX1_setX 0 = .ok (.aload_n 0, 1) := by decide +kernel
theorem dX1_setX_1 : decode cX1_setX 1 = .ok (.getfield 11, 3) := by decide +kernel
theorem dX1_setX_4 : decode cX1_setX 4 = .ok (.iconst 1, 1) := by decide +kernel
theorem dX1_setX_5 : decode cX1_setX 5 = .ok (.iload_n 1, 1) := by decide +kernel
theorem dX1_setX_6 : decode cX1_setX 6 = .ok (.iastore, 1) := by decide +kernel
theorem dX1_setX_7 : decode cX1_setX 7 = .ok (.return_, 1) := by decide +kernel
def f_X1_setX (N : Nat) (f_row : Nat → Int32) (p1 : Int32) : Option ((Nat → Int32)) := sA f_row 76 (1 : Int32) p1 fun f_row_6 => some f_row_6
set_option maxHeartbeats 4000000 in
set_option maxRecDepth 100000 in
theorem k_X1_setX (l : Launch) (N : Nat) (D : va_G) (cI cJ cZ cB cT : ClassId) (qf0 : Nat) (qf1 : Nat) (qf2 : Nat) (qf3 : Nat) (f_row : Nat → Int32) (p1 : Int32) (o_f_row : Nat → Int32) (hf : f_X1_setX N f_row p1 = some o_f_row) : ∀ sz, Met l yX1_setX (mw yX1_setX cX1_setX 2 none) ({ frames := 0, cells := 0, slots := 0, locals := 0 } : Room) (mPre D (mT cI cJ cZ cB cT) (W_F_0t1 qf0 qf1 qf2 qf3 cI cJ cZ cB cT f_row) sz [.ref qf0, .int p1]) ((mQv D (W_F_0t1 qf0 qf1 qf2 qf3 cI cJ cZ cB cT o_f_row)) (va_A (W_F_0t1 qf0 qf1 qf2 qf3 cI cJ cZ cB cT f_row) sz)) 0 0 (va_A (W_F_0t1 qf0 qf1 qf2 qf3 cI cJ cZ cB cT f_row) sz) := by
  refine mMet (Qc := (mQv D (W_F_0t1 qf0 qf1 qf2 qf3 cI cJ cZ cB cT o_f_row))) (by decide) (Nat.le_of_ble_eq_true rfl) (fun p e s m below meth c A ls hx hb hr hml hts hown hlocks hK hA hP hD hl => ?_)
  have hown : s.vm.findClass RX1 = some m.cls := hown
  have hl : lv_has ls 2 [(0, .ref qf0), (1, .int p1)] := hl
  have hS : va_S A s.heap s.heap [] := va_S.rf
  unfold f_X1_setX at hf
  refine lv_aload_n hx hb dX1_setX_0 rfl (lv_at hl 0 rfl) ?_
  refine gfX1_11 hx hb hts hown hK hP 0 rfl rfl dX1_setX_1 ?_
  refine lv_iconst (v := (1 : Int32)) hx hb dX1_setX_4 (by decide) ?_
  refine lv_iload_n hx hb dX1_setX_5 rfl (lv_at hl 1 rfl) ?_
  refine xiast hx hb hK hP hD hS 1 0 rfl rfl dX1_setX_6 hf (fun f_row_6 hf H locs hP hD hS => ?_)
  have hP : va_P D vwCl (W_F_0t1 qf0 qf1 qf2 qf3 cI cJ cZ cB cT f_row_6) H := hP
  have hD : va_D A (W_F_0t1 qf0 qf1 qf2 qf3 cI cJ cZ cB cT f_row_6) := hD
  cases hf
  exact mret_v hx hb hr hlocks hP hD hS dX1_setX_7
theorem dX1_written_0 : decode cX1_written 0 = .ok (.aload_n 0, 1) := by decide +kernel
theorem dX1_written_1 : decode cX1_written 1 = .ok (.getfield 11, 3) := by decide +kernel
theorem dX1_written_4 : decode cX1_written 4 = .ok (.iconst 3, 1) := by decide +kernel
theorem dX1_written_5 : decode cX1_written 5 = .ok (.iaload, 1) := by decide +kernel
theorem dX1_written_6 : decode cX1_written 6 = .ok (.ireturn, 1) := by decide +kernel
def f_X1_written (N : Nat) (f_row : Nat → Int32) : Option (Int32) := gA f_row 76 (3 : Int32) fun v5 => some v5
set_option maxHeartbeats 4000000 in
set_option maxRecDepth 100000 in
theorem k_X1_written (l : Launch) (N : Nat) (D : va_G) (cI cJ cZ cB cT : ClassId) (qf0 : Nat) (qf1 : Nat) (qf2 : Nat) (qf3 : Nat) (f_row : Nat → Int32) (o_r : Int32) (hf : f_X1_written N f_row = some o_r) : ∀ sz, Met l yX1_written (mw yX1_written cX1_written 1 (some .int)) ({ frames := 0, cells := 0, slots := 0, locals := 0 } : Room) (mPre D (mT cI cJ cZ cB cT) (W_F_0t1 qf0 qf1 qf2 qf3 cI cJ cZ cB cT f_row) sz [.ref qf0]) ((mQi D (W_F_0t1 qf0 qf1 qf2 qf3 cI cJ cZ cB cT f_row) o_r True) (va_A (W_F_0t1 qf0 qf1 qf2 qf3 cI cJ cZ cB cT f_row) sz)) 0 0 (va_A (W_F_0t1 qf0 qf1 qf2 qf3 cI cJ cZ cB cT f_row) sz) := by
  refine mMet (Qc := (mQi D (W_F_0t1 qf0 qf1 qf2 qf3 cI cJ cZ cB cT f_row) o_r True)) (by decide) (Nat.le_of_ble_eq_true rfl) (fun p e s m below meth c A ls hx hb hr hml hts hown hlocks hK hA hP hD hl => ?_)
  have hown : s.vm.findClass RX1 = some m.cls := hown
  have hl : lv_has ls 1 [(0, .ref qf0)] := hl
  have hS : va_S A s.heap s.heap [] := va_S.rf
  unfold f_X1_written at hf
  refine lv_aload_n hx hb dX1_written_0 rfl (lv_at hl 0 rfl) ?_
  refine gfX1_11 hx hb hts hown hK hP 0 rfl rfl dX1_written_1 ?_
  refine lv_iconst (v := (3 : Int32)) hx hb dX1_written_4 (by decide) ?_
  refine xiald hx hb hK hP 1 0 rfl rfl dX1_written_5 hf (fun v5 hf => ?_)
  cases hf
  exact mret_i hx hb hr hlocks hP hD hS dX1_written_6 rfl trivial
theorem dX1_entry_0 : decode cX1_entry 0 = .ok (.iload_n 1, 1) := by decide +kernel
theorem dX1_entry_1 : decode cX1_entry 1 = .ok (.ifCond .lt 30, 3) := by decide +kernel
theorem dX1_entry_4 : decode cX1_entry 4 = .ok (.iload_n 1, 1) := by decide +kernel
theorem dX1_entry_5 : decode cX1_entry 5 = .ok (.aload_n 0, 1) := by decide +kernel
theorem dX1_entry_6 : decode cX1_entry 6 = .ok (.getfield 11, 3) := by decide +kernel
theorem dX1_entry_9 : decode cX1_entry 9 = .ok (.iconst 3, 1) := by decide +kernel
theorem dX1_entry_10 : decode cX1_entry 10 = .ok (.iaload, 1) := by decide +kernel
theorem dX1_entry_11 : decode cX1_entry 11 = .ok (.if_icmp .ge 20, 3) := by decide +kernel
theorem dX1_entry_14 : decode cX1_entry 14 = .ok (.iload_n 1, 1) := by decide +kernel
theorem dX1_entry_15 : decode cX1_entry 15 = .ok (.bipush 30, 2) := by decide +kernel
theorem dX1_entry_17 : decode cX1_entry 17 = .ok (.if_icmp .ge 14, 3) := by decide +kernel
theorem dX1_entry_20 : decode cX1_entry 20 = .ok (.aload_n 0, 1) := by decide +kernel
theorem dX1_entry_21 : decode cX1_entry 21 = .ok (.getfield 11, 3) := by decide +kernel
theorem dX1_entry_24 : decode cX1_entry 24 = .ok (.iconst 4, 1) := by decide +kernel
theorem dX1_entry_25 : decode cX1_entry 25 = .ok (.iload_n 1, 1) := by decide +kernel
theorem dX1_entry_26 : decode cX1_entry 26 = .ok (.iadd, 1) := by decide +kernel
theorem dX1_entry_27 : decode cX1_entry 27 = .ok (.iaload, 1) := by decide +kernel
theorem dX1_entry_28 : decode cX1_entry 28 = .ok (.goto 4, 3) := by decide +kernel
theorem dX1_entry_31 : decode cX1_entry 31 = .ok (.iconst 0, 1) := by decide +kernel
theorem dX1_entry_32 : decode cX1_entry 32 = .ok (.ireturn, 1) := by decide +kernel
def f_X1_entry (N : Nat) (f_row : Nat → Int32) (p1 : Int32) : Option (Int32) := if p1 < 0 then (some (0 : Int32)) else (gA f_row 76 (3 : Int32) fun v10 => if v10 ≤ p1 then (some (0 : Int32)) else (if (30 : Int32) ≤ p1 then (some (0 : Int32)) else (gA f_row 76 ((4 : Int32) + p1) fun v27 => some v27)))
set_option maxHeartbeats 4000000 in
set_option maxRecDepth 100000 in
theorem k_X1_entry (l : Launch) (N : Nat) (D : va_G) (cI cJ cZ cB cT : ClassId) (qf0 : Nat) (qf1 : Nat) (qf2 : Nat) (qf3 : Nat) (f_row : Nat → Int32) (p1 : Int32) (o_r : Int32) (hf : f_X1_entry N f_row p1 = some o_r) : ∀ sz, Met l yX1_entry (mw yX1_entry cX1_entry 2 (some .int)) ({ frames := 0, cells := 0, slots := 0, locals := 0 } : Room) (mPre D (mT cI cJ cZ cB cT) (W_F_0t1 qf0 qf1 qf2 qf3 cI cJ cZ cB cT f_row) sz [.ref qf0, .int p1]) ((mQi D (W_F_0t1 qf0 qf1 qf2 qf3 cI cJ cZ cB cT f_row) o_r True) (va_A (W_F_0t1 qf0 qf1 qf2 qf3 cI cJ cZ cB cT f_row) sz)) 0 0 (va_A (W_F_0t1 qf0 qf1 qf2 qf3 cI cJ cZ cB cT f_row) sz) := by
  refine mMet (Qc := (mQi D (W_F_0t1 qf0 qf1 qf2 qf3 cI cJ cZ cB cT f_row) o_r True)) (by decide) (Nat.le_of_ble_eq_true rfl) (fun p e s m below meth c A ls hx hb hr hml hts hown hlocks hK hA hP hD hl => ?_)
  have hown : s.vm.findClass RX1 = some m.cls := hown
  have hl : lv_has ls 2 [(0, .ref qf0), (1, .int p1)] := hl
  have hS : va_S A s.heap s.heap [] := va_S.rf
  unfold f_X1_entry at hf
  refine lv_iload_n hx hb dX1_entry_0 rfl (lv_at hl 1 rfl) ?_
  refine xif_lt hx hb 31 dX1_entry_1 (by decide) hf (fun hf => ?_) (fun hf => ?_)
  · refine lv_iconst (v := (0 : Int32)) hx hb dX1_entry_31 (by decide) ?_
    cases hf
    exact mret_i hx hb hr hlocks hP hD hS dX1_entry_32 rfl trivial
  · refine lv_iload_n hx hb dX1_entry_4 rfl (lv_at hl 1 rfl) ?_
    refine lv_aload_n hx hb dX1_entry_5 rfl (lv_at hl 0 rfl) ?_
    refine gfX1_11 hx hb hts hown hK hP 0 rfl rfl dX1_entry_6 ?_
    refine lv_iconst (v := (3 : Int32)) hx hb dX1_entry_9 (by decide) ?_
    refine xiald hx hb hK hP 1 0 rfl rfl dX1_entry_10 hf (fun v10 hf => ?_)
    refine xicmp_ge hx hb 31 dX1_entry_11 (by decide) hf (fun hf => ?_) (fun hf => ?_)
    · refine lv_iconst (v := (0 : Int32)) hx hb dX1_entry_31 (by decide) ?_
      cases hf
      exact mret_i hx hb hr hlocks hP hD hS dX1_entry_32 rfl trivial
    · refine lv_iload_n hx hb dX1_entry_14 rfl (lv_at hl 1 rfl) ?_
      refine lv_bipush (v := (30 : Int32)) hx hb dX1_entry_15 (by decide) ?_
      refine xicmp_ge hx hb 31 dX1_entry_17 (by decide) hf (fun hf => ?_) (fun hf => ?_)
      · refine lv_iconst (v := (0 : Int32)) hx hb dX1_entry_31 (by decide) ?_
        cases hf
        exact mret_i hx hb hr hlocks hP hD hS dX1_entry_32 rfl trivial
      · refine lv_aload_n hx hb dX1_entry_20 rfl (lv_at hl 0 rfl) ?_
        refine gfX1_11 hx hb hts hown hK hP 0 rfl rfl dX1_entry_21 ?_
        refine lv_iconst (v := (4 : Int32)) hx hb dX1_entry_24 (by decide) ?_
        refine lv_iload_n hx hb dX1_entry_25 rfl (lv_at hl 1 rfl) ?_
        refine lv_iadd hx hb dX1_entry_26 ?_
        refine xiald hx hb hK hP 1 0 rfl rfl dX1_entry_27 hf (fun v27 hf => ?_)
        refine lv_goto (tgt := 32) hx hb dX1_entry_28 (by decide) ?_
        cases hf
        exact mret_i hx hb hr hlocks hP hD hS dX1_entry_32 rfl trivial
theorem dX1_entryMonth_0 : decode cX1_entryMonth 0 = .ok (.aload_n 0, 1) := by decide +kernel
theorem dX1_entryMonth_1 : decode cX1_entryMonth 1 = .ok (.iload_n 1, 1) := by decide +kernel
theorem dX1_entryMonth_2 : decode cX1_entryMonth 2 = .ok (.invokevirtual 55, 3) := by decide +kernel
theorem dX1_entryMonth_5 : decode cX1_entryMonth 5 = .ok (.bipush 64, 2) := by decide +kernel
theorem dX1_entryMonth_7 : decode cX1_entryMonth 7 = .ok (.idiv, 1) := by decide +kernel
theorem dX1_entryMonth_8 : decode cX1_entryMonth 8 = .ok (.ireturn, 1) := by decide +kernel
def f_X1_entryMonth (N : Nat) (f_row : Nat → Int32) (p1 : Int32) : Option (Int32) := ob1 (f_X1_entry N f_row p1) fun r2 => dvI r2 (64 : Int32) fun v7 => some v7
set_option maxHeartbeats 4000000 in
set_option maxRecDepth 100000 in
theorem k_X1_entryMonth (l : Launch) (N : Nat) (D : va_G) (cI cJ cZ cB cT : ClassId) (qf0 : Nat) (qf1 : Nat) (qf2 : Nat) (qf3 : Nat) (f_row : Nat → Int32) (p1 : Int32) (o_r : Int32) (hf : f_X1_entryMonth N f_row p1 = some o_r) : ∀ sz, Met l yX1_entryMonth (mw yX1_entryMonth cX1_entryMonth 2 (some .int)) ({ frames := 1, cells := 0, slots := 0, locals := 21 } : Room) (mPre D (mT cI cJ cZ cB cT) (W_F_0t1 qf0 qf1 qf2 qf3 cI cJ cZ cB cT f_row) sz [.ref qf0, .int p1]) ((mQi D (W_F_0t1 qf0 qf1 qf2 qf3 cI cJ cZ cB cT f_row) o_r True) (va_A (W_F_0t1 qf0 qf1 qf2 qf3 cI cJ cZ cB cT f_row) sz)) 0 0 (va_A (W_F_0t1 qf0 qf1 qf2 qf3 cI cJ cZ cB cT f_row) sz) := by
  refine mMet (Qc := (mQi D (W_F_0t1 qf0 qf1 qf2 qf3 cI cJ cZ cB cT f_row) o_r True)) (by decide) (Nat.le_of_ble_eq_true rfl) (fun p e s m below meth c A ls hx hb hr hml hts hown hlocks hK hA hP hD hl => ?_)
  have hown : s.vm.findClass RX1 = some m.cls := hown
  have hl : lv_has ls 2 [(0, .ref qf0), (1, .int p1)] := hl
  have hS : va_S A s.heap s.heap [] := va_S.rf
  unfold f_X1_entryMonth at hf
  refine lv_aload_n hx hb dX1_entryMonth_0 rfl (lv_at hl 0 rfl) ?_
  refine lv_iload_n hx hb dX1_entryMonth_1 rfl (lv_at hl 1 rfl) ?_
  obtain ⟨r2, hg2, hf⟩ := ob1_some hf
  refine mcV1_i (As := [.int p1]) (rest := []) hx hb hml hown hts hK hP hD hS hA (k_X1_entry l N D cI cJ cZ cB cT qf0 qf1 qf2 qf3 f_row p1 r2 hg2) (kwX1_55 hts rfl rfl ⟨Nat.le_of_ble_eq_true rfl, Nat.le_of_ble_eq_true rfl⟩) 0 rfl rfl rfl rfl hl.1 rfl (Nat.le_of_ble_eq_true rfl) dX1_entryMonth_2 ⟨Nat.zero_le _, Nat.zero_le _⟩ (fun hB2 H locs hP hD hS => ?_)
  have hP : va_P D vwCl (W_F_0t1 qf0 qf1 qf2 qf3 cI cJ cZ cB cT f_row) H := hP
  have hD : va_D A (W_F_0t1 qf0 qf1 qf2 qf3 cI cJ cZ cB cT f_row) := hD
  refine lv_bipush (v := (64 : Int32)) hx hb dX1_entryMonth_5 (by decide) ?_
  refine xidiv hx hb dX1_entryMonth_7 hf (fun v7 hf => ?_)
  cases hf
  exact mret_i hx hb hr hlocks hP hD hS dX1_entryMonth_8 rfl trivial
theorem dX1_entryPerson_0 : decode cX1_entryPerson 0 = .ok (.aload_n 0, 1) := by decide +kernel
theorem dX1_entryPerson_1 : decode cX1_entryPerson 1 = .ok (.iload_n 1, 1) := by decide +kernel
theorem dX1_entryPerson_2 : decode cX1_entryPerson 2 = .ok (.invokevirtual 55, 3) := by decide +kernel
theorem dX1_entryPerson_5 : decode cX1_entryPerson 5 = .ok (.bipush 8, 2) := by decide +kernel
theorem dX1_entryPerson_7 : decode cX1_entryPerson 7 = .ok (.idiv, 1) := by decide +kernel
theorem dX1_entryPerson_8 : decode cX1_entryPerson 8 = .ok (.bipush 8, 2) := by decide +kernel
theorem dX1_entryPerson_10 : decode cX1_entryPerson 10 = .ok (.irem, 1) := by decide +kernel
theorem dX1_entryPerson_11 : decode cX1_entryPerson 11 = .ok (.ireturn, 1) := by decide +kernel
def f_X1_entryPerson (N : Nat) (f_row : Nat → Int32) (p1 : Int32) : Option (Int32) := ob1 (f_X1_entry N f_row p1) fun r2 => dvI r2 (8 : Int32) fun v7 => rmI v7 (8 : Int32) fun v10 => some v10
set_option maxHeartbeats 4000000 in
set_option maxRecDepth 100000 in
theorem k_X1_entryPerson (l : Launch) (N : Nat) (D : va_G) (cI cJ cZ cB cT : ClassId) (qf0 : Nat) (qf1 : Nat) (qf2 : Nat) (qf3 : Nat) (f_row : Nat → Int32) (p1 : Int32) (o_r : Int32) (hf : f_X1_entryPerson N f_row p1 = some o_r) : ∀ sz, Met l yX1_entryPerson (mw yX1_entryPerson cX1_entryPerson 2 (some .int)) ({ frames := 1, cells := 0, slots := 0, locals := 21 } : Room) (mPre D (mT cI cJ cZ cB cT) (W_F_0t1 qf0 qf1 qf2 qf3 cI cJ cZ cB cT f_row) sz [.ref qf0, .int p1]) ((mQi D (W_F_0t1 qf0 qf1 qf2 qf3 cI cJ cZ cB cT f_row) o_r True) (va_A (W_F_0t1 qf0 qf1 qf2 qf3 cI cJ cZ cB cT f_row) sz)) 0 0 (va_A (W_F_0t1 qf0 qf1 qf2 qf3 cI cJ cZ cB cT f_row) sz) := by
  refine mMet (Qc := (mQi D (W_F_0t1 qf0 qf1 qf2 qf3 cI cJ cZ cB cT f_row) o_r True)) (by decide) (Nat.le_of_ble_eq_true rfl) (fun p e s m below meth c A ls hx hb hr hml hts hown hlocks hK hA hP hD hl => ?_)
  have hown : s.vm.findClass RX1 = some m.cls := hown
  have hl : lv_has ls 2 [(0, .ref qf0), (1, .int p1)] := hl
  have hS : va_S A s.heap s.heap [] := va_S.rf
  unfold f_X1_entryPerson at hf
  refine lv_aload_n hx hb dX1_entryPerson_0 rfl (lv_at hl 0 rfl) ?_
  refine lv_iload_n hx hb dX1_entryPerson_1 rfl (lv_at hl 1 rfl) ?_
  obtain ⟨r2, hg2, hf⟩ := ob1_some hf
  refine mcV1_i (As := [.int p1]) (rest := []) hx hb hml hown hts hK hP hD hS hA (k_X1_entry l N D cI cJ cZ cB cT qf0 qf1 qf2 qf3 f_row p1 r2 hg2) (kwX1_55 hts rfl rfl ⟨Nat.le_of_ble_eq_true rfl, Nat.le_of_ble_eq_true rfl⟩) 0 rfl rfl rfl rfl hl.1 rfl (Nat.le_of_ble_eq_true rfl) dX1_entryPerson_2 ⟨Nat.zero_le _, Nat.zero_le _⟩ (fun hB2 H locs hP hD hS => ?_)
  have hP : va_P D vwCl (W_F_0t1 qf0 qf1 qf2 qf3 cI cJ cZ cB cT f_row) H := hP
  have hD : va_D A (W_F_0t1 qf0 qf1 qf2 qf3 cI cJ cZ cB cT f_row) := hD
  refine lv_bipush (v := (8 : Int32)) hx hb dX1_entryPerson_5 (by decide) ?_
  refine xidiv hx hb dX1_entryPerson_7 hf (fun v7 hf => ?_)
  refine lv_bipush (v := (8 : Int32)) hx hb dX1_entryPerson_8 (by decide) ?_
  refine xirem hx hb dX1_entryPerson_10 hf (fun v10 hf => ?_)
  cases hf
  exact mret_i hx hb hr hlocks hP hD hS dX1_entryPerson_11 rfl trivial
theorem dX1_entryWhat_0 : decode cX1_entryWhat 0 = .ok (.aload_n 0, 1) := by decide +kernel
theorem dX1_entryWhat_1 : decode cX1_entryWhat 1 = .ok (.iload_n 1, 1) := by decide +kernel
theorem dX1_entryWhat_2 : decode cX1_entryWhat 2 = .ok (.invokevirtual 55, 3) := by decide +kernel
theorem dX1_entryWhat_5 : decode cX1_entryWhat 5 = .ok (.bipush 8, 2) := by decide +kernel
theorem dX1_entryWhat_7 : decode cX1_entryWhat 7 = .ok (.irem, 1) := by decide +kernel
theorem dX1_entryWhat_8 : decode cX1_entryWhat 8 = .ok (.ireturn, 1) := by decide +kernel
def f_X1_entryWhat (N : Nat) (f_row : Nat → Int32) (p1 : Int32) : Option (Int32) := ob1 (f_X1_entry N f_row p1) fun r2 => rmI r2 (8 : Int32) fun v7 => some v7
set_option maxHeartbeats 4000000 in
set_option maxRecDepth 100000 in
theorem k_X1_entryWhat (l : Launch) (N : Nat) (D : va_G) (cI cJ cZ cB cT : ClassId) (qf0 : Nat) (qf1 : Nat) (qf2 : Nat) (qf3 : Nat) (f_row : Nat → Int32) (p1 : Int32) (o_r : Int32) (hf : f_X1_entryWhat N f_row p1 = some o_r) : ∀ sz, Met l yX1_entryWhat (mw yX1_entryWhat cX1_entryWhat 2 (some .int)) ({ frames := 1, cells := 0, slots := 0, locals := 21 } : Room) (mPre D (mT cI cJ cZ cB cT) (W_F_0t1 qf0 qf1 qf2 qf3 cI cJ cZ cB cT f_row) sz [.ref qf0, .int p1]) ((mQi D (W_F_0t1 qf0 qf1 qf2 qf3 cI cJ cZ cB cT f_row) o_r True) (va_A (W_F_0t1 qf0 qf1 qf2 qf3 cI cJ cZ cB cT f_row) sz)) 0 0 (va_A (W_F_0t1 qf0 qf1 qf2 qf3 cI cJ cZ cB cT f_row) sz) := by
  refine mMet (Qc := (mQi D (W_F_0t1 qf0 qf1 qf2 qf3 cI cJ cZ cB cT f_row) o_r True)) (by decide) (Nat.le_of_ble_eq_true rfl) (fun p e s m below meth c A ls hx hb hr hml hts hown hlocks hK hA hP hD hl => ?_)
  have hown : s.vm.findClass RX1 = some m.cls := hown
  have hl : lv_has ls 2 [(0, .ref qf0), (1, .int p1)] := hl
  have hS : va_S A s.heap s.heap [] := va_S.rf
  unfold f_X1_entryWhat at hf
  refine lv_aload_n hx hb dX1_entryWhat_0 rfl (lv_at hl 0 rfl) ?_
  refine lv_iload_n hx hb dX1_entryWhat_1 rfl (lv_at hl 1 rfl) ?_
  obtain ⟨r2, hg2, hf⟩ := ob1_some hf
  refine mcV1_i (As := [.int p1]) (rest := []) hx hb hml hown hts hK hP hD hS hA (k_X1_entry l N D cI cJ cZ cB cT qf0 qf1 qf2 qf3 f_row p1 r2 hg2) (kwX1_55 hts rfl rfl ⟨Nat.le_of_ble_eq_true rfl, Nat.le_of_ble_eq_true rfl⟩) 0 rfl rfl rfl rfl hl.1 rfl (Nat.le_of_ble_eq_true rfl) dX1_entryWhat_2 ⟨Nat.zero_le _, Nat.zero_le _⟩ (fun hB2 H locs hP hD hS => ?_)
  have hP : va_P D vwCl (W_F_0t1 qf0 qf1 qf2 qf3 cI cJ cZ cB cT f_row) H := hP
  have hD : va_D A (W_F_0t1 qf0 qf1 qf2 qf3 cI cJ cZ cB cT f_row) := hD
  refine lv_bipush (v := (8 : Int32)) hx hb dX1_entryWhat_5 (by decide) ?_
  refine xirem hx hb dX1_entryWhat_7 hf (fun v7 hf => ?_)
  cases hf
  exact mret_i hx hb hr hlocks hP hD hS dX1_entryWhat_8 rfl trivial
theorem dX2_become_0 : decode cX2_become 0 = .ok (.aload_n 0, 1) := by decide +kernel
theorem dX2_become_1 : decode cX2_become 1 = .ok (.aload_n 1, 1) := by decide +kernel
theorem dX2_become_2 : decode cX2_become 2 = .ok (.getfield 9, 3) := by decide +kernel
theorem dX2_become_5 : decode cX2_become 5 = .ok (.putfield 9, 3) := by decide +kernel
theorem dX2_become_8 : decode cX2_become 8 = .ok (.aload_n 1, 1) := by decide +kernel
theorem dX2_become_9 : decode cX2_become 9 = .ok (.getfield 15, 3) := by decide +kernel
theorem dX2_become_12 : decode cX2_become 12 = .ok (.iconst 0, 1) := by decide +kernel
theorem dX2_become_13 : decode cX2_become 13 = .ok (.aload_n 0, 1) := by decide +kernel
theorem dX2_become_14 : decode cX2_become 14 = .ok (.getfield 15, 3) := by decide +kernel
theorem dX2_become_17 : decode cX2_become 17 = .ok (.iconst 0, 1) := by decide +kernel
theorem dX2_become_18 : decode cX2_become 18 = .ok (.bipush 8, 2) := by decide +kernel
theorem dX2_become_20 : decode cX2_become 20 = .ok (.invokestatic 22, 3) := by decide +kernel
theorem dX2_become_23 : decode cX2_become 23 = .ok (.aload_n 1, 1) := by decide +kernel
theorem dX2_become_24 : decode cX2_become 24 = .ok (.getfield 19, 3) := by decide +kernel
theorem dX2_become_27 : decode cX2_become 27 = .ok (.iconst 0, 1) := by decide +kernel
theorem dX2_become_28 : decode cX2_become 28 = .ok (.aload_n 0, 1) := by decide +kernel
theorem dX2_become_29 : decode cX2_become 29 = .ok (.getfield 19, 3) := by decide +kernel
theorem dX2_become_32 : decode cX2_become 32 = .ok (.iconst 0, 1) := by decide +kernel
theorem dX2_become_33 : decode cX2_become 33 = .ok (.bipush 8, 2) := by decide +kernel
theorem dX2_become_35 : decode cX2_become 35 = .ok (.invokestatic 22, 3) := by decide +kernel
theorem dX2_become_38 : decode cX2_become 38 = .ok (.return_, 1) := by decide +kernel
def f_X2_become (N : Nat) (d_n : Int32) (d_for : Nat → Int32) (d_road : Nat → Int32) (c_n : Int32) (c_for : Nat → Int32) (c_road : Nat → Int32) : Option (Int32 × (Nat → Int32) × (Nat → Int32)) := cpI c_for 8 d_for 8 (0 : Int32) (0 : Int32) (8 : Int32) fun d_for_20 => cpI c_road 8 d_road 8 (0 : Int32) (0 : Int32) (8 : Int32) fun d_road_35 => some (c_n, d_for_20, d_road_35)
set_option maxHeartbeats 4000000 in
set_option maxRecDepth 100000 in
theorem k_X2_become (l : Launch) (N : Nat) (D : va_G) (cI cJ cZ cB cT : ClassId) (qd0 : Nat) (qd1 : Nat) (qd2 : Nat) (qc0 : Nat) (qc1 : Nat) (qc2 : Nat) (d_n : Int32) (d_for : Nat → Int32) (d_road : Nat → Int32) (c_n : Int32) (c_for : Nat → Int32) (c_road : Nat → Int32) (o_d_n : Int32) (o_d_for : Nat → Int32) (o_d_road : Nat → Int32) (hf : f_X2_become N d_n d_for d_road c_n c_for c_road = some (o_d_n, o_d_for, o_d_road)) : ∀ sz, Met l yX2_become (mw yX2_become cX2_become 2 none) ({ frames := 1, cells := 0, slots := 0, locals := 60 } : Room) (mPre D (mT cI cJ cZ cB cT) (W_LL_0t5 qd0 qd1 qd2 qc0 qc1 qc2 cI cJ cZ cB cT d_n d_for d_road c_n c_for c_road) sz [.ref qd0, .ref qc0]) ((mQv D (W_LL_0t5 qd0 qd1 qd2 qc0 qc1 qc2 cI cJ cZ cB cT o_d_n o_d_for o_d_road c_n c_for c_road)) (va_A (W_LL_0t5 qd0 qd1 qd2 qc0 qc1 qc2 cI cJ cZ cB cT d_n d_for d_road c_n c_for c_road) sz)) 0 0 (va_A (W_LL_0t5 qd0 qd1 qd2 qc0 qc1 qc2 cI cJ cZ cB cT d_n d_for d_road c_n c_for c_road) sz) := by
  refine mMet (Qc := (mQv D (W_LL_0t5 qd0 qd1 qd2 qc0 qc1 qc2 cI cJ cZ cB cT o_d_n o_d_for o_d_road c_n c_for c_road))) (by decide) (Nat.le_of_ble_eq_true rfl) (fun p e s m below meth c A ls hx hb hr hml hts hown hlocks hK hA hP hD hl => ?_)
  have hown : s.vm.findClass RX2 = some m.cls := hown
  have hl : lv_has ls 2 [(0, .ref qd0), (1, .ref qc0)] := hl
  have hS : va_S A s.heap s.heap [] := va_S.rf
  unfold f_X2_become at hf
  refine lv_aload_n hx hb dX2_become_0 rfl (lv_at hl 0 rfl) ?_
  refine lv_aload_n hx hb dX2_become_1 rfl (lv_at hl 1 rfl) ?_
  refine gfX2_9 hx hb hts hown hK hP 3 rfl rfl dX2_become_2 ?_
  refine pfX2_9 hx hb hts hown hK hP hD hS 0 rfl (Nat.le_of_ble_eq_true rfl) dX2_become_5 (fun H locs hP hD hS => ?_)
  have hP : va_P D vwCl (W_LL_0t5 qd0 qd1 qd2 qc0 qc1 qc2 cI cJ cZ cB cT c_n d_for d_road c_n c_for c_road) H := hP
  have hD : va_D A (W_LL_0t5 qd0 qd1 qd2 qc0 qc1 qc2 cI cJ cZ cB cT c_n d_for d_road c_n c_for c_road) := hD
  refine lv_aload_n hx hb dX2_become_8 rfl (lv_at hl 1 rfl) ?_
  refine gfX2_15 hx hb hts hown hK hP 3 rfl rfl dX2_become_9 ?_
  refine lv_iconst (v := (0 : Int32)) hx hb dX2_become_12 (by decide) ?_
  refine lv_aload_n hx hb dX2_become_13 rfl (lv_at hl 0 rfl) ?_
  refine gfX2_15 hx hb hts hown hK hP 0 rfl rfl dX2_become_14 ?_
  refine lv_iconst (v := (0 : Int32)) hx hb dX2_become_17 (by decide) ?_
  refine lv_bipush (v := (8 : Int32)) hx hb dX2_become_18 (by decide) ?_
  refine xcopy hx hb hml hl.1 hown hts cpwX2_22 hK hP hD hS 4 1 0 0 rfl rfl rfl rfl (Nat.le_of_ble_eq_true rfl) (by decide) dX2_become_20 hf (fun d_for_20 hf H locs hP hD hS => ?_)
  have hP : va_P D vwCl (W_LL_0t5 qd0 qd1 qd2 qc0 qc1 qc2 cI cJ cZ cB cT c_n d_for_20 d_road c_n c_for c_road) H := hP
  have hD : va_D A (W_LL_0t5 qd0 qd1 qd2 qc0 qc1 qc2 cI cJ cZ cB cT c_n d_for_20 d_road c_n c_for c_road) := hD
  refine lv_aload_n hx hb dX2_become_23 rfl (lv_at hl 1 rfl) ?_
  refine gfX2_19 hx hb hts hown hK hP 3 rfl rfl dX2_become_24 ?_
  refine lv_iconst (v := (0 : Int32)) hx hb dX2_become_27 (by decide) ?_
  refine lv_aload_n hx hb dX2_become_28 rfl (lv_at hl 0 rfl) ?_
  refine gfX2_19 hx hb hts hown hK hP 0 rfl rfl dX2_become_29 ?_
  refine lv_iconst (v := (0 : Int32)) hx hb dX2_become_32 (by decide) ?_
  refine lv_bipush (v := (8 : Int32)) hx hb dX2_become_33 (by decide) ?_
  refine xcopy hx hb hml hl.1 hown hts cpwX2_22 hK hP hD hS 5 2 0 0 rfl rfl rfl rfl (Nat.le_of_ble_eq_true rfl) (by decide) dX2_become_35 hf (fun d_road_35 hf H locs hP hD hS => ?_)
  have hP : va_P D vwCl (W_LL_0t5 qd0 qd1 qd2 qc0 qc1 qc2 cI cJ cZ cB cT c_n d_for_20 d_road_35 c_n c_for c_road) H := hP
  have hD : va_D A (W_LL_0t5 qd0 qd1 qd2 qc0 qc1 qc2 cI cJ cZ cB cT c_n d_for_20 d_road_35 c_n c_for c_road) := hD
  cases hf
  exact mret_v hx hb hr hlocks hP hD hS dX2_become_38
