theorem dX9_closeLaw_0 : decode cX9_closeLaw 0 = .ok (.iload_n 1, 1) := by decide +kernel
theorem dX9_closeLaw_1 : decode cX9_closeLaw 1 = .ok (.ifCond .lt 18, 3) := by decide +kernel
theorem dX9_closeLaw_4 : decode cX9_closeLaw 4 = .ok (.iload_n 1, 1) := by decide +kernel
theorem dX9_closeLaw_5 : decode cX9_closeLaw 5 = .ok (.iconst 4, 1) := by decide +kernel
theorem dX9_closeLaw_6 : decode cX9_closeLaw 6 = .ok (.if_icmp .ge 13, 3) := by decide +kernel
theorem dX9_closeLaw_9 : decode cX9_closeLaw 9 = .ok (.aload_n 0, 1) := by decide +kernel
theorem dX9_closeLaw_10 : decode cX9_closeLaw 10 = .ok (.getfield 30, 3) := by decide +kernel
theorem dX9_closeLaw_13 : decode cX9_closeLaw 13 = .ok (.iload_n 1, 1) := by decide +kernel
theorem dX9_closeLaw_14 : decode cX9_closeLaw 14 = .ok (.aload_n 0, 1) := by decide +kernel
theorem dX9_closeLaw_15 : decode cX9_closeLaw 15 = .ok (.getfield 17, 3) := by decide +kernel
theorem dX9_closeLaw_18 : decode cX9_closeLaw 18 = .ok (.iastore, 1) := by decide +kernel
theorem dX9_closeLaw_19 : decode cX9_closeLaw 19 = .ok (.return_, 1) := by decide +kernel
def f_X9_closeLaw (N : Nat) (x_ln : Int32) (x_en : Nat → Int32) (p1 : Int32) : Option ((Nat → Int32)) := if p1 < 0 then (some x_en) else (if (4 : Int32) ≤ p1 then (some x_en) else (sA x_en 4 p1 x_ln fun x_en_18 => some x_en_18))
set_option maxHeartbeats 4000000 in
set_option maxRecDepth 100000 in
theorem k_X9_closeLaw (l : Launch) (N : Nat) (D : va_G) (cI cJ cZ cB cT : ClassId) (qx0 : Nat) (qx3 : Nat) (qx1 : Nat) (qx2 : Nat) (qx4 : Nat) (x_cl : Int32) (x_ln : Int32) (x_pt : Int32) (x_en : Nat → Int32) (p1 : Int32) (o_x_en : Nat → Int32) (hf : f_X9_closeLaw N x_ln x_en p1 = some o_x_en) : ∀ sz, Met l yX9_closeLaw (mw yX9_closeLaw cX9_closeLaw 2 none) ({ frames := 0, cells := 0, slots := 0, locals := 0 } : Room) (mPre D (mT cI cJ cZ cB cT) (W_TX_0_3 qx0 qx3 qx1 qx2 qx4 cI cJ cZ cB cT x_cl x_ln x_pt x_en) sz [.ref qx0, .int p1]) ((mQv D (W_TX_0_3 qx0 qx3 qx1 qx2 qx4 cI cJ cZ cB cT x_cl x_ln x_pt o_x_en)) (va_A (W_TX_0_3 qx0 qx3 qx1 qx2 qx4 cI cJ cZ cB cT x_cl x_ln x_pt x_en) sz)) 0 0 (va_A (W_TX_0_3 qx0 qx3 qx1 qx2 qx4 cI cJ cZ cB cT x_cl x_ln x_pt x_en) sz) := by
  refine mMet (Qc := (mQv D (W_TX_0_3 qx0 qx3 qx1 qx2 qx4 cI cJ cZ cB cT x_cl x_ln x_pt o_x_en))) (by decide) (Nat.le_of_ble_eq_true rfl) (fun p e s m below meth c A ls hx hb hr hml hts hown hlocks hK hA hP hD hl => ?_)
  have hown : s.vm.findClass RX9 = some m.cls := hown
  have hl : lv_has ls 2 [(0, .ref qx0), (1, .int p1)] := hl
  have hS : va_S A s.heap s.heap [] := va_S.rf
  unfold f_X9_closeLaw at hf
  refine lv_iload_n hx hb dX9_closeLaw_0 rfl (lv_at hl 1 rfl) ?_
  refine xif_lt hx hb 19 dX9_closeLaw_1 (by decide) hf (fun hf => ?_) (fun hf => ?_)
  · cases hf
    exact mret_v hx hb hr hlocks hP hD hS dX9_closeLaw_19
  · refine lv_iload_n hx hb dX9_closeLaw_4 rfl (lv_at hl 1 rfl) ?_
    refine lv_iconst (v := (4 : Int32)) hx hb dX9_closeLaw_5 (by decide) ?_
    refine xicmp_ge hx hb 19 dX9_closeLaw_6 (by decide) hf (fun hf => ?_) (fun hf => ?_)
    · cases hf
      exact mret_v hx hb hr hlocks hP hD hS dX9_closeLaw_19
    · refine lv_aload_n hx hb dX9_closeLaw_9 rfl (lv_at hl 0 rfl) ?_
      refine gfX9_30 hx hb hts hown hK hP 0 rfl rfl dX9_closeLaw_10 ?_
      refine lv_iload_n hx hb dX9_closeLaw_13 rfl (lv_at hl 1 rfl) ?_
      refine lv_aload_n hx hb dX9_closeLaw_14 rfl (lv_at hl 0 rfl) ?_
      refine gfX9_17 hx hb hts hown hK hP 0 rfl rfl dX9_closeLaw_15 ?_
      refine xiast hx hb hK hP hD hS 1 0 rfl rfl dX9_closeLaw_18 hf (fun x_en_18 hf H locs hP hD hS => ?_)
      have hP : va_P D vwCl (W_TX_0_3 qx0 qx3 qx1 qx2 qx4 cI cJ cZ cB cT x_cl x_ln x_pt x_en_18) H := hP
      have hD : va_D A (W_TX_0_3 qx0 qx3 qx1 qx2 qx4 cI cJ cZ cB cT x_cl x_ln x_pt x_en_18) := hD
      cases hf
      exact mret_v hx hb hr hlocks hP hD hS dX9_closeLaw_19
theorem dX9_begun_0 : decode cX9_begun 0 = .ok (.iload_n 1, 1) := by decide +kernel
theorem dX9_begun_1 : decode cX9_begun 1 = .ok (.ifCond .lt 22, 3) := by decide +kernel
theorem dX9_begun_4 : decode cX9_begun 4 = .ok (.iload_n 1, 1) := by decide +kernel
theorem dX9_begun_5 : decode cX9_begun 5 = .ok (.iconst 4, 1) := by decide +kernel
theorem dX9_begun_6 : decode cX9_begun 6 = .ok (.if_icmp .ge 17, 3) := by decide +kernel
theorem dX9_begun_9 : decode cX9_begun 9 = .ok (.aload_n 0, 1) := by decide +kernel
theorem dX9_begun_10 : decode cX9_begun 10 = .ok (.getfield 27, 3) := by decide +kernel
theorem dX9_begun_13 : decode cX9_begun 13 = .ok (.iload_n 1, 1) := by decide +kernel
theorem dX9_begun_14 : decode cX9_begun 14 = .ok (.iaload, 1) := by decide +kernel
theorem dX9_begun_15 : decode cX9_begun 15 = .ok (.iconst (-1), 1) := by decide +kernel
theorem dX9_begun_16 : decode cX9_begun 16 = .ok (.if_icmp .eq 7, 3) := by decide +kernel
theorem dX9_begun_19 : decode cX9_begun 19 = .ok (.iconst 1, 1) := by decide +kernel
theorem dX9_begun_20 : decode cX9_begun 20 = .ok (.goto 4, 3) := by decide +kernel
theorem dX9_begun_23 : decode cX9_begun 23 = .ok (.iconst 0, 1) := by decide +kernel
theorem dX9_begun_24 : decode cX9_begun 24 = .ok (.ireturn, 1) := by decide +kernel
def f_X9_begun (N : Nat) (x_st : Nat → Int32) (p1 : Int32) : Option (Int32) := if p1 < 0 then (some (0 : Int32)) else (if (4 : Int32) ≤ p1 then (some (0 : Int32)) else (gA x_st 4 p1 fun v14 => if v14 = (-1 : Int32) then (some (0 : Int32)) else (some (1 : Int32))))
set_option maxHeartbeats 4000000 in
set_option maxRecDepth 100000 in
theorem k_X9_begun (l : Launch) (N : Nat) (D : va_G) (cI cJ cZ cB cT : ClassId) (qx0 : Nat) (qx2 : Nat) (qx1 : Nat) (qx3 : Nat) (qx4 : Nat) (x_cl : Int32) (x_ln : Int32) (x_pt : Int32) (x_st : Nat → Int32) (p1 : Int32) (o_r : Int32) (hf : f_X9_begun N x_st p1 = some o_r) : ∀ sz, Met l yX9_begun (mw yX9_begun cX9_begun 2 (some .boolean)) ({ frames := 0, cells := 0, slots := 0, locals := 0 } : Room) (mPre D (mT cI cJ cZ cB cT) (W_TX_0_2 qx0 qx2 qx1 qx3 qx4 cI cJ cZ cB cT x_cl x_ln x_pt x_st) sz [.ref qx0, .int p1]) ((mQi D (W_TX_0_2 qx0 qx2 qx1 qx3 qx4 cI cJ cZ cB cT x_cl x_ln x_pt x_st) o_r (mB o_r)) (va_A (W_TX_0_2 qx0 qx2 qx1 qx3 qx4 cI cJ cZ cB cT x_cl x_ln x_pt x_st) sz)) 0 0 (va_A (W_TX_0_2 qx0 qx2 qx1 qx3 qx4 cI cJ cZ cB cT x_cl x_ln x_pt x_st) sz) := by
  refine mMet (Qc := (mQi D (W_TX_0_2 qx0 qx2 qx1 qx3 qx4 cI cJ cZ cB cT x_cl x_ln x_pt x_st) o_r (mB o_r))) (by decide) (Nat.le_of_ble_eq_true rfl) (fun p e s m below meth c A ls hx hb hr hml hts hown hlocks hK hA hP hD hl => ?_)
  have hown : s.vm.findClass RX9 = some m.cls := hown
  have hl : lv_has ls 2 [(0, .ref qx0), (1, .int p1)] := hl
  have hS : va_S A s.heap s.heap [] := va_S.rf
  unfold f_X9_begun at hf
  refine lv_iload_n hx hb dX9_begun_0 rfl (lv_at hl 1 rfl) ?_
  refine xif_lt hx hb 23 dX9_begun_1 (by decide) hf (fun hf => ?_) (fun hf => ?_)
  · refine lv_iconst (v := (0 : Int32)) hx hb dX9_begun_23 (by decide) ?_
    cases hf
    exact mret_z hx hb hr hlocks hP hD hS dX9_begun_24 rfl rfl
  · refine lv_iload_n hx hb dX9_begun_4 rfl (lv_at hl 1 rfl) ?_
    refine lv_iconst (v := (4 : Int32)) hx hb dX9_begun_5 (by decide) ?_
    refine xicmp_ge hx hb 23 dX9_begun_6 (by decide) hf (fun hf => ?_) (fun hf => ?_)
    · refine lv_iconst (v := (0 : Int32)) hx hb dX9_begun_23 (by decide) ?_
      cases hf
      exact mret_z hx hb hr hlocks hP hD hS dX9_begun_24 rfl rfl
    · refine lv_aload_n hx hb dX9_begun_9 rfl (lv_at hl 0 rfl) ?_
      refine gfX9_27 hx hb hts hown hK hP 0 rfl rfl dX9_begun_10 ?_
      refine lv_iload_n hx hb dX9_begun_13 rfl (lv_at hl 1 rfl) ?_
      refine xiald hx hb hK hP 1 0 rfl rfl dX9_begun_14 hf (fun v14 hf => ?_)
      refine lv_iconst (v := (-1 : Int32)) hx hb dX9_begun_15 (by decide) ?_
      refine xicmp_eq hx hb 23 dX9_begun_16 (by decide) hf (fun hf => ?_) (fun hf => ?_)
      · refine lv_iconst (v := (0 : Int32)) hx hb dX9_begun_23 (by decide) ?_
        cases hf
        exact mret_z hx hb hr hlocks hP hD hS dX9_begun_24 rfl rfl
      · refine lv_iconst (v := (1 : Int32)) hx hb dX9_begun_19 (by decide) ?_
        refine lv_goto (tgt := 24) hx hb dX9_begun_20 (by decide) ?_
        cases hf
        exact mret_z hx hb hr hlocks hP hD hS dX9_begun_24 rfl rfl
theorem dX9_put_0 : decode cX9_put 0 = .ok (.aload_n 0, 1) := by decide +kernel
theorem dX9_put_1 : decode cX9_put 1 = .ok (.getfield 17, 3) := by decide +kernel
theorem dX9_put_4 : decode cX9_put 4 = .ok (.ifCond .lt 38, 3) := by decide +kernel
theorem dX9_put_7 : decode cX9_put 7 = .ok (.aload_n 0, 1) := by decide +kernel
theorem dX9_put_8 : decode cX9_put 8 = .ok (.getfield 17, 3) := by decide +kernel
theorem dX9_put_11 : decode cX9_put 11 = .ok (.sipush 301, 3) := by decide +kernel
theorem dX9_put_14 : decode cX9_put 14 = .ok (.if_icmp .ge 28, 3) := by decide +kernel
theorem dX9_put_17 : decode cX9_put 17 = .ok (.aload_n 0, 1) := by decide +kernel
theorem dX9_put_18 : decode cX9_put 18 = .ok (.getfield 23, 3) := by decide +kernel
theorem dX9_put_21 : decode cX9_put 21 = .ok (.aload_n 0, 1) := by decide +kernel
theorem dX9_put_22 : decode cX9_put 22 = .ok (.getfield 17, 3) := by decide +kernel
theorem dX9_put_25 : decode cX9_put 25 = .ok (.iload_n 2, 1) := by decide +kernel
theorem dX9_put_26 : decode cX9_put 26 = .ok (.bipush 64, 2) := by decide +kernel
theorem dX9_put_28 : decode cX9_put 28 = .ok (.imul, 1) := by decide +kernel
theorem dX9_put_29 : decode cX9_put 29 = .ok (.iload_n 1, 1) := by decide +kernel
theorem dX9_put_30 : decode cX9_put 30 = .ok (.iadd, 1) := by decide +kernel
theorem dX9_put_31 : decode cX9_put 31 = .ok (.iastore, 1) := by decide +kernel
theorem dX9_put_32 : decode cX9_put 32 = .ok (.aload_n 0, 1) := by decide +kernel
theorem dX9_put_33 : decode cX9_put 33 = .ok (.dup, 1) := by decide +kernel
theorem dX9_put_34 : decode cX9_put 34 = .ok (.getfield 17, 3) := by decide +kernel
theorem dX9_put_37 : decode cX9_put 37 = .ok (.iconst 1, 1) := by decide +kernel
theorem dX9_put_38 : decode cX9_put 38 = .ok (.iadd, 1) := by decide +kernel
theorem dX9_put_39 : decode cX9_put 39 = .ok (.putfield 17, 3) := by decide +kernel
theorem dX9_put_42 : decode cX9_put 42 = .ok (.return_, 1) := by decide +kernel
def f_X9_put (N : Nat) (x_ln : Int32) (x_code : Nat → Int32) (p1 : Int32) (p2 : Int32) : Option (Int32 × (Nat → Int32)) := if x_ln < 0 then (some (x_ln, x_code)) else (if (301 : Int32) ≤ x_ln then (some (x_ln, x_code)) else (sA x_code 301 x_ln ((p2 * (64 : Int32)) + p1) fun x_code_31 => some ((x_ln + (1 : Int32)), x_code_31)))
set_option maxHeartbeats 4000000 in
set_option maxRecDepth 100000 in
theorem k_X9_put (l : Launch) (N : Nat) (D : va_G) (cI cJ cZ cB cT : ClassId) (qx0 : Nat) (qx1 : Nat) (qx2 : Nat) (qx3 : Nat) (qx4 : Nat) (x_cl : Int32) (x_ln : Int32) (x_pt : Int32) (x_code : Nat → Int32) (p1 : Int32) (p2 : Int32) (o_x_ln : Int32) (o_x_code : Nat → Int32) (hf : f_X9_put N x_ln x_code p1 p2 = some (o_x_ln, o_x_code)) : ∀ sz, Met l yX9_put (mw yX9_put cX9_put 3 none) ({ frames := 0, cells := 0, slots := 0, locals := 0 } : Room) (mPre D (mT cI cJ cZ cB cT) (W_TX_0t1 qx0 qx1 qx2 qx3 qx4 cI cJ cZ cB cT x_cl x_ln x_pt x_code) sz [.ref qx0, .int p1, .int p2]) ((mQv D (W_TX_0t1 qx0 qx1 qx2 qx3 qx4 cI cJ cZ cB cT x_cl o_x_ln x_pt o_x_code)) (va_A (W_TX_0t1 qx0 qx1 qx2 qx3 qx4 cI cJ cZ cB cT x_cl x_ln x_pt x_code) sz)) 0 0 (va_A (W_TX_0t1 qx0 qx1 qx2 qx3 qx4 cI cJ cZ cB cT x_cl x_ln x_pt x_code) sz) := by
  refine mMet (Qc := (mQv D (W_TX_0t1 qx0 qx1 qx2 qx3 qx4 cI cJ cZ cB cT x_cl o_x_ln x_pt o_x_code))) (by decide) (Nat.le_of_ble_eq_true rfl) (fun p e s m below meth c A ls hx hb hr hml hts hown hlocks hK hA hP hD hl => ?_)
  have hown : s.vm.findClass RX9 = some m.cls := hown
  have hl : lv_has ls 3 [(0, .ref qx0), (1, .int p1), (2, .int p2)] := hl
  have hS : va_S A s.heap s.heap [] := va_S.rf
  unfold f_X9_put at hf
  refine lv_aload_n hx hb dX9_put_0 rfl (lv_at hl 0 rfl) ?_
  refine gfX9_17 hx hb hts hown hK hP 0 rfl rfl dX9_put_1 ?_
  refine xif_lt hx hb 42 dX9_put_4 (by decide) hf (fun hf => ?_) (fun hf => ?_)
  · cases hf
    exact mret_v hx hb hr hlocks hP hD hS dX9_put_42
  · refine lv_aload_n hx hb dX9_put_7 rfl (lv_at hl 0 rfl) ?_
    refine gfX9_17 hx hb hts hown hK hP 0 rfl rfl dX9_put_8 ?_
    refine lv_sipush (v := (301 : Int32)) hx hb dX9_put_11 (by decide) ?_
    refine xicmp_ge hx hb 42 dX9_put_14 (by decide) hf (fun hf => ?_) (fun hf => ?_)
    · cases hf
      exact mret_v hx hb hr hlocks hP hD hS dX9_put_42
    · refine lv_aload_n hx hb dX9_put_17 rfl (lv_at hl 0 rfl) ?_
      refine gfX9_23 hx hb hts hown hK hP 0 rfl rfl dX9_put_18 ?_
      refine lv_aload_n hx hb dX9_put_21 rfl (lv_at hl 0 rfl) ?_
      refine gfX9_17 hx hb hts hown hK hP 0 rfl rfl dX9_put_22 ?_
      refine lv_iload_n hx hb dX9_put_25 rfl (lv_at hl 2 rfl) ?_
      refine lv_bipush (v := (64 : Int32)) hx hb dX9_put_26 (by decide) ?_
      refine lv_imul hx hb dX9_put_28 ?_
      refine lv_iload_n hx hb dX9_put_29 rfl (lv_at hl 1 rfl) ?_
      refine lv_iadd hx hb dX9_put_30 ?_
      refine xiast hx hb hK hP hD hS 1 0 rfl rfl dX9_put_31 hf (fun x_code_31 hf H locs hP hD hS => ?_)
      have hP : va_P D vwCl (W_TX_0t1 qx0 qx1 qx2 qx3 qx4 cI cJ cZ cB cT x_cl x_ln x_pt x_code_31) H := hP
      have hD : va_D A (W_TX_0t1 qx0 qx1 qx2 qx3 qx4 cI cJ cZ cB cT x_cl x_ln x_pt x_code_31) := hD
      refine lv_aload_n hx hb dX9_put_32 rfl (lv_at hl 0 rfl) ?_
      refine lv_dup hx hb dX9_put_33 rfl ?_
      refine gfX9_17 hx hb hts hown hK hP 0 rfl rfl dX9_put_34 ?_
      refine lv_iconst (v := (1 : Int32)) hx hb dX9_put_37 (by decide) ?_
      refine lv_iadd hx hb dX9_put_38 ?_
      refine pfX9_17 hx hb hts hown hK hP hD hS 0 rfl (Nat.le_of_ble_eq_true rfl) dX9_put_39 (fun H locs hP hD hS => ?_)
      have hP : va_P D vwCl (W_TX_0t1 qx0 qx1 qx2 qx3 qx4 cI cJ cZ cB cT x_cl (x_ln + (1 : Int32)) x_pt x_code_31) H := hP
      have hD : va_D A (W_TX_0t1 qx0 qx1 qx2 qx3 qx4 cI cJ cZ cB cT x_cl (x_ln + (1 : Int32)) x_pt x_code_31) := hD
      cases hf
      exact mret_v hx hb hr hlocks hP hD hS dX9_put_42
theorem dX9_putLeap_0 : decode cX9_putLeap 0 = .ok (.aload_n 0, 1) := by decide +kernel
theorem dX9_putLeap_1 : decode cX9_putLeap 1 = .ok (.iload_n 1, 1) := by decide +kernel
theorem dX9_putLeap_2 : decode cX9_putLeap 2 = .ok (.iconst 0, 1) := by decide +kernel
theorem dX9_putLeap_3 : decode cX9_putLeap 3 = .ok (.invokevirtual 40, 3) := by decide +kernel
theorem dX9_putLeap_6 : decode cX9_putLeap 6 = .ok (.aload_n 0, 1) := by decide +kernel
theorem dX9_putLeap_7 : decode cX9_putLeap 7 = .ok (.getfield 17, 3) := by decide +kernel
theorem dX9_putLeap_10 : decode cX9_putLeap 10 = .ok (.iconst 1, 1) := by decide +kernel
theorem dX9_putLeap_11 : decode cX9_putLeap 11 = .ok (.isub, 1) := by decide +kernel
theorem dX9_putLeap_12 : decode cX9_putLeap 12 = .ok (.ireturn, 1) := by decide +kernel
def f_X9_putLeap (N : Nat) (x_ln : Int32) (x_code : Nat → Int32) (p1 : Int32) : Option (Int32 × Int32 × (Nat → Int32)) := ob2 (f_X9_put N x_ln x_code p1 (0 : Int32)) fun x_ln_3 x_code_3 => some ((x_ln_3 - (1 : Int32)), x_ln_3, x_code_3)
set_option maxHeartbeats 4000000 in
set_option maxRecDepth 100000 in
theorem k_X9_putLeap (l : Launch) (N : Nat) (D : va_G) (cI cJ cZ cB cT : ClassId) (qx0 : Nat) (qx1 : Nat) (qx2 : Nat) (qx3 : Nat) (qx4 : Nat) (x_cl : Int32) (x_ln : Int32) (x_pt : Int32) (x_code : Nat → Int32) (p1 : Int32) (o_r : Int32) (o_x_ln : Int32) (o_x_code : Nat → Int32) (hf : f_X9_putLeap N x_ln x_code p1 = some (o_r, o_x_ln, o_x_code)) : ∀ sz, Met l yX9_putLeap (mw yX9_putLeap cX9_putLeap 2 (some .int)) ({ frames := 1, cells := 0, slots := 0, locals := 22 } : Room) (mPre D (mT cI cJ cZ cB cT) (W_TX_0t1 qx0 qx1 qx2 qx3 qx4 cI cJ cZ cB cT x_cl x_ln x_pt x_code) sz [.ref qx0, .int p1]) ((mQi D (W_TX_0t1 qx0 qx1 qx2 qx3 qx4 cI cJ cZ cB cT x_cl o_x_ln x_pt o_x_code) o_r True) (va_A (W_TX_0t1 qx0 qx1 qx2 qx3 qx4 cI cJ cZ cB cT x_cl x_ln x_pt x_code) sz)) 0 0 (va_A (W_TX_0t1 qx0 qx1 qx2 qx3 qx4 cI cJ cZ cB cT x_cl x_ln x_pt x_code) sz) := by
  refine mMet (Qc := (mQi D (W_TX_0t1 qx0 qx1 qx2 qx3 qx4 cI cJ cZ cB cT x_cl o_x_ln x_pt o_x_code) o_r True)) (by decide) (Nat.le_of_ble_eq_true rfl) (fun p e s m below meth c A ls hx hb hr hml hts hown hlocks hK hA hP hD hl => ?_)
  have hown : s.vm.findClass RX9 = some m.cls := hown
  have hl : lv_has ls 2 [(0, .ref qx0), (1, .int p1)] := hl
  have hS : va_S A s.heap s.heap [] := va_S.rf
  unfold f_X9_putLeap at hf
  refine lv_aload_n hx hb dX9_putLeap_0 rfl (lv_at hl 0 rfl) ?_
  refine lv_iload_n hx hb dX9_putLeap_1 rfl (lv_at hl 1 rfl) ?_
  refine lv_iconst (v := (0 : Int32)) hx hb dX9_putLeap_2 (by decide) ?_
  obtain ⟨x_ln_3, x_code_3, hg3, hf⟩ := ob2_some hf
  refine mcV1_v (As := [.int p1, .int (0 : Int32)]) (rest := []) hx hb hml hown hts hK hP hD hS hA (k_X9_put l N D cI cJ cZ cB cT qx0 qx1 qx2 qx3 qx4 x_cl x_ln x_pt x_code p1 (0 : Int32) x_ln_3 x_code_3 hg3) (kwX9_40 hts rfl rfl ⟨Nat.le_of_ble_eq_true rfl, Nat.le_of_ble_eq_true rfl⟩) 0 rfl rfl rfl rfl hl.1 rfl (Nat.le_of_ble_eq_true rfl) dX9_putLeap_3 ⟨Nat.zero_le _, Nat.zero_le _⟩ (fun H locs hP hD hS => ?_)
  have hP : va_P D vwCl (W_TX_0t1 qx0 qx1 qx2 qx3 qx4 cI cJ cZ cB cT x_cl x_ln_3 x_pt x_code_3) H := hP
  have hD : va_D A (W_TX_0t1 qx0 qx1 qx2 qx3 qx4 cI cJ cZ cB cT x_cl x_ln_3 x_pt x_code_3) := hD
  refine lv_aload_n hx hb dX9_putLeap_6 rfl (lv_at hl 0 rfl) ?_
  refine gfX9_17 hx hb hts hown hK hP 0 rfl rfl dX9_putLeap_7 ?_
  refine lv_iconst (v := (1 : Int32)) hx hb dX9_putLeap_10 (by decide) ?_
  refine lv_isub hx hb dX9_putLeap_11 ?_
  cases hf
  exact mret_i hx hb hr hlocks hP hD hS dX9_putLeap_12 rfl trivial
theorem dX9_leapsHere_0 : decode cX9_leapsHere 0 = .ok (.iload_n 1, 1) := by decide +kernel
theorem dX9_leapsHere_1 : decode cX9_leapsHere 1 = .ok (.ifCond .lt 25, 3) := by decide +kernel
theorem dX9_leapsHere_4 : decode cX9_leapsHere 4 = .ok (.iload_n 1, 1) := by decide +kernel
theorem dX9_leapsHere_5 : decode cX9_leapsHere 5 = .ok (.sipush 301, 3) := by decide +kernel
theorem dX9_leapsHere_8 : decode cX9_leapsHere 8 = .ok (.if_icmp .ge 18, 3) := by decide +kernel
theorem dX9_leapsHere_11 : decode cX9_leapsHere 11 = .ok (.aload_n 0, 1) := by decide +kernel
theorem dX9_leapsHere_12 : decode cX9_leapsHere 12 = .ok (.getfield 23, 3) := by decide +kernel
theorem dX9_leapsHere_15 : decode cX9_leapsHere 15 = .ok (.iload_n 1, 1) := by decide +kernel
theorem dX9_leapsHere_16 : decode cX9_leapsHere 16 = .ok (.aload_n 0, 1) := by decide +kernel
theorem dX9_leapsHere_17 : decode cX9_leapsHere 17 = .ok (.getfield 17, 3) := by decide +kernel
theorem dX9_leapsHere_20 : decode cX9_leapsHere 20 = .ok (.bipush 64, 2) := by decide +kernel
theorem dX9_leapsHere_22 : decode cX9_leapsHere 22 = .ok (.imul, 1) := by decide +kernel
theorem dX9_leapsHere_23 : decode cX9_leapsHere 23 = .ok (.iload_n 2, 1) := by decide +kernel
theorem dX9_leapsHere_24 : decode cX9_leapsHere 24 = .ok (.iadd, 1) := by decide +kernel
theorem dX9_leapsHere_25 : decode cX9_leapsHere 25 = .ok (.iastore, 1) := by decide +kernel
theorem dX9_leapsHere_26 : decode cX9_leapsHere 26 = .ok (.return_, 1) := by decide +kernel
def f_X9_leapsHere (N : Nat) (x_ln : Int32) (x_code : Nat → Int32) (p1 : Int32) (p2 : Int32) : Option ((Nat → Int32)) := if p1 < 0 then (some x_code) else (if (301 : Int32) ≤ p1 then (some x_code) else (sA x_code 301 p1 ((x_ln * (64 : Int32)) + p2) fun x_code_25 => some x_code_25))
set_option maxHeartbeats 4000000 in
set_option maxRecDepth 100000 in
theorem k_X9_leapsHere (l : Launch) (N : Nat) (D : va_G) (cI cJ cZ cB cT : ClassId) (qx0 : Nat) (qx1 : Nat) (qx2 : Nat) (qx3 : Nat) (qx4 : Nat) (x_cl : Int32) (x_ln : Int32) (x_pt : Int32) (x_code : Nat → Int32) (p1 : Int32) (p2 : Int32) (o_x_code : Nat → Int32) (hf : f_X9_leapsHere N x_ln x_code p1 p2 = some o_x_code) : ∀ sz, Met l yX9_leapsHere (mw yX9_leapsHere cX9_leapsHere 3 none) ({ frames := 0, cells := 0, slots := 0, locals := 0 } : Room) (mPre D (mT cI cJ cZ cB cT) (W_TX_0t1 qx0 qx1 qx2 qx3 qx4 cI cJ cZ cB cT x_cl x_ln x_pt x_code) sz [.ref qx0, .int p1, .int p2]) ((mQv D (W_TX_0t1 qx0 qx1 qx2 qx3 qx4 cI cJ cZ cB cT x_cl x_ln x_pt o_x_code)) (va_A (W_TX_0t1 qx0 qx1 qx2 qx3 qx4 cI cJ cZ cB cT x_cl x_ln x_pt x_code) sz)) 0 0 (va_A (W_TX_0t1 qx0 qx1 qx2 qx3 qx4 cI cJ cZ cB cT x_cl x_ln x_pt x_code) sz) := by
  refine mMet (Qc := (mQv D (W_TX_0t1 qx0 qx1 qx2 qx3 qx4 cI cJ cZ cB cT x_cl x_ln x_pt o_x_code))) (by decide) (Nat.le_of_ble_eq_true rfl) (fun p e s m below meth c A ls hx hb hr hml hts hown hlocks hK hA hP hD hl => ?_)
  have hown : s.vm.findClass RX9 = some m.cls := hown
  have hl : lv_has ls 3 [(0, .ref qx0), (1, .int p1), (2, .int p2)] := hl
  have hS : va_S A s.heap s.heap [] := va_S.rf
  unfold f_X9_leapsHere at hf
  refine lv_iload_n hx hb dX9_leapsHere_0 rfl (lv_at hl 1 rfl) ?_
  refine xif_lt hx hb 26 dX9_leapsHere_1 (by decide) hf (fun hf => ?_) (fun hf => ?_)
  · cases hf
    exact mret_v hx hb hr hlocks hP hD hS dX9_leapsHere_26
  · refine lv_iload_n hx hb dX9_leapsHere_4 rfl (lv_at hl 1 rfl) ?_
    refine lv_sipush (v := (301 : Int32)) hx hb dX9_leapsHere_5 (by decide) ?_
    refine xicmp_ge hx hb 26 dX9_leapsHere_8 (by decide) hf (fun hf => ?_) (fun hf => ?_)
    · cases hf
      exact mret_v hx hb hr hlocks hP hD hS dX9_leapsHere_26
    · refine lv_aload_n hx hb dX9_leapsHere_11 rfl (lv_at hl 0 rfl) ?_
      refine gfX9_23 hx hb hts hown hK hP 0 rfl rfl dX9_leapsHere_12 ?_
      refine lv_iload_n hx hb dX9_leapsHere_15 rfl (lv_at hl 1 rfl) ?_
      refine lv_aload_n hx hb dX9_leapsHere_16 rfl (lv_at hl 0 rfl) ?_
      refine gfX9_17 hx hb hts hown hK hP 0 rfl rfl dX9_leapsHere_17 ?_
      refine lv_bipush (v := (64 : Int32)) hx hb dX9_leapsHere_20 (by decide) ?_
      refine lv_imul hx hb dX9_leapsHere_22 ?_
      refine lv_iload_n hx hb dX9_leapsHere_23 rfl (lv_at hl 2 rfl) ?_
      refine lv_iadd hx hb dX9_leapsHere_24 ?_
      refine xiast hx hb hK hP hD hS 1 0 rfl rfl dX9_leapsHere_25 hf (fun x_code_25 hf H locs hP hD hS => ?_)
      have hP : va_P D vwCl (W_TX_0t1 qx0 qx1 qx2 qx3 qx4 cI cJ cZ cB cT x_cl x_ln x_pt x_code_25) H := hP
      have hD : va_D A (W_TX_0t1 qx0 qx1 qx2 qx3 qx4 cI cJ cZ cB cT x_cl x_ln x_pt x_code_25) := hD
      cases hf
      exact mret_v hx hb hr hlocks hP hD hS dX9_leapsHere_26
theorem dX9_ofOne_0 : decode cX9_ofOne 0 = .ok (.iload_n 0, 1) := by decide +kernel
theorem dX9_ofOne_1 : decode cX9_ofOne 1 = .ok (.lookupswitch 45 #[(24, 27), (30, 35)], 27) := by decide +kernel
theorem dX9_ofOne_28 : decode cX9_ofOne 28 = .ok (.iload_n 1, 1) := by decide +kernel
theorem dX9_ofOne_29 : decode cX9_ofOne 29 = .ok (.invokestatic 67, 3) := by decide +kernel
theorem dX9_ofOne_32 : decode cX9_ofOne 32 = .ok (.invokestatic 70, 3) := by decide +kernel
theorem dX9_ofOne_35 : decode cX9_ofOne 35 = .ok (.ireturn, 1) := by decide +kernel
theorem dX9_ofOne_36 : decode cX9_ofOne 36 = .ok (.iload_n 1, 1) := by decide +kernel
theorem dX9_ofOne_37 : decode cX9_ofOne 37 = .ok (.ifCond .ne 7, 3) := by decide +kernel
theorem dX9_ofOne_40 : decode cX9_ofOne 40 = .ok (.iconst 1, 1) := by decide +kernel
theorem dX9_ofOne_41 : decode cX9_ofOne 41 = .ok (.goto 4, 3) := by decide +kernel
theorem dX9_ofOne_44 : decode cX9_ofOne 44 = .ok (.iconst 0, 1) := by decide +kernel
theorem dX9_ofOne_45 : decode cX9_ofOne 45 = .ok (.ireturn, 1) := by decide +kernel
theorem dX9_ofOne_46 : decode cX9_ofOne 46 = .ok (.iload_n 1, 1) := by decide +kernel
theorem dX9_ofOne_47 : decode cX9_ofOne 47 = .ok (.ineg, 1) := by decide +kernel
theorem dX9_ofOne_48 : decode cX9_ofOne 48 = .ok (.ireturn, 1) := by decide +kernel
def f_X9_ofOne (N : Nat) (p0 : Int32) (p1 : Int32) : Option (Int32) := if p0 = (24 : Int32) then (ob1 (f_J6_bitCount_0f7a4 N (abI p1)) fun r32 => some r32) else if p0 = (30 : Int32) then (if p1 = 0 then (some (1 : Int32)) else (some (0 : Int32))) else (some (-p1))
set_option maxHeartbeats 4000000 in
set_option maxRecDepth 100000 in
theorem k_X9_ofOne (l : Launch) (N : Nat) (D : va_G) (cI cJ cZ cB cT : ClassId) (p0 : Int32) (p1 : Int32) (o_r : Int32) (hf : f_X9_ofOne N p0 p1 = some o_r) : ∀ sz, Met l yX9_ofOne (mw yX9_ofOne cX9_ofOne 2 (some .int)) ({ frames := 1, cells := 0, slots := 0, locals := 40 } : Room) (mPre D (mT cI cJ cZ cB cT) [] sz [.int p0, .int p1]) ((mQi D [] o_r True) (va_A [] sz)) 0 0 (va_A [] sz) := by
  refine mMet (Qc := (mQi D [] o_r True)) (by decide) (Nat.le_of_ble_eq_true rfl) (fun p e s m below meth c A ls hx hb hr hml hts hown hlocks hK hA hP hD hl => ?_)
  have hown : s.vm.findClass RX9 = some m.cls := hown
  have hl : lv_has ls 2 [(0, .int p0), (1, .int p1)] := hl
  have hS : va_S A s.heap s.heap [] := va_S.rf
  unfold f_X9_ofOne at hf
  refine lv_iload_n hx hb dX9_ofOne_0 rfl (lv_at hl 0 rfl) ?_
  by_cases e1_24 : p0 = (24 : Int32)
  · replace hf := (if_pos e1_24).symm.trans hf
    refine lv_lookup (off := 27) (tgt := 28) hx hb dX9_ofOne_1 (by decide) (by rw [e1_24]; decide) (by decide) ?_
    refine lv_iload_n hx hb dX9_ofOne_28 rfl (lv_at hl 1 rfl) ?_
    refine xabs hx hb hml hl.1 hown hts mtX9_67 (Nat.le_of_ble_eq_true rfl) (Nat.le_of_ble_eq_true rfl) ⟨Nat.zero_le _, Nat.zero_le _⟩ dX9_ofOne_29 ?_
    obtain ⟨r32, hg32, hf⟩ := ob1_some hf
    refine mcS0_i (As := [.int (abI p1)]) (rest := []) hx hb hml hown hts hK hP hD hS hA (k_J6_bitCount_0f7a4 l N D cI cJ cZ cB cT (abI p1) r32 hg32) (kwX9_70 hts rfl rfl ⟨Nat.le_of_ble_eq_true rfl, Nat.le_of_ble_eq_true rfl⟩) rfl hl.1 rfl (Nat.le_of_ble_eq_true rfl) dX9_ofOne_32 ⟨Nat.zero_le _, Nat.zero_le _⟩ (fun hB32 H locs hP hD hS => ?_)
    cases hf
    exact mret_i hx hb hr hlocks hP hD hS dX9_ofOne_35 rfl trivial
  replace hf := (if_neg e1_24).symm.trans hf
  by_cases e1_30 : p0 = (30 : Int32)
  · replace hf := (if_pos e1_30).symm.trans hf
    refine lv_lookup (off := 35) (tgt := 36) hx hb dX9_ofOne_1 (by decide) (by rw [e1_30]; decide) (by decide) ?_
    refine lv_iload_n hx hb dX9_ofOne_36 rfl (lv_at hl 1 rfl) ?_
    refine xif_ne hx hb 44 dX9_ofOne_37 (by decide) hf (fun hf => ?_) (fun hf => ?_)
    · refine lv_iconst (v := (1 : Int32)) hx hb dX9_ofOne_40 (by decide) ?_
      refine lv_goto (tgt := 45) hx hb dX9_ofOne_41 (by decide) ?_
      cases hf
      exact mret_i hx hb hr hlocks hP hD hS dX9_ofOne_45 rfl trivial
    · refine lv_iconst (v := (0 : Int32)) hx hb dX9_ofOne_44 (by decide) ?_
      cases hf
      exact mret_i hx hb hr hlocks hP hD hS dX9_ofOne_45 rfl trivial
  replace hf := (if_neg e1_30).symm.trans hf
  have ne1_24 : p0.toInt ≠ (24 : Int) := sw_ne e1_24
  have ne1_30 : p0.toInt ≠ (30 : Int) := sw_ne e1_30
  refine lv_lookup (off := 45) (tgt := 46) hx hb dX9_ofOne_1 (by decide) (by simp [Op.lookupswitch.offset, ne1_24, ne1_24.symm, ne1_30, ne1_30.symm]) (by decide) ?_
  refine lv_iload_n hx hb dX9_ofOne_46 rfl (lv_at hl 1 rfl) ?_
  refine lv_ineg hx hb dX9_ofOne_47 ?_
  cases hf
  exact mret_i hx hb hr hlocks hP hD hS dX9_ofOne_48 rfl trivial
theorem dX9_ofTwo_0 : decode cX9_ofTwo 0 = .ok (.iload_n 0, 1) := by decide +kernel
theorem dX9_ofTwo_1 : decode cX9_ofTwo 1 = .ok (.tableswitch 185 31 42 #[122, 126, 141, 163, 130, 152, 174, 185, 63, 77, 91, 110], 63) := by decide +kernel
theorem dX9_ofTwo_64 : decode cX9_ofTwo 64 = .ok (.ldc 75, 2) := by decide +kernel
theorem dX9_ofTwo_66 : decode cX9_ofTwo 66 = .ok (.ldc 76, 2) := by decide +kernel
theorem dX9_ofTwo_68 : decode cX9_ofTwo 68 = .ok (.iload_n 1, 1) := by decide +kernel
theorem dX9_ofTwo_69 : decode cX9_ofTwo 69 = .ok (.iload_n 2, 1) := by decide +kernel
theorem dX9_ofTwo_70 : decode cX9_ofTwo 70 = .ok (.iadd, 1) := by decide +kernel
theorem dX9_ofTwo_71 : decode cX9_ofTwo 71 = .ok (.invokestatic 77, 3) := by decide +kernel
theorem dX9_ofTwo_74 : decode cX9_ofTwo 74 = .ok (.invokestatic 48, 3) := by decide +kernel
theorem dX9_ofTwo_77 : decode cX9_ofTwo 77 = .ok (.ireturn, 1) := by decide +kernel
theorem dX9_ofTwo_78 : decode cX9_ofTwo 78 = .ok (.ldc 75, 2) := by decide +kernel
theorem dX9_ofTwo_80 : decode cX9_ofTwo 80 = .ok (.ldc 76, 2) := by decide +kernel
theorem dX9_ofTwo_82 : decode cX9_ofTwo 82 = .ok (.iload_n 1, 1) := by decide +kernel
theorem dX9_ofTwo_83 : decode cX9_ofTwo 83 = .ok (.iload_n 2, 1) := by decide +kernel
theorem dX9_ofTwo_84 : decode cX9_ofTwo 84 = .ok (.isub, 1) := by decide +kernel
theorem dX9_ofTwo_85 : decode cX9_ofTwo 85 = .ok (.invokestatic 77, 3) := by decide +kernel
theorem dX9_ofTwo_88 : decode cX9_ofTwo 88 = .ok (.invokestatic 48, 3) := by decide +kernel
theorem dX9_ofTwo_91 : decode cX9_ofTwo 91 = .ok (.ireturn, 1) := by decide +kernel
theorem dX9_ofTwo_92 : decode cX9_ofTwo 92 = .ok (.ldc2_w 80, 3) := by decide +kernel
theorem dX9_ofTwo_95 : decode cX9_ofTwo 95 = .ok (.ldc2_w 82, 3) := by decide +kernel
theorem dX9_ofTwo_98 : decode cX9_ofTwo 98 = .ok (.iload_n 1, 1) := by decide +kernel
theorem dX9_ofTwo_99 : decode cX9_ofTwo 99 = .ok (.i2l, 1) := by decide +kernel
theorem dX9_ofTwo_100 : decode cX9_ofTwo 100 = .ok (.iload_n 2, 1) := by decide +kernel
theorem dX9_ofTwo_101 : decode cX9_ofTwo 101 = .ok (.i2l, 1) := by decide +kernel
theorem dX9_ofTwo_102 : decode cX9_ofTwo 102 = .ok (.lmul, 1) := by decide +kernel
theorem dX9_ofTwo_103 : decode cX9_ofTwo 103 = .ok (.invokestatic 84, 3) := by decide +kernel
theorem dX9_ofTwo_106 : decode cX9_ofTwo 106 = .ok (.invokestatic 87, 3) := by decide +kernel
theorem dX9_ofTwo_109 : decode cX9_ofTwo 109 = .ok (.l2i, 1) := by decide +kernel
theorem dX9_ofTwo_110 : decode cX9_ofTwo 110 = .ok (.ireturn, 1) := by decide +kernel
theorem dX9_ofTwo_111 : decode cX9_ofTwo 111 = .ok (.iload_n 2, 1) := by decide +kernel
theorem dX9_ofTwo_112 : decode cX9_ofTwo 112 = .ok (.ifCond .ne 7, 3) := by decide +kernel
theorem dX9_ofTwo_115 : decode cX9_ofTwo 115 = .ok (.iconst 0, 1) := by decide +kernel
theorem dX9_ofTwo_116 : decode cX9_ofTwo 116 = .ok (.goto 6, 3) := by decide +kernel
theorem dX9_ofTwo_119 : decode cX9_ofTwo 119 = .ok (.iload_n 1, 1) := by decide +kernel
theorem dX9_ofTwo_120 : decode cX9_ofTwo 120 = .ok (.iload_n 2, 1) := by decide +kernel
theorem dX9_ofTwo_121 : decode cX9_ofTwo 121 = .ok (.idiv, 1) := by decide +kernel
theorem dX9_ofTwo_122 : decode cX9_ofTwo 122 = .ok (.ireturn, 1) := by decide +kernel
theorem dX9_ofTwo_123 : decode cX9_ofTwo 123 = .ok (.iload_n 1, 1) := by decide +kernel
theorem dX9_ofTwo_124 : decode cX9_ofTwo 124 = .ok (.iload_n 2, 1) := by decide +kernel
theorem dX9_ofTwo_125 : decode cX9_ofTwo 125 = .ok (.iand, 1) := by decide +kernel
theorem dX9_ofTwo_126 : decode cX9_ofTwo 126 = .ok (.ireturn, 1) := by decide +kernel
theorem dX9_ofTwo_127 : decode cX9_ofTwo 127 = .ok (.iload_n 1, 1) := by decide +kernel
theorem dX9_ofTwo_128 : decode cX9_ofTwo 128 = .ok (.iload_n 2, 1) := by decide +kernel
theorem dX9_ofTwo_129 : decode cX9_ofTwo 129 = .ok (.ior, 1) := by decide +kernel
theorem dX9_ofTwo_130 : decode cX9_ofTwo 130 = .ok (.ireturn, 1) := by decide +kernel
theorem dX9_ofTwo_131 : decode cX9_ofTwo 131 = .ok (.iload_n 1, 1) := by decide +kernel
theorem dX9_ofTwo_132 : decode cX9_ofTwo 132 = .ok (.iload_n 2, 1) := by decide +kernel
theorem dX9_ofTwo_133 : decode cX9_ofTwo 133 = .ok (.if_icmp .ge 7, 3) := by decide +kernel
theorem dX9_ofTwo_136 : decode cX9_ofTwo 136 = .ok (.iconst 1, 1) := by decide +kernel
theorem dX9_ofTwo_137 : decode cX9_ofTwo 137 = .ok (.goto 4, 3) := by decide +kernel
theorem dX9_ofTwo_140 : decode cX9_ofTwo 140 = .ok (.iconst 0, 1) := by decide +kernel
theorem dX9_ofTwo_141 : decode cX9_ofTwo 141 = .ok (.ireturn, 1) := by decide +kernel
theorem dX9_ofTwo_142 : decode cX9_ofTwo 142 = .ok (.iload_n 1, 1) := by decide +kernel
theorem dX9_ofTwo_143 : decode cX9_ofTwo 143 = .ok (.iload_n 2, 1) := by decide +kernel
theorem dX9_ofTwo_144 : decode cX9_ofTwo 144 = .ok (.if_icmp .gt 7, 3) := by decide +kernel
theorem dX9_ofTwo_147 : decode cX9_ofTwo 147 = .ok (.iconst 1, 1) := by decide +kernel
theorem dX9_ofTwo_148 : decode cX9_ofTwo 148 = .ok (.goto 4, 3) := by decide +kernel
theorem dX9_ofTwo_151 : decode cX9_ofTwo 151 = .ok (.iconst 0, 1) := by decide +kernel
theorem dX9_ofTwo_152 : decode cX9_ofTwo 152 = .ok (.ireturn, 1) := by decide +kernel
theorem dX9_ofTwo_153 : decode cX9_ofTwo 153 = .ok (.iload_n 1, 1) := by decide +kernel
theorem dX9_ofTwo_154 : decode cX9_ofTwo 154 = .ok (.iload_n 2, 1) := by decide +kernel
theorem dX9_ofTwo_155 : decode cX9_ofTwo 155 = .ok (.if_icmp .le 7, 3) := by decide +kernel
theorem dX9_ofTwo_158 : decode cX9_ofTwo 158 = .ok (.iconst 1, 1) := by decide +kernel
theorem dX9_ofTwo_159 : decode cX9_ofTwo 159 = .ok (.goto 4, 3) := by decide +kernel
theorem dX9_ofTwo_162 : decode cX9_ofTwo 162 = .ok (.iconst 0, 1) := by decide +kernel
theorem dX9_ofTwo_163 : decode cX9_ofTwo 163 = .ok (.ireturn, 1) := by decide +kernel
theorem dX9_ofTwo_164 : decode cX9_ofTwo 164 = .ok (.iload_n 1, 1) := by decide +kernel
theorem dX9_ofTwo_165 : decode cX9_ofTwo 165 = .ok (.iload_n 2, 1) := by decide +kernel
theorem dX9_ofTwo_166 : decode cX9_ofTwo 166 = .ok (.if_icmp .lt 7, 3) := by decide +kernel
theorem dX9_ofTwo_169 : decode cX9_ofTwo 169 = .ok (.iconst 1, 1) := by decide +kernel
theorem dX9_ofTwo_170 : decode cX9_ofTwo 170 = .ok (.goto 4, 3) := by decide +kernel
theorem dX9_ofTwo_173 : decode cX9_ofTwo 173 = .ok (.iconst 0, 1) := by decide +kernel
theorem dX9_ofTwo_174 : decode cX9_ofTwo 174 = .ok (.ireturn, 1) := by decide +kernel
theorem dX9_ofTwo_175 : decode cX9_ofTwo 175 = .ok (.iload_n 1, 1) := by decide +kernel
theorem dX9_ofTwo_176 : decode cX9_ofTwo 176 = .ok (.iload_n 2, 1) := by decide +kernel
theorem dX9_ofTwo_177 : decode cX9_ofTwo 177 = .ok (.if_icmp .ne 7, 3) := by decide +kernel
theorem dX9_ofTwo_180 : decode cX9_ofTwo 180 = .ok (.iconst 1, 1) := by decide +kernel
theorem dX9_ofTwo_181 : decode cX9_ofTwo 181 = .ok (.goto 4, 3) := by decide +kernel
theorem dX9_ofTwo_184 : decode cX9_ofTwo 184 = .ok (.iconst 0, 1) := by decide +kernel
theorem dX9_ofTwo_185 : decode cX9_ofTwo 185 = .ok (.ireturn, 1) := by decide +kernel
theorem dX9_ofTwo_186 : decode cX9_ofTwo 186 = .ok (.iload_n 1, 1) := by decide +kernel
theorem dX9_ofTwo_187 : decode cX9_ofTwo 187 = .ok (.iload_n 2, 1) := by decide +kernel
theorem dX9_ofTwo_188 : decode cX9_ofTwo 188 = .ok (.if_icmp .eq 7, 3) := by decide +kernel
theorem dX9_ofTwo_191 : decode cX9_ofTwo 191 = .ok (.iconst 1, 1) := by decide +kernel
theorem dX9_ofTwo_192 : decode cX9_ofTwo 192 = .ok (.goto 4, 3) := by decide +kernel
theorem dX9_ofTwo_195 : decode cX9_ofTwo 195 = .ok (.iconst 0, 1) := by decide +kernel
theorem dX9_ofTwo_196 : decode cX9_ofTwo 196 = .ok (.ireturn, 1) := by decide +kernel
def f_X9_ofTwo_186 (N : Nat) (x1 : Int32) (x2 : Int32) : Option (Int32) := if x1 = x2 then (some (0 : Int32)) else (some (1 : Int32))
def f_X9_ofTwo (N : Nat) (p0 : Int32) (p1 : Int32) (p2 : Int32) : Option (Int32) := if p0 = (31 : Int32) then (some (p1 &&& p2)) else if p0 = (32 : Int32) then (some (p1 ||| p2)) else if p0 = (33 : Int32) then (if p2 < p1 then (some (0 : Int32)) else (some (1 : Int32))) else if p0 = (34 : Int32) then (if p1 < p2 then (some (0 : Int32)) else (some (1 : Int32))) else if p0 = (35 : Int32) then (if p2 ≤ p1 then (some (0 : Int32)) else (some (1 : Int32))) else if p0 = (36 : Int32) then (if p1 ≤ p2 then (some (0 : Int32)) else (some (1 : Int32))) else if p0 = (37 : Int32) then (if p1 = p2 then (some (1 : Int32)) else (some (0 : Int32))) else if p0 = (39 : Int32) then (some (mxI (-1000000 : Int32) (mnI (1000000 : Int32) (p1 + p2)))) else if p0 = (40 : Int32) then (some (mxI (-1000000 : Int32) (mnI (1000000 : Int32) (p1 - p2)))) else if p0 = (41 : Int32) then (some ((mxL (-1000000 : Int64) (mnL (1000000 : Int64) (p1.toInt64 * p2.toInt64))).toInt32)) else if p0 = (42 : Int32) then (if p2 = 0 then (some (0 : Int32)) else (dvI p1 p2 fun v121 => some v121)) else (f_X9_ofTwo_186 N p1 p2)
set_option maxHeartbeats 4000000 in
set_option maxRecDepth 100000 in
theorem k_X9_ofTwo (l : Launch) (N : Nat) (D : va_G) (cI cJ cZ cB cT : ClassId) (p0 : Int32) (p1 : Int32) (p2 : Int32) (o_r : Int32) (hf : f_X9_ofTwo N p0 p1 p2 = some o_r) : ∀ sz, Met l yX9_ofTwo (mw yX9_ofTwo cX9_ofTwo 3 (some .int)) ({ frames := 1, cells := 0, slots := 0, locals := 40 } : Room) (mPre D (mT cI cJ cZ cB cT) [] sz [.int p0, .int p1, .int p2]) ((mQi D [] o_r True) (va_A [] sz)) 0 0 (va_A [] sz) := by
  refine mMet (Qc := (mQi D [] o_r True)) (by decide) (Nat.le_of_ble_eq_true rfl) (fun p e s m below meth c A ls hx hb hr hml hts hown hlocks hK hA hP hD hl => ?_)
  have hown : s.vm.findClass RX9 = some m.cls := hown
  have hl : lv_has ls 3 [(0, .int p0), (1, .int p1), (2, .int p2)] := hl
  have hS : va_S A s.heap s.heap [] := va_S.rf
  have b186 : ∀ (x1 : Int32) (x2 : Int32) (H : Heap) (locs : List Loc) (ls : Array Slot), f_X9_ofTwo_186 N x1 x2 = some o_r → va_P D vwCl [] H → va_D A [] → va_S A s.heap H locs → lv_has ls 3 [(1, .int x1), (2, .int x2)] → W p l e ({ frames := 1, cells := 0, slots := 0, locals := 40 } : Room) s m ([.int p0, .int p1, .int p2] : List Value).toArray below meth c H locs 0 0 (MQ below ((mQi D [] o_r True) A) ([.int p0, .int p1, .int p2] : List Value).toArray s 0 0 A) (F0 m 186 ls []) := by
    intro x1 x2 H locs ls hf hP hD hS hl
    unfold f_X9_ofTwo_186 at hf
    refine lv_iload_n hx hb dX9_ofTwo_186 rfl (lv_at hl 0 rfl) ?_
    refine lv_iload_n hx hb dX9_ofTwo_187 rfl (lv_at hl 1 rfl) ?_
    refine xicmp_eq hx hb 195 dX9_ofTwo_188 (by decide) hf (fun hf => ?_) (fun hf => ?_)
    · refine lv_iconst (v := (0 : Int32)) hx hb dX9_ofTwo_195 (by decide) ?_
      cases hf
      exact mret_i hx hb hr hlocks hP hD hS dX9_ofTwo_196 rfl trivial
    · refine lv_iconst (v := (1 : Int32)) hx hb dX9_ofTwo_191 (by decide) ?_
      refine lv_goto (tgt := 196) hx hb dX9_ofTwo_192 (by decide) ?_
      cases hf
      exact mret_i hx hb hr hlocks hP hD hS dX9_ofTwo_196 rfl trivial
  unfold f_X9_ofTwo at hf
  refine lv_iload_n hx hb dX9_ofTwo_0 rfl (lv_at hl 0 rfl) ?_
  by_cases e1_31 : p0 = (31 : Int32)
  · replace hf := (if_pos e1_31).symm.trans hf
    refine lv_tableIn (off := 122) (tgt := 123) hx hb dX9_ofTwo_1 (by rw [e1_31]; decide) (by rw [e1_31]; decide) (by rw [e1_31]; rfl) (by decide) ?_
    refine lv_iload_n hx hb dX9_ofTwo_123 rfl (lv_at hl 1 rfl) ?_
    refine lv_iload_n hx hb dX9_ofTwo_124 rfl (lv_at hl 2 rfl) ?_
    refine lv_iand hx hb dX9_ofTwo_125 ?_
    cases hf
    exact mret_i hx hb hr hlocks hP hD hS dX9_ofTwo_126 rfl trivial
  replace hf := (if_neg e1_31).symm.trans hf
  by_cases e1_32 : p0 = (32 : Int32)
  · replace hf := (if_pos e1_32).symm.trans hf
    refine lv_tableIn (off := 126) (tgt := 127) hx hb dX9_ofTwo_1 (by rw [e1_32]; decide) (by rw [e1_32]; decide) (by rw [e1_32]; rfl) (by decide) ?_
    refine lv_iload_n hx hb dX9_ofTwo_127 rfl (lv_at hl 1 rfl) ?_
    refine lv_iload_n hx hb dX9_ofTwo_128 rfl (lv_at hl 2 rfl) ?_
    refine lv_ior hx hb dX9_ofTwo_129 ?_
    cases hf
    exact mret_i hx hb hr hlocks hP hD hS dX9_ofTwo_130 rfl trivial
  replace hf := (if_neg e1_32).symm.trans hf
  by_cases e1_33 : p0 = (33 : Int32)
  · replace hf := (if_pos e1_33).symm.trans hf
    refine lv_tableIn (off := 141) (tgt := 142) hx hb dX9_ofTwo_1 (by rw [e1_33]; decide) (by rw [e1_33]; decide) (by rw [e1_33]; rfl) (by decide) ?_
    refine lv_iload_n hx hb dX9_ofTwo_142 rfl (lv_at hl 1 rfl) ?_
    refine lv_iload_n hx hb dX9_ofTwo_143 rfl (lv_at hl 2 rfl) ?_
    refine xicmp_gt hx hb 151 dX9_ofTwo_144 (by decide) hf (fun hf => ?_) (fun hf => ?_)
    · refine lv_iconst (v := (0 : Int32)) hx hb dX9_ofTwo_151 (by decide) ?_
      cases hf
      exact mret_i hx hb hr hlocks hP hD hS dX9_ofTwo_152 rfl trivial
    · refine lv_iconst (v := (1 : Int32)) hx hb dX9_ofTwo_147 (by decide) ?_
      refine lv_goto (tgt := 152) hx hb dX9_ofTwo_148 (by decide) ?_
      cases hf
      exact mret_i hx hb hr hlocks hP hD hS dX9_ofTwo_152 rfl trivial
  replace hf := (if_neg e1_33).symm.trans hf
  by_cases e1_34 : p0 = (34 : Int32)
  · replace hf := (if_pos e1_34).symm.trans hf
    refine lv_tableIn (off := 163) (tgt := 164) hx hb dX9_ofTwo_1 (by rw [e1_34]; decide) (by rw [e1_34]; decide) (by rw [e1_34]; rfl) (by decide) ?_
    refine lv_iload_n hx hb dX9_ofTwo_164 rfl (lv_at hl 1 rfl) ?_
    refine lv_iload_n hx hb dX9_ofTwo_165 rfl (lv_at hl 2 rfl) ?_
    refine xicmp_lt hx hb 173 dX9_ofTwo_166 (by decide) hf (fun hf => ?_) (fun hf => ?_)
    · refine lv_iconst (v := (0 : Int32)) hx hb dX9_ofTwo_173 (by decide) ?_
      cases hf
      exact mret_i hx hb hr hlocks hP hD hS dX9_ofTwo_174 rfl trivial
    · refine lv_iconst (v := (1 : Int32)) hx hb dX9_ofTwo_169 (by decide) ?_
      refine lv_goto (tgt := 174) hx hb dX9_ofTwo_170 (by decide) ?_
      cases hf
      exact mret_i hx hb hr hlocks hP hD hS dX9_ofTwo_174 rfl trivial
  replace hf := (if_neg e1_34).symm.trans hf
  by_cases e1_35 : p0 = (35 : Int32)
  · replace hf := (if_pos e1_35).symm.trans hf
    refine lv_tableIn (off := 130) (tgt := 131) hx hb dX9_ofTwo_1 (by rw [e1_35]; decide) (by rw [e1_35]; decide) (by rw [e1_35]; rfl) (by decide) ?_
    refine lv_iload_n hx hb dX9_ofTwo_131 rfl (lv_at hl 1 rfl) ?_
    refine lv_iload_n hx hb dX9_ofTwo_132 rfl (lv_at hl 2 rfl) ?_
    refine xicmp_ge hx hb 140 dX9_ofTwo_133 (by decide) hf (fun hf => ?_) (fun hf => ?_)
    · refine lv_iconst (v := (0 : Int32)) hx hb dX9_ofTwo_140 (by decide) ?_
      cases hf
      exact mret_i hx hb hr hlocks hP hD hS dX9_ofTwo_141 rfl trivial
    · refine lv_iconst (v := (1 : Int32)) hx hb dX9_ofTwo_136 (by decide) ?_
      refine lv_goto (tgt := 141) hx hb dX9_ofTwo_137 (by decide) ?_
      cases hf
      exact mret_i hx hb hr hlocks hP hD hS dX9_ofTwo_141 rfl trivial
  replace hf := (if_neg e1_35).symm.trans hf
  by_cases e1_36 : p0 = (36 : Int32)
  · replace hf := (if_pos e1_36).symm.trans hf
    refine lv_tableIn (off := 152) (tgt := 153) hx hb dX9_ofTwo_1 (by rw [e1_36]; decide) (by rw [e1_36]; decide) (by rw [e1_36]; rfl) (by decide) ?_
    refine lv_iload_n hx hb dX9_ofTwo_153 rfl (lv_at hl 1 rfl) ?_
    refine lv_iload_n hx hb dX9_ofTwo_154 rfl (lv_at hl 2 rfl) ?_
    refine xicmp_le hx hb 162 dX9_ofTwo_155 (by decide) hf (fun hf => ?_) (fun hf => ?_)
    · refine lv_iconst (v := (0 : Int32)) hx hb dX9_ofTwo_162 (by decide) ?_
      cases hf
      exact mret_i hx hb hr hlocks hP hD hS dX9_ofTwo_163 rfl trivial
    · refine lv_iconst (v := (1 : Int32)) hx hb dX9_ofTwo_158 (by decide) ?_
      refine lv_goto (tgt := 163) hx hb dX9_ofTwo_159 (by decide) ?_
      cases hf
      exact mret_i hx hb hr hlocks hP hD hS dX9_ofTwo_163 rfl trivial
  replace hf := (if_neg e1_36).symm.trans hf
  by_cases e1_37 : p0 = (37 : Int32)
  · replace hf := (if_pos e1_37).symm.trans hf
    refine lv_tableIn (off := 174) (tgt := 175) hx hb dX9_ofTwo_1 (by rw [e1_37]; decide) (by rw [e1_37]; decide) (by rw [e1_37]; rfl) (by decide) ?_
    refine lv_iload_n hx hb dX9_ofTwo_175 rfl (lv_at hl 1 rfl) ?_
    refine lv_iload_n hx hb dX9_ofTwo_176 rfl (lv_at hl 2 rfl) ?_
    refine xicmp_ne hx hb 184 dX9_ofTwo_177 (by decide) hf (fun hf => ?_) (fun hf => ?_)
    · refine lv_iconst (v := (1 : Int32)) hx hb dX9_ofTwo_180 (by decide) ?_
      refine lv_goto (tgt := 185) hx hb dX9_ofTwo_181 (by decide) ?_
      cases hf
      exact mret_i hx hb hr hlocks hP hD hS dX9_ofTwo_185 rfl trivial
    · refine lv_iconst (v := (0 : Int32)) hx hb dX9_ofTwo_184 (by decide) ?_
      cases hf
      exact mret_i hx hb hr hlocks hP hD hS dX9_ofTwo_185 rfl trivial
  replace hf := (if_neg e1_37).symm.trans hf
  by_cases e1_39 : p0 = (39 : Int32)
  · replace hf := (if_pos e1_39).symm.trans hf
    refine lv_tableIn (off := 63) (tgt := 64) hx hb dX9_ofTwo_1 (by rw [e1_39]; decide) (by rw [e1_39]; decide) (by rw [e1_39]; rfl) (by decide) ?_
    refine lv_ldc hx hb hown (hts _ ctX9_75) dX9_ofTwo_64 ?_
    refine lv_ldc hx hb hown (hts _ ctX9_76) dX9_ofTwo_66 ?_
    refine lv_iload_n hx hb dX9_ofTwo_68 rfl (lv_at hl 1 rfl) ?_
    refine lv_iload_n hx hb dX9_ofTwo_69 rfl (lv_at hl 2 rfl) ?_
    refine lv_iadd hx hb dX9_ofTwo_70 ?_
    refine xmin hx hb hml hl.1 hown hts mtX9_77 (Nat.le_of_ble_eq_true rfl) (Nat.le_of_ble_eq_true rfl) ⟨Nat.zero_le _, Nat.zero_le _⟩ dX9_ofTwo_71 ?_
    refine xmax hx hb hml hl.1 hown hts mtX9_48 (Nat.le_of_ble_eq_true rfl) (Nat.le_of_ble_eq_true rfl) ⟨Nat.zero_le _, Nat.zero_le _⟩ dX9_ofTwo_74 ?_
    cases hf
    exact mret_i hx hb hr hlocks hP hD hS dX9_ofTwo_77 rfl trivial
  replace hf := (if_neg e1_39).symm.trans hf
  by_cases e1_40 : p0 = (40 : Int32)
  · replace hf := (if_pos e1_40).symm.trans hf
    refine lv_tableIn (off := 77) (tgt := 78) hx hb dX9_ofTwo_1 (by rw [e1_40]; decide) (by rw [e1_40]; decide) (by rw [e1_40]; rfl) (by decide) ?_
    refine lv_ldc hx hb hown (hts _ ctX9_75) dX9_ofTwo_78 ?_
    refine lv_ldc hx hb hown (hts _ ctX9_76) dX9_ofTwo_80 ?_
    refine lv_iload_n hx hb dX9_ofTwo_82 rfl (lv_at hl 1 rfl) ?_
    refine lv_iload_n hx hb dX9_ofTwo_83 rfl (lv_at hl 2 rfl) ?_
    refine lv_isub hx hb dX9_ofTwo_84 ?_
    refine xmin hx hb hml hl.1 hown hts mtX9_77 (Nat.le_of_ble_eq_true rfl) (Nat.le_of_ble_eq_true rfl) ⟨Nat.zero_le _, Nat.zero_le _⟩ dX9_ofTwo_85 ?_
    refine xmax hx hb hml hl.1 hown hts mtX9_48 (Nat.le_of_ble_eq_true rfl) (Nat.le_of_ble_eq_true rfl) ⟨Nat.zero_le _, Nat.zero_le _⟩ dX9_ofTwo_88 ?_
    cases hf
    exact mret_i hx hb hr hlocks hP hD hS dX9_ofTwo_91 rfl trivial
  replace hf := (if_neg e1_40).symm.trans hf
  by_cases e1_41 : p0 = (41 : Int32)
  · replace hf := (if_pos e1_41).symm.trans hf
    refine lv_tableIn (off := 91) (tgt := 92) hx hb dX9_ofTwo_1 (by rw [e1_41]; decide) (by rw [e1_41]; decide) (by rw [e1_41]; rfl) (by decide) ?_
    refine lv_ldc2 hx hb hown (hts _ ctX9_80) dX9_ofTwo_92 ?_
    refine lv_ldc2 hx hb hown (hts _ ctX9_82) dX9_ofTwo_95 ?_
    refine lv_iload_n hx hb dX9_ofTwo_98 rfl (lv_at hl 1 rfl) ?_
    refine lv_i2l hx hb dX9_ofTwo_99 rfl ?_
    refine lv_iload_n hx hb dX9_ofTwo_100 rfl (lv_at hl 2 rfl) ?_
    refine lv_i2l hx hb dX9_ofTwo_101 rfl ?_
    refine lv_lmul hx hb dX9_ofTwo_102 ?_
    refine xminL hx hb hml hl.1 hown hts mtX9_84 (Nat.le_of_ble_eq_true rfl) (Nat.le_of_ble_eq_true rfl) ⟨Nat.zero_le _, Nat.zero_le _⟩ dX9_ofTwo_103 ?_
    refine xmaxL hx hb hml hl.1 hown hts mtX9_87 (Nat.le_of_ble_eq_true rfl) (Nat.le_of_ble_eq_true rfl) ⟨Nat.zero_le _, Nat.zero_le _⟩ dX9_ofTwo_106 ?_
    refine lv_l2i hx hb dX9_ofTwo_109 rfl ?_
    cases hf
    exact mret_i hx hb hr hlocks hP hD hS dX9_ofTwo_110 rfl trivial
  replace hf := (if_neg e1_41).symm.trans hf
  by_cases e1_42 : p0 = (42 : Int32)
  · replace hf := (if_pos e1_42).symm.trans hf
    refine lv_tableIn (off := 110) (tgt := 111) hx hb dX9_ofTwo_1 (by rw [e1_42]; decide) (by rw [e1_42]; decide) (by rw [e1_42]; rfl) (by decide) ?_
    refine lv_iload_n hx hb dX9_ofTwo_111 rfl (lv_at hl 2 rfl) ?_
    refine xif_ne hx hb 119 dX9_ofTwo_112 (by decide) hf (fun hf => ?_) (fun hf => ?_)
    · refine lv_iconst (v := (0 : Int32)) hx hb dX9_ofTwo_115 (by decide) ?_
      refine lv_goto (tgt := 122) hx hb dX9_ofTwo_116 (by decide) ?_
      cases hf
      exact mret_i hx hb hr hlocks hP hD hS dX9_ofTwo_122 rfl trivial
    · refine lv_iload_n hx hb dX9_ofTwo_119 rfl (lv_at hl 1 rfl) ?_
      refine lv_iload_n hx hb dX9_ofTwo_120 rfl (lv_at hl 2 rfl) ?_
      refine xidiv hx hb dX9_ofTwo_121 hf (fun v121 hf => ?_)
      cases hf
      exact mret_i hx hb hr hlocks hP hD hS dX9_ofTwo_122 rfl trivial
  replace hf := (if_neg e1_42).symm.trans hf
  by_cases e1_38 : p0 = (38 : Int32)
  · refine lv_tableIn (off := 185) (tgt := 186) hx hb dX9_ofTwo_1 (by rw [e1_38]; decide) (by rw [e1_38]; decide) (by rw [e1_38]; rfl) (by decide) ?_
    exact b186 p1 p2 _ _ _ hf hP hD hS (lv_sub hl [1, 2] rfl)
  have ne1_31 : p0.toInt ≠ (31 : Int) := sw_ne e1_31
  have ne1_32 : p0.toInt ≠ (32 : Int) := sw_ne e1_32
  have ne1_33 : p0.toInt ≠ (33 : Int) := sw_ne e1_33
  have ne1_34 : p0.toInt ≠ (34 : Int) := sw_ne e1_34
  have ne1_35 : p0.toInt ≠ (35 : Int) := sw_ne e1_35
  have ne1_36 : p0.toInt ≠ (36 : Int) := sw_ne e1_36
  have ne1_37 : p0.toInt ≠ (37 : Int) := sw_ne e1_37
  have ne1_38 : p0.toInt ≠ (38 : Int) := sw_ne e1_38
  have ne1_39 : p0.toInt ≠ (39 : Int) := sw_ne e1_39
  have ne1_40 : p0.toInt ≠ (40 : Int) := sw_ne e1_40
  have ne1_41 : p0.toInt ≠ (41 : Int) := sw_ne e1_41
  have ne1_42 : p0.toInt ≠ (42 : Int) := sw_ne e1_42
  refine lv_tableOut (tgt := 186) hx hb dX9_ofTwo_1 (by omega) (by decide) ?_
  exact b186 p1 p2 _ _ _ hf hP hD hS (lv_sub hl [1, 2] rfl)
theorem dX9_value_0 : decode cX9_value 0 = .ok (.aload_n 0, 1) := by decide +kernel
theorem dX9_value_1 : decode cX9_value 1 = .ok (.iload_n 1, 1) := by decide +kernel
theorem dX9_value_2 : decode cX9_value 2 = .ok (.invokevirtual 44, 3) := by decide +kernel
theorem dX9_value_5 : decode cX9_value 5 = .ok (.ifCond .ne 5, 3) := by decide +kernel
theorem dX9_value_8 : decode cX9_value 8 = .ok (.iconst 0, 1) := by decide +kernel
theorem dX9_value_9 : decode cX9_value 9 = .ok (.ireturn, 1) := by decide +kernel
theorem dX9_value_10 : decode cX9_value 10 = .ok (.iconst 0, 1) := by decide +kernel
theorem dX9_value_11 : decode cX9_value 11 = .ok (.istore 5, 2) := by decide +kernel
theorem dX9_value_13 : decode cX9_value 13 = .ok (.aload_n 0, 1) := by decide +kernel
theorem dX9_value_14 : decode cX9_value 14 = .ok (.getfield 27, 3) := by decide +kernel
theorem dX9_value_17 : decode cX9_value 17 = .ok (.iload_n 1, 1) := by decide +kernel
theorem dX9_value_18 : decode cX9_value 18 = .ok (.iaload, 1) := by decide +kernel
theorem dX9_value_19 : decode cX9_value 19 = .ok (.istore 6, 2) := by decide +kernel
theorem dX9_value_21 : decode cX9_value 21 = .ok (.iconst 0, 1) := by decide +kernel
theorem dX9_value_22 : decode cX9_value 22 = .ok (.istore 7, 2) := by decide +kernel
theorem dX9_value_24 : decode cX9_value 24 = .ok (.iload 7, 2) := by decide +kernel
theorem dX9_value_26 : decode cX9_value 26 = .ok (.sipush 301, 3) := by decide +kernel
theorem dX9_value_29 : decode cX9_value 29 = .ok (.if_icmp .ge 297, 3) := by decide +kernel
theorem dX9_value_32 : decode cX9_value 32 = .ok (.iload 6, 2) := by decide +kernel
theorem dX9_value_34 : decode cX9_value 34 = .ok (.ifCond .lt 292, 3) := by decide +kernel
theorem dX9_value_37 : decode cX9_value 37 = .ok (.iload 6, 2) := by decide +kernel
theorem dX9_value_39 : decode cX9_value 39 = .ok (.aload_n 0, 1) := by decide +kernel
theorem dX9_value_40 : decode cX9_value 40 = .ok (.getfield 30, 3) := by decide +kernel
theorem dX9_value_43 : decode cX9_value 43 = .ok (.iload_n 1, 1) := by decide +kernel
theorem dX9_value_44 : decode cX9_value 44 = .ok (.iaload, 1) := by decide +kernel
theorem dX9_value_45 : decode cX9_value 45 = .ok (.if_icmp .ge 281, 3) := by decide +kernel
theorem dX9_value_48 : decode cX9_value 48 = .ok (.iload 6, 2) := by decide +kernel
theorem dX9_value_50 : decode cX9_value 50 = .ok (.sipush 301, 3) := by decide +kernel
theorem dX9_value_53 : decode cX9_value 53 = .ok (.if_icmp .ge 273, 3) := by decide +kernel
theorem dX9_value_56 : decode cX9_value 56 = .ok (.aload_n 0, 1) := by decide +kernel
theorem dX9_value_57 : decode cX9_value 57 = .ok (.getfield 23, 3) := by decide +kernel
theorem dX9_value_60 : decode cX9_value 60 = .ok (.iload 6, 2) := by decide +kernel
theorem dX9_value_62 : decode cX9_value 62 = .ok (.iaload, 1) := by decide +kernel
theorem dX9_value_63 : decode cX9_value 63 = .ok (.bipush 63, 2) := by decide +kernel
theorem dX9_value_65 : decode cX9_value 65 = .ok (.iand, 1) := by decide +kernel
theorem dX9_value_66 : decode cX9_value 66 = .ok (.istore 8, 2) := by decide +kernel
theorem dX9_value_68 : decode cX9_value 68 = .ok (.aload_n 0, 1) := by decide +kernel
theorem dX9_value_69 : decode cX9_value 69 = .ok (.getfield 23, 3) := by decide +kernel
theorem dX9_value_72 : decode cX9_value 72 = .ok (.iload 6, 2) := by decide +kernel
theorem dX9_value_74 : decode cX9_value 74 = .ok (.iaload, 1) := by decide +kernel
theorem dX9_value_75 : decode cX9_value 75 = .ok (.bipush 6, 2) := by decide +kernel
theorem dX9_value_77 : decode cX9_value 77 = .ok (.ishr, 1) := by decide +kernel
theorem dX9_value_78 : decode cX9_value 78 = .ok (.istore 9, 2) := by decide +kernel
theorem dX9_value_80 : decode cX9_value 80 = .ok (.iinc 6 1, 3) := by decide +kernel
theorem dX9_value_83 : decode cX9_value 83 = .ok (.iload 8, 2) := by decide +kernel
theorem dX9_value_85 : decode cX9_value 85 = .ok (.bipush 28, 2) := by decide +kernel
theorem dX9_value_87 : decode cX9_value 87 = .ok (.if_icmp .ne 10, 3) := by decide +kernel
theorem dX9_value_90 : decode cX9_value 90 = .ok (.iload 9, 2) := by decide +kernel
theorem dX9_value_92 : decode cX9_value 92 = .ok (.istore 6, 2) := by decide +kernel
theorem dX9_value_94 : decode cX9_value 94 = .ok (.goto 226, 3) := by decide +kernel
theorem dX9_value_97 : decode cX9_value 97 = .ok (.iload 8, 2) := by decide +kernel
theorem dX9_value_99 : decode cX9_value 99 = .ok (.bipush 27, 2) := by decide +kernel
theorem dX9_value_101 : decode cX9_value 101 = .ok (.if_icmp .ne 33, 3) := by decide +kernel
theorem dX9_value_104 : decode cX9_value 104 = .ok (.iload 5, 2) := by decide +kernel
theorem dX9_value_106 : decode cX9_value 106 = .ok (.iconst 1, 1) := by decide +kernel
theorem dX9_value_107 : decode cX9_value 107 = .ok (.isub, 1) := by decide +kernel
theorem dX9_value_108 : decode cX9_value 108 = .ok (.iconst 0, 1) := by decide +kernel
theorem dX9_value_109 : decode cX9_value 109 = .ok (.invokestatic 48, 3) := by decide +kernel
theorem dX9_value_112 : decode cX9_value 112 = .ok (.istore 5, 2) := by decide +kernel
theorem dX9_value_114 : decode cX9_value 114 = .ok (.aload 4, 2) := by decide +kernel
theorem dX9_value_116 : decode cX9_value 116 = .ok (.iload 5, 2) := by decide +kernel
theorem dX9_value_118 : decode cX9_value 118 = .ok (.iaload, 1) := by decide +kernel
theorem dX9_value_119 : decode cX9_value 119 = .ok (.ifCond .ne 8, 3) := by decide +kernel
theorem dX9_value_122 : decode cX9_value 122 = .ok (.iload 9, 2) := by decide +kernel
theorem dX9_value_124 : decode cX9_value 124 = .ok (.goto 5, 3) := by decide +kernel
theorem dX9_value_127 : decode cX9_value 127 = .ok (.iload 6, 2) := by decide +kernel
theorem dX9_value_129 : decode cX9_value 129 = .ok (.istore 6, 2) := by decide +kernel
theorem dX9_value_131 : decode cX9_value 131 = .ok (.goto 189, 3) := by decide +kernel
theorem dX9_value_134 : decode cX9_value 134 = .ok (.iload 8, 2) := by decide +kernel
theorem dX9_value_136 : decode cX9_value 136 = .ok (.bipush 46, 2) := by decide +kernel
theorem dX9_value_138 : decode cX9_value 138 = .ok (.if_icmp .eq 17, 3) := by decide +kernel
theorem dX9_value_141 : decode cX9_value 141 = .ok (.iload 8, 2) := by decide +kernel
theorem dX9_value_143 : decode cX9_value 143 = .ok (.bipush 11, 2) := by decide +kernel
theorem dX9_value_145 : decode cX9_value 145 = .ok (.if_icmp .lt 59, 3) := by decide +kernel
theorem dX9_value_148 : decode cX9_value 148 = .ok (.iload 8, 2) := by decide +kernel
theorem dX9_value_150 : decode cX9_value 150 = .ok (.bipush 20, 2) := by decide +kernel
theorem dX9_value_152 : decode cX9_value 152 = .ok (.if_icmp .gt 52, 3) := by decide +kernel
theorem dX9_value_155 : decode cX9_value 155 = .ok (.iload 8, 2) := by decide +kernel
theorem dX9_value_157 : decode cX9_value 157 = .ok (.bipush 11, 2) := by decide +kernel
theorem dX9_value_159 : decode cX9_value 159 = .ok (.isub, 1) := by decide +kernel
theorem dX9_value_160 : decode cX9_value 160 = .ok (.istore 10, 2) := by decide +kernel
theorem dX9_value_162 : decode cX9_value 162 = .ok (.iload 5, 2) := by decide +kernel
theorem dX9_value_164 : decode cX9_value 164 = .ok (.aload 4, 2) := by decide +kernel
theorem dX9_value_166 : decode cX9_value 166 = .ok (.arraylength, 1) := by decide +kernel
theorem dX9_value_167 : decode cX9_value 167 = .ok (.if_icmp .ge 34, 3) := by decide +kernel
theorem dX9_value_170 : decode cX9_value 170 = .ok (.aload 4, 2) := by decide +kernel
theorem dX9_value_172 : decode cX9_value 172 = .ok (.iload 5, 2) := by decide +kernel
theorem dX9_value_174 : decode cX9_value 174 = .ok (.iload 8, 2) := by decide +kernel
theorem dX9_value_176 : decode cX9_value 176 = .ok (.bipush 46, 2) := by decide +kernel
theorem dX9_value_178 : decode cX9_value 178 = .ok (.if_icmp .eq 17, 3) := by decide +kernel
theorem dX9_value_181 : decode cX9_value 181 = .ok (.iload 10, 2) := by decide +kernel
theorem dX9_value_183 : decode cX9_value 183 = .ok (.aload_n 2, 1) := by decide +kernel
theorem dX9_value_184 : decode cX9_value 184 = .ok (.arraylength, 1) := by decide +kernel
theorem dX9_value_185 : decode cX9_value 185 = .ok (.if_icmp .ge 10, 3) := by decide +kernel
theorem dX9_value_188 : decode cX9_value 188 = .ok (.aload_n 2, 1) := by decide +kernel
theorem dX9_value_189 : decode cX9_value 189 = .ok (.iload 10, 2) := by decide +kernel
theorem dX9_value_191 : decode cX9_value 191 = .ok (.iaload, 1) := by decide +kernel
theorem dX9_value_192 : decode cX9_value 192 = .ok (.goto 5, 3) := by decide +kernel
theorem dX9_value_195 : decode cX9_value 195 = .ok (.iload 9, 2) := by decide +kernel
theorem dX9_value_197 : decode cX9_value 197 = .ok (.iastore, 1) := by decide +kernel
theorem dX9_value_198 : decode cX9_value 198 = .ok (.iinc 5 1, 3) := by decide +kernel
theorem dX9_value_201 : decode cX9_value 201 = .ok (.goto 119, 3) := by decide +kernel
theorem dX9_value_204 : decode cX9_value 204 = .ok (.iload 8, 2) := by decide +kernel
theorem dX9_value_206 : decode cX9_value 206 = .ok (.bipush 25, 2) := by decide +kernel
theorem dX9_value_208 : decode cX9_value 208 = .ok (.if_icmp .ne 30, 3) := by decide +kernel
theorem dX9_value_211 : decode cX9_value 211 = .ok (.iload 5, 2) := by decide +kernel
theorem dX9_value_213 : decode cX9_value 213 = .ok (.iconst 1, 1) := by decide +kernel
theorem dX9_value_214 : decode cX9_value 214 = .ok (.isub, 1) := by decide +kernel
theorem dX9_value_215 : decode cX9_value 215 = .ok (.iconst 0, 1) := by decide +kernel
theorem dX9_value_216 : decode cX9_value 216 = .ok (.invokestatic 48, 3) := by decide +kernel
theorem dX9_value_219 : decode cX9_value 219 = .ok (.istore 10, 2) := by decide +kernel
theorem dX9_value_221 : decode cX9_value 221 = .ok (.aload 4, 2) := by decide +kernel
theorem dX9_value_223 : decode cX9_value 223 = .ok (.iload 10, 2) := by decide +kernel
theorem dX9_value_225 : decode cX9_value 225 = .ok (.aload_n 3, 1) := by decide +kernel
theorem dX9_value_226 : decode cX9_value 226 = .ok (.aload 4, 2) := by decide +kernel
theorem dX9_value_228 : decode cX9_value 228 = .ok (.iload 10, 2) := by decide +kernel
theorem dX9_value_230 : decode cX9_value 230 = .ok (.iaload, 1) := by decide +kernel
theorem dX9_value_231 : decode cX9_value 231 = .ok (.invokevirtual 54, 3) := by decide +kernel
theorem dX9_value_234 : decode cX9_value 234 = .ok (.iastore, 1) := by decide +kernel
theorem dX9_value_235 : decode cX9_value 235 = .ok (.goto 85, 3) := by decide +kernel
theorem dX9_value_238 : decode cX9_value 238 = .ok (.iload 8, 2) := by decide +kernel
theorem dX9_value_240 : decode cX9_value 240 = .ok (.bipush 49, 2) := by decide +kernel
theorem dX9_value_242 : decode cX9_value 242 = .ok (.if_icmp .eq 17, 3) := by decide +kernel
theorem dX9_value_245 : decode cX9_value 245 = .ok (.iload 8, 2) := by decide +kernel
theorem dX9_value_247 : decode cX9_value 247 = .ok (.bipush 24, 2) := by decide +kernel
theorem dX9_value_249 : decode cX9_value 249 = .ok (.if_icmp .eq 10, 3) := by decide +kernel
theorem dX9_value_252 : decode cX9_value 252 = .ok (.iload 8, 2) := by decide +kernel
theorem dX9_value_254 : decode cX9_value 254 = .ok (.bipush 30, 2) := by decide +kernel
theorem dX9_value_256 : decode cX9_value 256 = .ok (.if_icmp .ne 31, 3) := by decide +kernel
theorem dX9_value_259 : decode cX9_value 259 = .ok (.iload 5, 2) := by decide +kernel
theorem dX9_value_261 : decode cX9_value 261 = .ok (.iconst 1, 1) := by decide +kernel
theorem dX9_value_262 : decode cX9_value 262 = .ok (.isub, 1) := by decide +kernel
theorem dX9_value_263 : decode cX9_value 263 = .ok (.iconst 0, 1) := by decide +kernel
theorem dX9_value_264 : decode cX9_value 264 = .ok (.invokestatic 48, 3) := by decide +kernel
theorem dX9_value_267 : decode cX9_value 267 = .ok (.istore 10, 2) := by decide +kernel
theorem dX9_value_269 : decode cX9_value 269 = .ok (.aload 4, 2) := by decide +kernel
theorem dX9_value_271 : decode cX9_value 271 = .ok (.iload 10, 2) := by decide +kernel
theorem dX9_value_273 : decode cX9_value 273 = .ok (.iload 8, 2) := by decide +kernel
theorem dX9_value_275 : decode cX9_value 275 = .ok (.aload 4, 2) := by decide +kernel
theorem dX9_value_277 : decode cX9_value 277 = .ok (.iload 10, 2) := by decide +kernel
theorem dX9_value_279 : decode cX9_value 279 = .ok (.iaload, 1) := by decide +kernel
theorem dX9_value_280 : decode cX9_value 280 = .ok (.invokestatic 60, 3) := by decide +kernel
theorem dX9_value_283 : decode cX9_value 283 = .ok (.iastore, 1) := by decide +kernel
theorem dX9_value_284 : decode cX9_value 284 = .ok (.goto 36, 3) := by decide +kernel
theorem dX9_value_287 : decode cX9_value 287 = .ok (.iload 5, 2) := by decide +kernel
theorem dX9_value_289 : decode cX9_value 289 = .ok (.iconst 2, 1) := by decide +kernel
theorem dX9_value_290 : decode cX9_value 290 = .ok (.if_icmp .lt 30, 3) := by decide +kernel
theorem dX9_value_293 : decode cX9_value 293 = .ok (.iinc 5 (-1), 3) := by decide +kernel
theorem dX9_value_296 : decode cX9_value 296 = .ok (.aload 4, 2) := by decide +kernel
theorem dX9_value_298 : decode cX9_value 298 = .ok (.iload 5, 2) := by decide +kernel
theorem dX9_value_300 : decode cX9_value 300 = .ok (.iconst 1, 1) := by decide +kernel
theorem dX9_value_301 : decode cX9_value 301 = .ok (.isub, 1) := by decide +kernel
theorem dX9_value_302 : decode cX9_value 302 = .ok (.iload 8, 2) := by decide +kernel
theorem dX9_value_304 : decode cX9_value 304 = .ok (.aload 4, 2) := by decide +kernel
theorem dX9_value_306 : decode cX9_value 306 = .ok (.iload 5, 2) := by decide +kernel
theorem dX9_value_308 : decode cX9_value 308 = .ok (.iconst 1, 1) := by decide +kernel
theorem dX9_value_309 : decode cX9_value 309 = .ok (.isub, 1) := by decide +kernel
theorem dX9_value_310 : decode cX9_value 310 = .ok (.iaload, 1) := by decide +kernel
theorem dX9_value_311 : decode cX9_value 311 = .ok (.aload 4, 2) := by decide +kernel
theorem dX9_value_313 : decode cX9_value 313 = .ok (.iload 5, 2) := by decide +kernel
theorem dX9_value_315 : decode cX9_value 315 = .ok (.iaload, 1) := by decide +kernel
theorem dX9_value_316 : decode cX9_value 316 = .ok (.invokestatic 63, 3) := by decide +kernel
theorem dX9_value_319 : decode cX9_value 319 = .ok (.iastore, 1) := by decide +kernel
theorem dX9_value_320 : decode cX9_value 320 = .ok (.iinc 7 1, 3) := by decide +kernel
theorem dX9_value_323 : decode cX9_value 323 = .ok (.goto (-299), 3) := by decide +kernel
theorem dX9_value_326 : decode cX9_value 326 = .ok (.aload 4, 2) := by decide +kernel
theorem dX9_value_328 : decode cX9_value 328 = .ok (.iconst 0, 1) := by decide +kernel
theorem dX9_value_329 : decode cX9_value 329 = .ok (.iaload, 1) := by decide +kernel
theorem dX9_value_330 : decode cX9_value 330 = .ok (.ireturn, 1) := by decide +kernel
def f_X9_value_326 (N : Nat) (x_code : Nat → Int32) (x_st : Nat → Int32) (x_en : Nat → Int32) (w_names : Nat → Int32) (f_row : Nat → Int32) (f_fears : Nat → Int32) (w_stack : Nat → Int32) : Option (Int32 × (Nat → Int32)) := gA w_stack 64 (0 : Int32) fun v329 => some (v329, w_stack)
def f_X9_value_320 (N : Nat) (k_24 : (Nat → Int32) → (Nat → Int32) → (Nat → Int32) → (Nat → Int32) → (Nat → Int32) → (Nat → Int32) → (Nat → Int32) → Int32 → Int32 → Int32 → Int32 → Option (Int32 × (Nat → Int32))) (x_code : Nat → Int32) (x_st : Nat → Int32) (x_en : Nat → Int32) (w_names : Nat → Int32) (f_row : Nat → Int32) (f_fears : Nat → Int32) (w_stack : Nat → Int32) (x1 : Int32) (x5 : Int32) (x6 : Int32) (x7 : Int32) : Option (Int32 × (Nat → Int32)) := k_24 x_code x_st x_en w_names f_row f_fears w_stack x1 x5 x6 (x7 + (1 : Int32))
def f_X9_value_201 (N : Nat) (k_24 : (Nat → Int32) → (Nat → Int32) → (Nat → Int32) → (Nat → Int32) → (Nat → Int32) → (Nat → Int32) → (Nat → Int32) → Int32 → Int32 → Int32 → Int32 → Option (Int32 × (Nat → Int32))) (x_code : Nat → Int32) (x_st : Nat → Int32) (x_en : Nat → Int32) (w_names : Nat → Int32) (f_row : Nat → Int32) (f_fears : Nat → Int32) (w_stack : Nat → Int32) (x1 : Int32) (x5 : Int32) (x6 : Int32) (x7 : Int32) : Option (Int32 × (Nat → Int32)) := f_X9_value_320 N k_24 x_code x_st x_en w_names f_row f_fears w_stack x1 x5 x6 x7
def f_X9_value_197 (N : Nat) (k_24 : (Nat → Int32) → (Nat → Int32) → (Nat → Int32) → (Nat → Int32) → (Nat → Int32) → (Nat → Int32) → (Nat → Int32) → Int32 → Int32 → Int32 → Int32 → Option (Int32 × (Nat → Int32))) (x_code : Nat → Int32) (x_st : Nat → Int32) (x_en : Nat → Int32) (w_names : Nat → Int32) (f_row : Nat → Int32) (f_fears : Nat → Int32) (w_stack : Nat → Int32) (x1 : Int32) (x5 : Int32) (x6 : Int32) (x7 : Int32) (s1 : Int32) (s2 : Int32) : Option (Int32 × (Nat → Int32)) := sA w_stack 64 s1 s2 fun w_stack_197 => f_X9_value_201 N k_24 x_code x_st x_en w_names f_row f_fears w_stack_197 x1 (x5 + (1 : Int32)) x6 x7
def f_X9_value_195 (N : Nat) (k_24 : (Nat → Int32) → (Nat → Int32) → (Nat → Int32) → (Nat → Int32) → (Nat → Int32) → (Nat → Int32) → (Nat → Int32) → Int32 → Int32 → Int32 → Int32 → Option (Int32 × (Nat → Int32))) (x_code : Nat → Int32) (x_st : Nat → Int32) (x_en : Nat → Int32) (w_names : Nat → Int32) (f_row : Nat → Int32) (f_fears : Nat → Int32) (w_stack : Nat → Int32) (x1 : Int32) (x5 : Int32) (x6 : Int32) (x7 : Int32) (x9 : Int32) (s1 : Int32) : Option (Int32 × (Nat → Int32)) := f_X9_value_197 N k_24 x_code x_st x_en w_names f_row f_fears w_stack x1 x5 x6 x7 s1 x9
def f_X9_value_155 (N : Nat) (k_24 : (Nat → Int32) → (Nat → Int32) → (Nat → Int32) → (Nat → Int32) → (Nat → Int32) → (Nat → Int32) → (Nat → Int32) → Int32 → Int32 → Int32 → Int32 → Option (Int32 × (Nat → Int32))) (x_code : Nat → Int32) (x_st : Nat → Int32) (x_en : Nat → Int32) (w_names : Nat → Int32) (f_row : Nat → Int32) (f_fears : Nat → Int32) (w_stack : Nat → Int32) (x1 : Int32) (x5 : Int32) (x6 : Int32) (x7 : Int32) (x8 : Int32) (x9 : Int32) : Option (Int32 × (Nat → Int32)) := if (64 : Int32) ≤ x5 then (f_X9_value_201 N k_24 x_code x_st x_en w_names f_row f_fears w_stack x1 x5 x6 x7) else (if x8 = (46 : Int32) then (f_X9_value_195 N k_24 x_code x_st x_en w_names f_row f_fears w_stack x1 x5 x6 x7 x9 x5) else (if (10 : Int32) ≤ (x8 - (11 : Int32)) then (f_X9_value_195 N k_24 x_code x_st x_en w_names f_row f_fears w_stack x1 x5 x6 x7 x9 x5) else (gA w_names 10 (x8 - (11 : Int32)) fun v191 => f_X9_value_197 N k_24 x_code x_st x_en w_names f_row f_fears w_stack x1 x5 x6 x7 x5 v191)))
def f_X9_value_259 (N : Nat) (k_24 : (Nat → Int32) → (Nat → Int32) → (Nat → Int32) → (Nat → Int32) → (Nat → Int32) → (Nat → Int32) → (Nat → Int32) → Int32 → Int32 → Int32 → Int32 → Option (Int32 × (Nat → Int32))) (x_code : Nat → Int32) (x_st : Nat → Int32) (x_en : Nat → Int32) (w_names : Nat → Int32) (f_row : Nat → Int32) (f_fears : Nat → Int32) (w_stack : Nat → Int32) (x1 : Int32) (x5 : Int32) (x6 : Int32) (x7 : Int32) (x8 : Int32) : Option (Int32 × (Nat → Int32)) := gA w_stack 64 (mxI (x5 - (1 : Int32)) (0 : Int32)) fun v279 => ob1 (f_X9_ofOne N x8 v279) fun r280 => sA w_stack 64 (mxI (x5 - (1 : Int32)) (0 : Int32)) r280 fun w_stack_283 => f_X9_value_320 N k_24 x_code x_st x_en w_names f_row f_fears w_stack_283 x1 x5 x6 x7
def f_X9_value_204 (N : Nat) (k_24 : (Nat → Int32) → (Nat → Int32) → (Nat → Int32) → (Nat → Int32) → (Nat → Int32) → (Nat → Int32) → (Nat → Int32) → Int32 → Int32 → Int32 → Int32 → Option (Int32 × (Nat → Int32))) (x_code : Nat → Int32) (x_st : Nat → Int32) (x_en : Nat → Int32) (w_names : Nat → Int32) (f_row : Nat → Int32) (f_fears : Nat → Int32) (w_stack : Nat → Int32) (x1 : Int32) (x5 : Int32) (x6 : Int32) (x7 : Int32) (x8 : Int32) : Option (Int32 × (Nat → Int32)) := if x8 = (25 : Int32) then (gA w_stack 64 (mxI (x5 - (1 : Int32)) (0 : Int32)) fun v230 => ob1 (f_X1_fearOf N f_row f_fears v230) fun r231 => sA w_stack 64 (mxI (x5 - (1 : Int32)) (0 : Int32)) r231 fun w_stack_234 => f_X9_value_320 N k_24 x_code x_st x_en w_names f_row f_fears w_stack_234 x1 x5 x6 x7) else (if x8 = (49 : Int32) then (f_X9_value_259 N k_24 x_code x_st x_en w_names f_row f_fears w_stack x1 x5 x6 x7 x8) else (if x8 = (24 : Int32) then (f_X9_value_259 N k_24 x_code x_st x_en w_names f_row f_fears w_stack x1 x5 x6 x7 x8) else (if x8 = (30 : Int32) then (f_X9_value_259 N k_24 x_code x_st x_en w_names f_row f_fears w_stack x1 x5 x6 x7 x8) else (if x5 < (2 : Int32) then (f_X9_value_320 N k_24 x_code x_st x_en w_names f_row f_fears w_stack x1 x5 x6 x7) else (gA w_stack 64 ((x5 + (-1 : Int32)) - (1 : Int32)) fun v310 => gA w_stack 64 (x5 + (-1 : Int32)) fun v315 => ob1 (f_X9_ofTwo N x8 v310 v315) fun r316 => sA w_stack 64 ((x5 + (-1 : Int32)) - (1 : Int32)) r316 fun w_stack_319 => f_X9_value_320 N k_24 x_code x_st x_en w_names f_row f_fears w_stack_319 x1 (x5 + (-1 : Int32)) x6 x7)))))
def f_X9_value_129 (N : Nat) (k_24 : (Nat → Int32) → (Nat → Int32) → (Nat → Int32) → (Nat → Int32) → (Nat → Int32) → (Nat → Int32) → (Nat → Int32) → Int32 → Int32 → Int32 → Int32 → Option (Int32 × (Nat → Int32))) (x_code : Nat → Int32) (x_st : Nat → Int32) (x_en : Nat → Int32) (w_names : Nat → Int32) (f_row : Nat → Int32) (f_fears : Nat → Int32) (w_stack : Nat → Int32) (x1 : Int32) (x5 : Int32) (x7 : Int32) (s0 : Int32) : Option (Int32 × (Nat → Int32)) := f_X9_value_320 N k_24 x_code x_st x_en w_names f_row f_fears w_stack x1 x5 s0 x7
def f_X9_value_24 (N : Nat) : Nat → (Nat → Int32) → (Nat → Int32) → (Nat → Int32) → (Nat → Int32) → (Nat → Int32) → (Nat → Int32) → (Nat → Int32) → Int32 → Int32 → Int32 → Int32 → Option (Int32 × (Nat → Int32))
  | 0, _, _, _, _, _, _, _, _, _, _, _ => none
  | n + 1, x_code, x_st, x_en, w_names, f_row, f_fears, w_stack, x1, x5, x6, x7 => if (301 : Int32) ≤ x7 then (f_X9_value_326 N x_code x_st x_en w_names f_row f_fears w_stack) else (if x6 < 0 then (f_X9_value_326 N x_code x_st x_en w_names f_row f_fears w_stack) else (gA x_en 4 x1 fun v44 => if v44 ≤ x6 then (f_X9_value_326 N x_code x_st x_en w_names f_row f_fears w_stack) else (if (301 : Int32) ≤ x6 then (f_X9_value_326 N x_code x_st x_en w_names f_row f_fears w_stack) else (gA x_code 301 x6 fun v62 => gA x_code 301 x6 fun v74 => if (v62 &&& (63 : Int32)) = (28 : Int32) then (f_X9_value_320 N (f_X9_value_24 N n) x_code x_st x_en w_names f_row f_fears w_stack x1 x5 (v74 >>> ((6 : Int32) &&& 31)) x7) else (if (v62 &&& (63 : Int32)) = (27 : Int32) then (gA w_stack 64 (mxI (x5 - (1 : Int32)) (0 : Int32)) fun v118 => if v118 = 0 then (f_X9_value_129 N (f_X9_value_24 N n) x_code x_st x_en w_names f_row f_fears w_stack x1 (mxI (x5 - (1 : Int32)) (0 : Int32)) x7 (v74 >>> ((6 : Int32) &&& 31))) else (f_X9_value_129 N (f_X9_value_24 N n) x_code x_st x_en w_names f_row f_fears w_stack x1 (mxI (x5 - (1 : Int32)) (0 : Int32)) x7 (x6 + (1 : Int32)))) else (if (v62 &&& (63 : Int32)) = (46 : Int32) then (f_X9_value_155 N (f_X9_value_24 N n) x_code x_st x_en w_names f_row f_fears w_stack x1 x5 (x6 + (1 : Int32)) x7 (v62 &&& (63 : Int32)) (v74 >>> ((6 : Int32) &&& 31))) else (if (v62 &&& (63 : Int32)) < (11 : Int32) then (f_X9_value_204 N (f_X9_value_24 N n) x_code x_st x_en w_names f_row f_fears w_stack x1 x5 (x6 + (1 : Int32)) x7 (v62 &&& (63 : Int32))) else (if (20 : Int32) < (v62 &&& (63 : Int32)) then (f_X9_value_204 N (f_X9_value_24 N n) x_code x_st x_en w_names f_row f_fears w_stack x1 x5 (x6 + (1 : Int32)) x7 (v62 &&& (63 : Int32))) else (f_X9_value_155 N (f_X9_value_24 N n) x_code x_st x_en w_names f_row f_fears w_stack x1 x5 (x6 + (1 : Int32)) x7 (v62 &&& (63 : Int32)) (v74 >>> ((6 : Int32) &&& 31)))))))))))
def f_X9_value (N : Nat) (x_code : Nat → Int32) (x_st : Nat → Int32) (x_en : Nat → Int32) (w_names : Nat → Int32) (f_row : Nat → Int32) (f_fears : Nat → Int32) (w_stack : Nat → Int32) (p1 : Int32) : Option (Int32 × (Nat → Int32)) := ob1 (f_X9_begun N x_st p1) fun r2 => if r2 = 0 then (some ((0 : Int32), w_stack)) else (gA x_st 4 p1 fun v18 => f_X9_value_24 N N x_code x_st x_en w_names f_row f_fears w_stack p1 (0 : Int32) v18 (0 : Int32))
set_option maxHeartbeats 4000000 in
set_option maxRecDepth 100000 in
theorem k_X9_value (l : Launch) (N : Nat) (D : va_G) (cI cJ cZ cB cT : ClassId) (qx0 : Nat) (qx1 : Nat) (qx2 : Nat) (qx3 : Nat) (qw1 : Nat) (qf0 : Nat) (qf1 : Nat) (qf2 : Nat) (qw2 : Nat) (qx4 : Nat) (qf3 : Nat) (x_cl : Int32) (x_ln : Int32) (x_pt : Int32) (x_code : Nat → Int32) (x_st : Nat → Int32) (x_en : Nat → Int32) (w_names : Nat → Int32) (f_row : Nat → Int32) (f_fears : Nat → Int32) (w_stack : Nat → Int32) (p1 : Int32) (o_r : Int32) (o_w_stack : Nat → Int32) (hf : f_X9_value N x_code x_st x_en w_names f_row f_fears w_stack p1 = some (o_r, o_w_stack)) : ∀ sz, Met l yX9_value (mw yX9_value cX9_value 11 (some .int)) ({ frames := 2, cells := 0, slots := 0, locals := 62 } : Room) (mPre D (mT cI cJ cZ cB cT) (W_TXV_0t3_5t8_10 qx0 qx1 qx2 qx3 qw1 qf0 qf1 qf2 qw2 qx4 qf3 cI cJ cZ cB cT x_cl x_ln x_pt x_code x_st x_en w_names f_row f_fears w_stack) sz [.ref qx0, .int p1, .ref qw1, .ref qf0, .ref qw2]) ((mQi D (W_TXV_0t3_5t8_10 qx0 qx1 qx2 qx3 qw1 qf0 qf1 qf2 qw2 qx4 qf3 cI cJ cZ cB cT x_cl x_ln x_pt x_code x_st x_en w_names f_row f_fears o_w_stack) o_r True) (va_A (W_TXV_0t3_5t8_10 qx0 qx1 qx2 qx3 qw1 qf0 qf1 qf2 qw2 qx4 qf3 cI cJ cZ cB cT x_cl x_ln x_pt x_code x_st x_en w_names f_row f_fears w_stack) sz)) 0 0 (va_A (W_TXV_0t3_5t8_10 qx0 qx1 qx2 qx3 qw1 qf0 qf1 qf2 qw2 qx4 qf3 cI cJ cZ cB cT x_cl x_ln x_pt x_code x_st x_en w_names f_row f_fears w_stack) sz) := by
  refine mMet (Qc := (mQi D (W_TXV_0t3_5t8_10 qx0 qx1 qx2 qx3 qw1 qf0 qf1 qf2 qw2 qx4 qf3 cI cJ cZ cB cT x_cl x_ln x_pt x_code x_st x_en w_names f_row f_fears o_w_stack) o_r True)) (by decide) (Nat.le_of_ble_eq_true rfl) (fun p e s m below meth c A ls hx hb hr hml hts hown hlocks hK hA hP hD hl => ?_)
  have hown : s.vm.findClass RX9 = some m.cls := hown
  have hl : lv_has ls 11 [(0, .ref qx0), (1, .int p1), (2, .ref qw1), (3, .ref qf0), (4, .ref qw2)] := hl
  have hS : va_S A s.heap s.heap [] := va_S.rf
  have b326 : ∀ (w_stack : Nat → Int32) (H : Heap) (locs : List Loc) (ls : Array Slot), f_X9_value_326 N x_code x_st x_en w_names f_row f_fears w_stack = some (o_r, o_w_stack) → va_P D vwCl (W_TXV_0t3_5t8_10 qx0 qx1 qx2 qx3 qw1 qf0 qf1 qf2 qw2 qx4 qf3 cI cJ cZ cB cT x_cl x_ln x_pt x_code x_st x_en w_names f_row f_fears w_stack) H → va_D A (W_TXV_0t3_5t8_10 qx0 qx1 qx2 qx3 qw1 qf0 qf1 qf2 qw2 qx4 qf3 cI cJ cZ cB cT x_cl x_ln x_pt x_code x_st x_en w_names f_row f_fears w_stack) → va_S A s.heap H locs → lv_has ls 11 [(4, .ref qw2)] → W p l e ({ frames := 2, cells := 0, slots := 0, locals := 62 } : Room) s m ([.ref qx0, .int p1, .ref qw1, .ref qf0, .ref qw2] : List Value).toArray below meth c H locs 0 0 (MQ below ((mQi D (W_TXV_0t3_5t8_10 qx0 qx1 qx2 qx3 qw1 qf0 qf1 qf2 qw2 qx4 qf3 cI cJ cZ cB cT x_cl x_ln x_pt x_code x_st x_en w_names f_row f_fears o_w_stack) o_r True) A) ([.ref qx0, .int p1, .ref qw1, .ref qf0, .ref qw2] : List Value).toArray s 0 0 A) (F0 m 326 ls []) := by
    intro w_stack H locs ls hf hP hD hS hl
    unfold f_X9_value_326 at hf
    refine lv_aload hx hb dX9_value_326 (lv_at hl 0 rfl) ?_
    refine lv_iconst (v := (0 : Int32)) hx hb dX9_value_328 (by decide) ?_
    refine xiald hx hb hK hP 8 0 rfl rfl dX9_value_329 hf (fun v329 hf => ?_)
    cases hf
    exact mret_i hx hb hr hlocks hP hD hS dX9_value_330 rfl trivial
  have b24 : ∀ n24 : Nat, ∀ (w_stack : Nat → Int32) (x1 : Int32) (x5 : Int32) (x6 : Int32) (x7 : Int32) (H : Heap) (locs : List Loc) (ls : Array Slot), f_X9_value_24 N n24 x_code x_st x_en w_names f_row f_fears w_stack x1 x5 x6 x7 = some (o_r, o_w_stack) → va_P D vwCl (W_TXV_0t3_5t8_10 qx0 qx1 qx2 qx3 qw1 qf0 qf1 qf2 qw2 qx4 qf3 cI cJ cZ cB cT x_cl x_ln x_pt x_code x_st x_en w_names f_row f_fears w_stack) H → va_D A (W_TXV_0t3_5t8_10 qx0 qx1 qx2 qx3 qw1 qf0 qf1 qf2 qw2 qx4 qf3 cI cJ cZ cB cT x_cl x_ln x_pt x_code x_st x_en w_names f_row f_fears w_stack) → va_S A s.heap H locs → lv_has ls 11 [(0, .ref qx0), (1, .int x1), (2, .ref qw1), (3, .ref qf0), (4, .ref qw2), (5, .int x5), (6, .int x6), (7, .int x7)] → W p l e ({ frames := 2, cells := 0, slots := 0, locals := 62 } : Room) s m ([.ref qx0, .int p1, .ref qw1, .ref qf0, .ref qw2] : List Value).toArray below meth c H locs 0 0 (MQ below ((mQi D (W_TXV_0t3_5t8_10 qx0 qx1 qx2 qx3 qw1 qf0 qf1 qf2 qw2 qx4 qf3 cI cJ cZ cB cT x_cl x_ln x_pt x_code x_st x_en w_names f_row f_fears o_w_stack) o_r True) A) ([.ref qx0, .int p1, .ref qw1, .ref qf0, .ref qw2] : List Value).toArray s 0 0 A) (F0 m 24 ls []) := by
    intro n24
    induction n24 with
    | zero =>
      intro w_stack x1 x5 x6 x7 H locs ls hf hP hD hS hl
      simp [f_X9_value_24] at hf
    | succ n24 ih24 =>
      have b320 : ∀ (w_stack : Nat → Int32) (x1 : Int32) (x5 : Int32) (x6 : Int32) (x7 : Int32) (H : Heap) (locs : List Loc) (ls : Array Slot), f_X9_value_320 N (f_X9_value_24 N n24) x_code x_st x_en w_names f_row f_fears w_stack x1 x5 x6 x7 = some (o_r, o_w_stack) → va_P D vwCl (W_TXV_0t3_5t8_10 qx0 qx1 qx2 qx3 qw1 qf0 qf1 qf2 qw2 qx4 qf3 cI cJ cZ cB cT x_cl x_ln x_pt x_code x_st x_en w_names f_row f_fears w_stack) H → va_D A (W_TXV_0t3_5t8_10 qx0 qx1 qx2 qx3 qw1 qf0 qf1 qf2 qw2 qx4 qf3 cI cJ cZ cB cT x_cl x_ln x_pt x_code x_st x_en w_names f_row f_fears w_stack) → va_S A s.heap H locs → lv_has ls 11 [(0, .ref qx0), (1, .int x1), (2, .ref qw1), (3, .ref qf0), (4, .ref qw2), (5, .int x5), (6, .int x6), (7, .int x7)] → W p l e ({ frames := 2, cells := 0, slots := 0, locals := 62 } : Room) s m ([.ref qx0, .int p1, .ref qw1, .ref qf0, .ref qw2] : List Value).toArray below meth c H locs 0 0 (MQ below ((mQi D (W_TXV_0t3_5t8_10 qx0 qx1 qx2 qx3 qw1 qf0 qf1 qf2 qw2 qx4 qf3 cI cJ cZ cB cT x_cl x_ln x_pt x_code x_st x_en w_names f_row f_fears o_w_stack) o_r True) A) ([.ref qx0, .int p1, .ref qw1, .ref qf0, .ref qw2] : List Value).toArray s 0 0 A) (F0 m 320 ls []) := by
        intro w_stack x1 x5 x6 x7 H locs ls hf hP hD hS hl
        unfold f_X9_value_320 at hf
        refine lv_iinc (v := (x7 + (1 : Int32))) (lv' := [(7, .int (x7 + (1 : Int32))), (0, .ref qx0), (1, .int x1), (2, .ref qw1), (3, .ref qf0), (4, .ref qw2), (5, .int x5), (6, .int x6)]) hx hb dX9_value_320 hl (k := 7) rfl rfl (by decide) rfl (fun ls hl => ?_)
        refine lv_goto (tgt := 24) hx hb dX9_value_323 (by decide) ?_
        exact ih24 w_stack x1 x5 x6 (x7 + (1 : Int32)) _ _ _ hf hP hD hS (lv_sub hl [1, 2, 3, 4, 5, 6, 7, 0] rfl)
      have b201 : ∀ (w_stack : Nat → Int32) (x1 : Int32) (x5 : Int32) (x6 : Int32) (x7 : Int32) (H : Heap) (locs : List Loc) (ls : Array Slot), f_X9_value_201 N (f_X9_value_24 N n24) x_code x_st x_en w_names f_row f_fears w_stack x1 x5 x6 x7 = some (o_r, o_w_stack) → va_P D vwCl (W_TXV_0t3_5t8_10 qx0 qx1 qx2 qx3 qw1 qf0 qf1 qf2 qw2 qx4 qf3 cI cJ cZ cB cT x_cl x_ln x_pt x_code x_st x_en w_names f_row f_fears w_stack) H → va_D A (W_TXV_0t3_5t8_10 qx0 qx1 qx2 qx3 qw1 qf0 qf1 qf2 qw2 qx4 qf3 cI cJ cZ cB cT x_cl x_ln x_pt x_code x_st x_en w_names f_row f_fears w_stack) → va_S A s.heap H locs → lv_has ls 11 [(0, .ref qx0), (1, .int x1), (2, .ref qw1), (3, .ref qf0), (4, .ref qw2), (5, .int x5), (6, .int x6), (7, .int x7)] → W p l e ({ frames := 2, cells := 0, slots := 0, locals := 62 } : Room) s m ([.ref qx0, .int p1, .ref qw1, .ref qf0, .ref qw2] : List Value).toArray below meth c H locs 0 0 (MQ below ((mQi D (W_TXV_0t3_5t8_10 qx0 qx1 qx2 qx3 qw1 qf0 qf1 qf2 qw2 qx4 qf3 cI cJ cZ cB cT x_cl x_ln x_pt x_code x_st x_en w_names f_row f_fears o_w_stack) o_r True) A) ([.ref qx0, .int p1, .ref qw1, .ref qf0, .ref qw2] : List Value).toArray s 0 0 A) (F0 m 201 ls []) := by
        intro w_stack x1 x5 x6 x7 H locs ls hf hP hD hS hl
        unfold f_X9_value_201 at hf
        refine lv_goto (tgt := 320) hx hb dX9_value_201 (by decide) ?_
        exact b320 w_stack x1 x5 x6 x7 _ _ _ hf hP hD hS (lv_sub hl [0, 1, 2, 3, 4, 5, 6, 7] rfl)
      have b197 : ∀ (w_stack : Nat → Int32) (x1 : Int32) (x5 : Int32) (x6 : Int32) (x7 : Int32) (s1 : Int32) (s2 : Int32) (H : Heap) (locs : List Loc) (ls : Array Slot), f_X9_value_197 N (f_X9_value_24 N n24) x_code x_st x_en w_names f_row f_fears w_stack x1 x5 x6 x7 s1 s2 = some (o_r, o_w_stack) → va_P D vwCl (W_TXV_0t3_5t8_10 qx0 qx1 qx2 qx3 qw1 qf0 qf1 qf2 qw2 qx4 qf3 cI cJ cZ cB cT x_cl x_ln x_pt x_code x_st x_en w_names f_row f_fears w_stack) H → va_D A (W_TXV_0t3_5t8_10 qx0 qx1 qx2 qx3 qw1 qf0 qf1 qf2 qw2 qx4 qf3 cI cJ cZ cB cT x_cl x_ln x_pt x_code x_st x_en w_names f_row f_fears w_stack) → va_S A s.heap H locs → lv_has ls 11 [(0, .ref qx0), (1, .int x1), (2, .ref qw1), (3, .ref qf0), (4, .ref qw2), (5, .int x5), (6, .int x6), (7, .int x7)] → W p l e ({ frames := 2, cells := 0, slots := 0, locals := 62 } : Room) s m ([.ref qx0, .int p1, .ref qw1, .ref qf0, .ref qw2] : List Value).toArray below meth c H locs 0 0 (MQ below ((mQi D (W_TXV_0t3_5t8_10 qx0 qx1 qx2 qx3 qw1 qf0 qf1 qf2 qw2 qx4 qf3 cI cJ cZ cB cT x_cl x_ln x_pt x_code x_st x_en w_names f_row f_fears o_w_stack) o_r True) A) ([.ref qx0, .int p1, .ref qw1, .ref qf0, .ref qw2] : List Value).toArray s 0 0 A) (F0 m 197 ls [.int s2, .int s1, .ref qw2]) := by
        intro w_stack x1 x5 x6 x7 s1 s2 H locs ls hf hP hD hS hl
        unfold f_X9_value_197 at hf
        refine xiast hx hb hK hP hD hS 8 0 rfl rfl dX9_value_197 hf (fun w_stack_197 hf H locs hP hD hS => ?_)
        have hP : va_P D vwCl (W_TXV_0t3_5t8_10 qx0 qx1 qx2 qx3 qw1 qf0 qf1 qf2 qw2 qx4 qf3 cI cJ cZ cB cT x_cl x_ln x_pt x_code x_st x_en w_names f_row f_fears w_stack_197) H := hP
        have hD : va_D A (W_TXV_0t3_5t8_10 qx0 qx1 qx2 qx3 qw1 qf0 qf1 qf2 qw2 qx4 qf3 cI cJ cZ cB cT x_cl x_ln x_pt x_code x_st x_en w_names f_row f_fears w_stack_197) := hD
        refine lv_iinc (v := (x5 + (1 : Int32))) (lv' := [(5, .int (x5 + (1 : Int32))), (0, .ref qx0), (1, .int x1), (2, .ref qw1), (3, .ref qf0), (4, .ref qw2), (6, .int x6), (7, .int x7)]) hx hb dX9_value_198 hl (k := 5) rfl rfl (by decide) rfl (fun ls hl => ?_)
        exact b201 w_stack_197 x1 (x5 + (1 : Int32)) x6 x7 _ _ _ hf hP hD hS (lv_sub hl [1, 2, 3, 4, 5, 0, 6, 7] rfl)
      have b195 : ∀ (w_stack : Nat → Int32) (x1 : Int32) (x5 : Int32) (x6 : Int32) (x7 : Int32) (x9 : Int32) (s1 : Int32) (H : Heap) (locs : List Loc) (ls : Array Slot), f_X9_value_195 N (f_X9_value_24 N n24) x_code x_st x_en w_names f_row f_fears w_stack x1 x5 x6 x7 x9 s1 = some (o_r, o_w_stack) → va_P D vwCl (W_TXV_0t3_5t8_10 qx0 qx1 qx2 qx3 qw1 qf0 qf1 qf2 qw2 qx4 qf3 cI cJ cZ cB cT x_cl x_ln x_pt x_code x_st x_en w_names f_row f_fears w_stack) H → va_D A (W_TXV_0t3_5t8_10 qx0 qx1 qx2 qx3 qw1 qf0 qf1 qf2 qw2 qx4 qf3 cI cJ cZ cB cT x_cl x_ln x_pt x_code x_st x_en w_names f_row f_fears w_stack) → va_S A s.heap H locs → lv_has ls 11 [(0, .ref qx0), (1, .int x1), (2, .ref qw1), (3, .ref qf0), (4, .ref qw2), (5, .int x5), (6, .int x6), (7, .int x7), (9, .int x9)] → W p l e ({ frames := 2, cells := 0, slots := 0, locals := 62 } : Room) s m ([.ref qx0, .int p1, .ref qw1, .ref qf0, .ref qw2] : List Value).toArray below meth c H locs 0 0 (MQ below ((mQi D (W_TXV_0t3_5t8_10 qx0 qx1 qx2 qx3 qw1 qf0 qf1 qf2 qw2 qx4 qf3 cI cJ cZ cB cT x_cl x_ln x_pt x_code x_st x_en w_names f_row f_fears o_w_stack) o_r True) A) ([.ref qx0, .int p1, .ref qw1, .ref qf0, .ref qw2] : List Value).toArray s 0 0 A) (F0 m 195 ls [.int s1, .ref qw2]) := by
        intro w_stack x1 x5 x6 x7 x9 s1 H locs ls hf hP hD hS hl
        unfold f_X9_value_195 at hf
        refine lv_iload hx hb dX9_value_195 (lv_at hl 8 rfl) ?_
        exact b197 w_stack x1 x5 x6 x7 s1 x9 _ _ _ hf hP hD hS (lv_sub hl [0, 1, 2, 3, 4, 5, 6, 7] rfl)
      have b155 : ∀ (w_stack : Nat → Int32) (x1 : Int32) (x5 : Int32) (x6 : Int32) (x7 : Int32) (x8 : Int32) (x9 : Int32) (H : Heap) (locs : List Loc) (ls : Array Slot), f_X9_value_155 N (f_X9_value_24 N n24) x_code x_st x_en w_names f_row f_fears w_stack x1 x5 x6 x7 x8 x9 = some (o_r, o_w_stack) → va_P D vwCl (W_TXV_0t3_5t8_10 qx0 qx1 qx2 qx3 qw1 qf0 qf1 qf2 qw2 qx4 qf3 cI cJ cZ cB cT x_cl x_ln x_pt x_code x_st x_en w_names f_row f_fears w_stack) H → va_D A (W_TXV_0t3_5t8_10 qx0 qx1 qx2 qx3 qw1 qf0 qf1 qf2 qw2 qx4 qf3 cI cJ cZ cB cT x_cl x_ln x_pt x_code x_st x_en w_names f_row f_fears w_stack) → va_S A s.heap H locs → lv_has ls 11 [(0, .ref qx0), (1, .int x1), (2, .ref qw1), (3, .ref qf0), (4, .ref qw2), (5, .int x5), (6, .int x6), (7, .int x7), (8, .int x8), (9, .int x9)] → W p l e ({ frames := 2, cells := 0, slots := 0, locals := 62 } : Room) s m ([.ref qx0, .int p1, .ref qw1, .ref qf0, .ref qw2] : List Value).toArray below meth c H locs 0 0 (MQ below ((mQi D (W_TXV_0t3_5t8_10 qx0 qx1 qx2 qx3 qw1 qf0 qf1 qf2 qw2 qx4 qf3 cI cJ cZ cB cT x_cl x_ln x_pt x_code x_st x_en w_names f_row f_fears o_w_stack) o_r True) A) ([.ref qx0, .int p1, .ref qw1, .ref qf0, .ref qw2] : List Value).toArray s 0 0 A) (F0 m 155 ls []) := by
        intro w_stack x1 x5 x6 x7 x8 x9 H locs ls hf hP hD hS hl
        unfold f_X9_value_155 at hf
        refine lv_iload hx hb dX9_value_155 (lv_at hl 8 rfl) ?_
        refine lv_bipush (v := (11 : Int32)) hx hb dX9_value_157 (by decide) ?_
        refine lv_isub hx hb dX9_value_159 ?_
        refine lv_istore (lv' := [(10, .int (x8 - (11 : Int32))), (0, .ref qx0), (1, .int x1), (2, .ref qw1), (3, .ref qf0), (4, .ref qw2), (5, .int x5), (6, .int x6), (7, .int x7), (8, .int x8), (9, .int x9)]) hx hb dX9_value_160 hl (by decide) rfl (fun ls hl => ?_)
        refine lv_iload hx hb dX9_value_162 (lv_at hl 6 rfl) ?_
        refine lv_aload hx hb dX9_value_164 (lv_at hl 5 rfl) ?_
        refine va_alen (v := (64 : Int32)) hx hb hK hP 8 0 rfl rfl rfl dX9_value_166 ?_
        refine xicmp_ge hx hb 201 dX9_value_167 (by decide) hf (fun hf => ?_) (fun hf => ?_)
        · exact b201 w_stack x1 x5 x6 x7 _ _ _ hf hP hD hS (lv_sub hl [1, 2, 3, 4, 5, 6, 7, 8] rfl)
        · refine lv_aload hx hb dX9_value_170 (lv_at hl 5 rfl) ?_
          refine lv_iload hx hb dX9_value_172 (lv_at hl 6 rfl) ?_
          refine lv_iload hx hb dX9_value_174 (lv_at hl 9 rfl) ?_
          refine lv_bipush (v := (46 : Int32)) hx hb dX9_value_176 (by decide) ?_
          refine xicmp_eq hx hb 195 dX9_value_178 (by decide) hf (fun hf => ?_) (fun hf => ?_)
          · exact b195 w_stack x1 x5 x6 x7 x9 x5 _ _ _ hf hP hD hS (lv_sub hl [1, 2, 3, 4, 5, 6, 7, 8, 10] rfl)
          · refine lv_iload hx hb dX9_value_181 (lv_at hl 0 rfl) ?_
            refine lv_aload_n hx hb dX9_value_183 rfl (lv_at hl 3 rfl) ?_
            refine va_alen (v := (10 : Int32)) hx hb hK hP 4 0 rfl rfl rfl dX9_value_184 ?_
            refine xicmp_ge hx hb 195 dX9_value_185 (by decide) hf (fun hf => ?_) (fun hf => ?_)
            · exact b195 w_stack x1 x5 x6 x7 x9 x5 _ _ _ hf hP hD hS (lv_sub hl [1, 2, 3, 4, 5, 6, 7, 8, 10] rfl)
            · refine lv_aload_n hx hb dX9_value_188 rfl (lv_at hl 3 rfl) ?_
              refine lv_iload hx hb dX9_value_189 (lv_at hl 0 rfl) ?_
              refine xiald hx hb hK hP 4 0 rfl rfl dX9_value_191 hf (fun v191 hf => ?_)
              refine lv_goto (tgt := 197) hx hb dX9_value_192 (by decide) ?_
              exact b197 w_stack x1 x5 x6 x7 x5 v191 _ _ _ hf hP hD hS (lv_sub hl [1, 2, 3, 4, 5, 6, 7, 8] rfl)
      have b259 : ∀ (w_stack : Nat → Int32) (x1 : Int32) (x5 : Int32) (x6 : Int32) (x7 : Int32) (x8 : Int32) (H : Heap) (locs : List Loc) (ls : Array Slot), f_X9_value_259 N (f_X9_value_24 N n24) x_code x_st x_en w_names f_row f_fears w_stack x1 x5 x6 x7 x8 = some (o_r, o_w_stack) → va_P D vwCl (W_TXV_0t3_5t8_10 qx0 qx1 qx2 qx3 qw1 qf0 qf1 qf2 qw2 qx4 qf3 cI cJ cZ cB cT x_cl x_ln x_pt x_code x_st x_en w_names f_row f_fears w_stack) H → va_D A (W_TXV_0t3_5t8_10 qx0 qx1 qx2 qx3 qw1 qf0 qf1 qf2 qw2 qx4 qf3 cI cJ cZ cB cT x_cl x_ln x_pt x_code x_st x_en w_names f_row f_fears w_stack) → va_S A s.heap H locs → lv_has ls 11 [(0, .ref qx0), (1, .int x1), (2, .ref qw1), (3, .ref qf0), (4, .ref qw2), (5, .int x5), (6, .int x6), (7, .int x7), (8, .int x8)] → W p l e ({ frames := 2, cells := 0, slots := 0, locals := 62 } : Room) s m ([.ref qx0, .int p1, .ref qw1, .ref qf0, .ref qw2] : List Value).toArray below meth c H locs 0 0 (MQ below ((mQi D (W_TXV_0t3_5t8_10 qx0 qx1 qx2 qx3 qw1 qf0 qf1 qf2 qw2 qx4 qf3 cI cJ cZ cB cT x_cl x_ln x_pt x_code x_st x_en w_names f_row f_fears o_w_stack) o_r True) A) ([.ref qx0, .int p1, .ref qw1, .ref qf0, .ref qw2] : List Value).toArray s 0 0 A) (F0 m 259 ls []) := by
        intro w_stack x1 x5 x6 x7 x8 H locs ls hf hP hD hS hl
        unfold f_X9_value_259 at hf
        refine lv_iload hx hb dX9_value_259 (lv_at hl 5 rfl) ?_
        refine lv_iconst (v := (1 : Int32)) hx hb dX9_value_261 (by decide) ?_
        refine lv_isub hx hb dX9_value_262 ?_
        refine lv_iconst (v := (0 : Int32)) hx hb dX9_value_263 (by decide) ?_
        refine xmax hx hb hml hl.1 hown hts mtX9_48 (Nat.le_of_ble_eq_true rfl) (Nat.le_of_ble_eq_true rfl) ⟨Nat.zero_le _, Nat.zero_le _⟩ dX9_value_264 ?_
        refine lv_istore (lv' := [(10, .int (mxI (x5 - (1 : Int32)) (0 : Int32))), (0, .ref qx0), (1, .int x1), (2, .ref qw1), (3, .ref qf0), (4, .ref qw2), (5, .int x5), (6, .int x6), (7, .int x7), (8, .int x8)]) hx hb dX9_value_267 hl (by decide) rfl (fun ls hl => ?_)
        refine lv_aload hx hb dX9_value_269 (lv_at hl 5 rfl) ?_
        refine lv_iload hx hb dX9_value_271 (lv_at hl 0 rfl) ?_
        refine lv_iload hx hb dX9_value_273 (lv_at hl 9 rfl) ?_
        refine lv_aload hx hb dX9_value_275 (lv_at hl 5 rfl) ?_
        refine lv_iload hx hb dX9_value_277 (lv_at hl 0 rfl) ?_
        refine xiald hx hb hK hP 8 0 rfl rfl dX9_value_279 hf (fun v279 hf => ?_)
        obtain ⟨r280, hg280, hf⟩ := ob1_some hf
        refine mcS0_i (As := [.int x8, .int v279]) (rest := [.int (mxI (x5 - (1 : Int32)) (0 : Int32)), .ref qw2]) hx hb hml hown hts hK hP hD hS hA (k_X9_ofOne l N D cI cJ cZ cB cT x8 v279 r280 hg280) (kwX9_60 hts rfl rfl ⟨Nat.le_of_ble_eq_true rfl, Nat.le_of_ble_eq_true rfl⟩) rfl hl.1 rfl (Nat.le_of_ble_eq_true rfl) dX9_value_280 ⟨Nat.zero_le _, Nat.zero_le _⟩ (fun hB280 H locs hP hD hS => ?_)
        refine xiast hx hb hK hP hD hS 8 0 rfl rfl dX9_value_283 hf (fun w_stack_283 hf H locs hP hD hS => ?_)
        have hP : va_P D vwCl (W_TXV_0t3_5t8_10 qx0 qx1 qx2 qx3 qw1 qf0 qf1 qf2 qw2 qx4 qf3 cI cJ cZ cB cT x_cl x_ln x_pt x_code x_st x_en w_names f_row f_fears w_stack_283) H := hP
        have hD : va_D A (W_TXV_0t3_5t8_10 qx0 qx1 qx2 qx3 qw1 qf0 qf1 qf2 qw2 qx4 qf3 cI cJ cZ cB cT x_cl x_ln x_pt x_code x_st x_en w_names f_row f_fears w_stack_283) := hD
        refine lv_goto (tgt := 320) hx hb dX9_value_284 (by decide) ?_
        exact b320 w_stack_283 x1 x5 x6 x7 _ _ _ hf hP hD hS (lv_sub hl [1, 2, 3, 4, 5, 6, 7, 8] rfl)
      have b204 : ∀ (w_stack : Nat → Int32) (x1 : Int32) (x5 : Int32) (x6 : Int32) (x7 : Int32) (x8 : Int32) (H : Heap) (locs : List Loc) (ls : Array Slot), f_X9_value_204 N (f_X9_value_24 N n24) x_code x_st x_en w_names f_row f_fears w_stack x1 x5 x6 x7 x8 = some (o_r, o_w_stack) → va_P D vwCl (W_TXV_0t3_5t8_10 qx0 qx1 qx2 qx3 qw1 qf0 qf1 qf2 qw2 qx4 qf3 cI cJ cZ cB cT x_cl x_ln x_pt x_code x_st x_en w_names f_row f_fears w_stack) H → va_D A (W_TXV_0t3_5t8_10 qx0 qx1 qx2 qx3 qw1 qf0 qf1 qf2 qw2 qx4 qf3 cI cJ cZ cB cT x_cl x_ln x_pt x_code x_st x_en w_names f_row f_fears w_stack) → va_S A s.heap H locs → lv_has ls 11 [(0, .ref qx0), (1, .int x1), (2, .ref qw1), (3, .ref qf0), (4, .ref qw2), (5, .int x5), (6, .int x6), (7, .int x7), (8, .int x8)] → W p l e ({ frames := 2, cells := 0, slots := 0, locals := 62 } : Room) s m ([.ref qx0, .int p1, .ref qw1, .ref qf0, .ref qw2] : List Value).toArray below meth c H locs 0 0 (MQ below ((mQi D (W_TXV_0t3_5t8_10 qx0 qx1 qx2 qx3 qw1 qf0 qf1 qf2 qw2 qx4 qf3 cI cJ cZ cB cT x_cl x_ln x_pt x_code x_st x_en w_names f_row f_fears o_w_stack) o_r True) A) ([.ref qx0, .int p1, .ref qw1, .ref qf0, .ref qw2] : List Value).toArray s 0 0 A) (F0 m 204 ls []) := by
        intro w_stack x1 x5 x6 x7 x8 H locs ls hf hP hD hS hl
        unfold f_X9_value_204 at hf
        refine lv_iload hx hb dX9_value_204 (lv_at hl 8 rfl) ?_
        refine lv_bipush (v := (25 : Int32)) hx hb dX9_value_206 (by decide) ?_
        refine xicmp_ne hx hb 238 dX9_value_208 (by decide) hf (fun hf => ?_) (fun hf => ?_)
        · refine lv_iload hx hb dX9_value_211 (lv_at hl 5 rfl) ?_
          refine lv_iconst (v := (1 : Int32)) hx hb dX9_value_213 (by decide) ?_
          refine lv_isub hx hb dX9_value_214 ?_
          refine lv_iconst (v := (0 : Int32)) hx hb dX9_value_215 (by decide) ?_
          refine xmax hx hb hml hl.1 hown hts mtX9_48 (Nat.le_of_ble_eq_true rfl) (Nat.le_of_ble_eq_true rfl) ⟨Nat.zero_le _, Nat.zero_le _⟩ dX9_value_216 ?_
          refine lv_istore (lv' := [(10, .int (mxI (x5 - (1 : Int32)) (0 : Int32))), (0, .ref qx0), (1, .int x1), (2, .ref qw1), (3, .ref qf0), (4, .ref qw2), (5, .int x5), (6, .int x6), (7, .int x7), (8, .int x8)]) hx hb dX9_value_219 hl (by decide) rfl (fun ls hl => ?_)
          refine lv_aload hx hb dX9_value_221 (lv_at hl 5 rfl) ?_
          refine lv_iload hx hb dX9_value_223 (lv_at hl 0 rfl) ?_
          refine lv_aload_n hx hb dX9_value_225 rfl (lv_at hl 4 rfl) ?_
          refine lv_aload hx hb dX9_value_226 (lv_at hl 5 rfl) ?_
          refine lv_iload hx hb dX9_value_228 (lv_at hl 0 rfl) ?_
          refine xiald hx hb hK hP 8 0 rfl rfl dX9_value_230 hf (fun v230 hf => ?_)
          obtain ⟨r231, hg231, hf⟩ := ob1_some hf
          refine mcV_i (wr := [(qx0, .inr (9, [.int x_cl, .int x_ln, .int x_pt, .ref qx1, .ref qx2, .ref qx3, .ref qx4])), (qx1, .inl (cI, 301, .inl x_code)), (qx2, .inl (cI, 4, .inl x_st)), (qx3, .inl (cI, 4, .inl x_en)), (qw1, .inl (cI, 10, .inl w_names)), (qw2, .inl (cI, 64, .inl w_stack))]) (As := [.int v230]) (rest := [.int (mxI (x5 - (1 : Int32)) (0 : Int32)), .ref qw2]) hx hb hml hown hts hK hP hD hS hA (k_X1_fearOf l N D cI cJ cZ cB cT qf0 qf1 qf2 qf3 f_row f_fears v230 r231 hg231) (kwX9_54 hts rfl rfl ⟨Nat.le_of_ble_eq_true rfl, Nat.le_of_ble_eq_true rfl⟩) [5, 6, 7] [0, 1, 2, 3, 4, 8] rfl rfl rfl (by decide) rfl 0 rfl rfl rfl rfl hl.1 rfl (Nat.le_of_ble_eq_true rfl) dX9_value_231 ⟨Nat.zero_le _, Nat.zero_le _⟩ (fun hB231 H locs hP hD hS => ?_)
          have hP := mP_sub (wc := (W_TXV_0t3_5t8_10 qx0 qx1 qx2 qx3 qw1 qf0 qf1 qf2 qw2 qx4 qf3 cI cJ cZ cB cT x_cl x_ln x_pt x_code x_st x_en w_names f_row f_fears w_stack)) hP [0, 1, 2, 3, 4, 6, 7, 8, 5] rfl
          have hD := hD.sub (ws' := (W_TXV_0t3_5t8_10 qx0 qx1 qx2 qx3 qw1 qf0 qf1 qf2 qw2 qx4 qf3 cI cJ cZ cB cT x_cl x_ln x_pt x_code x_st x_en w_names f_row f_fears w_stack)) [0, 1, 2, 3, 4, 6, 7, 8, 5] rfl rfl
          refine xiast hx hb hK hP hD hS 8 0 rfl rfl dX9_value_234 hf (fun w_stack_234 hf H locs hP hD hS => ?_)
          have hP : va_P D vwCl (W_TXV_0t3_5t8_10 qx0 qx1 qx2 qx3 qw1 qf0 qf1 qf2 qw2 qx4 qf3 cI cJ cZ cB cT x_cl x_ln x_pt x_code x_st x_en w_names f_row f_fears w_stack_234) H := hP
          have hD : va_D A (W_TXV_0t3_5t8_10 qx0 qx1 qx2 qx3 qw1 qf0 qf1 qf2 qw2 qx4 qf3 cI cJ cZ cB cT x_cl x_ln x_pt x_code x_st x_en w_names f_row f_fears w_stack_234) := hD
          refine lv_goto (tgt := 320) hx hb dX9_value_235 (by decide) ?_
          exact b320 w_stack_234 x1 x5 x6 x7 _ _ _ hf hP hD hS (lv_sub hl [1, 2, 3, 4, 5, 6, 7, 8] rfl)
        · refine lv_iload hx hb dX9_value_238 (lv_at hl 8 rfl) ?_
          refine lv_bipush (v := (49 : Int32)) hx hb dX9_value_240 (by decide) ?_
          refine xicmp_eq hx hb 259 dX9_value_242 (by decide) hf (fun hf => ?_) (fun hf => ?_)
          · exact b259 w_stack x1 x5 x6 x7 x8 _ _ _ hf hP hD hS (lv_sub hl [0, 1, 2, 3, 4, 5, 6, 7, 8] rfl)
          · refine lv_iload hx hb dX9_value_245 (lv_at hl 8 rfl) ?_
            refine lv_bipush (v := (24 : Int32)) hx hb dX9_value_247 (by decide) ?_
            refine xicmp_eq hx hb 259 dX9_value_249 (by decide) hf (fun hf => ?_) (fun hf => ?_)
            · exact b259 w_stack x1 x5 x6 x7 x8 _ _ _ hf hP hD hS (lv_sub hl [0, 1, 2, 3, 4, 5, 6, 7, 8] rfl)
            · refine lv_iload hx hb dX9_value_252 (lv_at hl 8 rfl) ?_
              refine lv_bipush (v := (30 : Int32)) hx hb dX9_value_254 (by decide) ?_
              refine xicmp_ne hx hb 287 dX9_value_256 (by decide) hf (fun hf => ?_) (fun hf => ?_)
              · exact b259 w_stack x1 x5 x6 x7 x8 _ _ _ hf hP hD hS (lv_sub hl [0, 1, 2, 3, 4, 5, 6, 7, 8] rfl)
              · refine lv_iload hx hb dX9_value_287 (lv_at hl 5 rfl) ?_
                refine lv_iconst (v := (2 : Int32)) hx hb dX9_value_289 (by decide) ?_
                refine xicmp_lt hx hb 320 dX9_value_290 (by decide) hf (fun hf => ?_) (fun hf => ?_)
                · exact b320 w_stack x1 x5 x6 x7 _ _ _ hf hP hD hS (lv_sub hl [0, 1, 2, 3, 4, 5, 6, 7] rfl)
                · refine lv_iinc (v := (x5 + (-1 : Int32))) (lv' := [(5, .int (x5 + (-1 : Int32))), (0, .ref qx0), (1, .int x1), (2, .ref qw1), (3, .ref qf0), (4, .ref qw2), (6, .int x6), (7, .int x7), (8, .int x8)]) hx hb dX9_value_293 hl (k := 5) rfl rfl (by decide) rfl (fun ls hl => ?_)
                  refine lv_aload hx hb dX9_value_296 (lv_at hl 5 rfl) ?_
                  refine lv_iload hx hb dX9_value_298 (lv_at hl 0 rfl) ?_
                  refine lv_iconst (v := (1 : Int32)) hx hb dX9_value_300 (by decide) ?_
                  refine lv_isub hx hb dX9_value_301 ?_
                  refine lv_iload hx hb dX9_value_302 (lv_at hl 8 rfl) ?_
                  refine lv_aload hx hb dX9_value_304 (lv_at hl 5 rfl) ?_
                  refine lv_iload hx hb dX9_value_306 (lv_at hl 0 rfl) ?_
                  refine lv_iconst (v := (1 : Int32)) hx hb dX9_value_308 (by decide) ?_
                  refine lv_isub hx hb dX9_value_309 ?_
                  refine xiald hx hb hK hP 8 0 rfl rfl dX9_value_310 hf (fun v310 hf => ?_)
                  refine lv_aload hx hb dX9_value_311 (lv_at hl 5 rfl) ?_
                  refine lv_iload hx hb dX9_value_313 (lv_at hl 0 rfl) ?_
                  refine xiald hx hb hK hP 8 0 rfl rfl dX9_value_315 hf (fun v315 hf => ?_)
                  obtain ⟨r316, hg316, hf⟩ := ob1_some hf
                  refine mcS0_i (As := [.int x8, .int v310, .int v315]) (rest := [.int ((x5 + (-1 : Int32)) - (1 : Int32)), .ref qw2]) hx hb hml hown hts hK hP hD hS hA (k_X9_ofTwo l N D cI cJ cZ cB cT x8 v310 v315 r316 hg316) (kwX9_63 hts rfl rfl ⟨Nat.le_of_ble_eq_true rfl, Nat.le_of_ble_eq_true rfl⟩) rfl hl.1 rfl (Nat.le_of_ble_eq_true rfl) dX9_value_316 ⟨Nat.zero_le _, Nat.zero_le _⟩ (fun hB316 H locs hP hD hS => ?_)
                  refine xiast hx hb hK hP hD hS 8 0 rfl rfl dX9_value_319 hf (fun w_stack_319 hf H locs hP hD hS => ?_)
                  have hP : va_P D vwCl (W_TXV_0t3_5t8_10 qx0 qx1 qx2 qx3 qw1 qf0 qf1 qf2 qw2 qx4 qf3 cI cJ cZ cB cT x_cl x_ln x_pt x_code x_st x_en w_names f_row f_fears w_stack_319) H := hP
                  have hD : va_D A (W_TXV_0t3_5t8_10 qx0 qx1 qx2 qx3 qw1 qf0 qf1 qf2 qw2 qx4 qf3 cI cJ cZ cB cT x_cl x_ln x_pt x_code x_st x_en w_names f_row f_fears w_stack_319) := hD
                  exact b320 w_stack_319 x1 (x5 + (-1 : Int32)) x6 x7 _ _ _ hf hP hD hS (lv_sub hl [1, 2, 3, 4, 5, 0, 6, 7] rfl)
      have b129 : ∀ (w_stack : Nat → Int32) (x1 : Int32) (x5 : Int32) (x7 : Int32) (s0 : Int32) (H : Heap) (locs : List Loc) (ls : Array Slot), f_X9_value_129 N (f_X9_value_24 N n24) x_code x_st x_en w_names f_row f_fears w_stack x1 x5 x7 s0 = some (o_r, o_w_stack) → va_P D vwCl (W_TXV_0t3_5t8_10 qx0 qx1 qx2 qx3 qw1 qf0 qf1 qf2 qw2 qx4 qf3 cI cJ cZ cB cT x_cl x_ln x_pt x_code x_st x_en w_names f_row f_fears w_stack) H → va_D A (W_TXV_0t3_5t8_10 qx0 qx1 qx2 qx3 qw1 qf0 qf1 qf2 qw2 qx4 qf3 cI cJ cZ cB cT x_cl x_ln x_pt x_code x_st x_en w_names f_row f_fears w_stack) → va_S A s.heap H locs → lv_has ls 11 [(0, .ref qx0), (1, .int x1), (2, .ref qw1), (3, .ref qf0), (4, .ref qw2), (5, .int x5), (7, .int x7)] → W p l e ({ frames := 2, cells := 0, slots := 0, locals := 62 } : Room) s m ([.ref qx0, .int p1, .ref qw1, .ref qf0, .ref qw2] : List Value).toArray below meth c H locs 0 0 (MQ below ((mQi D (W_TXV_0t3_5t8_10 qx0 qx1 qx2 qx3 qw1 qf0 qf1 qf2 qw2 qx4 qf3 cI cJ cZ cB cT x_cl x_ln x_pt x_code x_st x_en w_names f_row f_fears o_w_stack) o_r True) A) ([.ref qx0, .int p1, .ref qw1, .ref qf0, .ref qw2] : List Value).toArray s 0 0 A) (F0 m 129 ls [.int s0]) := by
        intro w_stack x1 x5 x7 s0 H locs ls hf hP hD hS hl
        unfold f_X9_value_129 at hf
        refine lv_istore (lv' := [(6, .int s0), (0, .ref qx0), (1, .int x1), (2, .ref qw1), (3, .ref qf0), (4, .ref qw2), (5, .int x5), (7, .int x7)]) hx hb dX9_value_129 hl (by decide) rfl (fun ls hl => ?_)
        refine lv_goto (tgt := 320) hx hb dX9_value_131 (by decide) ?_
        exact b320 w_stack x1 x5 s0 x7 _ _ _ hf hP hD hS (lv_sub hl [1, 2, 3, 4, 5, 6, 0, 7] rfl)
      intro w_stack x1 x5 x6 x7 H locs ls hf hP hD hS hl
      rw [f_X9_value_24.eq_2] at hf
      refine lv_iload hx hb dX9_value_24 (lv_at hl 7 rfl) ?_
      refine lv_sipush (v := (301 : Int32)) hx hb dX9_value_26 (by decide) ?_
      refine xicmp_ge hx hb 326 dX9_value_29 (by decide) hf (fun hf => ?_) (fun hf => ?_)
      · exact b326 w_stack _ _ _ hf hP hD hS (lv_sub hl [4] rfl)
      · refine lv_iload hx hb dX9_value_32 (lv_at hl 6 rfl) ?_
        refine xif_lt hx hb 326 dX9_value_34 (by decide) hf (fun hf => ?_) (fun hf => ?_)
        · exact b326 w_stack _ _ _ hf hP hD hS (lv_sub hl [4] rfl)
        · refine lv_iload hx hb dX9_value_37 (lv_at hl 6 rfl) ?_
          refine lv_aload_n hx hb dX9_value_39 rfl (lv_at hl 0 rfl) ?_
          refine gfX9_30 hx hb hts hown hK hP 0 rfl rfl dX9_value_40 ?_
          refine lv_iload_n hx hb dX9_value_43 rfl (lv_at hl 1 rfl) ?_
          refine xiald hx hb hK hP 3 0 rfl rfl dX9_value_44 hf (fun v44 hf => ?_)
          refine xicmp_ge hx hb 326 dX9_value_45 (by decide) hf (fun hf => ?_) (fun hf => ?_)
          · exact b326 w_stack _ _ _ hf hP hD hS (lv_sub hl [4] rfl)
          · refine lv_iload hx hb dX9_value_48 (lv_at hl 6 rfl) ?_
            refine lv_sipush (v := (301 : Int32)) hx hb dX9_value_50 (by decide) ?_
            refine xicmp_ge hx hb 326 dX9_value_53 (by decide) hf (fun hf => ?_) (fun hf => ?_)
            · exact b326 w_stack _ _ _ hf hP hD hS (lv_sub hl [4] rfl)
            · refine lv_aload_n hx hb dX9_value_56 rfl (lv_at hl 0 rfl) ?_
              refine gfX9_23 hx hb hts hown hK hP 0 rfl rfl dX9_value_57 ?_
              refine lv_iload hx hb dX9_value_60 (lv_at hl 6 rfl) ?_
              refine xiald hx hb hK hP 1 0 rfl rfl dX9_value_62 hf (fun v62 hf => ?_)
              refine lv_bipush (v := (63 : Int32)) hx hb dX9_value_63 (by decide) ?_
              refine lv_iand hx hb dX9_value_65 ?_
              refine lv_istore (lv' := [(8, .int (v62 &&& (63 : Int32))), (0, .ref qx0), (1, .int x1), (2, .ref qw1), (3, .ref qf0), (4, .ref qw2), (5, .int x5), (6, .int x6), (7, .int x7)]) hx hb dX9_value_66 hl (by decide) rfl (fun ls hl => ?_)
              refine lv_aload_n hx hb dX9_value_68 rfl (lv_at hl 1 rfl) ?_
              refine gfX9_23 hx hb hts hown hK hP 0 rfl rfl dX9_value_69 ?_
              refine lv_iload hx hb dX9_value_72 (lv_at hl 7 rfl) ?_
              refine xiald hx hb hK hP 1 0 rfl rfl dX9_value_74 hf (fun v74 hf => ?_)
              refine lv_bipush (v := (6 : Int32)) hx hb dX9_value_75 (by decide) ?_
              refine lv_ishr hx hb dX9_value_77 ?_
              refine lv_istore (lv' := [(9, .int (v74 >>> ((6 : Int32) &&& 31))), (8, .int (v62 &&& (63 : Int32))), (0, .ref qx0), (1, .int x1), (2, .ref qw1), (3, .ref qf0), (4, .ref qw2), (5, .int x5), (6, .int x6), (7, .int x7)]) hx hb dX9_value_78 hl (by decide) rfl (fun ls hl => ?_)
              refine lv_iinc (v := (x6 + (1 : Int32))) (lv' := [(6, .int (x6 + (1 : Int32))), (9, .int (v74 >>> ((6 : Int32) &&& 31))), (8, .int (v62 &&& (63 : Int32))), (0, .ref qx0), (1, .int x1), (2, .ref qw1), (3, .ref qf0), (4, .ref qw2), (5, .int x5), (7, .int x7)]) hx hb dX9_value_80 hl (k := 8) rfl rfl (by decide) rfl (fun ls hl => ?_)
              refine lv_iload hx hb dX9_value_83 (lv_at hl 2 rfl) ?_
              refine lv_bipush (v := (28 : Int32)) hx hb dX9_value_85 (by decide) ?_
              refine xicmp_ne hx hb 97 dX9_value_87 (by decide) hf (fun hf => ?_) (fun hf => ?_)
              · refine lv_iload hx hb dX9_value_90 (lv_at hl 1 rfl) ?_
                refine lv_istore (lv' := [(6, .int (v74 >>> ((6 : Int32) &&& 31))), (9, .int (v74 >>> ((6 : Int32) &&& 31))), (8, .int (v62 &&& (63 : Int32))), (0, .ref qx0), (1, .int x1), (2, .ref qw1), (3, .ref qf0), (4, .ref qw2), (5, .int x5), (7, .int x7)]) hx hb dX9_value_92 hl (by decide) rfl (fun ls hl => ?_)
                refine lv_goto (tgt := 320) hx hb dX9_value_94 (by decide) ?_
                exact b320 w_stack x1 x5 (v74 >>> ((6 : Int32) &&& 31)) x7 _ _ _ hf hP hD hS (lv_sub hl [3, 4, 5, 6, 7, 8, 0, 9] rfl)
              · refine lv_iload hx hb dX9_value_97 (lv_at hl 2 rfl) ?_
                refine lv_bipush (v := (27 : Int32)) hx hb dX9_value_99 (by decide) ?_
                refine xicmp_ne hx hb 134 dX9_value_101 (by decide) hf (fun hf => ?_) (fun hf => ?_)
                · refine lv_iload hx hb dX9_value_104 (lv_at hl 8 rfl) ?_
                  refine lv_iconst (v := (1 : Int32)) hx hb dX9_value_106 (by decide) ?_
                  refine lv_isub hx hb dX9_value_107 ?_
                  refine lv_iconst (v := (0 : Int32)) hx hb dX9_value_108 (by decide) ?_
                  refine xmax hx hb hml hl.1 hown hts mtX9_48 (Nat.le_of_ble_eq_true rfl) (Nat.le_of_ble_eq_true rfl) ⟨Nat.zero_le _, Nat.zero_le _⟩ dX9_value_109 ?_
                  refine lv_istore (lv' := [(5, .int (mxI (x5 - (1 : Int32)) (0 : Int32))), (6, .int (x6 + (1 : Int32))), (9, .int (v74 >>> ((6 : Int32) &&& 31))), (8, .int (v62 &&& (63 : Int32))), (0, .ref qx0), (1, .int x1), (2, .ref qw1), (3, .ref qf0), (4, .ref qw2), (7, .int x7)]) hx hb dX9_value_112 hl (by decide) rfl (fun ls hl => ?_)
                  refine lv_aload hx hb dX9_value_114 (lv_at hl 8 rfl) ?_
                  refine lv_iload hx hb dX9_value_116 (lv_at hl 0 rfl) ?_
                  refine xiald hx hb hK hP 8 0 rfl rfl dX9_value_118 hf (fun v118 hf => ?_)
                  refine xif_ne hx hb 127 dX9_value_119 (by decide) hf (fun hf => ?_) (fun hf => ?_)
                  · refine lv_iload hx hb dX9_value_122 (lv_at hl 2 rfl) ?_
                    refine lv_goto (tgt := 129) hx hb dX9_value_124 (by decide) ?_
                    exact b129 w_stack x1 (mxI (x5 - (1 : Int32)) (0 : Int32)) x7 (v74 >>> ((6 : Int32) &&& 31)) _ _ _ hf hP hD hS (lv_sub hl [4, 5, 6, 7, 8, 0, 9] rfl)
                  · refine lv_iload hx hb dX9_value_127 (lv_at hl 1 rfl) ?_
                    exact b129 w_stack x1 (mxI (x5 - (1 : Int32)) (0 : Int32)) x7 (x6 + (1 : Int32)) _ _ _ hf hP hD hS (lv_sub hl [4, 5, 6, 7, 8, 0, 9] rfl)
                · refine lv_iload hx hb dX9_value_134 (lv_at hl 2 rfl) ?_
                  refine lv_bipush (v := (46 : Int32)) hx hb dX9_value_136 (by decide) ?_
                  refine xicmp_eq hx hb 155 dX9_value_138 (by decide) hf (fun hf => ?_) (fun hf => ?_)
                  · exact b155 w_stack x1 x5 (x6 + (1 : Int32)) x7 (v62 &&& (63 : Int32)) (v74 >>> ((6 : Int32) &&& 31)) _ _ _ hf hP hD hS (lv_sub hl [3, 4, 5, 6, 7, 8, 0, 9, 2, 1] rfl)
                  · refine lv_iload hx hb dX9_value_141 (lv_at hl 2 rfl) ?_
                    refine lv_bipush (v := (11 : Int32)) hx hb dX9_value_143 (by decide) ?_
                    refine xicmp_lt hx hb 204 dX9_value_145 (by decide) hf (fun hf => ?_) (fun hf => ?_)
                    · exact b204 w_stack x1 x5 (x6 + (1 : Int32)) x7 (v62 &&& (63 : Int32)) _ _ _ hf hP hD hS (lv_sub hl [3, 4, 5, 6, 7, 8, 0, 9, 2] rfl)
                    · refine lv_iload hx hb dX9_value_148 (lv_at hl 2 rfl) ?_
                      refine lv_bipush (v := (20 : Int32)) hx hb dX9_value_150 (by decide) ?_
                      refine xicmp_gt hx hb 204 dX9_value_152 (by decide) hf (fun hf => ?_) (fun hf => ?_)
                      · exact b204 w_stack x1 x5 (x6 + (1 : Int32)) x7 (v62 &&& (63 : Int32)) _ _ _ hf hP hD hS (lv_sub hl [3, 4, 5, 6, 7, 8, 0, 9, 2] rfl)
                      · exact b155 w_stack x1 x5 (x6 + (1 : Int32)) x7 (v62 &&& (63 : Int32)) (v74 >>> ((6 : Int32) &&& 31)) _ _ _ hf hP hD hS (lv_sub hl [3, 4, 5, 6, 7, 8, 0, 9, 2, 1] rfl)
  unfold f_X9_value at hf
  refine lv_aload_n hx hb dX9_value_0 rfl (lv_at hl 0 rfl) ?_
  refine lv_iload_n hx hb dX9_value_1 rfl (lv_at hl 1 rfl) ?_
  obtain ⟨r2, hg2, hf⟩ := ob1_some hf
  refine mcV_i (wr := [(qx1, .inl (cI, 301, .inl x_code)), (qx3, .inl (cI, 4, .inl x_en)), (qw1, .inl (cI, 10, .inl w_names)), (qf0, .inr (1, [.ref qf1, .ref qf2, .ref qf3])), (qf1, .inl (cI, 76, .inl f_row)), (qf2, .inl (cI, 6, .inl f_fears)), (qw2, .inl (cI, 64, .inl w_stack))]) (As := [.int p1]) (rest := []) hx hb hml hown hts hK hP hD hS hA (k_X9_begun l N D cI cJ cZ cB cT qx0 qx2 qx1 qx3 qx4 x_cl x_ln x_pt x_st p1 r2 hg2) (kwX9_44 hts rfl rfl ⟨Nat.le_of_ble_eq_true rfl, Nat.le_of_ble_eq_true rfl⟩) [0, 2] [1, 3, 4, 5, 6, 7, 8] rfl rfl rfl (by decide) rfl 0 rfl rfl rfl rfl hl.1 rfl (Nat.le_of_ble_eq_true rfl) dX9_value_2 ⟨Nat.zero_le _, Nat.zero_le _⟩ (fun hB2 H locs hP hD hS => ?_)
  have hP := mP_sub (wc := (W_TXV_0t3_5t8_10 qx0 qx1 qx2 qx3 qw1 qf0 qf1 qf2 qw2 qx4 qf3 cI cJ cZ cB cT x_cl x_ln x_pt x_code x_st x_en w_names f_row f_fears w_stack)) hP [7, 0, 8, 1, 2, 3, 4, 5, 6] rfl
  have hD := hD.sub (ws' := (W_TXV_0t3_5t8_10 qx0 qx1 qx2 qx3 qw1 qf0 qf1 qf2 qw2 qx4 qf3 cI cJ cZ cB cT x_cl x_ln x_pt x_code x_st x_en w_names f_row f_fears w_stack)) [7, 0, 8, 1, 2, 3, 4, 5, 6] rfl rfl
  refine xif_ne hx hb 10 dX9_value_5 (by decide) hf (fun hf => ?_) (fun hf => ?_)
  · refine lv_iconst (v := (0 : Int32)) hx hb dX9_value_8 (by decide) ?_
    cases hf
    exact mret_i hx hb hr hlocks hP hD hS dX9_value_9 rfl trivial
  · refine lv_iconst (v := (0 : Int32)) hx hb dX9_value_10 (by decide) ?_
    refine lv_istore (lv' := [(5, .int (0 : Int32)), (0, .ref qx0), (1, .int p1), (2, .ref qw1), (3, .ref qf0), (4, .ref qw2)]) hx hb dX9_value_11 hl (by decide) rfl (fun ls hl => ?_)
    refine lv_aload_n hx hb dX9_value_13 rfl (lv_at hl 1 rfl) ?_
    refine gfX9_27 hx hb hts hown hK hP 0 rfl rfl dX9_value_14 ?_
    refine lv_iload_n hx hb dX9_value_17 rfl (lv_at hl 2 rfl) ?_
    refine xiald hx hb hK hP 2 0 rfl rfl dX9_value_18 hf (fun v18 hf => ?_)
    refine lv_istore (lv' := [(6, .int v18), (5, .int (0 : Int32)), (0, .ref qx0), (1, .int p1), (2, .ref qw1), (3, .ref qf0), (4, .ref qw2)]) hx hb dX9_value_19 hl (by decide) rfl (fun ls hl => ?_)
    refine lv_iconst (v := (0 : Int32)) hx hb dX9_value_21 (by decide) ?_
    refine lv_istore (lv' := [(7, .int (0 : Int32)), (6, .int v18), (5, .int (0 : Int32)), (0, .ref qx0), (1, .int p1), (2, .ref qw1), (3, .ref qf0), (4, .ref qw2)]) hx hb dX9_value_22 hl (by decide) rfl (fun ls hl => ?_)
    exact b24 N w_stack p1 (0 : Int32) v18 (0 : Int32) _ _ _ hf hP hD hS (lv_sub hl [3, 4, 5, 6, 7, 2, 1, 0] rfl)
theorem dX10_bestAfter_0 : decode cX10_bestAfter 0 = .ok (.iload_n 2, 1) := by decide +kernel
theorem dX10_bestAfter_1 : decode cX10_bestAfter 1 = .ok (.bipush 8, 2) := by decide +kernel
theorem dX10_bestAfter_3 : decode cX10_bestAfter 3 = .ok (.imul, 1) := by decide +kernel
theorem dX10_bestAfter_4 : decode cX10_bestAfter 4 = .ok (.iload_n 1, 1) := by decide +kernel
theorem dX10_bestAfter_5 : decode cX10_bestAfter 5 = .ok (.iadd, 1) := by decide +kernel
theorem dX10_bestAfter_6 : decode cX10_bestAfter 6 = .ok (.istore_n 3, 1) := by decide +kernel
theorem dX10_bestAfter_7 : decode cX10_bestAfter 7 = .ok (.iload_n 3, 1) := by decide +kernel
theorem dX10_bestAfter_8 : decode cX10_bestAfter 8 = .ok (.ifCond .lt 21, 3) := by decide +kernel
theorem dX10_bestAfter_11 : decode cX10_bestAfter 11 = .ok (.iload_n 3, 1) := by decide +kernel
theorem dX10_bestAfter_12 : decode cX10_bestAfter 12 = .ok (.aload_n 0, 1) := by decide +kernel
theorem dX10_bestAfter_13 : decode cX10_bestAfter 13 = .ok (.getfield 33, 3) := by decide +kernel
theorem dX10_bestAfter_16 : decode cX10_bestAfter 16 = .ok (.arraylength, 1) := by decide +kernel
theorem dX10_bestAfter_17 : decode cX10_bestAfter 17 = .ok (.if_icmp .ge 12, 3) := by decide +kernel
theorem dX10_bestAfter_20 : decode cX10_bestAfter 20 = .ok (.aload_n 0, 1) := by decide +kernel
theorem dX10_bestAfter_21 : decode cX10_bestAfter 21 = .ok (.getfield 33, 3) := by decide +kernel
theorem dX10_bestAfter_24 : decode cX10_bestAfter 24 = .ok (.iload_n 3, 1) := by decide +kernel
theorem dX10_bestAfter_25 : decode cX10_bestAfter 25 = .ok (.iaload, 1) := by decide +kernel
theorem dX10_bestAfter_26 : decode cX10_bestAfter 26 = .ok (.goto 4, 3) := by decide +kernel
theorem dX10_bestAfter_29 : decode cX10_bestAfter 29 = .ok (.iconst 0, 1) := by decide +kernel
theorem dX10_bestAfter_30 : decode cX10_bestAfter 30 = .ok (.ireturn, 1) := by decide +kernel
def f_X10_bestAfter (N : Nat) (v_best : Nat → Int32) (p1 : Int32) (p2 : Int32) : Option (Int32) := if ((p2 * (8 : Int32)) + p1) < 0 then (some (0 : Int32)) else (if (56 : Int32) ≤ ((p2 * (8 : Int32)) + p1) then (some (0 : Int32)) else (gA v_best 56 ((p2 * (8 : Int32)) + p1) fun v25 => some v25))
set_option maxHeartbeats 4000000 in
set_option maxRecDepth 100000 in
theorem k_X10_bestAfter (l : Launch) (N : Nat) (D : va_G) (cI cJ cZ cB cT : ClassId) (qv0 : Nat) (qv2 : Nat) (qv1 : Nat) (qv3 : Nat) (qv4 : Nat) (qv5 : Nat) (v_up : Int32) (v_low : Int32) (v_gone : Int32) (v_may : Int32) (v_must : Int32) (v_best : Nat → Int32) (p1 : Int32) (p2 : Int32) (o_r : Int32) (hf : f_X10_bestAfter N v_best p1 p2 = some o_r) : ∀ sz, Met l yX10_bestAfter (mw yX10_bestAfter cX10_bestAfter 4 (some .int)) ({ frames := 0, cells := 0, slots := 0, locals := 0 } : Room) (mPre D (mT cI cJ cZ cB cT) (W_WY_0_2 qv0 qv2 qv1 qv3 qv4 qv5 cI cJ cZ cB cT v_up v_low v_gone v_may v_must v_best) sz [.ref qv0, .int p1, .int p2]) ((mQi D (W_WY_0_2 qv0 qv2 qv1 qv3 qv4 qv5 cI cJ cZ cB cT v_up v_low v_gone v_may v_must v_best) o_r True) (va_A (W_WY_0_2 qv0 qv2 qv1 qv3 qv4 qv5 cI cJ cZ cB cT v_up v_low v_gone v_may v_must v_best) sz)) 0 0 (va_A (W_WY_0_2 qv0 qv2 qv1 qv3 qv4 qv5 cI cJ cZ cB cT v_up v_low v_gone v_may v_must v_best) sz) := by
  refine mMet (Qc := (mQi D (W_WY_0_2 qv0 qv2 qv1 qv3 qv4 qv5 cI cJ cZ cB cT v_up v_low v_gone v_may v_must v_best) o_r True)) (by decide) (Nat.le_of_ble_eq_true rfl) (fun p e s m below meth c A ls hx hb hr hml hts hown hlocks hK hA hP hD hl => ?_)
  have hown : s.vm.findClass RX10 = some m.cls := hown
  have hl : lv_has ls 4 [(0, .ref qv0), (1, .int p1), (2, .int p2)] := hl
  have hS : va_S A s.heap s.heap [] := va_S.rf
  unfold f_X10_bestAfter at hf
  refine lv_iload_n hx hb dX10_bestAfter_0 rfl (lv_at hl 2 rfl) ?_
  refine lv_bipush (v := (8 : Int32)) hx hb dX10_bestAfter_1 (by decide) ?_
  refine lv_imul hx hb dX10_bestAfter_3 ?_
  refine lv_iload_n hx hb dX10_bestAfter_4 rfl (lv_at hl 1 rfl) ?_
  refine lv_iadd hx hb dX10_bestAfter_5 ?_
  refine lv_istore_n (lv' := [(3, .int ((p2 * (8 : Int32)) + p1)), (0, .ref qv0), (1, .int p1), (2, .int p2)]) hx hb dX10_bestAfter_6 rfl hl (by decide) rfl (fun ls hl => ?_)
  refine lv_iload_n hx hb dX10_bestAfter_7 rfl (lv_at hl 0 rfl) ?_
  refine xif_lt hx hb 29 dX10_bestAfter_8 (by decide) hf (fun hf => ?_) (fun hf => ?_)
  · refine lv_iconst (v := (0 : Int32)) hx hb dX10_bestAfter_29 (by decide) ?_
    cases hf
    exact mret_i hx hb hr hlocks hP hD hS dX10_bestAfter_30 rfl trivial
  · refine lv_iload_n hx hb dX10_bestAfter_11 rfl (lv_at hl 0 rfl) ?_
    refine lv_aload_n hx hb dX10_bestAfter_12 rfl (lv_at hl 1 rfl) ?_
    refine gfX10_33 hx hb hts hown hK hP 0 rfl rfl dX10_bestAfter_13 ?_
    refine va_alen (v := (56 : Int32)) hx hb hK hP 1 0 rfl rfl rfl dX10_bestAfter_16 ?_
    refine xicmp_ge hx hb 29 dX10_bestAfter_17 (by decide) hf (fun hf => ?_) (fun hf => ?_)
    · refine lv_iconst (v := (0 : Int32)) hx hb dX10_bestAfter_29 (by decide) ?_
      cases hf
      exact mret_i hx hb hr hlocks hP hD hS dX10_bestAfter_30 rfl trivial
    · refine lv_aload_n hx hb dX10_bestAfter_20 rfl (lv_at hl 1 rfl) ?_
      refine gfX10_33 hx hb hts hown hK hP 0 rfl rfl dX10_bestAfter_21 ?_
      refine lv_iload_n hx hb dX10_bestAfter_24 rfl (lv_at hl 0 rfl) ?_
      refine xiald hx hb hK hP 1 0 rfl rfl dX10_bestAfter_25 hf (fun v25 hf => ?_)
      refine lv_goto (tgt := 30) hx hb dX10_bestAfter_26 (by decide) ?_
      cases hf
      exact mret_i hx hb hr hlocks hP hD hS dX10_bestAfter_30 rfl trivial
theorem dX10_bestFrom_0 : decode cX10_bestFrom 0 = .ok (.aload_n 1, 1) := by decide +kernel
theorem dX10_bestFrom_1 : decode cX10_bestFrom 1 = .ok (.iload_n 2, 1) := by decide +kernel
theorem dX10_bestFrom_2 : decode cX10_bestFrom 2 = .ok (.invokevirtual 86, 3) := by decide +kernel
theorem dX10_bestFrom_5 : decode cX10_bestFrom 5 = .ok (.iconst 1, 1) := by decide +kernel
theorem dX10_bestFrom_6 : decode cX10_bestFrom 6 = .ok (.iload_n 2, 1) := by decide +kernel
theorem dX10_bestFrom_7 : decode cX10_bestFrom 7 = .ok (.ishl, 1) := by decide +kernel
theorem dX10_bestFrom_8 : decode cX10_bestFrom 8 = .ok (.ior, 1) := by decide +kernel
theorem dX10_bestFrom_9 : decode cX10_bestFrom 9 = .ok (.istore 4, 2) := by decide +kernel
theorem dX10_bestFrom_11 : decode cX10_bestFrom 11 = .ok (.iconst 0, 1) := by decide +kernel
theorem dX10_bestFrom_12 : decode cX10_bestFrom 12 = .ok (.istore 5, 2) := by decide +kernel
theorem dX10_bestFrom_14 : decode cX10_bestFrom 14 = .ok (.iconst 0, 1) := by decide +kernel
theorem dX10_bestFrom_15 : decode cX10_bestFrom 15 = .ok (.istore 6, 2) := by decide +kernel
theorem dX10_bestFrom_17 : decode cX10_bestFrom 17 = .ok (.iload 6, 2) := by decide +kernel
theorem dX10_bestFrom_19 : decode cX10_bestFrom 19 = .ok (.aload_n 1, 1) := by decide +kernel
theorem dX10_bestFrom_20 : decode cX10_bestFrom 20 = .ok (.getfield 51, 3) := by decide +kernel
theorem dX10_bestFrom_23 : decode cX10_bestFrom 23 = .ok (.if_icmp .ge 51, 3) := by decide +kernel
theorem dX10_bestFrom_26 : decode cX10_bestFrom 26 = .ok (.iload 6, 2) := by decide +kernel
theorem dX10_bestFrom_28 : decode cX10_bestFrom 28 = .ok (.bipush 8, 2) := by decide +kernel
theorem dX10_bestFrom_30 : decode cX10_bestFrom 30 = .ok (.if_icmp .ge 44, 3) := by decide +kernel
theorem dX10_bestFrom_33 : decode cX10_bestFrom 33 = .ok (.iload 4, 2) := by decide +kernel
theorem dX10_bestFrom_35 : decode cX10_bestFrom 35 = .ok (.iload 6, 2) := by decide +kernel
theorem dX10_bestFrom_37 : decode cX10_bestFrom 37 = .ok (.ishr, 1) := by decide +kernel
theorem dX10_bestFrom_38 : decode cX10_bestFrom 38 = .ok (.iconst 1, 1) := by decide +kernel
theorem dX10_bestFrom_39 : decode cX10_bestFrom 39 = .ok (.iand, 1) := by decide +kernel
theorem dX10_bestFrom_40 : decode cX10_bestFrom 40 = .ok (.iconst 1, 1) := by decide +kernel
theorem dX10_bestFrom_41 : decode cX10_bestFrom 41 = .ok (.if_icmp .ne 27, 3) := by decide +kernel
theorem dX10_bestFrom_44 : decode cX10_bestFrom 44 = .ok (.iload 5, 2) := by decide +kernel
theorem dX10_bestFrom_46 : decode cX10_bestFrom 46 = .ok (.aload_n 0, 1) := by decide +kernel
theorem dX10_bestFrom_47 : decode cX10_bestFrom 47 = .ok (.getfield 29, 3) := by decide +kernel
theorem dX10_bestFrom_50 : decode cX10_bestFrom 50 = .ok (.iload 6, 2) := by decide +kernel
theorem dX10_bestFrom_52 : decode cX10_bestFrom 52 = .ok (.iaload, 1) := by decide +kernel
theorem dX10_bestFrom_53 : decode cX10_bestFrom 53 = .ok (.aload_n 0, 1) := by decide +kernel
theorem dX10_bestFrom_54 : decode cX10_bestFrom 54 = .ok (.iload 6, 2) := by decide +kernel
theorem dX10_bestFrom_56 : decode cX10_bestFrom 56 = .ok (.iload_n 3, 1) := by decide +kernel
theorem dX10_bestFrom_57 : decode cX10_bestFrom 57 = .ok (.iconst 1, 1) := by decide +kernel
theorem dX10_bestFrom_58 : decode cX10_bestFrom 58 = .ok (.isub, 1) := by decide +kernel
theorem dX10_bestFrom_59 : decode cX10_bestFrom 59 = .ok (.invokevirtual 90, 3) := by decide +kernel
theorem dX10_bestFrom_62 : decode cX10_bestFrom 62 = .ok (.imul, 1) := by decide +kernel
theorem dX10_bestFrom_63 : decode cX10_bestFrom 63 = .ok (.invokestatic 93, 3) := by decide +kernel
theorem dX10_bestFrom_66 : decode cX10_bestFrom 66 = .ok (.istore 5, 2) := by decide +kernel
theorem dX10_bestFrom_68 : decode cX10_bestFrom 68 = .ok (.iinc 6 1, 3) := by decide +kernel
theorem dX10_bestFrom_71 : decode cX10_bestFrom 71 = .ok (.goto (-54), 3) := by decide +kernel
theorem dX10_bestFrom_74 : decode cX10_bestFrom 74 = .ok (.iload 5, 2) := by decide +kernel
theorem dX10_bestFrom_76 : decode cX10_bestFrom 76 = .ok (.ireturn, 1) := by decide +kernel
def f_X10_bestFrom_68 (N : Nat) (k_17 : (Nat → Int32) → (Nat → Int32) → Int32 → (Nat → Int32) → Int32 → Int32 → Int32 → Int32 → Option (Int32)) (v_liv : Nat → Int32) (v_best : Nat → Int32) (d_n : Int32) (d_road : Nat → Int32) (x3 : Int32) (x4 : Int32) (x5 : Int32) (x6 : Int32) : Option (Int32) := k_17 v_liv v_best d_n d_road x3 x4 x5 (x6 + (1 : Int32))
def f_X10_bestFrom_17 (N : Nat) : Nat → (Nat → Int32) → (Nat → Int32) → Int32 → (Nat → Int32) → Int32 → Int32 → Int32 → Int32 → Option (Int32)
  | 0, _, _, _, _, _, _, _, _ => none
  | n + 1, v_liv, v_best, d_n, d_road, x3, x4, x5, x6 => if d_n ≤ x6 then (some x5) else (if (8 : Int32) ≤ x6 then (some x5) else (if ((x4 >>> (x6 &&& 31)) &&& (1 : Int32)) = (1 : Int32) then (gA v_liv 8 x6 fun v52 => ob1 (f_X10_bestAfter N v_best x6 (x3 - (1 : Int32))) fun r59 => f_X10_bestFrom_68 N (f_X10_bestFrom_17 N n) v_liv v_best d_n d_road x3 x4 (mxI x5 (v52 * r59)) x6) else (f_X10_bestFrom_68 N (f_X10_bestFrom_17 N n) v_liv v_best d_n d_road x3 x4 x5 x6)))
def f_X10_bestFrom (N : Nat) (v_liv : Nat → Int32) (v_best : Nat → Int32) (d_n : Int32) (d_road : Nat → Int32) (p2 : Int32) (p3 : Int32) : Option (Int32) := ob1 (f_X2_near N d_n d_road p2) fun r2 => f_X10_bestFrom_17 N N v_liv v_best d_n d_road p3 (r2 ||| ((1 : Int32) <<< (p2 &&& 31))) (0 : Int32) (0 : Int32)
set_option maxHeartbeats 4000000 in
set_option maxRecDepth 100000 in
theorem k_X10_bestFrom (l : Launch) (N : Nat) (D : va_G) (cI cJ cZ cB cT : ClassId) (qv0 : Nat) (qv1 : Nat) (qv2 : Nat) (qd0 : Nat) (qd2 : Nat) (qv3 : Nat) (qv4 : Nat) (qv5 : Nat) (qd1 : Nat) (v_up : Int32) (v_low : Int32) (v_gone : Int32) (v_may : Int32) (v_must : Int32) (v_liv : Nat → Int32) (v_best : Nat → Int32) (d_n : Int32) (d_road : Nat → Int32) (p2 : Int32) (p3 : Int32) (o_r : Int32) (hf : f_X10_bestFrom N v_liv v_best d_n d_road p2 p3 = some o_r) : ∀ sz, Met l yX10_bestFrom (mw yX10_bestFrom cX10_bestFrom 7 (some .int)) ({ frames := 1, cells := 0, slots := 0, locals := 40 } : Room) (mPre D (mT cI cJ cZ cB cT) (W_WYL_0t2_6_8 qv0 qv1 qv2 qd0 qd2 qv3 qv4 qv5 qd1 cI cJ cZ cB cT v_up v_low v_gone v_may v_must v_liv v_best d_n d_road) sz [.ref qv0, .ref qd0, .int p2, .int p3]) ((mQi D (W_WYL_0t2_6_8 qv0 qv1 qv2 qd0 qd2 qv3 qv4 qv5 qd1 cI cJ cZ cB cT v_up v_low v_gone v_may v_must v_liv v_best d_n d_road) o_r True) (va_A (W_WYL_0t2_6_8 qv0 qv1 qv2 qd0 qd2 qv3 qv4 qv5 qd1 cI cJ cZ cB cT v_up v_low v_gone v_may v_must v_liv v_best d_n d_road) sz)) 0 0 (va_A (W_WYL_0t2_6_8 qv0 qv1 qv2 qd0 qd2 qv3 qv4 qv5 qd1 cI cJ cZ cB cT v_up v_low v_gone v_may v_must v_liv v_best d_n d_road) sz) := by
  refine mMet (Qc := (mQi D (W_WYL_0t2_6_8 qv0 qv1 qv2 qd0 qd2 qv3 qv4 qv5 qd1 cI cJ cZ cB cT v_up v_low v_gone v_may v_must v_liv v_best d_n d_road) o_r True)) (by decide) (Nat.le_of_ble_eq_true rfl) (fun p e s m below meth c A ls hx hb hr hml hts hown hlocks hK hA hP hD hl => ?_)
  have hown : s.vm.findClass RX10 = some m.cls := hown
  have hl : lv_has ls 7 [(0, .ref qv0), (1, .ref qd0), (2, .int p2), (3, .int p3)] := hl
  have hS : va_S A s.heap s.heap [] := va_S.rf
  have b17 : ∀ n17 : Nat, ∀ (x3 : Int32) (x4 : Int32) (x5 : Int32) (x6 : Int32) (H : Heap) (locs : List Loc) (ls : Array Slot), f_X10_bestFrom_17 N n17 v_liv v_best d_n d_road x3 x4 x5 x6 = some o_r → va_P D vwCl (W_WYL_0t2_6_8 qv0 qv1 qv2 qd0 qd2 qv3 qv4 qv5 qd1 cI cJ cZ cB cT v_up v_low v_gone v_may v_must v_liv v_best d_n d_road) H → va_D A (W_WYL_0t2_6_8 qv0 qv1 qv2 qd0 qd2 qv3 qv4 qv5 qd1 cI cJ cZ cB cT v_up v_low v_gone v_may v_must v_liv v_best d_n d_road) → va_S A s.heap H locs → lv_has ls 7 [(0, .ref qv0), (1, .ref qd0), (3, .int x3), (4, .int x4), (5, .int x5), (6, .int x6)] → W p l e ({ frames := 1, cells := 0, slots := 0, locals := 40 } : Room) s m ([.ref qv0, .ref qd0, .int p2, .int p3] : List Value).toArray below meth c H locs 0 0 (MQ below ((mQi D (W_WYL_0t2_6_8 qv0 qv1 qv2 qd0 qd2 qv3 qv4 qv5 qd1 cI cJ cZ cB cT v_up v_low v_gone v_may v_must v_liv v_best d_n d_road) o_r True) A) ([.ref qv0, .ref qd0, .int p2, .int p3] : List Value).toArray s 0 0 A) (F0 m 17 ls []) := by
    intro n17
    induction n17 with
    | zero =>
      intro x3 x4 x5 x6 H locs ls hf hP hD hS hl
      simp [f_X10_bestFrom_17] at hf
    | succ n17 ih17 =>
      have b68 : ∀ (x3 : Int32) (x4 : Int32) (x5 : Int32) (x6 : Int32) (H : Heap) (locs : List Loc) (ls : Array Slot), f_X10_bestFrom_68 N (f_X10_bestFrom_17 N n17) v_liv v_best d_n d_road x3 x4 x5 x6 = some o_r → va_P D vwCl (W_WYL_0t2_6_8 qv0 qv1 qv2 qd0 qd2 qv3 qv4 qv5 qd1 cI cJ cZ cB cT v_up v_low v_gone v_may v_must v_liv v_best d_n d_road) H → va_D A (W_WYL_0t2_6_8 qv0 qv1 qv2 qd0 qd2 qv3 qv4 qv5 qd1 cI cJ cZ cB cT v_up v_low v_gone v_may v_must v_liv v_best d_n d_road) → va_S A s.heap H locs → lv_has ls 7 [(0, .ref qv0), (1, .ref qd0), (3, .int x3), (4, .int x4), (5, .int x5), (6, .int x6)] → W p l e ({ frames := 1, cells := 0, slots := 0, locals := 40 } : Room) s m ([.ref qv0, .ref qd0, .int p2, .int p3] : List Value).toArray below meth c H locs 0 0 (MQ below ((mQi D (W_WYL_0t2_6_8 qv0 qv1 qv2 qd0 qd2 qv3 qv4 qv5 qd1 cI cJ cZ cB cT v_up v_low v_gone v_may v_must v_liv v_best d_n d_road) o_r True) A) ([.ref qv0, .ref qd0, .int p2, .int p3] : List Value).toArray s 0 0 A) (F0 m 68 ls []) := by
        intro x3 x4 x5 x6 H locs ls hf hP hD hS hl
        unfold f_X10_bestFrom_68 at hf
        refine lv_iinc (v := (x6 + (1 : Int32))) (lv' := [(6, .int (x6 + (1 : Int32))), (0, .ref qv0), (1, .ref qd0), (3, .int x3), (4, .int x4), (5, .int x5)]) hx hb dX10_bestFrom_68 hl (k := 5) rfl rfl (by decide) rfl (fun ls hl => ?_)
        refine lv_goto (tgt := 17) hx hb dX10_bestFrom_71 (by decide) ?_
        exact ih17 x3 x4 x5 (x6 + (1 : Int32)) _ _ _ hf hP hD hS (lv_sub hl [1, 2, 3, 4, 5, 0] rfl)
      intro x3 x4 x5 x6 H locs ls hf hP hD hS hl
      rw [f_X10_bestFrom_17.eq_2] at hf
      refine lv_iload hx hb dX10_bestFrom_17 (lv_at hl 5 rfl) ?_
      refine lv_aload_n hx hb dX10_bestFrom_19 rfl (lv_at hl 1 rfl) ?_
      refine gfX10_51 hx hb hts hown hK hP 3 rfl rfl dX10_bestFrom_20 ?_
      refine xicmp_ge hx hb 74 dX10_bestFrom_23 (by decide) hf (fun hf => ?_) (fun hf => ?_)
      · refine lv_iload hx hb dX10_bestFrom_74 (lv_at hl 4 rfl) ?_
        cases hf
        exact mret_i hx hb hr hlocks hP hD hS dX10_bestFrom_76 rfl trivial
      · refine lv_iload hx hb dX10_bestFrom_26 (lv_at hl 5 rfl) ?_
        refine lv_bipush (v := (8 : Int32)) hx hb dX10_bestFrom_28 (by decide) ?_
        refine xicmp_ge hx hb 74 dX10_bestFrom_30 (by decide) hf (fun hf => ?_) (fun hf => ?_)
        · refine lv_iload hx hb dX10_bestFrom_74 (lv_at hl 4 rfl) ?_
          cases hf
          exact mret_i hx hb hr hlocks hP hD hS dX10_bestFrom_76 rfl trivial
        · refine lv_iload hx hb dX10_bestFrom_33 (lv_at hl 3 rfl) ?_
          refine lv_iload hx hb dX10_bestFrom_35 (lv_at hl 5 rfl) ?_
          refine lv_ishr hx hb dX10_bestFrom_37 ?_
          refine lv_iconst (v := (1 : Int32)) hx hb dX10_bestFrom_38 (by decide) ?_
          refine lv_iand hx hb dX10_bestFrom_39 ?_
          refine lv_iconst (v := (1 : Int32)) hx hb dX10_bestFrom_40 (by decide) ?_
          refine xicmp_ne hx hb 68 dX10_bestFrom_41 (by decide) hf (fun hf => ?_) (fun hf => ?_)
          · refine lv_iload hx hb dX10_bestFrom_44 (lv_at hl 4 rfl) ?_
            refine lv_aload_n hx hb dX10_bestFrom_46 rfl (lv_at hl 0 rfl) ?_
            refine gfX10_29 hx hb hts hown hK hP 0 rfl rfl dX10_bestFrom_47 ?_
            refine lv_iload hx hb dX10_bestFrom_50 (lv_at hl 5 rfl) ?_
            refine xiald hx hb hK hP 1 0 rfl rfl dX10_bestFrom_52 hf (fun v52 hf => ?_)
            refine lv_aload_n hx hb dX10_bestFrom_53 rfl (lv_at hl 0 rfl) ?_
            refine lv_iload hx hb dX10_bestFrom_54 (lv_at hl 5 rfl) ?_
            refine lv_iload_n hx hb dX10_bestFrom_56 rfl (lv_at hl 2 rfl) ?_
            refine lv_iconst (v := (1 : Int32)) hx hb dX10_bestFrom_57 (by decide) ?_
            refine lv_isub hx hb dX10_bestFrom_58 ?_
            obtain ⟨r59, hg59, hf⟩ := ob1_some hf
            refine mcV_i (wr := [(qv1, .inl (cI, 8, .inl v_liv)), (qd0, .inr (2, [.int d_n, .ref qd1, .ref qd2])), (qd2, .inl (cI, 8, .inl d_road))]) (As := [.int x6, .int (x3 - (1 : Int32))]) (rest := [.int v52, .int x5]) hx hb hml hown hts hK hP hD hS hA (k_X10_bestAfter l N D cI cJ cZ cB cT qv0 qv2 qv1 qv3 qv4 qv5 v_up v_low v_gone v_may v_must v_best x6 (x3 - (1 : Int32)) r59 hg59) (kwX10_90 hts rfl rfl ⟨Nat.le_of_ble_eq_true rfl, Nat.le_of_ble_eq_true rfl⟩) [0, 2] [1, 3, 4] rfl rfl rfl (by decide) rfl 0 rfl rfl rfl rfl hl.1 rfl (Nat.le_of_ble_eq_true rfl) dX10_bestFrom_59 ⟨Nat.zero_le _, Nat.zero_le _⟩ (fun hB59 H locs hP hD hS => ?_)
            have hP := mP_sub (wc := (W_WYL_0t2_6_8 qv0 qv1 qv2 qd0 qd2 qv3 qv4 qv5 qd1 cI cJ cZ cB cT v_up v_low v_gone v_may v_must v_liv v_best d_n d_road)) hP [3, 0, 4, 1, 2] rfl
            have hD := hD.sub (ws' := (W_WYL_0t2_6_8 qv0 qv1 qv2 qd0 qd2 qv3 qv4 qv5 qd1 cI cJ cZ cB cT v_up v_low v_gone v_may v_must v_liv v_best d_n d_road)) [3, 0, 4, 1, 2] rfl rfl
            refine lv_imul hx hb dX10_bestFrom_62 ?_
            refine xmax hx hb hml hl.1 hown hts mtX10_93 (Nat.le_of_ble_eq_true rfl) (Nat.le_of_ble_eq_true rfl) ⟨Nat.zero_le _, Nat.zero_le _⟩ dX10_bestFrom_63 ?_
            refine lv_istore (lv' := [(5, .int (mxI x5 (v52 * r59))), (0, .ref qv0), (1, .ref qd0), (3, .int x3), (4, .int x4), (6, .int x6)]) hx hb dX10_bestFrom_66 hl (by decide) rfl (fun ls hl => ?_)
            exact b68 x3 x4 (mxI x5 (v52 * r59)) x6 _ _ _ hf hP hD hS (lv_sub hl [1, 2, 3, 4, 0, 5] rfl)
          · exact b68 x3 x4 x5 x6 _ _ _ hf hP hD hS (lv_sub hl [0, 1, 2, 3, 4, 5] rfl)
  unfold f_X10_bestFrom at hf
  refine lv_aload_n hx hb dX10_bestFrom_0 rfl (lv_at hl 1 rfl) ?_
  refine lv_iload_n hx hb dX10_bestFrom_1 rfl (lv_at hl 2 rfl) ?_
  obtain ⟨r2, hg2, hf⟩ := ob1_some hf
  refine mcV_i (wr := [(qv0, .inr (10, [.int v_up, .int v_low, .int v_gone, .int v_may, .int v_must, .ref qv1, .ref qv2, .ref qv3, .ref qv4, .ref qv5])), (qv1, .inl (cI, 8, .inl v_liv)), (qv2, .inl (cI, 56, .inl v_best))]) (As := [.int p2]) (rest := []) hx hb hml hown hts hK hP hD hS hA (k_X2_near l N D cI cJ cZ cB cT qd0 qd2 qd1 d_n d_road p2 r2 hg2) (kwX10_86 hts rfl rfl ⟨Nat.le_of_ble_eq_true rfl, Nat.le_of_ble_eq_true rfl⟩) [3, 4] [0, 1, 2] rfl rfl rfl (by decide) rfl 0 rfl rfl rfl rfl hl.1 rfl (Nat.le_of_ble_eq_true rfl) dX10_bestFrom_2 ⟨Nat.zero_le _, Nat.zero_le _⟩ (fun hB2 H locs hP hD hS => ?_)
  have hP := mP_sub (wc := (W_WYL_0t2_6_8 qv0 qv1 qv2 qd0 qd2 qv3 qv4 qv5 qd1 cI cJ cZ cB cT v_up v_low v_gone v_may v_must v_liv v_best d_n d_road)) hP [0, 1, 2, 3, 4] rfl
  have hD := hD.sub (ws' := (W_WYL_0t2_6_8 qv0 qv1 qv2 qd0 qd2 qv3 qv4 qv5 qd1 cI cJ cZ cB cT v_up v_low v_gone v_may v_must v_liv v_best d_n d_road)) [0, 1, 2, 3, 4] rfl rfl
  refine lv_iconst (v := (1 : Int32)) hx hb dX10_bestFrom_5 (by decide) ?_
  refine lv_iload_n hx hb dX10_bestFrom_6 rfl (lv_at hl 2 rfl) ?_
  refine lv_ishl hx hb dX10_bestFrom_7 ?_
  refine lv_ior hx hb dX10_bestFrom_8 ?_
  refine lv_istore (lv' := [(4, .int (r2 ||| ((1 : Int32) <<< (p2 &&& 31)))), (0, .ref qv0), (1, .ref qd0), (2, .int p2), (3, .int p3)]) hx hb dX10_bestFrom_9 hl (by decide) rfl (fun ls hl => ?_)
  refine lv_iconst (v := (0 : Int32)) hx hb dX10_bestFrom_11 (by decide) ?_
  refine lv_istore (lv' := [(5, .int (0 : Int32)), (4, .int (r2 ||| ((1 : Int32) <<< (p2 &&& 31)))), (0, .ref qv0), (1, .ref qd0), (2, .int p2), (3, .int p3)]) hx hb dX10_bestFrom_12 hl (by decide) rfl (fun ls hl => ?_)
  refine lv_iconst (v := (0 : Int32)) hx hb dX10_bestFrom_14 (by decide) ?_
  refine lv_istore (lv' := [(6, .int (0 : Int32)), (5, .int (0 : Int32)), (4, .int (r2 ||| ((1 : Int32) <<< (p2 &&& 31)))), (0, .ref qv0), (1, .ref qd0), (2, .int p2), (3, .int p3)]) hx hb dX10_bestFrom_15 hl (by decide) rfl (fun ls hl => ?_)
  exact b17 N p3 (r2 ||| ((1 : Int32) <<< (p2 &&& 31))) (0 : Int32) (0 : Int32) _ _ _ hf hP hD hS (lv_sub hl [3, 4, 6, 2, 1, 0] rfl)
theorem dX10_follow_0 : decode cX10_follow 0 = .ok (.iload_n 2, 1) := by decide +kernel
theorem dX10_follow_1 : decode cX10_follow 1 = .ok (.istore 4, 2) := by decide +kernel
theorem dX10_follow_3 : decode cX10_follow 3 = .ok (.iconst 1, 1) := by decide +kernel
theorem dX10_follow_4 : decode cX10_follow 4 = .ok (.istore 5, 2) := by decide +kernel
theorem dX10_follow_6 : decode cX10_follow 6 = .ok (.iconst 0, 1) := by decide +kernel
theorem dX10_follow_7 : decode cX10_follow 7 = .ok (.istore 6, 2) := by decide +kernel
theorem dX10_follow_9 : decode cX10_follow 9 = .ok (.iload 6, 2) := by decide +kernel
theorem dX10_follow_11 : decode cX10_follow 11 = .ok (.iload_n 3, 1) := by decide +kernel
theorem dX10_follow_12 : decode cX10_follow 12 = .ok (.if_icmp .ge 151, 3) := by decide +kernel
theorem dX10_follow_15 : decode cX10_follow 15 = .ok (.iload 6, 2) := by decide +kernel
theorem dX10_follow_17 : decode cX10_follow 17 = .ok (.bipush 6, 2) := by decide +kernel
theorem dX10_follow_19 : decode cX10_follow 19 = .ok (.if_icmp .ge 144, 3) := by decide +kernel
theorem dX10_follow_22 : decode cX10_follow 22 = .ok (.aload_n 1, 1) := by decide +kernel
theorem dX10_follow_23 : decode cX10_follow 23 = .ok (.iload 4, 2) := by decide +kernel
theorem dX10_follow_25 : decode cX10_follow 25 = .ok (.invokevirtual 86, 3) := by decide +kernel
theorem dX10_follow_28 : decode cX10_follow 28 = .ok (.iconst 1, 1) := by decide +kernel
theorem dX10_follow_29 : decode cX10_follow 29 = .ok (.iload 4, 2) := by decide +kernel
theorem dX10_follow_31 : decode cX10_follow 31 = .ok (.ishl, 1) := by decide +kernel
theorem dX10_follow_32 : decode cX10_follow 32 = .ok (.ior, 1) := by decide +kernel
theorem dX10_follow_33 : decode cX10_follow 33 = .ok (.istore 7, 2) := by decide +kernel
theorem dX10_follow_35 : decode cX10_follow 35 = .ok (.iconst 0, 1) := by decide +kernel
theorem dX10_follow_36 : decode cX10_follow 36 = .ok (.istore 8, 2) := by decide +kernel
theorem dX10_follow_38 : decode cX10_follow 38 = .ok (.iload 8, 2) := by decide +kernel
theorem dX10_follow_40 : decode cX10_follow 40 = .ok (.aload_n 1, 1) := by decide +kernel
theorem dX10_follow_41 : decode cX10_follow 41 = .ok (.getfield 51, 3) := by decide +kernel
theorem dX10_follow_44 : decode cX10_follow 44 = .ok (.if_icmp .ge 76, 3) := by decide +kernel
theorem dX10_follow_47 : decode cX10_follow 47 = .ok (.iload 8, 2) := by decide +kernel
theorem dX10_follow_49 : decode cX10_follow 49 = .ok (.bipush 8, 2) := by decide +kernel
theorem dX10_follow_51 : decode cX10_follow 51 = .ok (.if_icmp .ge 69, 3) := by decide +kernel
theorem dX10_follow_54 : decode cX10_follow 54 = .ok (.iload 7, 2) := by decide +kernel
theorem dX10_follow_56 : decode cX10_follow 56 = .ok (.iload 8, 2) := by decide +kernel
theorem dX10_follow_58 : decode cX10_follow 58 = .ok (.ishr, 1) := by decide +kernel
theorem dX10_follow_59 : decode cX10_follow 59 = .ok (.iconst 1, 1) := by decide +kernel
theorem dX10_follow_60 : decode cX10_follow 60 = .ok (.iand, 1) := by decide +kernel
theorem dX10_follow_61 : decode cX10_follow 61 = .ok (.iconst 1, 1) := by decide +kernel
theorem dX10_follow_62 : decode cX10_follow 62 = .ok (.if_icmp .ne 7, 3) := by decide +kernel
theorem dX10_follow_65 : decode cX10_follow 65 = .ok (.iconst 1, 1) := by decide +kernel
theorem dX10_follow_66 : decode cX10_follow 66 = .ok (.goto 4, 3) := by decide +kernel
theorem dX10_follow_69 : decode cX10_follow 69 = .ok (.iconst 0, 1) := by decide +kernel
theorem dX10_follow_70 : decode cX10_follow 70 = .ok (.istore 9, 2) := by decide +kernel
theorem dX10_follow_72 : decode cX10_follow 72 = .ok (.iload 9, 2) := by decide +kernel
theorem dX10_follow_74 : decode cX10_follow 74 = .ok (.ifCond .eq 40, 3) := by decide +kernel
theorem dX10_follow_77 : decode cX10_follow 77 = .ok (.iload 5, 2) := by decide +kernel
theorem dX10_follow_79 : decode cX10_follow 79 = .ok (.aload_n 0, 1) := by decide +kernel
theorem dX10_follow_80 : decode cX10_follow 80 = .ok (.getfield 29, 3) := by decide +kernel
theorem dX10_follow_83 : decode cX10_follow 83 = .ok (.iload 8, 2) := by decide +kernel
theorem dX10_follow_85 : decode cX10_follow 85 = .ok (.iaload, 1) := by decide +kernel
theorem dX10_follow_86 : decode cX10_follow 86 = .ok (.imul, 1) := by decide +kernel
theorem dX10_follow_87 : decode cX10_follow 87 = .ok (.aload_n 0, 1) := by decide +kernel
theorem dX10_follow_88 : decode cX10_follow 88 = .ok (.iload 8, 2) := by decide +kernel
theorem dX10_follow_90 : decode cX10_follow 90 = .ok (.iload_n 3, 1) := by decide +kernel
theorem dX10_follow_91 : decode cX10_follow 91 = .ok (.iconst 1, 1) := by decide +kernel
theorem dX10_follow_92 : decode cX10_follow 92 = .ok (.isub, 1) := by decide +kernel
theorem dX10_follow_93 : decode cX10_follow 93 = .ok (.iload 6, 2) := by decide +kernel
theorem dX10_follow_95 : decode cX10_follow 95 = .ok (.isub, 1) := by decide +kernel
theorem dX10_follow_96 : decode cX10_follow 96 = .ok (.invokevirtual 90, 3) := by decide +kernel
theorem dX10_follow_99 : decode cX10_follow 99 = .ok (.imul, 1) := by decide +kernel
theorem dX10_follow_100 : decode cX10_follow 100 = .ok (.aload_n 0, 1) := by decide +kernel
theorem dX10_follow_101 : decode cX10_follow 101 = .ok (.getfield 13, 3) := by decide +kernel
theorem dX10_follow_104 : decode cX10_follow 104 = .ok (.if_icmp .ne 10, 3) := by decide +kernel
theorem dX10_follow_107 : decode cX10_follow 107 = .ok (.iload 8, 2) := by decide +kernel
theorem dX10_follow_109 : decode cX10_follow 109 = .ok (.istore 4, 2) := by decide +kernel
theorem dX10_follow_111 : decode cX10_follow 111 = .ok (.goto 9, 3) := by decide +kernel
theorem dX10_follow_114 : decode cX10_follow 114 = .ok (.iinc 8 1, 3) := by decide +kernel
theorem dX10_follow_117 : decode cX10_follow 117 = .ok (.goto (-79), 3) := by decide +kernel
theorem dX10_follow_120 : decode cX10_follow 120 = .ok (.aload_n 0, 1) := by decide +kernel
theorem dX10_follow_121 : decode cX10_follow 121 = .ok (.getfield 36, 3) := by decide +kernel
theorem dX10_follow_124 : decode cX10_follow 124 = .ok (.iload 6, 2) := by decide +kernel
theorem dX10_follow_126 : decode cX10_follow 126 = .ok (.iload 4, 2) := by decide +kernel
theorem dX10_follow_128 : decode cX10_follow 128 = .ok (.iastore, 1) := by decide +kernel
theorem dX10_follow_129 : decode cX10_follow 129 = .ok (.iload 5, 2) := by decide +kernel
theorem dX10_follow_131 : decode cX10_follow 131 = .ok (.iload 4, 2) := by decide +kernel
theorem dX10_follow_133 : decode cX10_follow 133 = .ok (.ifCond .lt 20, 3) := by decide +kernel
theorem dX10_follow_136 : decode cX10_follow 136 = .ok (.iload 4, 2) := by decide +kernel
theorem dX10_follow_138 : decode cX10_follow 138 = .ok (.bipush 8, 2) := by decide +kernel
theorem dX10_follow_140 : decode cX10_follow 140 = .ok (.if_icmp .ge 13, 3) := by decide +kernel
theorem dX10_follow_143 : decode cX10_follow 143 = .ok (.aload_n 0, 1) := by decide +kernel
theorem dX10_follow_144 : decode cX10_follow 144 = .ok (.getfield 29, 3) := by decide +kernel
theorem dX10_follow_147 : decode cX10_follow 147 = .ok (.iload 4, 2) := by decide +kernel
theorem dX10_follow_149 : decode cX10_follow 149 = .ok (.iaload, 1) := by decide +kernel
theorem dX10_follow_150 : decode cX10_follow 150 = .ok (.goto 4, 3) := by decide +kernel
theorem dX10_follow_153 : decode cX10_follow 153 = .ok (.iconst 0, 1) := by decide +kernel
theorem dX10_follow_154 : decode cX10_follow 154 = .ok (.imul, 1) := by decide +kernel
theorem dX10_follow_155 : decode cX10_follow 155 = .ok (.istore 5, 2) := by decide +kernel
theorem dX10_follow_157 : decode cX10_follow 157 = .ok (.iinc 6 1, 3) := by decide +kernel
theorem dX10_follow_160 : decode cX10_follow 160 = .ok (.goto (-151), 3) := by decide +kernel
theorem dX10_follow_163 : decode cX10_follow 163 = .ok (.return_, 1) := by decide +kernel
def f_X10_follow_154 (N : Nat) (k_9 : Int32 → (Nat → Int32) → (Nat → Int32) → (Nat → Int32) → Int32 → (Nat → Int32) → Int32 → Int32 → Int32 → Int32 → Option ((Nat → Int32))) (v_up : Int32) (v_liv : Nat → Int32) (v_best : Nat → Int32) (v_way : Nat → Int32) (d_n : Int32) (d_road : Nat → Int32) (x3 : Int32) (x4 : Int32) (x6 : Int32) (s0 : Int32) (s1 : Int32) : Option ((Nat → Int32)) := k_9 v_up v_liv v_best v_way d_n d_road x3 x4 (s0 * s1) (x6 + (1 : Int32))
def f_X10_follow_153 (N : Nat) (k_9 : Int32 → (Nat → Int32) → (Nat → Int32) → (Nat → Int32) → Int32 → (Nat → Int32) → Int32 → Int32 → Int32 → Int32 → Option ((Nat → Int32))) (v_up : Int32) (v_liv : Nat → Int32) (v_best : Nat → Int32) (v_way : Nat → Int32) (d_n : Int32) (d_road : Nat → Int32) (x3 : Int32) (x4 : Int32) (x6 : Int32) (s0 : Int32) : Option ((Nat → Int32)) := f_X10_follow_154 N k_9 v_up v_liv v_best v_way d_n d_road x3 x4 x6 s0 (0 : Int32)
def f_X10_follow_120 (N : Nat) (k_9 : Int32 → (Nat → Int32) → (Nat → Int32) → (Nat → Int32) → Int32 → (Nat → Int32) → Int32 → Int32 → Int32 → Int32 → Option ((Nat → Int32))) (v_up : Int32) (v_liv : Nat → Int32) (v_best : Nat → Int32) (v_way : Nat → Int32) (d_n : Int32) (d_road : Nat → Int32) (x3 : Int32) (x4 : Int32) (x5 : Int32) (x6 : Int32) : Option ((Nat → Int32)) := sA v_way 6 x6 x4 fun v_way_128 => if x4 < 0 then (f_X10_follow_153 N k_9 v_up v_liv v_best v_way_128 d_n d_road x3 x4 x6 x5) else (if (8 : Int32) ≤ x4 then (f_X10_follow_153 N k_9 v_up v_liv v_best v_way_128 d_n d_road x3 x4 x6 x5) else (gA v_liv 8 x4 fun v149 => f_X10_follow_154 N k_9 v_up v_liv v_best v_way_128 d_n d_road x3 x4 x6 x5 v149))
def f_X10_follow_114 (N : Nat) (k_38 : Int32 → (Nat → Int32) → (Nat → Int32) → (Nat → Int32) → Int32 → (Nat → Int32) → Int32 → Int32 → Int32 → Int32 → Int32 → Int32 → Option ((Nat → Int32))) (k_9 : Int32 → (Nat → Int32) → (Nat → Int32) → (Nat → Int32) → Int32 → (Nat → Int32) → Int32 → Int32 → Int32 → Int32 → Option ((Nat → Int32))) (v_up : Int32) (v_liv : Nat → Int32) (v_best : Nat → Int32) (v_way : Nat → Int32) (d_n : Int32) (d_road : Nat → Int32) (x3 : Int32) (x4 : Int32) (x5 : Int32) (x6 : Int32) (x7 : Int32) (x8 : Int32) : Option ((Nat → Int32)) := k_38 v_up v_liv v_best v_way d_n d_road x3 x4 x5 x6 x7 (x8 + (1 : Int32))
def f_X10_follow_70 (N : Nat) (k_38 : Int32 → (Nat → Int32) → (Nat → Int32) → (Nat → Int32) → Int32 → (Nat → Int32) → Int32 → Int32 → Int32 → Int32 → Int32 → Int32 → Option ((Nat → Int32))) (k_9 : Int32 → (Nat → Int32) → (Nat → Int32) → (Nat → Int32) → Int32 → (Nat → Int32) → Int32 → Int32 → Int32 → Int32 → Option ((Nat → Int32))) (v_up : Int32) (v_liv : Nat → Int32) (v_best : Nat → Int32) (v_way : Nat → Int32) (d_n : Int32) (d_road : Nat → Int32) (x3 : Int32) (x4 : Int32) (x5 : Int32) (x6 : Int32) (x7 : Int32) (x8 : Int32) (s0 : Int32) : Option ((Nat → Int32)) := if s0 = 0 then (f_X10_follow_114 N k_38 k_9 v_up v_liv v_best v_way d_n d_road x3 x4 x5 x6 x7 x8) else (gA v_liv 8 x8 fun v85 => ob1 (f_X10_bestAfter N v_best x8 ((x3 - (1 : Int32)) - x6)) fun r96 => if ((x5 * v85) * r96) = v_up then (f_X10_follow_120 N k_9 v_up v_liv v_best v_way d_n d_road x3 x8 x5 x6) else (f_X10_follow_114 N k_38 k_9 v_up v_liv v_best v_way d_n d_road x3 x4 x5 x6 x7 x8))
def f_X10_follow_38 (N : Nat) (k_9 : Int32 → (Nat → Int32) → (Nat → Int32) → (Nat → Int32) → Int32 → (Nat → Int32) → Int32 → Int32 → Int32 → Int32 → Option ((Nat → Int32))) : Nat → Int32 → (Nat → Int32) → (Nat → Int32) → (Nat → Int32) → Int32 → (Nat → Int32) → Int32 → Int32 → Int32 → Int32 → Int32 → Int32 → Option ((Nat → Int32))
  | 0, _, _, _, _, _, _, _, _, _, _, _, _ => none
  | n + 1, v_up, v_liv, v_best, v_way, d_n, d_road, x3, x4, x5, x6, x7, x8 => if d_n ≤ x8 then (f_X10_follow_120 N k_9 v_up v_liv v_best v_way d_n d_road x3 x4 x5 x6) else (if (8 : Int32) ≤ x8 then (f_X10_follow_120 N k_9 v_up v_liv v_best v_way d_n d_road x3 x4 x5 x6) else (if ((x7 >>> (x8 &&& 31)) &&& (1 : Int32)) = (1 : Int32) then (f_X10_follow_70 N (f_X10_follow_38 N k_9 n) k_9 v_up v_liv v_best v_way d_n d_road x3 x4 x5 x6 x7 x8 (1 : Int32)) else (f_X10_follow_70 N (f_X10_follow_38 N k_9 n) k_9 v_up v_liv v_best v_way d_n d_road x3 x4 x5 x6 x7 x8 (0 : Int32))))
def f_X10_follow_9 (N : Nat) : Nat → Int32 → (Nat → Int32) → (Nat → Int32) → (Nat → Int32) → Int32 → (Nat → Int32) → Int32 → Int32 → Int32 → Int32 → Option ((Nat → Int32))
  | 0, _, _, _, _, _, _, _, _, _, _ => none
  | n + 1, v_up, v_liv, v_best, v_way, d_n, d_road, x3, x4, x5, x6 => if x3 ≤ x6 then (some v_way) else (if (6 : Int32) ≤ x6 then (some v_way) else (ob1 (f_X2_near N d_n d_road x4) fun r25 => f_X10_follow_38 N (f_X10_follow_9 N n) N v_up v_liv v_best v_way d_n d_road x3 x4 x5 x6 (r25 ||| ((1 : Int32) <<< (x4 &&& 31))) (0 : Int32)))
def f_X10_follow (N : Nat) (v_up : Int32) (v_liv : Nat → Int32) (v_best : Nat → Int32) (v_way : Nat → Int32) (d_n : Int32) (d_road : Nat → Int32) (p2 : Int32) (p3 : Int32) : Option ((Nat → Int32)) := f_X10_follow_9 N N v_up v_liv v_best v_way d_n d_road p3 p2 (1 : Int32) (0 : Int32)
set_option maxHeartbeats 4000000 in
set_option maxRecDepth 100000 in
theorem k_X10_follow (l : Launch) (N : Nat) (D : va_G) (cI cJ cZ cB cT : ClassId) (qv0 : Nat) (qv1 : Nat) (qv2 : Nat) (qv3 : Nat) (qd0 : Nat) (qd2 : Nat) (qv4 : Nat) (qv5 : Nat) (qd1 : Nat) (v_up : Int32) (v_low : Int32) (v_gone : Int32) (v_may : Int32) (v_must : Int32) (v_liv : Nat → Int32) (v_best : Nat → Int32) (v_way : Nat → Int32) (d_n : Int32) (d_road : Nat → Int32) (p2 : Int32) (p3 : Int32) (o_v_way : Nat → Int32) (hf : f_X10_follow N v_up v_liv v_best v_way d_n d_road p2 p3 = some o_v_way) : ∀ sz, Met l yX10_follow (mw yX10_follow cX10_follow 10 none) ({ frames := 1, cells := 0, slots := 0, locals := 23 } : Room) (mPre D (mT cI cJ cZ cB cT) (W_WYL_0t3_6_8 qv0 qv1 qv2 qv3 qd0 qd2 qv4 qv5 qd1 cI cJ cZ cB cT v_up v_low v_gone v_may v_must v_liv v_best v_way d_n d_road) sz [.ref qv0, .ref qd0, .int p2, .int p3]) ((mQv D (W_WYL_0t3_6_8 qv0 qv1 qv2 qv3 qd0 qd2 qv4 qv5 qd1 cI cJ cZ cB cT v_up v_low v_gone v_may v_must v_liv v_best o_v_way d_n d_road)) (va_A (W_WYL_0t3_6_8 qv0 qv1 qv2 qv3 qd0 qd2 qv4 qv5 qd1 cI cJ cZ cB cT v_up v_low v_gone v_may v_must v_liv v_best v_way d_n d_road) sz)) 0 0 (va_A (W_WYL_0t3_6_8 qv0 qv1 qv2 qv3 qd0 qd2 qv4 qv5 qd1 cI cJ cZ cB cT v_up v_low v_gone v_may v_must v_liv v_best v_way d_n d_road) sz) := by
  refine mMet (Qc := (mQv D (W_WYL_0t3_6_8 qv0 qv1 qv2 qv3 qd0 qd2 qv4 qv5 qd1 cI cJ cZ cB cT v_up v_low v_gone v_may v_must v_liv v_best o_v_way d_n d_road))) (by decide) (Nat.le_of_ble_eq_true rfl) (fun p e s m below meth c A ls hx hb hr hml hts hown hlocks hK hA hP hD hl => ?_)
  have hown : s.vm.findClass RX10 = some m.cls := hown
  have hl : lv_has ls 10 [(0, .ref qv0), (1, .ref qd0), (2, .int p2), (3, .int p3)] := hl
  have hS : va_S A s.heap s.heap [] := va_S.rf
  have b9 : ∀ n9 : Nat, ∀ (v_way : Nat → Int32) (x3 : Int32) (x4 : Int32) (x5 : Int32) (x6 : Int32) (H : Heap) (locs : List Loc) (ls : Array Slot), f_X10_follow_9 N n9 v_up v_liv v_best v_way d_n d_road x3 x4 x5 x6 = some o_v_way → va_P D vwCl (W_WYL_0t3_6_8 qv0 qv1 qv2 qv3 qd0 qd2 qv4 qv5 qd1 cI cJ cZ cB cT v_up v_low v_gone v_may v_must v_liv v_best v_way d_n d_road) H → va_D A (W_WYL_0t3_6_8 qv0 qv1 qv2 qv3 qd0 qd2 qv4 qv5 qd1 cI cJ cZ cB cT v_up v_low v_gone v_may v_must v_liv v_best v_way d_n d_road) → va_S A s.heap H locs → lv_has ls 10 [(0, .ref qv0), (1, .ref qd0), (3, .int x3), (4, .int x4), (5, .int x5), (6, .int x6)] → W p l e ({ frames := 1, cells := 0, slots := 0, locals := 23 } : Room) s m ([.ref qv0, .ref qd0, .int p2, .int p3] : List Value).toArray below meth c H locs 0 0 (MQ below ((mQv D (W_WYL_0t3_6_8 qv0 qv1 qv2 qv3 qd0 qd2 qv4 qv5 qd1 cI cJ cZ cB cT v_up v_low v_gone v_may v_must v_liv v_best o_v_way d_n d_road)) A) ([.ref qv0, .ref qd0, .int p2, .int p3] : List Value).toArray s 0 0 A) (F0 m 9 ls []) := by
    intro n9
    induction n9 with
    | zero =>
      intro v_way x3 x4 x5 x6 H locs ls hf hP hD hS hl
      simp [f_X10_follow_9] at hf
    | succ n9 ih9 =>
      have b154 : ∀ (v_way : Nat → Int32) (x3 : Int32) (x4 : Int32) (x6 : Int32) (s0 : Int32) (s1 : Int32) (H : Heap) (locs : List Loc) (ls : Array Slot), f_X10_follow_154 N (f_X10_follow_9 N n9) v_up v_liv v_best v_way d_n d_road x3 x4 x6 s0 s1 = some o_v_way → va_P D vwCl (W_WYL_0t3_6_8 qv0 qv1 qv2 qv3 qd0 qd2 qv4 qv5 qd1 cI cJ cZ cB cT v_up v_low v_gone v_may v_must v_liv v_best v_way d_n d_road) H → va_D A (W_WYL_0t3_6_8 qv0 qv1 qv2 qv3 qd0 qd2 qv4 qv5 qd1 cI cJ cZ cB cT v_up v_low v_gone v_may v_must v_liv v_best v_way d_n d_road) → va_S A s.heap H locs → lv_has ls 10 [(0, .ref qv0), (1, .ref qd0), (3, .int x3), (4, .int x4), (6, .int x6)] → W p l e ({ frames := 1, cells := 0, slots := 0, locals := 23 } : Room) s m ([.ref qv0, .ref qd0, .int p2, .int p3] : List Value).toArray below meth c H locs 0 0 (MQ below ((mQv D (W_WYL_0t3_6_8 qv0 qv1 qv2 qv3 qd0 qd2 qv4 qv5 qd1 cI cJ cZ cB cT v_up v_low v_gone v_may v_must v_liv v_best o_v_way d_n d_road)) A) ([.ref qv0, .ref qd0, .int p2, .int p3] : List Value).toArray s 0 0 A) (F0 m 154 ls [.int s1, .int s0]) := by
        intro v_way x3 x4 x6 s0 s1 H locs ls hf hP hD hS hl
        unfold f_X10_follow_154 at hf
        refine lv_imul hx hb dX10_follow_154 ?_
        refine lv_istore (lv' := [(5, .int (s0 * s1)), (0, .ref qv0), (1, .ref qd0), (3, .int x3), (4, .int x4), (6, .int x6)]) hx hb dX10_follow_155 hl (by decide) rfl (fun ls hl => ?_)
        refine lv_iinc (v := (x6 + (1 : Int32))) (lv' := [(6, .int (x6 + (1 : Int32))), (5, .int (s0 * s1)), (0, .ref qv0), (1, .ref qd0), (3, .int x3), (4, .int x4)]) hx hb dX10_follow_157 hl (k := 5) rfl rfl (by decide) rfl (fun ls hl => ?_)
        refine lv_goto (tgt := 9) hx hb dX10_follow_160 (by decide) ?_
        exact ih9 v_way x3 x4 (s0 * s1) (x6 + (1 : Int32)) _ _ _ hf hP hD hS (lv_sub hl [2, 3, 4, 5, 1, 0] rfl)
      have b153 : ∀ (v_way : Nat → Int32) (x3 : Int32) (x4 : Int32) (x6 : Int32) (s0 : Int32) (H : Heap) (locs : List Loc) (ls : Array Slot), f_X10_follow_153 N (f_X10_follow_9 N n9) v_up v_liv v_best v_way d_n d_road x3 x4 x6 s0 = some o_v_way → va_P D vwCl (W_WYL_0t3_6_8 qv0 qv1 qv2 qv3 qd0 qd2 qv4 qv5 qd1 cI cJ cZ cB cT v_up v_low v_gone v_may v_must v_liv v_best v_way d_n d_road) H → va_D A (W_WYL_0t3_6_8 qv0 qv1 qv2 qv3 qd0 qd2 qv4 qv5 qd1 cI cJ cZ cB cT v_up v_low v_gone v_may v_must v_liv v_best v_way d_n d_road) → va_S A s.heap H locs → lv_has ls 10 [(0, .ref qv0), (1, .ref qd0), (3, .int x3), (4, .int x4), (6, .int x6)] → W p l e ({ frames := 1, cells := 0, slots := 0, locals := 23 } : Room) s m ([.ref qv0, .ref qd0, .int p2, .int p3] : List Value).toArray below meth c H locs 0 0 (MQ below ((mQv D (W_WYL_0t3_6_8 qv0 qv1 qv2 qv3 qd0 qd2 qv4 qv5 qd1 cI cJ cZ cB cT v_up v_low v_gone v_may v_must v_liv v_best o_v_way d_n d_road)) A) ([.ref qv0, .ref qd0, .int p2, .int p3] : List Value).toArray s 0 0 A) (F0 m 153 ls [.int s0]) := by
        intro v_way x3 x4 x6 s0 H locs ls hf hP hD hS hl
        unfold f_X10_follow_153 at hf
        refine lv_iconst (v := (0 : Int32)) hx hb dX10_follow_153 (by decide) ?_
        exact b154 v_way x3 x4 x6 s0 (0 : Int32) _ _ _ hf hP hD hS (lv_sub hl [0, 1, 2, 3, 4] rfl)
      have b120 : ∀ (v_way : Nat → Int32) (x3 : Int32) (x4 : Int32) (x5 : Int32) (x6 : Int32) (H : Heap) (locs : List Loc) (ls : Array Slot), f_X10_follow_120 N (f_X10_follow_9 N n9) v_up v_liv v_best v_way d_n d_road x3 x4 x5 x6 = some o_v_way → va_P D vwCl (W_WYL_0t3_6_8 qv0 qv1 qv2 qv3 qd0 qd2 qv4 qv5 qd1 cI cJ cZ cB cT v_up v_low v_gone v_may v_must v_liv v_best v_way d_n d_road) H → va_D A (W_WYL_0t3_6_8 qv0 qv1 qv2 qv3 qd0 qd2 qv4 qv5 qd1 cI cJ cZ cB cT v_up v_low v_gone v_may v_must v_liv v_best v_way d_n d_road) → va_S A s.heap H locs → lv_has ls 10 [(0, .ref qv0), (1, .ref qd0), (3, .int x3), (4, .int x4), (5, .int x5), (6, .int x6)] → W p l e ({ frames := 1, cells := 0, slots := 0, locals := 23 } : Room) s m ([.ref qv0, .ref qd0, .int p2, .int p3] : List Value).toArray below meth c H locs 0 0 (MQ below ((mQv D (W_WYL_0t3_6_8 qv0 qv1 qv2 qv3 qd0 qd2 qv4 qv5 qd1 cI cJ cZ cB cT v_up v_low v_gone v_may v_must v_liv v_best o_v_way d_n d_road)) A) ([.ref qv0, .ref qd0, .int p2, .int p3] : List Value).toArray s 0 0 A) (F0 m 120 ls []) := by
        intro v_way x3 x4 x5 x6 H locs ls hf hP hD hS hl
        unfold f_X10_follow_120 at hf
        refine lv_aload_n hx hb dX10_follow_120 rfl (lv_at hl 0 rfl) ?_
        refine gfX10_36 hx hb hts hown hK hP 0 rfl rfl dX10_follow_121 ?_
        refine lv_iload hx hb dX10_follow_124 (lv_at hl 5 rfl) ?_
        refine lv_iload hx hb dX10_follow_126 (lv_at hl 3 rfl) ?_
        refine xiast hx hb hK hP hD hS 3 0 rfl rfl dX10_follow_128 hf (fun v_way_128 hf H locs hP hD hS => ?_)
        have hP : va_P D vwCl (W_WYL_0t3_6_8 qv0 qv1 qv2 qv3 qd0 qd2 qv4 qv5 qd1 cI cJ cZ cB cT v_up v_low v_gone v_may v_must v_liv v_best v_way_128 d_n d_road) H := hP
        have hD : va_D A (W_WYL_0t3_6_8 qv0 qv1 qv2 qv3 qd0 qd2 qv4 qv5 qd1 cI cJ cZ cB cT v_up v_low v_gone v_may v_must v_liv v_best v_way_128 d_n d_road) := hD
        refine lv_iload hx hb dX10_follow_129 (lv_at hl 4 rfl) ?_
        refine lv_iload hx hb dX10_follow_131 (lv_at hl 3 rfl) ?_
        refine xif_lt hx hb 153 dX10_follow_133 (by decide) hf (fun hf => ?_) (fun hf => ?_)
        · exact b153 v_way_128 x3 x4 x6 x5 _ _ _ hf hP hD hS (lv_sub hl [0, 1, 2, 3, 5] rfl)
        · refine lv_iload hx hb dX10_follow_136 (lv_at hl 3 rfl) ?_
          refine lv_bipush (v := (8 : Int32)) hx hb dX10_follow_138 (by decide) ?_
          refine xicmp_ge hx hb 153 dX10_follow_140 (by decide) hf (fun hf => ?_) (fun hf => ?_)
          · exact b153 v_way_128 x3 x4 x6 x5 _ _ _ hf hP hD hS (lv_sub hl [0, 1, 2, 3, 5] rfl)
          · refine lv_aload_n hx hb dX10_follow_143 rfl (lv_at hl 0 rfl) ?_
            refine gfX10_29 hx hb hts hown hK hP 0 rfl rfl dX10_follow_144 ?_
            refine lv_iload hx hb dX10_follow_147 (lv_at hl 3 rfl) ?_
            refine xiald hx hb hK hP 1 0 rfl rfl dX10_follow_149 hf (fun v149 hf => ?_)
            refine lv_goto (tgt := 154) hx hb dX10_follow_150 (by decide) ?_
            exact b154 v_way_128 x3 x4 x6 x5 v149 _ _ _ hf hP hD hS (lv_sub hl [0, 1, 2, 3, 5] rfl)
      have b38 : ∀ n38 : Nat, ∀ (v_way : Nat → Int32) (x3 : Int32) (x4 : Int32) (x5 : Int32) (x6 : Int32) (x7 : Int32) (x8 : Int32) (H : Heap) (locs : List Loc) (ls : Array Slot), f_X10_follow_38 N (f_X10_follow_9 N n9) n38 v_up v_liv v_best v_way d_n d_road x3 x4 x5 x6 x7 x8 = some o_v_way → va_P D vwCl (W_WYL_0t3_6_8 qv0 qv1 qv2 qv3 qd0 qd2 qv4 qv5 qd1 cI cJ cZ cB cT v_up v_low v_gone v_may v_must v_liv v_best v_way d_n d_road) H → va_D A (W_WYL_0t3_6_8 qv0 qv1 qv2 qv3 qd0 qd2 qv4 qv5 qd1 cI cJ cZ cB cT v_up v_low v_gone v_may v_must v_liv v_best v_way d_n d_road) → va_S A s.heap H locs → lv_has ls 10 [(0, .ref qv0), (1, .ref qd0), (3, .int x3), (4, .int x4), (5, .int x5), (6, .int x6), (7, .int x7), (8, .int x8)] → W p l e ({ frames := 1, cells := 0, slots := 0, locals := 23 } : Room) s m ([.ref qv0, .ref qd0, .int p2, .int p3] : List Value).toArray below meth c H locs 0 0 (MQ below ((mQv D (W_WYL_0t3_6_8 qv0 qv1 qv2 qv3 qd0 qd2 qv4 qv5 qd1 cI cJ cZ cB cT v_up v_low v_gone v_may v_must v_liv v_best o_v_way d_n d_road)) A) ([.ref qv0, .ref qd0, .int p2, .int p3] : List Value).toArray s 0 0 A) (F0 m 38 ls []) := by
        intro n38
        induction n38 with
        | zero =>
          intro v_way x3 x4 x5 x6 x7 x8 H locs ls hf hP hD hS hl
          simp [f_X10_follow_38] at hf
        | succ n38 ih38 =>
          have b114 : ∀ (v_way : Nat → Int32) (x3 : Int32) (x4 : Int32) (x5 : Int32) (x6 : Int32) (x7 : Int32) (x8 : Int32) (H : Heap) (locs : List Loc) (ls : Array Slot), f_X10_follow_114 N (f_X10_follow_38 N (f_X10_follow_9 N n9) n38) (f_X10_follow_9 N n9) v_up v_liv v_best v_way d_n d_road x3 x4 x5 x6 x7 x8 = some o_v_way → va_P D vwCl (W_WYL_0t3_6_8 qv0 qv1 qv2 qv3 qd0 qd2 qv4 qv5 qd1 cI cJ cZ cB cT v_up v_low v_gone v_may v_must v_liv v_best v_way d_n d_road) H → va_D A (W_WYL_0t3_6_8 qv0 qv1 qv2 qv3 qd0 qd2 qv4 qv5 qd1 cI cJ cZ cB cT v_up v_low v_gone v_may v_must v_liv v_best v_way d_n d_road) → va_S A s.heap H locs → lv_has ls 10 [(0, .ref qv0), (1, .ref qd0), (3, .int x3), (4, .int x4), (5, .int x5), (6, .int x6), (7, .int x7), (8, .int x8)] → W p l e ({ frames := 1, cells := 0, slots := 0, locals := 23 } : Room) s m ([.ref qv0, .ref qd0, .int p2, .int p3] : List Value).toArray below meth c H locs 0 0 (MQ below ((mQv D (W_WYL_0t3_6_8 qv0 qv1 qv2 qv3 qd0 qd2 qv4 qv5 qd1 cI cJ cZ cB cT v_up v_low v_gone v_may v_must v_liv v_best o_v_way d_n d_road)) A) ([.ref qv0, .ref qd0, .int p2, .int p3] : List Value).toArray s 0 0 A) (F0 m 114 ls []) := by
            intro v_way x3 x4 x5 x6 x7 x8 H locs ls hf hP hD hS hl
            unfold f_X10_follow_114 at hf
            refine lv_iinc (v := (x8 + (1 : Int32))) (lv' := [(8, .int (x8 + (1 : Int32))), (0, .ref qv0), (1, .ref qd0), (3, .int x3), (4, .int x4), (5, .int x5), (6, .int x6), (7, .int x7)]) hx hb dX10_follow_114 hl (k := 7) rfl rfl (by decide) rfl (fun ls hl => ?_)
            refine lv_goto (tgt := 38) hx hb dX10_follow_117 (by decide) ?_
            exact ih38 v_way x3 x4 x5 x6 x7 (x8 + (1 : Int32)) _ _ _ hf hP hD hS (lv_sub hl [1, 2, 3, 4, 5, 6, 7, 0] rfl)
          have b70 : ∀ (v_way : Nat → Int32) (x3 : Int32) (x4 : Int32) (x5 : Int32) (x6 : Int32) (x7 : Int32) (x8 : Int32) (s0 : Int32) (H : Heap) (locs : List Loc) (ls : Array Slot), f_X10_follow_70 N (f_X10_follow_38 N (f_X10_follow_9 N n9) n38) (f_X10_follow_9 N n9) v_up v_liv v_best v_way d_n d_road x3 x4 x5 x6 x7 x8 s0 = some o_v_way → va_P D vwCl (W_WYL_0t3_6_8 qv0 qv1 qv2 qv3 qd0 qd2 qv4 qv5 qd1 cI cJ cZ cB cT v_up v_low v_gone v_may v_must v_liv v_best v_way d_n d_road) H → va_D A (W_WYL_0t3_6_8 qv0 qv1 qv2 qv3 qd0 qd2 qv4 qv5 qd1 cI cJ cZ cB cT v_up v_low v_gone v_may v_must v_liv v_best v_way d_n d_road) → va_S A s.heap H locs → lv_has ls 10 [(0, .ref qv0), (1, .ref qd0), (3, .int x3), (4, .int x4), (5, .int x5), (6, .int x6), (7, .int x7), (8, .int x8)] → W p l e ({ frames := 1, cells := 0, slots := 0, locals := 23 } : Room) s m ([.ref qv0, .ref qd0, .int p2, .int p3] : List Value).toArray below meth c H locs 0 0 (MQ below ((mQv D (W_WYL_0t3_6_8 qv0 qv1 qv2 qv3 qd0 qd2 qv4 qv5 qd1 cI cJ cZ cB cT v_up v_low v_gone v_may v_must v_liv v_best o_v_way d_n d_road)) A) ([.ref qv0, .ref qd0, .int p2, .int p3] : List Value).toArray s 0 0 A) (F0 m 70 ls [.int s0]) := by
            intro v_way x3 x4 x5 x6 x7 x8 s0 H locs ls hf hP hD hS hl
            unfold f_X10_follow_70 at hf
            refine lv_istore (lv' := [(9, .int s0), (0, .ref qv0), (1, .ref qd0), (3, .int x3), (4, .int x4), (5, .int x5), (6, .int x6), (7, .int x7), (8, .int x8)]) hx hb dX10_follow_70 hl (by decide) rfl (fun ls hl => ?_)
            refine lv_iload hx hb dX10_follow_72 (lv_at hl 0 rfl) ?_
            refine xif_eq hx hb 114 dX10_follow_74 (by decide) hf (fun hf => ?_) (fun hf => ?_)
            · exact b114 v_way x3 x4 x5 x6 x7 x8 _ _ _ hf hP hD hS (lv_sub hl [1, 2, 3, 4, 5, 6, 7, 8] rfl)
            · refine lv_iload hx hb dX10_follow_77 (lv_at hl 5 rfl) ?_
              refine lv_aload_n hx hb dX10_follow_79 rfl (lv_at hl 1 rfl) ?_
              refine gfX10_29 hx hb hts hown hK hP 0 rfl rfl dX10_follow_80 ?_
              refine lv_iload hx hb dX10_follow_83 (lv_at hl 8 rfl) ?_
              refine xiald hx hb hK hP 1 0 rfl rfl dX10_follow_85 hf (fun v85 hf => ?_)
              refine lv_imul hx hb dX10_follow_86 ?_
              refine lv_aload_n hx hb dX10_follow_87 rfl (lv_at hl 1 rfl) ?_
              refine lv_iload hx hb dX10_follow_88 (lv_at hl 8 rfl) ?_
              refine lv_iload_n hx hb dX10_follow_90 rfl (lv_at hl 3 rfl) ?_
              refine lv_iconst (v := (1 : Int32)) hx hb dX10_follow_91 (by decide) ?_
              refine lv_isub hx hb dX10_follow_92 ?_
              refine lv_iload hx hb dX10_follow_93 (lv_at hl 6 rfl) ?_
              refine lv_isub hx hb dX10_follow_95 ?_
              obtain ⟨r96, hg96, hf⟩ := ob1_some hf
              refine mcV_i (wr := [(qv1, .inl (cI, 8, .inl v_liv)), (qv3, .inl (cI, 6, .inl v_way)), (qd0, .inr (2, [.int d_n, .ref qd1, .ref qd2])), (qd2, .inl (cI, 8, .inl d_road))]) (As := [.int x8, .int ((x3 - (1 : Int32)) - x6)]) (rest := [.int (x5 * v85)]) hx hb hml hown hts hK hP hD hS hA (k_X10_bestAfter l N D cI cJ cZ cB cT qv0 qv2 qv1 qv3 qv4 qv5 v_up v_low v_gone v_may v_must v_best x8 ((x3 - (1 : Int32)) - x6) r96 hg96) (kwX10_90 hts rfl rfl ⟨Nat.le_of_ble_eq_true rfl, Nat.le_of_ble_eq_true rfl⟩) [0, 2] [1, 3, 4, 5] rfl rfl rfl (by decide) rfl 0 rfl rfl rfl rfl hl.1 rfl (Nat.le_of_ble_eq_true rfl) dX10_follow_96 ⟨Nat.zero_le _, Nat.zero_le _⟩ (fun hB96 H locs hP hD hS => ?_)
              have hP := mP_sub (wc := (W_WYL_0t3_6_8 qv0 qv1 qv2 qv3 qd0 qd2 qv4 qv5 qd1 cI cJ cZ cB cT v_up v_low v_gone v_may v_must v_liv v_best v_way d_n d_road)) hP [4, 0, 5, 1, 2, 3] rfl
              have hD := hD.sub (ws' := (W_WYL_0t3_6_8 qv0 qv1 qv2 qv3 qd0 qd2 qv4 qv5 qd1 cI cJ cZ cB cT v_up v_low v_gone v_may v_must v_liv v_best v_way d_n d_road)) [4, 0, 5, 1, 2, 3] rfl rfl
              refine lv_imul hx hb dX10_follow_99 ?_
              refine lv_aload_n hx hb dX10_follow_100 rfl (lv_at hl 1 rfl) ?_
              refine gfX10_13 hx hb hts hown hK hP 0 rfl rfl dX10_follow_101 ?_
              refine xicmp_ne hx hb 114 dX10_follow_104 (by decide) hf (fun hf => ?_) (fun hf => ?_)
              · refine lv_iload hx hb dX10_follow_107 (lv_at hl 8 rfl) ?_
                refine lv_istore (lv' := [(4, .int x8), (9, .int s0), (0, .ref qv0), (1, .ref qd0), (3, .int x3), (5, .int x5), (6, .int x6), (7, .int x7), (8, .int x8)]) hx hb dX10_follow_109 hl (by decide) rfl (fun ls hl => ?_)
                refine lv_goto (tgt := 120) hx hb dX10_follow_111 (by decide) ?_
                exact b120 v_way x3 x8 x5 x6 _ _ _ hf hP hD hS (lv_sub hl [2, 3, 4, 0, 5, 6] rfl)
              · exact b114 v_way x3 x4 x5 x6 x7 x8 _ _ _ hf hP hD hS (lv_sub hl [1, 2, 3, 4, 5, 6, 7, 8] rfl)
          intro v_way x3 x4 x5 x6 x7 x8 H locs ls hf hP hD hS hl
          rw [f_X10_follow_38.eq_2] at hf
          refine lv_iload hx hb dX10_follow_38 (lv_at hl 7 rfl) ?_
          refine lv_aload_n hx hb dX10_follow_40 rfl (lv_at hl 1 rfl) ?_
          refine gfX10_51 hx hb hts hown hK hP 4 rfl rfl dX10_follow_41 ?_
          refine xicmp_ge hx hb 120 dX10_follow_44 (by decide) hf (fun hf => ?_) (fun hf => ?_)
          · exact b120 v_way x3 x4 x5 x6 _ _ _ hf hP hD hS (lv_sub hl [0, 1, 2, 3, 4, 5] rfl)
          · refine lv_iload hx hb dX10_follow_47 (lv_at hl 7 rfl) ?_
            refine lv_bipush (v := (8 : Int32)) hx hb dX10_follow_49 (by decide) ?_
            refine xicmp_ge hx hb 120 dX10_follow_51 (by decide) hf (fun hf => ?_) (fun hf => ?_)
            · exact b120 v_way x3 x4 x5 x6 _ _ _ hf hP hD hS (lv_sub hl [0, 1, 2, 3, 4, 5] rfl)
            · refine lv_iload hx hb dX10_follow_54 (lv_at hl 6 rfl) ?_
              refine lv_iload hx hb dX10_follow_56 (lv_at hl 7 rfl) ?_
              refine lv_ishr hx hb dX10_follow_58 ?_
              refine lv_iconst (v := (1 : Int32)) hx hb dX10_follow_59 (by decide) ?_
              refine lv_iand hx hb dX10_follow_60 ?_
              refine lv_iconst (v := (1 : Int32)) hx hb dX10_follow_61 (by decide) ?_
              refine xicmp_ne hx hb 69 dX10_follow_62 (by decide) hf (fun hf => ?_) (fun hf => ?_)
              · refine lv_iconst (v := (1 : Int32)) hx hb dX10_follow_65 (by decide) ?_
                refine lv_goto (tgt := 70) hx hb dX10_follow_66 (by decide) ?_
                exact b70 v_way x3 x4 x5 x6 x7 x8 (1 : Int32) _ _ _ hf hP hD hS (lv_sub hl [0, 1, 2, 3, 4, 5, 6, 7] rfl)
              · refine lv_iconst (v := (0 : Int32)) hx hb dX10_follow_69 (by decide) ?_
                exact b70 v_way x3 x4 x5 x6 x7 x8 (0 : Int32) _ _ _ hf hP hD hS (lv_sub hl [0, 1, 2, 3, 4, 5, 6, 7] rfl)
      intro v_way x3 x4 x5 x6 H locs ls hf hP hD hS hl
      rw [f_X10_follow_9.eq_2] at hf
      refine lv_iload hx hb dX10_follow_9 (lv_at hl 5 rfl) ?_
      refine lv_iload_n hx hb dX10_follow_11 rfl (lv_at hl 2 rfl) ?_
      refine xicmp_ge hx hb 163 dX10_follow_12 (by decide) hf (fun hf => ?_) (fun hf => ?_)
      · cases hf
        exact mret_v hx hb hr hlocks hP hD hS dX10_follow_163
      · refine lv_iload hx hb dX10_follow_15 (lv_at hl 5 rfl) ?_
        refine lv_bipush (v := (6 : Int32)) hx hb dX10_follow_17 (by decide) ?_
        refine xicmp_ge hx hb 163 dX10_follow_19 (by decide) hf (fun hf => ?_) (fun hf => ?_)
        · cases hf
          exact mret_v hx hb hr hlocks hP hD hS dX10_follow_163
        · refine lv_aload_n hx hb dX10_follow_22 rfl (lv_at hl 1 rfl) ?_
          refine lv_iload hx hb dX10_follow_23 (lv_at hl 3 rfl) ?_
          obtain ⟨r25, hg25, hf⟩ := ob1_some hf
          refine mcV_i (wr := [(qv0, .inr (10, [.int v_up, .int v_low, .int v_gone, .int v_may, .int v_must, .ref qv1, .ref qv2, .ref qv3, .ref qv4, .ref qv5])), (qv1, .inl (cI, 8, .inl v_liv)), (qv2, .inl (cI, 56, .inl v_best)), (qv3, .inl (cI, 6, .inl v_way))]) (As := [.int x4]) (rest := []) hx hb hml hown hts hK hP hD hS hA (k_X2_near l N D cI cJ cZ cB cT qd0 qd2 qd1 d_n d_road x4 r25 hg25) (kwX10_86 hts rfl rfl ⟨Nat.le_of_ble_eq_true rfl, Nat.le_of_ble_eq_true rfl⟩) [4, 5] [0, 1, 2, 3] rfl rfl rfl (by decide) rfl 0 rfl rfl rfl rfl hl.1 rfl (Nat.le_of_ble_eq_true rfl) dX10_follow_25 ⟨Nat.zero_le _, Nat.zero_le _⟩ (fun hB25 H locs hP hD hS => ?_)
          have hP := mP_sub (wc := (W_WYL_0t3_6_8 qv0 qv1 qv2 qv3 qd0 qd2 qv4 qv5 qd1 cI cJ cZ cB cT v_up v_low v_gone v_may v_must v_liv v_best v_way d_n d_road)) hP [0, 1, 2, 3, 4, 5] rfl
          have hD := hD.sub (ws' := (W_WYL_0t3_6_8 qv0 qv1 qv2 qv3 qd0 qd2 qv4 qv5 qd1 cI cJ cZ cB cT v_up v_low v_gone v_may v_must v_liv v_best v_way d_n d_road)) [0, 1, 2, 3, 4, 5] rfl rfl
          refine lv_iconst (v := (1 : Int32)) hx hb dX10_follow_28 (by decide) ?_
          refine lv_iload hx hb dX10_follow_29 (lv_at hl 3 rfl) ?_
          refine lv_ishl hx hb dX10_follow_31 ?_
          refine lv_ior hx hb dX10_follow_32 ?_
          refine lv_istore (lv' := [(7, .int (r25 ||| ((1 : Int32) <<< (x4 &&& 31)))), (0, .ref qv0), (1, .ref qd0), (3, .int x3), (4, .int x4), (5, .int x5), (6, .int x6)]) hx hb dX10_follow_33 hl (by decide) rfl (fun ls hl => ?_)
          refine lv_iconst (v := (0 : Int32)) hx hb dX10_follow_35 (by decide) ?_
          refine lv_istore (lv' := [(8, .int (0 : Int32)), (7, .int (r25 ||| ((1 : Int32) <<< (x4 &&& 31)))), (0, .ref qv0), (1, .ref qd0), (3, .int x3), (4, .int x4), (5, .int x5), (6, .int x6)]) hx hb dX10_follow_36 hl (by decide) rfl (fun ls hl => ?_)
          exact b38 N v_way x3 x4 x5 x6 (r25 ||| ((1 : Int32) <<< (x4 &&& 31))) (0 : Int32) _ _ _ hf hP hD hS (lv_sub hl [2, 3, 4, 5, 6, 7, 1, 0] rfl)
  unfold f_X10_follow at hf
  refine lv_iload_n hx hb dX10_follow_0 rfl (lv_at hl 2 rfl) ?_
  refine lv_istore (lv' := [(4, .int p2), (0, .ref qv0), (1, .ref qd0), (2, .int p2), (3, .int p3)]) hx hb dX10_follow_1 hl (by decide) rfl (fun ls hl => ?_)
  refine lv_iconst (v := (1 : Int32)) hx hb dX10_follow_3 (by decide) ?_
  refine lv_istore (lv' := [(5, .int (1 : Int32)), (4, .int p2), (0, .ref qv0), (1, .ref qd0), (2, .int p2), (3, .int p3)]) hx hb dX10_follow_4 hl (by decide) rfl (fun ls hl => ?_)
  refine lv_iconst (v := (0 : Int32)) hx hb dX10_follow_6 (by decide) ?_
  refine lv_istore (lv' := [(6, .int (0 : Int32)), (5, .int (1 : Int32)), (4, .int p2), (0, .ref qv0), (1, .ref qd0), (2, .int p2), (3, .int p3)]) hx hb dX10_follow_7 hl (by decide) rfl (fun ls hl => ?_)
  exact b9 N v_way p3 p2 (1 : Int32) (0 : Int32) _ _ _ hf hP hD hS (lv_sub hl [3, 4, 6, 2, 1, 0] rfl)
theorem dX10_landAt_0 : decode cX10_landAt 0 = .ok (.iload_n 1, 1) := by decide +kernel
theorem dX10_landAt_1 : decode cX10_landAt 1 = .ok (.ifCond .lt 18, 3) := by decide +kernel
theorem dX10_landAt_4 : decode cX10_landAt 4 = .ok (.iload_n 1, 1) := by decide +kernel
theorem dX10_landAt_5 : decode cX10_landAt 5 = .ok (.bipush 6, 2) := by decide +kernel
theorem dX10_landAt_7 : decode cX10_landAt 7 = .ok (.if_icmp .ge 12, 3) := by decide +kernel
theorem dX10_landAt_10 : decode cX10_landAt 10 = .ok (.aload_n 0, 1) := by decide +kernel
theorem dX10_landAt_11 : decode cX10_landAt 11 = .ok (.getfield 36, 3) := by decide +kernel
theorem dX10_landAt_14 : decode cX10_landAt 14 = .ok (.iload_n 1, 1) := by decide +kernel
theorem dX10_landAt_15 : decode cX10_landAt 15 = .ok (.iaload, 1) := by decide +kernel
theorem dX10_landAt_16 : decode cX10_landAt 16 = .ok (.goto 5, 3) := by decide +kernel
theorem dX10_landAt_19 : decode cX10_landAt 19 = .ok (.bipush (-3), 2) := by decide +kernel
theorem dX10_landAt_21 : decode cX10_landAt 21 = .ok (.ireturn, 1) := by decide +kernel
def f_X10_landAt (N : Nat) (v_way : Nat → Int32) (p1 : Int32) : Option (Int32) := if p1 < 0 then (some (-3 : Int32)) else (if (6 : Int32) ≤ p1 then (some (-3 : Int32)) else (gA v_way 6 p1 fun v15 => some v15))
set_option maxHeartbeats 4000000 in
set_option maxRecDepth 100000 in
theorem k_X10_landAt (l : Launch) (N : Nat) (D : va_G) (cI cJ cZ cB cT : ClassId) (qv0 : Nat) (qv3 : Nat) (qv1 : Nat) (qv2 : Nat) (qv4 : Nat) (qv5 : Nat) (v_up : Int32) (v_low : Int32) (v_gone : Int32) (v_may : Int32) (v_must : Int32) (v_way : Nat → Int32) (p1 : Int32) (o_r : Int32) (hf : f_X10_landAt N v_way p1 = some o_r) : ∀ sz, Met l yX10_landAt (mw yX10_landAt cX10_landAt 2 (some .int)) ({ frames := 0, cells := 0, slots := 0, locals := 0 } : Room) (mPre D (mT cI cJ cZ cB cT) (W_WY_0_3 qv0 qv3 qv1 qv2 qv4 qv5 cI cJ cZ cB cT v_up v_low v_gone v_may v_must v_way) sz [.ref qv0, .int p1]) ((mQi D (W_WY_0_3 qv0 qv3 qv1 qv2 qv4 qv5 cI cJ cZ cB cT v_up v_low v_gone v_may v_must v_way) o_r True) (va_A (W_WY_0_3 qv0 qv3 qv1 qv2 qv4 qv5 cI cJ cZ cB cT v_up v_low v_gone v_may v_must v_way) sz)) 0 0 (va_A (W_WY_0_3 qv0 qv3 qv1 qv2 qv4 qv5 cI cJ cZ cB cT v_up v_low v_gone v_may v_must v_way) sz) := by
  refine mMet (Qc := (mQi D (W_WY_0_3 qv0 qv3 qv1 qv2 qv4 qv5 cI cJ cZ cB cT v_up v_low v_gone v_may v_must v_way) o_r True)) (by decide) (Nat.le_of_ble_eq_true rfl) (fun p e s m below meth c A ls hx hb hr hml hts hown hlocks hK hA hP hD hl => ?_)
  have hown : s.vm.findClass RX10 = some m.cls := hown
  have hl : lv_has ls 2 [(0, .ref qv0), (1, .int p1)] := hl
  have hS : va_S A s.heap s.heap [] := va_S.rf
  unfold f_X10_landAt at hf
  refine lv_iload_n hx hb dX10_landAt_0 rfl (lv_at hl 1 rfl) ?_
  refine xif_lt hx hb 19 dX10_landAt_1 (by decide) hf (fun hf => ?_) (fun hf => ?_)
  · refine lv_bipush (v := (-3 : Int32)) hx hb dX10_landAt_19 (by decide) ?_
    cases hf
    exact mret_i hx hb hr hlocks hP hD hS dX10_landAt_21 rfl trivial
  · refine lv_iload_n hx hb dX10_landAt_4 rfl (lv_at hl 1 rfl) ?_
    refine lv_bipush (v := (6 : Int32)) hx hb dX10_landAt_5 (by decide) ?_
    refine xicmp_ge hx hb 19 dX10_landAt_7 (by decide) hf (fun hf => ?_) (fun hf => ?_)
    · refine lv_bipush (v := (-3 : Int32)) hx hb dX10_landAt_19 (by decide) ?_
      cases hf
      exact mret_i hx hb hr hlocks hP hD hS dX10_landAt_21 rfl trivial
    · refine lv_aload_n hx hb dX10_landAt_10 rfl (lv_at hl 0 rfl) ?_
      refine gfX10_36 hx hb hts hown hK hP 0 rfl rfl dX10_landAt_11 ?_
      refine lv_iload_n hx hb dX10_landAt_14 rfl (lv_at hl 1 rfl) ?_
      refine xiald hx hb hK hP 1 0 rfl rfl dX10_landAt_15 hf (fun v15 hf => ?_)
      refine lv_goto (tgt := 21) hx hb dX10_landAt_16 (by decide) ?_
      cases hf
      exact mret_i hx hb hr hlocks hP hD hS dX10_landAt_21 rfl trivial
theorem dX10_clear_0 : decode cX10_clear 0 = .ok (.iconst 0, 1) := by decide +kernel
theorem dX10_clear_1 : decode cX10_clear 1 = .ok (.istore_n 1, 1) := by decide +kernel
theorem dX10_clear_2 : decode cX10_clear 2 = .ok (.iload_n 1, 1) := by decide +kernel
theorem dX10_clear_3 : decode cX10_clear 3 = .ok (.aload_n 0, 1) := by decide +kernel
theorem dX10_clear_4 : decode cX10_clear 4 = .ok (.arraylength, 1) := by decide +kernel
theorem dX10_clear_5 : decode cX10_clear 5 = .ok (.if_icmp .ge 13, 3) := by decide +kernel
theorem dX10_clear_8 : decode cX10_clear 8 = .ok (.aload_n 0, 1) := by decide +kernel
theorem dX10_clear_9 : decode cX10_clear 9 = .ok (.iload_n 1, 1) := by decide +kernel
theorem dX10_clear_10 : decode cX10_clear 10 = .ok (.iconst 0, 1) := by decide +kernel
theorem dX10_clear_11 : decode cX10_clear 11 = .ok (.iastore, 1) := by decide +kernel
theorem dX10_clear_12 : decode cX10_clear 12 = .ok (.iinc 1 1, 3) := by decide +kernel
theorem dX10_clear_15 : decode cX10_clear 15 = .ok (.goto (-13), 3) := by decide +kernel
theorem dX10_clear_18 : decode cX10_clear 18 = .ok (.return_, 1) := by decide +kernel
def f_X10_clear_2 (N : Nat) : Nat → (Nat → Int32) → Int32 → Option ((Nat → Int32))
  | 0, _, _ => none
  | n + 1, a_c, x1 => if (256 : Int32) ≤ x1 then (some a_c) else (sA a_c 256 x1 (0 : Int32) fun a_c_11 => (f_X10_clear_2 N n) a_c_11 (x1 + (1 : Int32)))
def f_X10_clear (N : Nat) (a_c : Nat → Int32) : Option ((Nat → Int32)) := f_X10_clear_2 N N a_c (0 : Int32)
set_option maxHeartbeats 4000000 in
set_option maxRecDepth 100000 in
theorem k_X10_clear (l : Launch) (N : Nat) (D : va_G) (cI cJ cZ cB cT : ClassId) (qa1 : Nat) (a_c : Nat → Int32) (o_a_c : Nat → Int32) (hf : f_X10_clear N a_c = some o_a_c) : ∀ sz, Met l yX10_clear (mw yX10_clear cX10_clear 2 none) ({ frames := 0, cells := 0, slots := 0, locals := 0 } : Room) (mPre D (mT cI cJ cZ cB cT) (W_A1_0 qa1 cI cJ cZ cB cT a_c) sz [.ref qa1]) ((mQv D (W_A1_0 qa1 cI cJ cZ cB cT o_a_c)) (va_A (W_A1_0 qa1 cI cJ cZ cB cT a_c) sz)) 0 0 (va_A (W_A1_0 qa1 cI cJ cZ cB cT a_c) sz) := by
  refine mMet (Qc := (mQv D (W_A1_0 qa1 cI cJ cZ cB cT o_a_c))) (by decide) (Nat.le_of_ble_eq_true rfl) (fun p e s m below meth c A ls hx hb hr hml hts hown hlocks hK hA hP hD hl => ?_)
  have hown : s.vm.findClass RX10 = some m.cls := hown
  have hl : lv_has ls 2 [(0, .ref qa1)] := hl
  have hS : va_S A s.heap s.heap [] := va_S.rf
  have b2 : ∀ n2 : Nat, ∀ (a_c : Nat → Int32) (x1 : Int32) (H : Heap) (locs : List Loc) (ls : Array Slot), f_X10_clear_2 N n2 a_c x1 = some o_a_c → va_P D vwCl (W_A1_0 qa1 cI cJ cZ cB cT a_c) H → va_D A (W_A1_0 qa1 cI cJ cZ cB cT a_c) → va_S A s.heap H locs → lv_has ls 2 [(0, .ref qa1), (1, .int x1)] → W p l e ({ frames := 0, cells := 0, slots := 0, locals := 0 } : Room) s m ([.ref qa1] : List Value).toArray below meth c H locs 0 0 (MQ below ((mQv D (W_A1_0 qa1 cI cJ cZ cB cT o_a_c)) A) ([.ref qa1] : List Value).toArray s 0 0 A) (F0 m 2 ls []) := by
    intro n2
    induction n2 with
    | zero =>
      intro a_c x1 H locs ls hf hP hD hS hl
      simp [f_X10_clear_2] at hf
    | succ n2 ih2 =>
      intro a_c x1 H locs ls hf hP hD hS hl
      rw [f_X10_clear_2.eq_2] at hf
      refine lv_iload_n hx hb dX10_clear_2 rfl (lv_at hl 1 rfl) ?_
      refine lv_aload_n hx hb dX10_clear_3 rfl (lv_at hl 0 rfl) ?_
      refine va_alen (v := (256 : Int32)) hx hb hK hP 0 0 rfl rfl rfl dX10_clear_4 ?_
      refine xicmp_ge hx hb 18 dX10_clear_5 (by decide) hf (fun hf => ?_) (fun hf => ?_)
      · cases hf
        exact mret_v hx hb hr hlocks hP hD hS dX10_clear_18
      · refine lv_aload_n hx hb dX10_clear_8 rfl (lv_at hl 0 rfl) ?_
        refine lv_iload_n hx hb dX10_clear_9 rfl (lv_at hl 1 rfl) ?_
        refine lv_iconst (v := (0 : Int32)) hx hb dX10_clear_10 (by decide) ?_
        refine xiast hx hb hK hP hD hS 0 0 rfl rfl dX10_clear_11 hf (fun a_c_11 hf H locs hP hD hS => ?_)
        have hP : va_P D vwCl (W_A1_0 qa1 cI cJ cZ cB cT a_c_11) H := hP
        have hD : va_D A (W_A1_0 qa1 cI cJ cZ cB cT a_c_11) := hD
        refine lv_iinc (v := (x1 + (1 : Int32))) (lv' := [(1, .int (x1 + (1 : Int32))), (0, .ref qa1)]) hx hb dX10_clear_12 hl (k := 1) rfl rfl (by decide) rfl (fun ls hl => ?_)
        refine lv_goto (tgt := 2) hx hb dX10_clear_15 (by decide) ?_
        exact ih2 a_c_11 (x1 + (1 : Int32)) _ _ _ hf hP hD hS (lv_sub hl [1, 0] rfl)
  unfold f_X10_clear at hf
  refine lv_iconst (v := (0 : Int32)) hx hb dX10_clear_0 (by decide) ?_
  refine lv_istore_n (lv' := [(1, .int (0 : Int32)), (0, .ref qa1)]) hx hb dX10_clear_1 rfl hl (by decide) rfl (fun ls hl => ?_)
  exact b2 N a_c (0 : Int32) _ _ _ hf hP hD hS (lv_sub hl [1, 0] rfl)
theorem dX10_comeTo_0 : decode cX10_comeTo 0 = .ok (.iload_n 1, 1) := by decide +kernel
theorem dX10_comeTo_1 : decode cX10_comeTo 1 = .ok (.iload 4, 2) := by decide +kernel
theorem dX10_comeTo_3 : decode cX10_comeTo 3 = .ok (.if_icmp .ne 9, 3) := by decide +kernel
theorem dX10_comeTo_6 : decode cX10_comeTo 6 = .ok (.iconst 1, 1) := by decide +kernel
theorem dX10_comeTo_7 : decode cX10_comeTo 7 = .ok (.iload_n 3, 1) := by decide +kernel
theorem dX10_comeTo_8 : decode cX10_comeTo 8 = .ok (.ishl, 1) := by decide +kernel
theorem dX10_comeTo_9 : decode cX10_comeTo 9 = .ok (.goto 4, 3) := by decide +kernel
theorem dX10_comeTo_12 : decode cX10_comeTo 12 = .ok (.iconst 0, 1) := by decide +kernel
theorem dX10_comeTo_13 : decode cX10_comeTo 13 = .ok (.istore 5, 2) := by decide +kernel
theorem dX10_comeTo_15 : decode cX10_comeTo 15 = .ok (.iconst 0, 1) := by decide +kernel
theorem dX10_comeTo_16 : decode cX10_comeTo 16 = .ok (.istore 6, 2) := by decide +kernel
theorem dX10_comeTo_18 : decode cX10_comeTo 18 = .ok (.iload 6, 2) := by decide +kernel
theorem dX10_comeTo_20 : decode cX10_comeTo 20 = .ok (.bipush 8, 2) := by decide +kernel
theorem dX10_comeTo_22 : decode cX10_comeTo 22 = .ok (.if_icmp .ge 79, 3) := by decide +kernel
theorem dX10_comeTo_25 : decode cX10_comeTo 25 = .ok (.iload_n 2, 1) := by decide +kernel
theorem dX10_comeTo_26 : decode cX10_comeTo 26 = .ok (.iload 6, 2) := by decide +kernel
theorem dX10_comeTo_28 : decode cX10_comeTo 28 = .ok (.ishr, 1) := by decide +kernel
theorem dX10_comeTo_29 : decode cX10_comeTo 29 = .ok (.iconst 1, 1) := by decide +kernel
theorem dX10_comeTo_30 : decode cX10_comeTo 30 = .ok (.iand, 1) := by decide +kernel
theorem dX10_comeTo_31 : decode cX10_comeTo 31 = .ok (.ifCond .ne 6, 3) := by decide +kernel
theorem dX10_comeTo_34 : decode cX10_comeTo 34 = .ok (.goto 61, 3) := by decide +kernel
theorem dX10_comeTo_37 : decode cX10_comeTo 37 = .ok (.iconst 0, 1) := by decide +kernel
theorem dX10_comeTo_38 : decode cX10_comeTo 38 = .ok (.istore 7, 2) := by decide +kernel
theorem dX10_comeTo_40 : decode cX10_comeTo 40 = .ok (.iload 7, 2) := by decide +kernel
theorem dX10_comeTo_42 : decode cX10_comeTo 42 = .ok (.iconst 1, 1) := by decide +kernel
theorem dX10_comeTo_43 : decode cX10_comeTo 43 = .ok (.iload_n 3, 1) := by decide +kernel
theorem dX10_comeTo_44 : decode cX10_comeTo 44 = .ok (.ishl, 1) := by decide +kernel
theorem dX10_comeTo_45 : decode cX10_comeTo 45 = .ok (.if_icmp .ge 50, 3) := by decide +kernel
theorem dX10_comeTo_48 : decode cX10_comeTo 48 = .ok (.iload 7, 2) := by decide +kernel
theorem dX10_comeTo_50 : decode cX10_comeTo 50 = .ok (.iload 5, 2) := by decide +kernel
theorem dX10_comeTo_52 : decode cX10_comeTo 52 = .ok (.ior, 1) := by decide +kernel
theorem dX10_comeTo_53 : decode cX10_comeTo 53 = .ok (.bipush 32, 2) := by decide +kernel
theorem dX10_comeTo_55 : decode cX10_comeTo 55 = .ok (.if_icmp .ge 40, 3) := by decide +kernel
theorem dX10_comeTo_58 : decode cX10_comeTo 58 = .ok (.aload_n 0, 1) := by decide +kernel
theorem dX10_comeTo_59 : decode cX10_comeTo 59 = .ok (.getfield 39, 3) := by decide +kernel
theorem dX10_comeTo_62 : decode cX10_comeTo 62 = .ok (.iload_n 1, 1) := by decide +kernel
theorem dX10_comeTo_63 : decode cX10_comeTo 63 = .ok (.bipush 32, 2) := by decide +kernel
theorem dX10_comeTo_65 : decode cX10_comeTo 65 = .ok (.imul, 1) := by decide +kernel
theorem dX10_comeTo_66 : decode cX10_comeTo 66 = .ok (.iload 7, 2) := by decide +kernel
theorem dX10_comeTo_68 : decode cX10_comeTo 68 = .ok (.iload 5, 2) := by decide +kernel
theorem dX10_comeTo_70 : decode cX10_comeTo 70 = .ok (.ior, 1) := by decide +kernel
theorem dX10_comeTo_71 : decode cX10_comeTo 71 = .ok (.iadd, 1) := by decide +kernel
theorem dX10_comeTo_72 : decode cX10_comeTo 72 = .ok (.dup2, 1) := by decide +kernel
theorem dX10_comeTo_73 : decode cX10_comeTo 73 = .ok (.iaload, 1) := by decide +kernel
theorem dX10_comeTo_74 : decode cX10_comeTo 74 = .ok (.aload_n 0, 1) := by decide +kernel
theorem dX10_comeTo_75 : decode cX10_comeTo 75 = .ok (.getfield 42, 3) := by decide +kernel
theorem dX10_comeTo_78 : decode cX10_comeTo 78 = .ok (.iload 6, 2) := by decide +kernel
theorem dX10_comeTo_80 : decode cX10_comeTo 80 = .ok (.bipush 32, 2) := by decide +kernel
theorem dX10_comeTo_82 : decode cX10_comeTo 82 = .ok (.imul, 1) := by decide +kernel
theorem dX10_comeTo_83 : decode cX10_comeTo 83 = .ok (.iload 7, 2) := by decide +kernel
theorem dX10_comeTo_85 : decode cX10_comeTo 85 = .ok (.iadd, 1) := by decide +kernel
theorem dX10_comeTo_86 : decode cX10_comeTo 86 = .ok (.iaload, 1) := by decide +kernel
theorem dX10_comeTo_87 : decode cX10_comeTo 87 = .ok (.iadd, 1) := by decide +kernel
theorem dX10_comeTo_88 : decode cX10_comeTo 88 = .ok (.iastore, 1) := by decide +kernel
theorem dX10_comeTo_89 : decode cX10_comeTo 89 = .ok (.iinc 7 1, 3) := by decide +kernel
theorem dX10_comeTo_92 : decode cX10_comeTo 92 = .ok (.goto (-52), 3) := by decide +kernel
theorem dX10_comeTo_95 : decode cX10_comeTo 95 = .ok (.iinc 6 1, 3) := by decide +kernel
theorem dX10_comeTo_98 : decode cX10_comeTo 98 = .ok (.goto (-80), 3) := by decide +kernel
theorem dX10_comeTo_101 : decode cX10_comeTo 101 = .ok (.return_, 1) := by decide +kernel
def f_X10_comeTo_95 (N : Nat) (k_18 : (Nat → Int32) → (Nat → Int32) → Int32 → Int32 → Int32 → Int32 → Int32 → Option ((Nat → Int32))) (v_ends : Nat → Int32) (v_beg : Nat → Int32) (x1 : Int32) (x2 : Int32) (x3 : Int32) (x5 : Int32) (x6 : Int32) : Option ((Nat → Int32)) := k_18 v_ends v_beg x1 x2 x3 x5 (x6 + (1 : Int32))
def f_X10_comeTo_40 (N : Nat) (k_18 : (Nat → Int32) → (Nat → Int32) → Int32 → Int32 → Int32 → Int32 → Int32 → Option ((Nat → Int32))) : Nat → (Nat → Int32) → (Nat → Int32) → Int32 → Int32 → Int32 → Int32 → Int32 → Int32 → Option ((Nat → Int32))
  | 0, _, _, _, _, _, _, _, _ => none
  | n + 1, v_ends, v_beg, x1, x2, x3, x5, x6, x7 => if ((1 : Int32) <<< (x3 &&& 31)) ≤ x7 then (f_X10_comeTo_95 N k_18 v_ends v_beg x1 x2 x3 x5 x6) else (if (32 : Int32) ≤ (x7 ||| x5) then (f_X10_comeTo_95 N k_18 v_ends v_beg x1 x2 x3 x5 x6) else (gA v_ends 256 ((x1 * (32 : Int32)) + (x7 ||| x5)) fun v73 => gA v_beg 256 ((x6 * (32 : Int32)) + x7) fun v86 => sA v_ends 256 ((x1 * (32 : Int32)) + (x7 ||| x5)) (v73 + v86) fun v_ends_88 => (f_X10_comeTo_40 N k_18 n) v_ends_88 v_beg x1 x2 x3 x5 x6 (x7 + (1 : Int32))))
def f_X10_comeTo_18 (N : Nat) : Nat → (Nat → Int32) → (Nat → Int32) → Int32 → Int32 → Int32 → Int32 → Int32 → Option ((Nat → Int32))
  | 0, _, _, _, _, _, _, _ => none
  | n + 1, v_ends, v_beg, x1, x2, x3, x5, x6 => if (8 : Int32) ≤ x6 then (some v_ends) else (if ((x2 >>> (x6 &&& 31)) &&& (1 : Int32)) = 0 then (f_X10_comeTo_95 N (f_X10_comeTo_18 N n) v_ends v_beg x1 x2 x3 x5 x6) else (f_X10_comeTo_40 N (f_X10_comeTo_18 N n) N v_ends v_beg x1 x2 x3 x5 x6 (0 : Int32)))
def f_X10_comeTo_13 (N : Nat) (v_ends : Nat → Int32) (v_beg : Nat → Int32) (x1 : Int32) (x2 : Int32) (x3 : Int32) (s0 : Int32) : Option ((Nat → Int32)) := f_X10_comeTo_18 N N v_ends v_beg x1 x2 x3 s0 (0 : Int32)
def f_X10_comeTo (N : Nat) (v_ends : Nat → Int32) (v_beg : Nat → Int32) (p1 : Int32) (p2 : Int32) (p3 : Int32) (p4 : Int32) : Option ((Nat → Int32)) := if p1 = p4 then (f_X10_comeTo_13 N v_ends v_beg p1 p2 p3 ((1 : Int32) <<< (p3 &&& 31))) else (f_X10_comeTo_13 N v_ends v_beg p1 p2 p3 (0 : Int32))
set_option maxHeartbeats 4000000 in
set_option maxRecDepth 100000 in
theorem k_X10_comeTo (l : Launch) (N : Nat) (D : va_G) (cI cJ cZ cB cT : ClassId) (qv0 : Nat) (qv4 : Nat) (qv5 : Nat) (qv1 : Nat) (qv2 : Nat) (qv3 : Nat) (v_up : Int32) (v_low : Int32) (v_gone : Int32) (v_may : Int32) (v_must : Int32) (v_ends : Nat → Int32) (v_beg : Nat → Int32) (p1 : Int32) (p2 : Int32) (p3 : Int32) (p4 : Int32) (o_v_ends : Nat → Int32) (hf : f_X10_comeTo N v_ends v_beg p1 p2 p3 p4 = some o_v_ends) : ∀ sz, Met l yX10_comeTo (mw yX10_comeTo cX10_comeTo 8 none) ({ frames := 0, cells := 0, slots := 0, locals := 0 } : Room) (mPre D (mT cI cJ cZ cB cT) (W_WY_0_4t5 qv0 qv4 qv5 qv1 qv2 qv3 cI cJ cZ cB cT v_up v_low v_gone v_may v_must v_ends v_beg) sz [.ref qv0, .int p1, .int p2, .int p3, .int p4]) ((mQv D (W_WY_0_4t5 qv0 qv4 qv5 qv1 qv2 qv3 cI cJ cZ cB cT v_up v_low v_gone v_may v_must o_v_ends v_beg)) (va_A (W_WY_0_4t5 qv0 qv4 qv5 qv1 qv2 qv3 cI cJ cZ cB cT v_up v_low v_gone v_may v_must v_ends v_beg) sz)) 0 0 (va_A (W_WY_0_4t5 qv0 qv4 qv5 qv1 qv2 qv3 cI cJ cZ cB cT v_up v_low v_gone v_may v_must v_ends v_beg) sz) := by
  refine mMet (Qc := (mQv D (W_WY_0_4t5 qv0 qv4 qv5 qv1 qv2 qv3 cI cJ cZ cB cT v_up v_low v_gone v_may v_must o_v_ends v_beg))) (by decide) (Nat.le_of_ble_eq_true rfl) (fun p e s m below meth c A ls hx hb hr hml hts hown hlocks hK hA hP hD hl => ?_)
  have hown : s.vm.findClass RX10 = some m.cls := hown
  have hl : lv_has ls 8 [(0, .ref qv0), (1, .int p1), (2, .int p2), (3, .int p3), (4, .int p4)] := hl
  have hS : va_S A s.heap s.heap [] := va_S.rf
  have b18 : ∀ n18 : Nat, ∀ (v_ends : Nat → Int32) (x1 : Int32) (x2 : Int32) (x3 : Int32) (x5 : Int32) (x6 : Int32) (H : Heap) (locs : List Loc) (ls : Array Slot), f_X10_comeTo_18 N n18 v_ends v_beg x1 x2 x3 x5 x6 = some o_v_ends → va_P D vwCl (W_WY_0_4t5 qv0 qv4 qv5 qv1 qv2 qv3 cI cJ cZ cB cT v_up v_low v_gone v_may v_must v_ends v_beg) H → va_D A (W_WY_0_4t5 qv0 qv4 qv5 qv1 qv2 qv3 cI cJ cZ cB cT v_up v_low v_gone v_may v_must v_ends v_beg) → va_S A s.heap H locs → lv_has ls 8 [(0, .ref qv0), (1, .int x1), (2, .int x2), (3, .int x3), (5, .int x5), (6, .int x6)] → W p l e ({ frames := 0, cells := 0, slots := 0, locals := 0 } : Room) s m ([.ref qv0, .int p1, .int p2, .int p3, .int p4] : List Value).toArray below meth c H locs 0 0 (MQ below ((mQv D (W_WY_0_4t5 qv0 qv4 qv5 qv1 qv2 qv3 cI cJ cZ cB cT v_up v_low v_gone v_may v_must o_v_ends v_beg)) A) ([.ref qv0, .int p1, .int p2, .int p3, .int p4] : List Value).toArray s 0 0 A) (F0 m 18 ls []) := by
    intro n18
    induction n18 with
    | zero =>
      intro v_ends x1 x2 x3 x5 x6 H locs ls hf hP hD hS hl
      simp [f_X10_comeTo_18] at hf
    | succ n18 ih18 =>
      have b95 : ∀ (v_ends : Nat → Int32) (x1 : Int32) (x2 : Int32) (x3 : Int32) (x5 : Int32) (x6 : Int32) (H : Heap) (locs : List Loc) (ls : Array Slot), f_X10_comeTo_95 N (f_X10_comeTo_18 N n18) v_ends v_beg x1 x2 x3 x5 x6 = some o_v_ends → va_P D vwCl (W_WY_0_4t5 qv0 qv4 qv5 qv1 qv2 qv3 cI cJ cZ cB cT v_up v_low v_gone v_may v_must v_ends v_beg) H → va_D A (W_WY_0_4t5 qv0 qv4 qv5 qv1 qv2 qv3 cI cJ cZ cB cT v_up v_low v_gone v_may v_must v_ends v_beg) → va_S A s.heap H locs → lv_has ls 8 [(0, .ref qv0), (1, .int x1), (2, .int x2), (3, .int x3), (5, .int x5), (6, .int x6)] → W p l e ({ frames := 0, cells := 0, slots := 0, locals := 0 } : Room) s m ([.ref qv0, .int p1, .int p2, .int p3, .int p4] : List Value).toArray below meth c H locs 0 0 (MQ below ((mQv D (W_WY_0_4t5 qv0 qv4 qv5 qv1 qv2 qv3 cI cJ cZ cB cT v_up v_low v_gone v_may v_must o_v_ends v_beg)) A) ([.ref qv0, .int p1, .int p2, .int p3, .int p4] : List Value).toArray s 0 0 A) (F0 m 95 ls []) := by
        intro v_ends x1 x2 x3 x5 x6 H locs ls hf hP hD hS hl
        unfold f_X10_comeTo_95 at hf
        refine lv_iinc (v := (x6 + (1 : Int32))) (lv' := [(6, .int (x6 + (1 : Int32))), (0, .ref qv0), (1, .int x1), (2, .int x2), (3, .int x3), (5, .int x5)]) hx hb dX10_comeTo_95 hl (k := 5) rfl rfl (by decide) rfl (fun ls hl => ?_)
        refine lv_goto (tgt := 18) hx hb dX10_comeTo_98 (by decide) ?_
        exact ih18 v_ends x1 x2 x3 x5 (x6 + (1 : Int32)) _ _ _ hf hP hD hS (lv_sub hl [1, 2, 3, 4, 5, 0] rfl)
      have b40 : ∀ n40 : Nat, ∀ (v_ends : Nat → Int32) (x1 : Int32) (x2 : Int32) (x3 : Int32) (x5 : Int32) (x6 : Int32) (x7 : Int32) (H : Heap) (locs : List Loc) (ls : Array Slot), f_X10_comeTo_40 N (f_X10_comeTo_18 N n18) n40 v_ends v_beg x1 x2 x3 x5 x6 x7 = some o_v_ends → va_P D vwCl (W_WY_0_4t5 qv0 qv4 qv5 qv1 qv2 qv3 cI cJ cZ cB cT v_up v_low v_gone v_may v_must v_ends v_beg) H → va_D A (W_WY_0_4t5 qv0 qv4 qv5 qv1 qv2 qv3 cI cJ cZ cB cT v_up v_low v_gone v_may v_must v_ends v_beg) → va_S A s.heap H locs → lv_has ls 8 [(0, .ref qv0), (1, .int x1), (2, .int x2), (3, .int x3), (5, .int x5), (6, .int x6), (7, .int x7)] → W p l e ({ frames := 0, cells := 0, slots := 0, locals := 0 } : Room) s m ([.ref qv0, .int p1, .int p2, .int p3, .int p4] : List Value).toArray below meth c H locs 0 0 (MQ below ((mQv D (W_WY_0_4t5 qv0 qv4 qv5 qv1 qv2 qv3 cI cJ cZ cB cT v_up v_low v_gone v_may v_must o_v_ends v_beg)) A) ([.ref qv0, .int p1, .int p2, .int p3, .int p4] : List Value).toArray s 0 0 A) (F0 m 40 ls []) := by
        intro n40
        induction n40 with
        | zero =>
          intro v_ends x1 x2 x3 x5 x6 x7 H locs ls hf hP hD hS hl
          simp [f_X10_comeTo_40] at hf
        | succ n40 ih40 =>
          intro v_ends x1 x2 x3 x5 x6 x7 H locs ls hf hP hD hS hl
          rw [f_X10_comeTo_40.eq_2] at hf
          refine lv_iload hx hb dX10_comeTo_40 (lv_at hl 6 rfl) ?_
          refine lv_iconst (v := (1 : Int32)) hx hb dX10_comeTo_42 (by decide) ?_
          refine lv_iload_n hx hb dX10_comeTo_43 rfl (lv_at hl 3 rfl) ?_
          refine lv_ishl hx hb dX10_comeTo_44 ?_
          refine xicmp_ge hx hb 95 dX10_comeTo_45 (by decide) hf (fun hf => ?_) (fun hf => ?_)
          · exact b95 v_ends x1 x2 x3 x5 x6 _ _ _ hf hP hD hS (lv_sub hl [0, 1, 2, 3, 4, 5] rfl)
          · refine lv_iload hx hb dX10_comeTo_48 (lv_at hl 6 rfl) ?_
            refine lv_iload hx hb dX10_comeTo_50 (lv_at hl 4 rfl) ?_
            refine lv_ior hx hb dX10_comeTo_52 ?_
            refine lv_bipush (v := (32 : Int32)) hx hb dX10_comeTo_53 (by decide) ?_
            refine xicmp_ge hx hb 95 dX10_comeTo_55 (by decide) hf (fun hf => ?_) (fun hf => ?_)
            · exact b95 v_ends x1 x2 x3 x5 x6 _ _ _ hf hP hD hS (lv_sub hl [0, 1, 2, 3, 4, 5] rfl)
            · refine lv_aload_n hx hb dX10_comeTo_58 rfl (lv_at hl 0 rfl) ?_
              refine gfX10_39 hx hb hts hown hK hP 0 rfl rfl dX10_comeTo_59 ?_
              refine lv_iload_n hx hb dX10_comeTo_62 rfl (lv_at hl 1 rfl) ?_
              refine lv_bipush (v := (32 : Int32)) hx hb dX10_comeTo_63 (by decide) ?_
              refine lv_imul hx hb dX10_comeTo_65 ?_
              refine lv_iload hx hb dX10_comeTo_66 (lv_at hl 6 rfl) ?_
              refine lv_iload hx hb dX10_comeTo_68 (lv_at hl 4 rfl) ?_
              refine lv_ior hx hb dX10_comeTo_70 ?_
              refine lv_iadd hx hb dX10_comeTo_71 ?_
              refine lv_dup2_11 hx hb dX10_comeTo_72 rfl rfl ?_
              refine xiald hx hb hK hP 1 0 rfl rfl dX10_comeTo_73 hf (fun v73 hf => ?_)
              refine lv_aload_n hx hb dX10_comeTo_74 rfl (lv_at hl 0 rfl) ?_
              refine gfX10_42 hx hb hts hown hK hP 0 rfl rfl dX10_comeTo_75 ?_
              refine lv_iload hx hb dX10_comeTo_78 (lv_at hl 5 rfl) ?_
              refine lv_bipush (v := (32 : Int32)) hx hb dX10_comeTo_80 (by decide) ?_
              refine lv_imul hx hb dX10_comeTo_82 ?_
              refine lv_iload hx hb dX10_comeTo_83 (lv_at hl 6 rfl) ?_
              refine lv_iadd hx hb dX10_comeTo_85 ?_
              refine xiald hx hb hK hP 2 0 rfl rfl dX10_comeTo_86 hf (fun v86 hf => ?_)
              refine lv_iadd hx hb dX10_comeTo_87 ?_
              refine xiast hx hb hK hP hD hS 1 0 rfl rfl dX10_comeTo_88 hf (fun v_ends_88 hf H locs hP hD hS => ?_)
              have hP : va_P D vwCl (W_WY_0_4t5 qv0 qv4 qv5 qv1 qv2 qv3 cI cJ cZ cB cT v_up v_low v_gone v_may v_must v_ends_88 v_beg) H := hP
              have hD : va_D A (W_WY_0_4t5 qv0 qv4 qv5 qv1 qv2 qv3 cI cJ cZ cB cT v_up v_low v_gone v_may v_must v_ends_88 v_beg) := hD
              refine lv_iinc (v := (x7 + (1 : Int32))) (lv' := [(7, .int (x7 + (1 : Int32))), (0, .ref qv0), (1, .int x1), (2, .int x2), (3, .int x3), (5, .int x5), (6, .int x6)]) hx hb dX10_comeTo_89 hl (k := 6) rfl rfl (by decide) rfl (fun ls hl => ?_)
              refine lv_goto (tgt := 40) hx hb dX10_comeTo_92 (by decide) ?_
              exact ih40 v_ends_88 x1 x2 x3 x5 x6 (x7 + (1 : Int32)) _ _ _ hf hP hD hS (lv_sub hl [1, 2, 3, 4, 5, 6, 0] rfl)
      intro v_ends x1 x2 x3 x5 x6 H locs ls hf hP hD hS hl
      rw [f_X10_comeTo_18.eq_2] at hf
      refine lv_iload hx hb dX10_comeTo_18 (lv_at hl 5 rfl) ?_
      refine lv_bipush (v := (8 : Int32)) hx hb dX10_comeTo_20 (by decide) ?_
      refine xicmp_ge hx hb 101 dX10_comeTo_22 (by decide) hf (fun hf => ?_) (fun hf => ?_)
      · cases hf
        exact mret_v hx hb hr hlocks hP hD hS dX10_comeTo_101
      · refine lv_iload_n hx hb dX10_comeTo_25 rfl (lv_at hl 2 rfl) ?_
        refine lv_iload hx hb dX10_comeTo_26 (lv_at hl 5 rfl) ?_
        refine lv_ishr hx hb dX10_comeTo_28 ?_
        refine lv_iconst (v := (1 : Int32)) hx hb dX10_comeTo_29 (by decide) ?_
        refine lv_iand hx hb dX10_comeTo_30 ?_
        refine xif_ne hx hb 37 dX10_comeTo_31 (by decide) hf (fun hf => ?_) (fun hf => ?_)
        · refine lv_goto (tgt := 95) hx hb dX10_comeTo_34 (by decide) ?_
          exact b95 v_ends x1 x2 x3 x5 x6 _ _ _ hf hP hD hS (lv_sub hl [0, 1, 2, 3, 4, 5] rfl)
        · refine lv_iconst (v := (0 : Int32)) hx hb dX10_comeTo_37 (by decide) ?_
          refine lv_istore (lv' := [(7, .int (0 : Int32)), (0, .ref qv0), (1, .int x1), (2, .int x2), (3, .int x3), (5, .int x5), (6, .int x6)]) hx hb dX10_comeTo_38 hl (by decide) rfl (fun ls hl => ?_)
          exact b40 N v_ends x1 x2 x3 x5 x6 (0 : Int32) _ _ _ hf hP hD hS (lv_sub hl [1, 2, 3, 4, 5, 6, 0] rfl)
  have b13 : ∀ (v_ends : Nat → Int32) (x1 : Int32) (x2 : Int32) (x3 : Int32) (s0 : Int32) (H : Heap) (locs : List Loc) (ls : Array Slot), f_X10_comeTo_13 N v_ends v_beg x1 x2 x3 s0 = some o_v_ends → va_P D vwCl (W_WY_0_4t5 qv0 qv4 qv5 qv1 qv2 qv3 cI cJ cZ cB cT v_up v_low v_gone v_may v_must v_ends v_beg) H → va_D A (W_WY_0_4t5 qv0 qv4 qv5 qv1 qv2 qv3 cI cJ cZ cB cT v_up v_low v_gone v_may v_must v_ends v_beg) → va_S A s.heap H locs → lv_has ls 8 [(0, .ref qv0), (1, .int x1), (2, .int x2), (3, .int x3)] → W p l e ({ frames := 0, cells := 0, slots := 0, locals := 0 } : Room) s m ([.ref qv0, .int p1, .int p2, .int p3, .int p4] : List Value).toArray below meth c H locs 0 0 (MQ below ((mQv D (W_WY_0_4t5 qv0 qv4 qv5 qv1 qv2 qv3 cI cJ cZ cB cT v_up v_low v_gone v_may v_must o_v_ends v_beg)) A) ([.ref qv0, .int p1, .int p2, .int p3, .int p4] : List Value).toArray s 0 0 A) (F0 m 13 ls [.int s0]) := by
    intro v_ends x1 x2 x3 s0 H locs ls hf hP hD hS hl
    unfold f_X10_comeTo_13 at hf
    refine lv_istore (lv' := [(5, .int s0), (0, .ref qv0), (1, .int x1), (2, .int x2), (3, .int x3)]) hx hb dX10_comeTo_13 hl (by decide) rfl (fun ls hl => ?_)
    refine lv_iconst (v := (0 : Int32)) hx hb dX10_comeTo_15 (by decide) ?_
    refine lv_istore (lv' := [(6, .int (0 : Int32)), (5, .int s0), (0, .ref qv0), (1, .int x1), (2, .int x2), (3, .int x3)]) hx hb dX10_comeTo_16 hl (by decide) rfl (fun ls hl => ?_)
    exact b18 N v_ends x1 x2 x3 s0 (0 : Int32) _ _ _ hf hP hD hS (lv_sub hl [2, 3, 4, 5, 1, 0] rfl)
  unfold f_X10_comeTo at hf
  refine lv_iload_n hx hb dX10_comeTo_0 rfl (lv_at hl 1 rfl) ?_
  refine lv_iload hx hb dX10_comeTo_1 (lv_at hl 4 rfl) ?_
  refine xicmp_ne hx hb 12 dX10_comeTo_3 (by decide) hf (fun hf => ?_) (fun hf => ?_)
  · refine lv_iconst (v := (1 : Int32)) hx hb dX10_comeTo_6 (by decide) ?_
    refine lv_iload_n hx hb dX10_comeTo_7 rfl (lv_at hl 3 rfl) ?_
    refine lv_ishl hx hb dX10_comeTo_8 ?_
    refine lv_goto (tgt := 13) hx hb dX10_comeTo_9 (by decide) ?_
    exact b13 v_ends p1 p2 p3 ((1 : Int32) <<< (p3 &&& 31)) _ _ _ hf hP hD hS (lv_sub hl [0, 1, 2, 3] rfl)
  · refine lv_iconst (v := (0 : Int32)) hx hb dX10_comeTo_12 (by decide) ?_
    exact b13 v_ends p1 p2 p3 (0 : Int32) _ _ _ hf hP hD hS (lv_sub hl [0, 1, 2, 3] rfl)
theorem dX10_sumUp_0 : decode cX10_sumUp 0 = .ok (.aload_n 0, 1) := by decide +kernel
theorem dX10_sumUp_1 : decode cX10_sumUp 1 = .ok (.iconst 0, 1) := by decide +kernel
theorem dX10_sumUp_2 : decode cX10_sumUp 2 = .ok (.putfield 20, 3) := by decide +kernel
theorem dX10_sumUp_5 : decode cX10_sumUp 5 = .ok (.aload_n 0, 1) := by decide +kernel
theorem dX10_sumUp_6 : decode cX10_sumUp 6 = .ok (.iconst 0, 1) := by decide +kernel
theorem dX10_sumUp_7 : decode cX10_sumUp 7 = .ok (.putfield 23, 3) := by decide +kernel
theorem dX10_sumUp_10 : decode cX10_sumUp 10 = .ok (.aload_n 0, 1) := by decide +kernel
theorem dX10_sumUp_11 : decode cX10_sumUp 11 = .ok (.bipush 31, 2) := by decide +kernel
theorem dX10_sumUp_13 : decode cX10_sumUp 13 = .ok (.putfield 26, 3) := by decide +kernel
theorem dX10_sumUp_16 : decode cX10_sumUp 16 = .ok (.iconst 0, 1) := by decide +kernel
theorem dX10_sumUp_17 : decode cX10_sumUp 17 = .ok (.istore_n 2, 1) := by decide +kernel
theorem dX10_sumUp_18 : decode cX10_sumUp 18 = .ok (.iload_n 2, 1) := by decide +kernel
theorem dX10_sumUp_19 : decode cX10_sumUp 19 = .ok (.sipush 256, 3) := by decide +kernel
theorem dX10_sumUp_22 : decode cX10_sumUp 22 = .ok (.if_icmp .ge 66, 3) := by decide +kernel
theorem dX10_sumUp_25 : decode cX10_sumUp 25 = .ok (.iload_n 2, 1) := by decide +kernel
theorem dX10_sumUp_26 : decode cX10_sumUp 26 = .ok (.bipush 32, 2) := by decide +kernel
theorem dX10_sumUp_28 : decode cX10_sumUp 28 = .ok (.irem, 1) := by decide +kernel
theorem dX10_sumUp_29 : decode cX10_sumUp 29 = .ok (.istore_n 3, 1) := by decide +kernel
theorem dX10_sumUp_30 : decode cX10_sumUp 30 = .ok (.aload_n 0, 1) := by decide +kernel
theorem dX10_sumUp_31 : decode cX10_sumUp 31 = .ok (.getfield 39, 3) := by decide +kernel
theorem dX10_sumUp_34 : decode cX10_sumUp 34 = .ok (.iload_n 2, 1) := by decide +kernel
theorem dX10_sumUp_35 : decode cX10_sumUp 35 = .ok (.iaload, 1) := by decide +kernel
theorem dX10_sumUp_36 : decode cX10_sumUp 36 = .ok (.ifCond .le 46, 3) := by decide +kernel
theorem dX10_sumUp_39 : decode cX10_sumUp 39 = .ok (.iload_n 3, 1) := by decide +kernel
theorem dX10_sumUp_40 : decode cX10_sumUp 40 = .ok (.invokestatic 122, 3) := by decide +kernel
theorem dX10_sumUp_43 : decode cX10_sumUp 43 = .ok (.iload_n 1, 1) := by decide +kernel
theorem dX10_sumUp_44 : decode cX10_sumUp 44 = .ok (.if_icmp .ne 38, 3) := by decide +kernel
theorem dX10_sumUp_47 : decode cX10_sumUp 47 = .ok (.aload_n 0, 1) := by decide +kernel
theorem dX10_sumUp_48 : decode cX10_sumUp 48 = .ok (.dup, 1) := by decide +kernel
theorem dX10_sumUp_49 : decode cX10_sumUp 49 = .ok (.getfield 20, 3) := by decide +kernel
theorem dX10_sumUp_52 : decode cX10_sumUp 52 = .ok (.aload_n 0, 1) := by decide +kernel
theorem dX10_sumUp_53 : decode cX10_sumUp 53 = .ok (.getfield 39, 3) := by decide +kernel
theorem dX10_sumUp_56 : decode cX10_sumUp 56 = .ok (.iload_n 2, 1) := by decide +kernel
theorem dX10_sumUp_57 : decode cX10_sumUp 57 = .ok (.iaload, 1) := by decide +kernel
theorem dX10_sumUp_58 : decode cX10_sumUp 58 = .ok (.iadd, 1) := by decide +kernel
theorem dX10_sumUp_59 : decode cX10_sumUp 59 = .ok (.putfield 20, 3) := by decide +kernel
theorem dX10_sumUp_62 : decode cX10_sumUp 62 = .ok (.aload_n 0, 1) := by decide +kernel
theorem dX10_sumUp_63 : decode cX10_sumUp 63 = .ok (.dup, 1) := by decide +kernel
theorem dX10_sumUp_64 : decode cX10_sumUp 64 = .ok (.getfield 23, 3) := by decide +kernel
theorem dX10_sumUp_67 : decode cX10_sumUp 67 = .ok (.iload_n 3, 1) := by decide +kernel
theorem dX10_sumUp_68 : decode cX10_sumUp 68 = .ok (.ior, 1) := by decide +kernel
theorem dX10_sumUp_69 : decode cX10_sumUp 69 = .ok (.putfield 23, 3) := by decide +kernel
theorem dX10_sumUp_72 : decode cX10_sumUp 72 = .ok (.aload_n 0, 1) := by decide +kernel
theorem dX10_sumUp_73 : decode cX10_sumUp 73 = .ok (.dup, 1) := by decide +kernel
theorem dX10_sumUp_74 : decode cX10_sumUp 74 = .ok (.getfield 26, 3) := by decide +kernel
theorem dX10_sumUp_77 : decode cX10_sumUp 77 = .ok (.iload_n 3, 1) := by decide +kernel
theorem dX10_sumUp_78 : decode cX10_sumUp 78 = .ok (.iand, 1) := by decide +kernel
theorem dX10_sumUp_79 : decode cX10_sumUp 79 = .ok (.putfield 26, 3) := by decide +kernel
theorem dX10_sumUp_82 : decode cX10_sumUp 82 = .ok (.iinc 2 1, 3) := by decide +kernel
theorem dX10_sumUp_85 : decode cX10_sumUp 85 = .ok (.goto (-67), 3) := by decide +kernel
theorem dX10_sumUp_88 : decode cX10_sumUp 88 = .ok (.aload_n 0, 1) := by decide +kernel
theorem dX10_sumUp_89 : decode cX10_sumUp 89 = .ok (.aload_n 0, 1) := by decide +kernel
theorem dX10_sumUp_90 : decode cX10_sumUp 90 = .ok (.getfield 20, 3) := by decide +kernel
theorem dX10_sumUp_93 : decode cX10_sumUp 93 = .ok (.ifCond .ne 7, 3) := by decide +kernel
theorem dX10_sumUp_96 : decode cX10_sumUp 96 = .ok (.iconst 0, 1) := by decide +kernel
theorem dX10_sumUp_97 : decode cX10_sumUp 97 = .ok (.goto 7, 3) := by decide +kernel
theorem dX10_sumUp_100 : decode cX10_sumUp 100 = .ok (.aload_n 0, 1) := by decide +kernel
theorem dX10_sumUp_101 : decode cX10_sumUp 101 = .ok (.getfield 26, 3) := by decide +kernel
theorem dX10_sumUp_104 : decode cX10_sumUp 104 = .ok (.putfield 26, 3) := by decide +kernel
theorem dX10_sumUp_107 : decode cX10_sumUp 107 = .ok (.return_, 1) := by decide +kernel
def f_X10_sumUp_104 (N : Nat) (v_gone : Int32) (v_may : Int32) (v_must : Int32) (v_ends : Nat → Int32) (s1 : Int32) : Option (Int32 × Int32 × Int32) := some (v_gone, v_may, s1)
def f_X10_sumUp_82 (N : Nat) (k_18 : Int32 → Int32 → Int32 → (Nat → Int32) → Int32 → Int32 → Option (Int32 × Int32 × Int32)) (v_gone : Int32) (v_may : Int32) (v_must : Int32) (v_ends : Nat → Int32) (x1 : Int32) (x2 : Int32) : Option (Int32 × Int32 × Int32) := k_18 v_gone v_may v_must v_ends x1 (x2 + (1 : Int32))
def f_X10_sumUp_18 (N : Nat) : Nat → Int32 → Int32 → Int32 → (Nat → Int32) → Int32 → Int32 → Option (Int32 × Int32 × Int32)
  | 0, _, _, _, _, _, _ => none
  | n + 1, v_gone, v_may, v_must, v_ends, x1, x2 => if (256 : Int32) ≤ x2 then (if v_gone = 0 then (f_X10_sumUp_104 N v_gone v_may v_must v_ends (0 : Int32)) else (f_X10_sumUp_104 N v_gone v_may v_must v_ends v_must)) else (rmI x2 (32 : Int32) fun v28 => gA v_ends 256 x2 fun v35 => if v35 ≤ 0 then (f_X10_sumUp_82 N (f_X10_sumUp_18 N n) v_gone v_may v_must v_ends x1 x2) else (ob1 (f_J6_bitCount_0f7a4 N v28) fun r40 => if r40 = x1 then (gA v_ends 256 x2 fun v57 => f_X10_sumUp_82 N (f_X10_sumUp_18 N n) (v_gone + v57) (v_may ||| v28) (v_must &&& v28) v_ends x1 x2) else (f_X10_sumUp_82 N (f_X10_sumUp_18 N n) v_gone v_may v_must v_ends x1 x2)))
def f_X10_sumUp (N : Nat) (v_gone : Int32) (v_may : Int32) (v_must : Int32) (v_ends : Nat → Int32) (p1 : Int32) : Option (Int32 × Int32 × Int32) := f_X10_sumUp_18 N N (0 : Int32) (0 : Int32) (31 : Int32) v_ends p1 (0 : Int32)
set_option maxHeartbeats 4000000 in
set_option maxRecDepth 100000 in
theorem k_X10_sumUp (l : Launch) (N : Nat) (D : va_G) (cI cJ cZ cB cT : ClassId) (qv0 : Nat) (qv4 : Nat) (qv1 : Nat) (qv2 : Nat) (qv3 : Nat) (qv5 : Nat) (v_up : Int32) (v_low : Int32) (v_gone : Int32) (v_may : Int32) (v_must : Int32) (v_ends : Nat → Int32) (p1 : Int32) (o_v_gone : Int32) (o_v_may : Int32) (o_v_must : Int32) (hf : f_X10_sumUp N v_gone v_may v_must v_ends p1 = some (o_v_gone, o_v_may, o_v_must)) : ∀ sz, Met l yX10_sumUp (mw yX10_sumUp cX10_sumUp 4 none) ({ frames := 1, cells := 0, slots := 0, locals := 20 } : Room) (mPre D (mT cI cJ cZ cB cT) (W_WY_0_4 qv0 qv4 qv1 qv2 qv3 qv5 cI cJ cZ cB cT v_up v_low v_gone v_may v_must v_ends) sz [.ref qv0, .int p1]) ((mQv D (W_WY_0_4 qv0 qv4 qv1 qv2 qv3 qv5 cI cJ cZ cB cT v_up v_low o_v_gone o_v_may o_v_must v_ends)) (va_A (W_WY_0_4 qv0 qv4 qv1 qv2 qv3 qv5 cI cJ cZ cB cT v_up v_low v_gone v_may v_must v_ends) sz)) 0 0 (va_A (W_WY_0_4 qv0 qv4 qv1 qv2 qv3 qv5 cI cJ cZ cB cT v_up v_low v_gone v_may v_must v_ends) sz) := by
  refine mMet (Qc := (mQv D (W_WY_0_4 qv0 qv4 qv1 qv2 qv3 qv5 cI cJ cZ cB cT v_up v_low o_v_gone o_v_may o_v_must v_ends))) (by decide) (Nat.le_of_ble_eq_true rfl) (fun p e s m below meth c A ls hx hb hr hml hts hown hlocks hK hA hP hD hl => ?_)
  have hown : s.vm.findClass RX10 = some m.cls := hown
  have hl : lv_has ls 4 [(0, .ref qv0), (1, .int p1)] := hl
  have hS : va_S A s.heap s.heap [] := va_S.rf
  have b104 : ∀ (v_gone : Int32) (v_may : Int32) (v_must : Int32) (s1 : Int32) (H : Heap) (locs : List Loc) (ls : Array Slot), f_X10_sumUp_104 N v_gone v_may v_must v_ends s1 = some (o_v_gone, o_v_may, o_v_must) → va_P D vwCl (W_WY_0_4 qv0 qv4 qv1 qv2 qv3 qv5 cI cJ cZ cB cT v_up v_low v_gone v_may v_must v_ends) H → va_D A (W_WY_0_4 qv0 qv4 qv1 qv2 qv3 qv5 cI cJ cZ cB cT v_up v_low v_gone v_may v_must v_ends) → va_S A s.heap H locs → lv_has ls 4 [] → W p l e ({ frames := 1, cells := 0, slots := 0, locals := 20 } : Room) s m ([.ref qv0, .int p1] : List Value).toArray below meth c H locs 0 0 (MQ below ((mQv D (W_WY_0_4 qv0 qv4 qv1 qv2 qv3 qv5 cI cJ cZ cB cT v_up v_low o_v_gone o_v_may o_v_must v_ends)) A) ([.ref qv0, .int p1] : List Value).toArray s 0 0 A) (F0 m 104 ls [.int s1, .ref qv0]) := by
    intro v_gone v_may v_must s1 H locs ls hf hP hD hS hl
    unfold f_X10_sumUp_104 at hf
    refine pfX10_26 hx hb hts hown hK hP hD hS 0 rfl (Nat.le_of_ble_eq_true rfl) dX10_sumUp_104 (fun H locs hP hD hS => ?_)
    have hP : va_P D vwCl (W_WY_0_4 qv0 qv4 qv1 qv2 qv3 qv5 cI cJ cZ cB cT v_up v_low v_gone v_may s1 v_ends) H := hP
    have hD : va_D A (W_WY_0_4 qv0 qv4 qv1 qv2 qv3 qv5 cI cJ cZ cB cT v_up v_low v_gone v_may s1 v_ends) := hD
    cases hf
    exact mret_v hx hb hr hlocks hP hD hS dX10_sumUp_107
  have b18 : ∀ n18 : Nat, ∀ (v_gone : Int32) (v_may : Int32) (v_must : Int32) (x1 : Int32) (x2 : Int32) (H : Heap) (locs : List Loc) (ls : Array Slot), f_X10_sumUp_18 N n18 v_gone v_may v_must v_ends x1 x2 = some (o_v_gone, o_v_may, o_v_must) → va_P D vwCl (W_WY_0_4 qv0 qv4 qv1 qv2 qv3 qv5 cI cJ cZ cB cT v_up v_low v_gone v_may v_must v_ends) H → va_D A (W_WY_0_4 qv0 qv4 qv1 qv2 qv3 qv5 cI cJ cZ cB cT v_up v_low v_gone v_may v_must v_ends) → va_S A s.heap H locs → lv_has ls 4 [(0, .ref qv0), (1, .int x1), (2, .int x2)] → W p l e ({ frames := 1, cells := 0, slots := 0, locals := 20 } : Room) s m ([.ref qv0, .int p1] : List Value).toArray below meth c H locs 0 0 (MQ below ((mQv D (W_WY_0_4 qv0 qv4 qv1 qv2 qv3 qv5 cI cJ cZ cB cT v_up v_low o_v_gone o_v_may o_v_must v_ends)) A) ([.ref qv0, .int p1] : List Value).toArray s 0 0 A) (F0 m 18 ls []) := by
    intro n18
    induction n18 with
    | zero =>
      intro v_gone v_may v_must x1 x2 H locs ls hf hP hD hS hl
      simp [f_X10_sumUp_18] at hf
    | succ n18 ih18 =>
      have b82 : ∀ (v_gone : Int32) (v_may : Int32) (v_must : Int32) (x1 : Int32) (x2 : Int32) (H : Heap) (locs : List Loc) (ls : Array Slot), f_X10_sumUp_82 N (f_X10_sumUp_18 N n18) v_gone v_may v_must v_ends x1 x2 = some (o_v_gone, o_v_may, o_v_must) → va_P D vwCl (W_WY_0_4 qv0 qv4 qv1 qv2 qv3 qv5 cI cJ cZ cB cT v_up v_low v_gone v_may v_must v_ends) H → va_D A (W_WY_0_4 qv0 qv4 qv1 qv2 qv3 qv5 cI cJ cZ cB cT v_up v_low v_gone v_may v_must v_ends) → va_S A s.heap H locs → lv_has ls 4 [(0, .ref qv0), (1, .int x1), (2, .int x2)] → W p l e ({ frames := 1, cells := 0, slots := 0, locals := 20 } : Room) s m ([.ref qv0, .int p1] : List Value).toArray below meth c H locs 0 0 (MQ below ((mQv D (W_WY_0_4 qv0 qv4 qv1 qv2 qv3 qv5 cI cJ cZ cB cT v_up v_low o_v_gone o_v_may o_v_must v_ends)) A) ([.ref qv0, .int p1] : List Value).toArray s 0 0 A) (F0 m 82 ls []) := by
        intro v_gone v_may v_must x1 x2 H locs ls hf hP hD hS hl
        unfold f_X10_sumUp_82 at hf
        refine lv_iinc (v := (x2 + (1 : Int32))) (lv' := [(2, .int (x2 + (1 : Int32))), (0, .ref qv0), (1, .int x1)]) hx hb dX10_sumUp_82 hl (k := 2) rfl rfl (by decide) rfl (fun ls hl => ?_)
        refine lv_goto (tgt := 18) hx hb dX10_sumUp_85 (by decide) ?_
        exact ih18 v_gone v_may v_must x1 (x2 + (1 : Int32)) _ _ _ hf hP hD hS (lv_sub hl [1, 2, 0] rfl)
      intro v_gone v_may v_must x1 x2 H locs ls hf hP hD hS hl
      rw [f_X10_sumUp_18.eq_2] at hf
      refine lv_iload_n hx hb dX10_sumUp_18 rfl (lv_at hl 2 rfl) ?_
      refine lv_sipush (v := (256 : Int32)) hx hb dX10_sumUp_19 (by decide) ?_
      refine xicmp_ge hx hb 88 dX10_sumUp_22 (by decide) hf (fun hf => ?_) (fun hf => ?_)
      · refine lv_aload_n hx hb dX10_sumUp_88 rfl (lv_at hl 0 rfl) ?_
        refine lv_aload_n hx hb dX10_sumUp_89 rfl (lv_at hl 0 rfl) ?_
        refine gfX10_20 hx hb hts hown hK hP 0 rfl rfl dX10_sumUp_90 ?_
        refine xif_ne hx hb 100 dX10_sumUp_93 (by decide) hf (fun hf => ?_) (fun hf => ?_)
        · refine lv_iconst (v := (0 : Int32)) hx hb dX10_sumUp_96 (by decide) ?_
          refine lv_goto (tgt := 104) hx hb dX10_sumUp_97 (by decide) ?_
          exact b104 v_gone v_may v_must (0 : Int32) _ _ _ hf hP hD hS (lv_sub hl [] rfl)
        · refine lv_aload_n hx hb dX10_sumUp_100 rfl (lv_at hl 0 rfl) ?_
          refine gfX10_26 hx hb hts hown hK hP 0 rfl rfl dX10_sumUp_101 ?_
          exact b104 v_gone v_may v_must v_must _ _ _ hf hP hD hS (lv_sub hl [] rfl)
      · refine lv_iload_n hx hb dX10_sumUp_25 rfl (lv_at hl 2 rfl) ?_
        refine lv_bipush (v := (32 : Int32)) hx hb dX10_sumUp_26 (by decide) ?_
        refine xirem hx hb dX10_sumUp_28 hf (fun v28 hf => ?_)
        refine lv_istore_n (lv' := [(3, .int v28), (0, .ref qv0), (1, .int x1), (2, .int x2)]) hx hb dX10_sumUp_29 rfl hl (by decide) rfl (fun ls hl => ?_)
        refine lv_aload_n hx hb dX10_sumUp_30 rfl (lv_at hl 1 rfl) ?_
        refine gfX10_39 hx hb hts hown hK hP 0 rfl rfl dX10_sumUp_31 ?_
        refine lv_iload_n hx hb dX10_sumUp_34 rfl (lv_at hl 3 rfl) ?_
        refine xiald hx hb hK hP 1 0 rfl rfl dX10_sumUp_35 hf (fun v35 hf => ?_)
        refine xif_le hx hb 82 dX10_sumUp_36 (by decide) hf (fun hf => ?_) (fun hf => ?_)
        · exact b82 v_gone v_may v_must x1 x2 _ _ _ hf hP hD hS (lv_sub hl [1, 2, 3] rfl)
        · refine lv_iload_n hx hb dX10_sumUp_39 rfl (lv_at hl 0 rfl) ?_
          obtain ⟨r40, hg40, hf⟩ := ob1_some hf
          refine mcS0_i (As := [.int v28]) (rest := []) hx hb hml hown hts hK hP hD hS hA (k_J6_bitCount_0f7a4 l N D cI cJ cZ cB cT v28 r40 hg40) (kwX10_122 hts rfl rfl ⟨Nat.le_of_ble_eq_true rfl, Nat.le_of_ble_eq_true rfl⟩) rfl hl.1 rfl (Nat.le_of_ble_eq_true rfl) dX10_sumUp_40 ⟨Nat.zero_le _, Nat.zero_le _⟩ (fun hB40 H locs hP hD hS => ?_)
          refine lv_iload_n hx hb dX10_sumUp_43 rfl (lv_at hl 2 rfl) ?_
          refine xicmp_ne hx hb 82 dX10_sumUp_44 (by decide) hf (fun hf => ?_) (fun hf => ?_)
          · refine lv_aload_n hx hb dX10_sumUp_47 rfl (lv_at hl 1 rfl) ?_
            refine lv_dup hx hb dX10_sumUp_48 rfl ?_
            refine gfX10_20 hx hb hts hown hK hP 0 rfl rfl dX10_sumUp_49 ?_
            refine lv_aload_n hx hb dX10_sumUp_52 rfl (lv_at hl 1 rfl) ?_
            refine gfX10_39 hx hb hts hown hK hP 0 rfl rfl dX10_sumUp_53 ?_
            refine lv_iload_n hx hb dX10_sumUp_56 rfl (lv_at hl 3 rfl) ?_
            refine xiald hx hb hK hP 1 0 rfl rfl dX10_sumUp_57 hf (fun v57 hf => ?_)
            refine lv_iadd hx hb dX10_sumUp_58 ?_
            refine pfX10_20 hx hb hts hown hK hP hD hS 0 rfl (Nat.le_of_ble_eq_true rfl) dX10_sumUp_59 (fun H locs hP hD hS => ?_)
            have hP : va_P D vwCl (W_WY_0_4 qv0 qv4 qv1 qv2 qv3 qv5 cI cJ cZ cB cT v_up v_low (v_gone + v57) v_may v_must v_ends) H := hP
            have hD : va_D A (W_WY_0_4 qv0 qv4 qv1 qv2 qv3 qv5 cI cJ cZ cB cT v_up v_low (v_gone + v57) v_may v_must v_ends) := hD
            refine lv_aload_n hx hb dX10_sumUp_62 rfl (lv_at hl 1 rfl) ?_
            refine lv_dup hx hb dX10_sumUp_63 rfl ?_
            refine gfX10_23 hx hb hts hown hK hP 0 rfl rfl dX10_sumUp_64 ?_
            refine lv_iload_n hx hb dX10_sumUp_67 rfl (lv_at hl 0 rfl) ?_
            refine lv_ior hx hb dX10_sumUp_68 ?_
            refine pfX10_23 hx hb hts hown hK hP hD hS 0 rfl (Nat.le_of_ble_eq_true rfl) dX10_sumUp_69 (fun H locs hP hD hS => ?_)
            have hP : va_P D vwCl (W_WY_0_4 qv0 qv4 qv1 qv2 qv3 qv5 cI cJ cZ cB cT v_up v_low (v_gone + v57) (v_may ||| v28) v_must v_ends) H := hP
            have hD : va_D A (W_WY_0_4 qv0 qv4 qv1 qv2 qv3 qv5 cI cJ cZ cB cT v_up v_low (v_gone + v57) (v_may ||| v28) v_must v_ends) := hD
            refine lv_aload_n hx hb dX10_sumUp_72 rfl (lv_at hl 1 rfl) ?_
            refine lv_dup hx hb dX10_sumUp_73 rfl ?_
            refine gfX10_26 hx hb hts hown hK hP 0 rfl rfl dX10_sumUp_74 ?_
            refine lv_iload_n hx hb dX10_sumUp_77 rfl (lv_at hl 0 rfl) ?_
            refine lv_iand hx hb dX10_sumUp_78 ?_
            refine pfX10_26 hx hb hts hown hK hP hD hS 0 rfl (Nat.le_of_ble_eq_true rfl) dX10_sumUp_79 (fun H locs hP hD hS => ?_)
            have hP : va_P D vwCl (W_WY_0_4 qv0 qv4 qv1 qv2 qv3 qv5 cI cJ cZ cB cT v_up v_low (v_gone + v57) (v_may ||| v28) (v_must &&& v28) v_ends) H := hP
            have hD : va_D A (W_WY_0_4 qv0 qv4 qv1 qv2 qv3 qv5 cI cJ cZ cB cT v_up v_low (v_gone + v57) (v_may ||| v28) (v_must &&& v28) v_ends) := hD
            exact b82 (v_gone + v57) (v_may ||| v28) (v_must &&& v28) x1 x2 _ _ _ hf hP hD hS (lv_sub hl [1, 2, 3] rfl)
          · exact b82 v_gone v_may v_must x1 x2 _ _ _ hf hP hD hS (lv_sub hl [1, 2, 3] rfl)
  unfold f_X10_sumUp at hf
  refine lv_aload_n hx hb dX10_sumUp_0 rfl (lv_at hl 0 rfl) ?_
  refine lv_iconst (v := (0 : Int32)) hx hb dX10_sumUp_1 (by decide) ?_
  refine pfX10_20 hx hb hts hown hK hP hD hS 0 rfl (Nat.le_of_ble_eq_true rfl) dX10_sumUp_2 (fun H locs hP hD hS => ?_)
  have hP : va_P D vwCl (W_WY_0_4 qv0 qv4 qv1 qv2 qv3 qv5 cI cJ cZ cB cT v_up v_low (0 : Int32) v_may v_must v_ends) H := hP
  have hD : va_D A (W_WY_0_4 qv0 qv4 qv1 qv2 qv3 qv5 cI cJ cZ cB cT v_up v_low (0 : Int32) v_may v_must v_ends) := hD
  refine lv_aload_n hx hb dX10_sumUp_5 rfl (lv_at hl 0 rfl) ?_
  refine lv_iconst (v := (0 : Int32)) hx hb dX10_sumUp_6 (by decide) ?_
  refine pfX10_23 hx hb hts hown hK hP hD hS 0 rfl (Nat.le_of_ble_eq_true rfl) dX10_sumUp_7 (fun H locs hP hD hS => ?_)
  have hP : va_P D vwCl (W_WY_0_4 qv0 qv4 qv1 qv2 qv3 qv5 cI cJ cZ cB cT v_up v_low (0 : Int32) (0 : Int32) v_must v_ends) H := hP
  have hD : va_D A (W_WY_0_4 qv0 qv4 qv1 qv2 qv3 qv5 cI cJ cZ cB cT v_up v_low (0 : Int32) (0 : Int32) v_must v_ends) := hD
  refine lv_aload_n hx hb dX10_sumUp_10 rfl (lv_at hl 0 rfl) ?_
  refine lv_bipush (v := (31 : Int32)) hx hb dX10_sumUp_11 (by decide) ?_
  refine pfX10_26 hx hb hts hown hK hP hD hS 0 rfl (Nat.le_of_ble_eq_true rfl) dX10_sumUp_13 (fun H locs hP hD hS => ?_)
  have hP : va_P D vwCl (W_WY_0_4 qv0 qv4 qv1 qv2 qv3 qv5 cI cJ cZ cB cT v_up v_low (0 : Int32) (0 : Int32) (31 : Int32) v_ends) H := hP
  have hD : va_D A (W_WY_0_4 qv0 qv4 qv1 qv2 qv3 qv5 cI cJ cZ cB cT v_up v_low (0 : Int32) (0 : Int32) (31 : Int32) v_ends) := hD
  refine lv_iconst (v := (0 : Int32)) hx hb dX10_sumUp_16 (by decide) ?_
  refine lv_istore_n (lv' := [(2, .int (0 : Int32)), (0, .ref qv0), (1, .int p1)]) hx hb dX10_sumUp_17 rfl hl (by decide) rfl (fun ls hl => ?_)
  exact b18 N (0 : Int32) (0 : Int32) (31 : Int32) p1 (0 : Int32) _ _ _ hf hP hD hS (lv_sub hl [1, 2, 0] rfl)
theorem dX10_countInCrowd_0 : decode cX10_countInCrowd 0 = .ok (.aload_n 0, 1) := by decide +kernel
theorem dX10_countInCrowd_1 : decode cX10_countInCrowd 1 = .ok (.getfield 39, 3) := by decide +kernel
theorem dX10_countInCrowd_4 : decode cX10_countInCrowd 4 = .ok (.invokestatic 98, 3) := by decide +kernel
theorem dX10_countInCrowd_7 : decode cX10_countInCrowd 7 = .ok (.iload_n 3, 1) := by decide +kernel
theorem dX10_countInCrowd_8 : decode cX10_countInCrowd 8 = .ok (.bipush 32, 2) := by decide +kernel
theorem dX10_countInCrowd_10 : decode cX10_countInCrowd 10 = .ok (.imul, 1) := by decide +kernel
theorem dX10_countInCrowd_11 : decode cX10_countInCrowd 11 = .ok (.aload_n 2, 1) := by decide +kernel
theorem dX10_countInCrowd_12 : decode cX10_countInCrowd 12 = .ok (.iconst 0, 1) := by decide +kernel
theorem dX10_countInCrowd_13 : decode cX10_countInCrowd 13 = .ok (.invokevirtual 102, 3) := by decide +kernel
theorem dX10_countInCrowd_16 : decode cX10_countInCrowd 16 = .ok (.iload_n 3, 1) := by decide +kernel
theorem dX10_countInCrowd_17 : decode cX10_countInCrowd 17 = .ok (.if_icmp .ne 7, 3) := by decide +kernel
theorem dX10_countInCrowd_20 : decode cX10_countInCrowd 20 = .ok (.iconst 1, 1) := by decide +kernel
theorem dX10_countInCrowd_21 : decode cX10_countInCrowd 21 = .ok (.goto 4, 3) := by decide +kernel
theorem dX10_countInCrowd_24 : decode cX10_countInCrowd 24 = .ok (.iconst 0, 1) := by decide +kernel
theorem dX10_countInCrowd_25 : decode cX10_countInCrowd 25 = .ok (.iadd, 1) := by decide +kernel
theorem dX10_countInCrowd_26 : decode cX10_countInCrowd 26 = .ok (.istore 5, 2) := by decide +kernel
theorem dX10_countInCrowd_28 : decode cX10_countInCrowd 28 = .ok (.iload 5, 2) := by decide +kernel
theorem dX10_countInCrowd_30 : decode cX10_countInCrowd 30 = .ok (.ifCond .lt 19, 3) := by decide +kernel
theorem dX10_countInCrowd_33 : decode cX10_countInCrowd 33 = .ok (.iload 5, 2) := by decide +kernel
theorem dX10_countInCrowd_35 : decode cX10_countInCrowd 35 = .ok (.sipush 256, 3) := by decide +kernel
theorem dX10_countInCrowd_38 : decode cX10_countInCrowd 38 = .ok (.if_icmp .ge 11, 3) := by decide +kernel
theorem dX10_countInCrowd_41 : decode cX10_countInCrowd 41 = .ok (.aload_n 0, 1) := by decide +kernel
theorem dX10_countInCrowd_42 : decode cX10_countInCrowd 42 = .ok (.getfield 39, 3) := by decide +kernel
theorem dX10_countInCrowd_45 : decode cX10_countInCrowd 45 = .ok (.iload 5, 2) := by decide +kernel
theorem dX10_countInCrowd_47 : decode cX10_countInCrowd 47 = .ok (.iconst 1, 1) := by decide +kernel
theorem dX10_countInCrowd_48 : decode cX10_countInCrowd 48 = .ok (.iastore, 1) := by decide +kernel
theorem dX10_countInCrowd_49 : decode cX10_countInCrowd 49 = .ok (.iconst 1, 1) := by decide +kernel
theorem dX10_countInCrowd_50 : decode cX10_countInCrowd 50 = .ok (.istore 6, 2) := by decide +kernel
theorem dX10_countInCrowd_52 : decode cX10_countInCrowd 52 = .ok (.iload 6, 2) := by decide +kernel
theorem dX10_countInCrowd_54 : decode cX10_countInCrowd 54 = .ok (.aload_n 2, 1) := by decide +kernel
theorem dX10_countInCrowd_55 : decode cX10_countInCrowd 55 = .ok (.getfield 105, 3) := by decide +kernel
theorem dX10_countInCrowd_58 : decode cX10_countInCrowd 58 = .ok (.if_icmp .ge 88, 3) := by decide +kernel
theorem dX10_countInCrowd_61 : decode cX10_countInCrowd 61 = .ok (.iload 6, 2) := by decide +kernel
theorem dX10_countInCrowd_63 : decode cX10_countInCrowd 63 = .ok (.iconst 5, 1) := by decide +kernel
theorem dX10_countInCrowd_64 : decode cX10_countInCrowd 64 = .ok (.if_icmp .ge 82, 3) := by decide +kernel
theorem dX10_countInCrowd_67 : decode cX10_countInCrowd 67 = .ok (.aload_n 0, 1) := by decide +kernel
theorem dX10_countInCrowd_68 : decode cX10_countInCrowd 68 = .ok (.getfield 39, 3) := by decide +kernel
theorem dX10_countInCrowd_71 : decode cX10_countInCrowd 71 = .ok (.iconst 0, 1) := by decide +kernel
theorem dX10_countInCrowd_72 : decode cX10_countInCrowd 72 = .ok (.aload_n 0, 1) := by decide +kernel
theorem dX10_countInCrowd_73 : decode cX10_countInCrowd 73 = .ok (.getfield 42, 3) := by decide +kernel
theorem dX10_countInCrowd_76 : decode cX10_countInCrowd 76 = .ok (.iconst 0, 1) := by decide +kernel
theorem dX10_countInCrowd_77 : decode cX10_countInCrowd 77 = .ok (.sipush 256, 3) := by decide +kernel
theorem dX10_countInCrowd_80 : decode cX10_countInCrowd 80 = .ok (.invokestatic 108, 3) := by decide +kernel
theorem dX10_countInCrowd_83 : decode cX10_countInCrowd 83 = .ok (.aload_n 0, 1) := by decide +kernel
theorem dX10_countInCrowd_84 : decode cX10_countInCrowd 84 = .ok (.getfield 39, 3) := by decide +kernel
theorem dX10_countInCrowd_87 : decode cX10_countInCrowd 87 = .ok (.invokestatic 98, 3) := by decide +kernel
theorem dX10_countInCrowd_90 : decode cX10_countInCrowd 90 = .ok (.iconst 0, 1) := by decide +kernel
theorem dX10_countInCrowd_91 : decode cX10_countInCrowd 91 = .ok (.istore 7, 2) := by decide +kernel
theorem dX10_countInCrowd_93 : decode cX10_countInCrowd 93 = .ok (.iload 7, 2) := by decide +kernel
theorem dX10_countInCrowd_95 : decode cX10_countInCrowd 95 = .ok (.aload_n 1, 1) := by decide +kernel
theorem dX10_countInCrowd_96 : decode cX10_countInCrowd 96 = .ok (.getfield 51, 3) := by decide +kernel
theorem dX10_countInCrowd_99 : decode cX10_countInCrowd 99 = .ok (.if_icmp .ge 41, 3) := by decide +kernel
theorem dX10_countInCrowd_102 : decode cX10_countInCrowd 102 = .ok (.iload 7, 2) := by decide +kernel
theorem dX10_countInCrowd_104 : decode cX10_countInCrowd 104 = .ok (.bipush 8, 2) := by decide +kernel
theorem dX10_countInCrowd_106 : decode cX10_countInCrowd 106 = .ok (.if_icmp .ge 34, 3) := by decide +kernel
theorem dX10_countInCrowd_109 : decode cX10_countInCrowd 109 = .ok (.aload_n 0, 1) := by decide +kernel
theorem dX10_countInCrowd_110 : decode cX10_countInCrowd 110 = .ok (.iload 7, 2) := by decide +kernel
theorem dX10_countInCrowd_112 : decode cX10_countInCrowd 112 = .ok (.aload_n 1, 1) := by decide +kernel
theorem dX10_countInCrowd_113 : decode cX10_countInCrowd 113 = .ok (.iload 7, 2) := by decide +kernel
theorem dX10_countInCrowd_115 : decode cX10_countInCrowd 115 = .ok (.invokevirtual 86, 3) := by decide +kernel
theorem dX10_countInCrowd_118 : decode cX10_countInCrowd 118 = .ok (.iconst 1, 1) := by decide +kernel
theorem dX10_countInCrowd_119 : decode cX10_countInCrowd 119 = .ok (.iload 7, 2) := by decide +kernel
theorem dX10_countInCrowd_121 : decode cX10_countInCrowd 121 = .ok (.ishl, 1) := by decide +kernel
theorem dX10_countInCrowd_122 : decode cX10_countInCrowd 122 = .ok (.ior, 1) := by decide +kernel
theorem dX10_countInCrowd_123 : decode cX10_countInCrowd 123 = .ok (.iload 6, 2) := by decide +kernel
theorem dX10_countInCrowd_125 : decode cX10_countInCrowd 125 = .ok (.aload_n 2, 1) := by decide +kernel
theorem dX10_countInCrowd_126 : decode cX10_countInCrowd 126 = .ok (.iload 6, 2) := by decide +kernel
theorem dX10_countInCrowd_128 : decode cX10_countInCrowd 128 = .ok (.invokevirtual 102, 3) := by decide +kernel
theorem dX10_countInCrowd_131 : decode cX10_countInCrowd 131 = .ok (.invokevirtual 114, 3) := by decide +kernel
theorem dX10_countInCrowd_134 : decode cX10_countInCrowd 134 = .ok (.iinc 7 1, 3) := by decide +kernel
theorem dX10_countInCrowd_137 : decode cX10_countInCrowd 137 = .ok (.goto (-44), 3) := by decide +kernel
theorem dX10_countInCrowd_140 : decode cX10_countInCrowd 140 = .ok (.iinc 6 1, 3) := by decide +kernel
theorem dX10_countInCrowd_143 : decode cX10_countInCrowd 143 = .ok (.goto (-91), 3) := by decide +kernel
theorem dX10_countInCrowd_146 : decode cX10_countInCrowd 146 = .ok (.aload_n 0, 1) := by decide +kernel
theorem dX10_countInCrowd_147 : decode cX10_countInCrowd 147 = .ok (.iload 4, 2) := by decide +kernel
theorem dX10_countInCrowd_149 : decode cX10_countInCrowd 149 = .ok (.invokevirtual 118, 3) := by decide +kernel
theorem dX10_countInCrowd_152 : decode cX10_countInCrowd 152 = .ok (.return_, 1) := by decide +kernel
def f_X10_countInCrowd_146 (N : Nat) (v_gone : Int32) (v_may : Int32) (v_must : Int32) (v_ends : Nat → Int32) (v_beg : Nat → Int32) (d_n : Int32) (d_road : Nat → Int32) (n_calls : Int32) (n_cl : Nat → Int32) (x4 : Int32) : Option (Int32 × Int32 × Int32 × (Nat → Int32) × (Nat → Int32)) := ob3 (f_X10_sumUp N v_gone v_may v_must v_ends x4) fun v_gone_149 v_may_149 v_must_149 => some (v_gone_149, v_may_149, v_must_149, v_ends, v_beg)
def f_X10_countInCrowd_140 (N : Nat) (k_52 : Int32 → Int32 → Int32 → (Nat → Int32) → (Nat → Int32) → Int32 → (Nat → Int32) → Int32 → (Nat → Int32) → Int32 → Int32 → Option (Int32 × Int32 × Int32 × (Nat → Int32) × (Nat → Int32))) (v_gone : Int32) (v_may : Int32) (v_must : Int32) (v_ends : Nat → Int32) (v_beg : Nat → Int32) (d_n : Int32) (d_road : Nat → Int32) (n_calls : Int32) (n_cl : Nat → Int32) (x4 : Int32) (x6 : Int32) : Option (Int32 × Int32 × Int32 × (Nat → Int32) × (Nat → Int32)) := k_52 v_gone v_may v_must v_ends v_beg d_n d_road n_calls n_cl x4 (x6 + (1 : Int32))
def f_X10_countInCrowd_93 (N : Nat) (k_52 : Int32 → Int32 → Int32 → (Nat → Int32) → (Nat → Int32) → Int32 → (Nat → Int32) → Int32 → (Nat → Int32) → Int32 → Int32 → Option (Int32 × Int32 × Int32 × (Nat → Int32) × (Nat → Int32))) : Nat → Int32 → Int32 → Int32 → (Nat → Int32) → (Nat → Int32) → Int32 → (Nat → Int32) → Int32 → (Nat → Int32) → Int32 → Int32 → Int32 → Option (Int32 × Int32 × Int32 × (Nat → Int32) × (Nat → Int32))
  | 0, _, _, _, _, _, _, _, _, _, _, _, _ => none
  | n + 1, v_gone, v_may, v_must, v_ends, v_beg, d_n, d_road, n_calls, n_cl, x4, x6, x7 => if d_n ≤ x7 then (f_X10_countInCrowd_140 N k_52 v_gone v_may v_must v_ends v_beg d_n d_road n_calls n_cl x4 x6) else (if (8 : Int32) ≤ x7 then (f_X10_countInCrowd_140 N k_52 v_gone v_may v_must v_ends v_beg d_n d_road n_calls n_cl x4 x6) else (ob1 (f_X2_near N d_n d_road x7) fun r115 => ob1 (f_X4_callLand N n_calls n_cl x6) fun r128 => ob1 (f_X10_comeTo N v_ends v_beg x7 (r115 ||| ((1 : Int32) <<< (x7 &&& 31))) x6 r128) fun v_ends_131 => (f_X10_countInCrowd_93 N k_52 n) v_gone v_may v_must v_ends_131 v_beg d_n d_road n_calls n_cl x4 x6 (x7 + (1 : Int32))))
def f_X10_countInCrowd_52 (N : Nat) : Nat → Int32 → Int32 → Int32 → (Nat → Int32) → (Nat → Int32) → Int32 → (Nat → Int32) → Int32 → (Nat → Int32) → Int32 → Int32 → Option (Int32 × Int32 × Int32 × (Nat → Int32) × (Nat → Int32))
  | 0, _, _, _, _, _, _, _, _, _, _, _ => none
  | n + 1, v_gone, v_may, v_must, v_ends, v_beg, d_n, d_road, n_calls, n_cl, x4, x6 => if n_calls ≤ x6 then (f_X10_countInCrowd_146 N v_gone v_may v_must v_ends v_beg d_n d_road n_calls n_cl x4) else (if (5 : Int32) ≤ x6 then (f_X10_countInCrowd_146 N v_gone v_may v_must v_ends v_beg d_n d_road n_calls n_cl x4) else (cpI v_ends 256 v_beg 256 (0 : Int32) (0 : Int32) (256 : Int32) fun v_beg_80 => ob1 (f_X10_clear N v_ends) fun v_ends_87 => f_X10_countInCrowd_93 N (f_X10_countInCrowd_52 N n) N v_gone v_may v_must v_ends_87 v_beg_80 d_n d_road n_calls n_cl x4 x6 (0 : Int32)))
def f_X10_countInCrowd_49 (N : Nat) (v_gone : Int32) (v_may : Int32) (v_must : Int32) (v_ends : Nat → Int32) (v_beg : Nat → Int32) (d_n : Int32) (d_road : Nat → Int32) (n_calls : Int32) (n_cl : Nat → Int32) (x4 : Int32) : Option (Int32 × Int32 × Int32 × (Nat → Int32) × (Nat → Int32)) := f_X10_countInCrowd_52 N N v_gone v_may v_must v_ends v_beg d_n d_road n_calls n_cl x4 (1 : Int32)
def f_X10_countInCrowd_25 (N : Nat) (v_gone : Int32) (v_may : Int32) (v_must : Int32) (v_ends : Nat → Int32) (v_beg : Nat → Int32) (d_n : Int32) (d_road : Nat → Int32) (n_calls : Int32) (n_cl : Nat → Int32) (x4 : Int32) (s0 : Int32) (s1 : Int32) : Option (Int32 × Int32 × Int32 × (Nat → Int32) × (Nat → Int32)) := if (s0 + s1) < 0 then (f_X10_countInCrowd_49 N v_gone v_may v_must v_ends v_beg d_n d_road n_calls n_cl x4) else (if (256 : Int32) ≤ (s0 + s1) then (f_X10_countInCrowd_49 N v_gone v_may v_must v_ends v_beg d_n d_road n_calls n_cl x4) else (sA v_ends 256 (s0 + s1) (1 : Int32) fun v_ends_48 => f_X10_countInCrowd_49 N v_gone v_may v_must v_ends_48 v_beg d_n d_road n_calls n_cl x4))
def f_X10_countInCrowd (N : Nat) (v_gone : Int32) (v_may : Int32) (v_must : Int32) (v_ends : Nat → Int32) (v_beg : Nat → Int32) (d_n : Int32) (d_road : Nat → Int32) (n_calls : Int32) (n_cl : Nat → Int32) (p3 : Int32) (p4 : Int32) : Option (Int32 × Int32 × Int32 × (Nat → Int32) × (Nat → Int32)) := ob1 (f_X10_clear N v_ends) fun v_ends_4 => ob1 (f_X4_callLand N n_calls n_cl (0 : Int32)) fun r13 => if r13 = p3 then (f_X10_countInCrowd_25 N v_gone v_may v_must v_ends_4 v_beg d_n d_road n_calls n_cl p4 (p3 * (32 : Int32)) (1 : Int32)) else (f_X10_countInCrowd_25 N v_gone v_may v_must v_ends_4 v_beg d_n d_road n_calls n_cl p4 (p3 * (32 : Int32)) (0 : Int32))
set_option maxHeartbeats 4000000 in
set_option maxRecDepth 100000 in
theorem k_X10_countInCrowd (l : Launch) (N : Nat) (D : va_G) (cI cJ cZ cB cT : ClassId) (qv0 : Nat) (qv4 : Nat) (qv5 : Nat) (qd0 : Nat) (qd2 : Nat) (qn0 : Nat) (qn1 : Nat) (qv1 : Nat) (qv2 : Nat) (qv3 : Nat) (qd1 : Nat) (qn2 : Nat) (qn3 : Nat) (qn4 : Nat) (qn5 : Nat) (qn6 : Nat) (v_up : Int32) (v_low : Int32) (v_gone : Int32) (v_may : Int32) (v_must : Int32) (v_ends : Nat → Int32) (v_beg : Nat → Int32) (d_n : Int32) (d_road : Nat → Int32) (n_calls : Int32) (n_bord : Int32) (n_rep : Int32) (n_unl : Int32) (n_pay : Int32) (n_cl : Nat → Int32) (p3 : Int32) (p4 : Int32) (o_v_gone : Int32) (o_v_may : Int32) (o_v_must : Int32) (o_v_ends : Nat → Int32) (o_v_beg : Nat → Int32) (hf : f_X10_countInCrowd N v_gone v_may v_must v_ends v_beg d_n d_road n_calls n_cl p3 p4 = some (o_v_gone, o_v_may, o_v_must, o_v_ends, o_v_beg)) : ∀ sz, Met l yX10_countInCrowd (mw yX10_countInCrowd cX10_countInCrowd 8 none) ({ frames := 2, cells := 0, slots := 0, locals := 60 } : Room) (mPre D (mT cI cJ cZ cB cT) (W_WYLN_0_4t6_8t10 qv0 qv4 qv5 qd0 qd2 qn0 qn1 qv1 qv2 qv3 qd1 qn2 qn3 qn4 qn5 qn6 cI cJ cZ cB cT v_up v_low v_gone v_may v_must v_ends v_beg d_n d_road n_calls n_bord n_rep n_unl n_pay n_cl) sz [.ref qv0, .ref qd0, .ref qn0, .int p3, .int p4]) ((mQv D (W_WYLN_0_4t6_8t10 qv0 qv4 qv5 qd0 qd2 qn0 qn1 qv1 qv2 qv3 qd1 qn2 qn3 qn4 qn5 qn6 cI cJ cZ cB cT v_up v_low o_v_gone o_v_may o_v_must o_v_ends o_v_beg d_n d_road n_calls n_bord n_rep n_unl n_pay n_cl)) (va_A (W_WYLN_0_4t6_8t10 qv0 qv4 qv5 qd0 qd2 qn0 qn1 qv1 qv2 qv3 qd1 qn2 qn3 qn4 qn5 qn6 cI cJ cZ cB cT v_up v_low v_gone v_may v_must v_ends v_beg d_n d_road n_calls n_bord n_rep n_unl n_pay n_cl) sz)) 0 0 (va_A (W_WYLN_0_4t6_8t10 qv0 qv4 qv5 qd0 qd2 qn0 qn1 qv1 qv2 qv3 qd1 qn2 qn3 qn4 qn5 qn6 cI cJ cZ cB cT v_up v_low v_gone v_may v_must v_ends v_beg d_n d_road n_calls n_bord n_rep n_unl n_pay n_cl) sz) := by
  refine mMet (Qc := (mQv D (W_WYLN_0_4t6_8t10 qv0 qv4 qv5 qd0 qd2 qn0 qn1 qv1 qv2 qv3 qd1 qn2 qn3 qn4 qn5 qn6 cI cJ cZ cB cT v_up v_low o_v_gone o_v_may o_v_must o_v_ends o_v_beg d_n d_road n_calls n_bord n_rep n_unl n_pay n_cl))) (by decide) (Nat.le_of_ble_eq_true rfl) (fun p e s m below meth c A ls hx hb hr hml hts hown hlocks hK hA hP hD hl => ?_)
  have hown : s.vm.findClass RX10 = some m.cls := hown
  have hl : lv_has ls 8 [(0, .ref qv0), (1, .ref qd0), (2, .ref qn0), (3, .int p3), (4, .int p4)] := hl
  have hS : va_S A s.heap s.heap [] := va_S.rf
  have b146 : ∀ (v_gone : Int32) (v_may : Int32) (v_must : Int32) (v_ends : Nat → Int32) (v_beg : Nat → Int32) (x4 : Int32) (H : Heap) (locs : List Loc) (ls : Array Slot), f_X10_countInCrowd_146 N v_gone v_may v_must v_ends v_beg d_n d_road n_calls n_cl x4 = some (o_v_gone, o_v_may, o_v_must, o_v_ends, o_v_beg) → va_P D vwCl (W_WYLN_0_4t6_8t10 qv0 qv4 qv5 qd0 qd2 qn0 qn1 qv1 qv2 qv3 qd1 qn2 qn3 qn4 qn5 qn6 cI cJ cZ cB cT v_up v_low v_gone v_may v_must v_ends v_beg d_n d_road n_calls n_bord n_rep n_unl n_pay n_cl) H → va_D A (W_WYLN_0_4t6_8t10 qv0 qv4 qv5 qd0 qd2 qn0 qn1 qv1 qv2 qv3 qd1 qn2 qn3 qn4 qn5 qn6 cI cJ cZ cB cT v_up v_low v_gone v_may v_must v_ends v_beg d_n d_road n_calls n_bord n_rep n_unl n_pay n_cl) → va_S A s.heap H locs → lv_has ls 8 [(0, .ref qv0), (4, .int x4)] → W p l e ({ frames := 2, cells := 0, slots := 0, locals := 60 } : Room) s m ([.ref qv0, .ref qd0, .ref qn0, .int p3, .int p4] : List Value).toArray below meth c H locs 0 0 (MQ below ((mQv D (W_WYLN_0_4t6_8t10 qv0 qv4 qv5 qd0 qd2 qn0 qn1 qv1 qv2 qv3 qd1 qn2 qn3 qn4 qn5 qn6 cI cJ cZ cB cT v_up v_low o_v_gone o_v_may o_v_must o_v_ends o_v_beg d_n d_road n_calls n_bord n_rep n_unl n_pay n_cl)) A) ([.ref qv0, .ref qd0, .ref qn0, .int p3, .int p4] : List Value).toArray s 0 0 A) (F0 m 146 ls []) := by
    intro v_gone v_may v_must v_ends v_beg x4 H locs ls hf hP hD hS hl
    unfold f_X10_countInCrowd_146 at hf
    refine lv_aload_n hx hb dX10_countInCrowd_146 rfl (lv_at hl 0 rfl) ?_
    refine lv_iload hx hb dX10_countInCrowd_147 (lv_at hl 1 rfl) ?_
    obtain ⟨v_gone_149, v_may_149, v_must_149, hg149, hf⟩ := ob3_some hf
    refine mcV_v (wr := [(qv5, .inl (cI, 256, .inl v_beg)), (qd0, .inr (2, [.int d_n, .ref qd1, .ref qd2])), (qd2, .inl (cI, 8, .inl d_road)), (qn0, .inr (4, [.int n_calls, .int n_bord, .int n_rep, .int n_unl, .int n_pay, .ref qn1, .ref qn2, .ref qn3, .ref qn4, .ref qn5, .ref qn6])), (qn1, .inl (cI, 5, .inl n_cl))]) (As := [.int x4]) (rest := []) hx hb hml hown hts hK hP hD hS hA (k_X10_sumUp l N D cI cJ cZ cB cT qv0 qv4 qv1 qv2 qv3 qv5 v_up v_low v_gone v_may v_must v_ends x4 v_gone_149 v_may_149 v_must_149 hg149) (kwX10_118 hts rfl rfl ⟨Nat.le_of_ble_eq_true rfl, Nat.le_of_ble_eq_true rfl⟩) [0, 1] [2, 3, 4, 5, 6] rfl rfl rfl (by decide) rfl 0 rfl rfl rfl rfl hl.1 rfl (Nat.le_of_ble_eq_true rfl) dX10_countInCrowd_149 ⟨Nat.zero_le _, Nat.zero_le _⟩ (fun H locs hP hD hS => ?_)
    have hP := mP_sub (wc := (W_WYLN_0_4t6_8t10 qv0 qv4 qv5 qd0 qd2 qn0 qn1 qv1 qv2 qv3 qd1 qn2 qn3 qn4 qn5 qn6 cI cJ cZ cB cT v_up v_low v_gone_149 v_may_149 v_must_149 v_ends v_beg d_n d_road n_calls n_bord n_rep n_unl n_pay n_cl)) hP [5, 6, 0, 1, 2, 3, 4] rfl
    have hD := hD.sub (ws' := (W_WYLN_0_4t6_8t10 qv0 qv4 qv5 qd0 qd2 qn0 qn1 qv1 qv2 qv3 qd1 qn2 qn3 qn4 qn5 qn6 cI cJ cZ cB cT v_up v_low v_gone_149 v_may_149 v_must_149 v_ends v_beg d_n d_road n_calls n_bord n_rep n_unl n_pay n_cl)) [5, 6, 0, 1, 2, 3, 4] rfl rfl
    cases hf
    exact mret_v hx hb hr hlocks hP hD hS dX10_countInCrowd_152
  have b52 : ∀ n52 : Nat, ∀ (v_gone : Int32) (v_may : Int32) (v_must : Int32) (v_ends : Nat → Int32) (v_beg : Nat → Int32) (x4 : Int32) (x6 : Int32) (H : Heap) (locs : List Loc) (ls : Array Slot), f_X10_countInCrowd_52 N n52 v_gone v_may v_must v_ends v_beg d_n d_road n_calls n_cl x4 x6 = some (o_v_gone, o_v_may, o_v_must, o_v_ends, o_v_beg) → va_P D vwCl (W_WYLN_0_4t6_8t10 qv0 qv4 qv5 qd0 qd2 qn0 qn1 qv1 qv2 qv3 qd1 qn2 qn3 qn4 qn5 qn6 cI cJ cZ cB cT v_up v_low v_gone v_may v_must v_ends v_beg d_n d_road n_calls n_bord n_rep n_unl n_pay n_cl) H → va_D A (W_WYLN_0_4t6_8t10 qv0 qv4 qv5 qd0 qd2 qn0 qn1 qv1 qv2 qv3 qd1 qn2 qn3 qn4 qn5 qn6 cI cJ cZ cB cT v_up v_low v_gone v_may v_must v_ends v_beg d_n d_road n_calls n_bord n_rep n_unl n_pay n_cl) → va_S A s.heap H locs → lv_has ls 8 [(0, .ref qv0), (1, .ref qd0), (2, .ref qn0), (4, .int x4), (6, .int x6)] → W p l e ({ frames := 2, cells := 0, slots := 0, locals := 60 } : Room) s m ([.ref qv0, .ref qd0, .ref qn0, .int p3, .int p4] : List Value).toArray below meth c H locs 0 0 (MQ below ((mQv D (W_WYLN_0_4t6_8t10 qv0 qv4 qv5 qd0 qd2 qn0 qn1 qv1 qv2 qv3 qd1 qn2 qn3 qn4 qn5 qn6 cI cJ cZ cB cT v_up v_low o_v_gone o_v_may o_v_must o_v_ends o_v_beg d_n d_road n_calls n_bord n_rep n_unl n_pay n_cl)) A) ([.ref qv0, .ref qd0, .ref qn0, .int p3, .int p4] : List Value).toArray s 0 0 A) (F0 m 52 ls []) := by
    intro n52
    induction n52 with
    | zero =>
      intro v_gone v_may v_must v_ends v_beg x4 x6 H locs ls hf hP hD hS hl
      simp [f_X10_countInCrowd_52] at hf
    | succ n52 ih52 =>
      have b140 : ∀ (v_gone : Int32) (v_may : Int32) (v_must : Int32) (v_ends : Nat → Int32) (v_beg : Nat → Int32) (x4 : Int32) (x6 : Int32) (H : Heap) (locs : List Loc) (ls : Array Slot), f_X10_countInCrowd_140 N (f_X10_countInCrowd_52 N n52) v_gone v_may v_must v_ends v_beg d_n d_road n_calls n_cl x4 x6 = some (o_v_gone, o_v_may, o_v_must, o_v_ends, o_v_beg) → va_P D vwCl (W_WYLN_0_4t6_8t10 qv0 qv4 qv5 qd0 qd2 qn0 qn1 qv1 qv2 qv3 qd1 qn2 qn3 qn4 qn5 qn6 cI cJ cZ cB cT v_up v_low v_gone v_may v_must v_ends v_beg d_n d_road n_calls n_bord n_rep n_unl n_pay n_cl) H → va_D A (W_WYLN_0_4t6_8t10 qv0 qv4 qv5 qd0 qd2 qn0 qn1 qv1 qv2 qv3 qd1 qn2 qn3 qn4 qn5 qn6 cI cJ cZ cB cT v_up v_low v_gone v_may v_must v_ends v_beg d_n d_road n_calls n_bord n_rep n_unl n_pay n_cl) → va_S A s.heap H locs → lv_has ls 8 [(0, .ref qv0), (1, .ref qd0), (2, .ref qn0), (4, .int x4), (6, .int x6)] → W p l e ({ frames := 2, cells := 0, slots := 0, locals := 60 } : Room) s m ([.ref qv0, .ref qd0, .ref qn0, .int p3, .int p4] : List Value).toArray below meth c H locs 0 0 (MQ below ((mQv D (W_WYLN_0_4t6_8t10 qv0 qv4 qv5 qd0 qd2 qn0 qn1 qv1 qv2 qv3 qd1 qn2 qn3 qn4 qn5 qn6 cI cJ cZ cB cT v_up v_low o_v_gone o_v_may o_v_must o_v_ends o_v_beg d_n d_road n_calls n_bord n_rep n_unl n_pay n_cl)) A) ([.ref qv0, .ref qd0, .ref qn0, .int p3, .int p4] : List Value).toArray s 0 0 A) (F0 m 140 ls []) := by
        intro v_gone v_may v_must v_ends v_beg x4 x6 H locs ls hf hP hD hS hl
        unfold f_X10_countInCrowd_140 at hf
        refine lv_iinc (v := (x6 + (1 : Int32))) (lv' := [(6, .int (x6 + (1 : Int32))), (0, .ref qv0), (1, .ref qd0), (2, .ref qn0), (4, .int x4)]) hx hb dX10_countInCrowd_140 hl (k := 4) rfl rfl (by decide) rfl (fun ls hl => ?_)
        refine lv_goto (tgt := 52) hx hb dX10_countInCrowd_143 (by decide) ?_
        exact ih52 v_gone v_may v_must v_ends v_beg x4 (x6 + (1 : Int32)) _ _ _ hf hP hD hS (lv_sub hl [1, 2, 3, 4, 0] rfl)
      have b93 : ∀ n93 : Nat, ∀ (v_gone : Int32) (v_may : Int32) (v_must : Int32) (v_ends : Nat → Int32) (v_beg : Nat → Int32) (x4 : Int32) (x6 : Int32) (x7 : Int32) (H : Heap) (locs : List Loc) (ls : Array Slot), f_X10_countInCrowd_93 N (f_X10_countInCrowd_52 N n52) n93 v_gone v_may v_must v_ends v_beg d_n d_road n_calls n_cl x4 x6 x7 = some (o_v_gone, o_v_may, o_v_must, o_v_ends, o_v_beg) → va_P D vwCl (W_WYLN_0_4t6_8t10 qv0 qv4 qv5 qd0 qd2 qn0 qn1 qv1 qv2 qv3 qd1 qn2 qn3 qn4 qn5 qn6 cI cJ cZ cB cT v_up v_low v_gone v_may v_must v_ends v_beg d_n d_road n_calls n_bord n_rep n_unl n_pay n_cl) H → va_D A (W_WYLN_0_4t6_8t10 qv0 qv4 qv5 qd0 qd2 qn0 qn1 qv1 qv2 qv3 qd1 qn2 qn3 qn4 qn5 qn6 cI cJ cZ cB cT v_up v_low v_gone v_may v_must v_ends v_beg d_n d_road n_calls n_bord n_rep n_unl n_pay n_cl) → va_S A s.heap H locs → lv_has ls 8 [(0, .ref qv0), (1, .ref qd0), (2, .ref qn0), (4, .int x4), (6, .int x6), (7, .int x7)] → W p l e ({ frames := 2, cells := 0, slots := 0, locals := 60 } : Room) s m ([.ref qv0, .ref qd0, .ref qn0, .int p3, .int p4] : List Value).toArray below meth c H locs 0 0 (MQ below ((mQv D (W_WYLN_0_4t6_8t10 qv0 qv4 qv5 qd0 qd2 qn0 qn1 qv1 qv2 qv3 qd1 qn2 qn3 qn4 qn5 qn6 cI cJ cZ cB cT v_up v_low o_v_gone o_v_may o_v_must o_v_ends o_v_beg d_n d_road n_calls n_bord n_rep n_unl n_pay n_cl)) A) ([.ref qv0, .ref qd0, .ref qn0, .int p3, .int p4] : List Value).toArray s 0 0 A) (F0 m 93 ls []) := by
        intro n93
        induction n93 with
        | zero =>
          intro v_gone v_may v_must v_ends v_beg x4 x6 x7 H locs ls hf hP hD hS hl
          simp [f_X10_countInCrowd_93] at hf
        | succ n93 ih93 =>
          intro v_gone v_may v_must v_ends v_beg x4 x6 x7 H locs ls hf hP hD hS hl
          rw [f_X10_countInCrowd_93.eq_2] at hf
          refine lv_iload hx hb dX10_countInCrowd_93 (lv_at hl 5 rfl) ?_
          refine lv_aload_n hx hb dX10_countInCrowd_95 rfl (lv_at hl 1 rfl) ?_
          refine gfX10_51 hx hb hts hown hK hP 3 rfl rfl dX10_countInCrowd_96 ?_
          refine xicmp_ge hx hb 140 dX10_countInCrowd_99 (by decide) hf (fun hf => ?_) (fun hf => ?_)
          · exact b140 v_gone v_may v_must v_ends v_beg x4 x6 _ _ _ hf hP hD hS (lv_sub hl [0, 1, 2, 3, 4] rfl)
          · refine lv_iload hx hb dX10_countInCrowd_102 (lv_at hl 5 rfl) ?_
            refine lv_bipush (v := (8 : Int32)) hx hb dX10_countInCrowd_104 (by decide) ?_
            refine xicmp_ge hx hb 140 dX10_countInCrowd_106 (by decide) hf (fun hf => ?_) (fun hf => ?_)
            · exact b140 v_gone v_may v_must v_ends v_beg x4 x6 _ _ _ hf hP hD hS (lv_sub hl [0, 1, 2, 3, 4] rfl)
            · refine lv_aload_n hx hb dX10_countInCrowd_109 rfl (lv_at hl 0 rfl) ?_
              refine lv_iload hx hb dX10_countInCrowd_110 (lv_at hl 5 rfl) ?_
              refine lv_aload_n hx hb dX10_countInCrowd_112 rfl (lv_at hl 1 rfl) ?_
              refine lv_iload hx hb dX10_countInCrowd_113 (lv_at hl 5 rfl) ?_
              obtain ⟨r115, hg115, hf⟩ := ob1_some hf
              refine mcV_i (wr := [(qv0, .inr (10, [.int v_up, .int v_low, .int v_gone, .int v_may, .int v_must, .ref qv1, .ref qv2, .ref qv3, .ref qv4, .ref qv5])), (qv4, .inl (cI, 256, .inl v_ends)), (qv5, .inl (cI, 256, .inl v_beg)), (qn0, .inr (4, [.int n_calls, .int n_bord, .int n_rep, .int n_unl, .int n_pay, .ref qn1, .ref qn2, .ref qn3, .ref qn4, .ref qn5, .ref qn6])), (qn1, .inl (cI, 5, .inl n_cl))]) (As := [.int x7]) (rest := [.int x7, .ref qv0]) hx hb hml hown hts hK hP hD hS hA (k_X2_near l N D cI cJ cZ cB cT qd0 qd2 qd1 d_n d_road x7 r115 hg115) (kwX10_86 hts rfl rfl ⟨Nat.le_of_ble_eq_true rfl, Nat.le_of_ble_eq_true rfl⟩) [3, 4] [0, 1, 2, 5, 6] rfl rfl rfl (by decide) rfl 0 rfl rfl rfl rfl hl.1 rfl (Nat.le_of_ble_eq_true rfl) dX10_countInCrowd_115 ⟨Nat.zero_le _, Nat.zero_le _⟩ (fun hB115 H locs hP hD hS => ?_)
              have hP := mP_sub (wc := (W_WYLN_0_4t6_8t10 qv0 qv4 qv5 qd0 qd2 qn0 qn1 qv1 qv2 qv3 qd1 qn2 qn3 qn4 qn5 qn6 cI cJ cZ cB cT v_up v_low v_gone v_may v_must v_ends v_beg d_n d_road n_calls n_bord n_rep n_unl n_pay n_cl)) hP [0, 1, 2, 5, 6, 3, 4] rfl
              have hD := hD.sub (ws' := (W_WYLN_0_4t6_8t10 qv0 qv4 qv5 qd0 qd2 qn0 qn1 qv1 qv2 qv3 qd1 qn2 qn3 qn4 qn5 qn6 cI cJ cZ cB cT v_up v_low v_gone v_may v_must v_ends v_beg d_n d_road n_calls n_bord n_rep n_unl n_pay n_cl)) [0, 1, 2, 5, 6, 3, 4] rfl rfl
              refine lv_iconst (v := (1 : Int32)) hx hb dX10_countInCrowd_118 (by decide) ?_
              refine lv_iload hx hb dX10_countInCrowd_119 (lv_at hl 5 rfl) ?_
              refine lv_ishl hx hb dX10_countInCrowd_121 ?_
              refine lv_ior hx hb dX10_countInCrowd_122 ?_
              refine lv_iload hx hb dX10_countInCrowd_123 (lv_at hl 4 rfl) ?_
              refine lv_aload_n hx hb dX10_countInCrowd_125 rfl (lv_at hl 2 rfl) ?_
              refine lv_iload hx hb dX10_countInCrowd_126 (lv_at hl 4 rfl) ?_
              obtain ⟨r128, hg128, hf⟩ := ob1_some hf
              refine mcV_i (wr := [(qv0, .inr (10, [.int v_up, .int v_low, .int v_gone, .int v_may, .int v_must, .ref qv1, .ref qv2, .ref qv3, .ref qv4, .ref qv5])), (qv4, .inl (cI, 256, .inl v_ends)), (qv5, .inl (cI, 256, .inl v_beg)), (qd0, .inr (2, [.int d_n, .ref qd1, .ref qd2])), (qd2, .inl (cI, 8, .inl d_road))]) (As := [.int x6]) (rest := [.int x6, .int (r115 ||| ((1 : Int32) <<< (x7 &&& 31))), .int x7, .ref qv0]) hx hb hml hown hts hK hP hD hS hA (k_X4_callLand l N D cI cJ cZ cB cT qn0 qn1 qn2 qn3 qn4 qn5 qn6 n_calls n_bord n_rep n_unl n_pay n_cl x6 r128 hg128) (kwX10_102 hts rfl rfl ⟨Nat.le_of_ble_eq_true rfl, Nat.le_of_ble_eq_true rfl⟩) [5, 6] [0, 1, 2, 3, 4] rfl rfl rfl (by decide) rfl 0 rfl rfl rfl rfl hl.1 rfl (Nat.le_of_ble_eq_true rfl) dX10_countInCrowd_128 ⟨Nat.zero_le _, Nat.zero_le _⟩ (fun hB128 H locs hP hD hS => ?_)
              have hP := mP_sub (wc := (W_WYLN_0_4t6_8t10 qv0 qv4 qv5 qd0 qd2 qn0 qn1 qv1 qv2 qv3 qd1 qn2 qn3 qn4 qn5 qn6 cI cJ cZ cB cT v_up v_low v_gone v_may v_must v_ends v_beg d_n d_road n_calls n_bord n_rep n_unl n_pay n_cl)) hP [0, 1, 2, 3, 4, 5, 6] rfl
              have hD := hD.sub (ws' := (W_WYLN_0_4t6_8t10 qv0 qv4 qv5 qd0 qd2 qn0 qn1 qv1 qv2 qv3 qd1 qn2 qn3 qn4 qn5 qn6 cI cJ cZ cB cT v_up v_low v_gone v_may v_must v_ends v_beg d_n d_road n_calls n_bord n_rep n_unl n_pay n_cl)) [0, 1, 2, 3, 4, 5, 6] rfl rfl
              obtain ⟨v_ends_131, hg131, hf⟩ := ob1_some hf
              refine mcV_v (wr := [(qd0, .inr (2, [.int d_n, .ref qd1, .ref qd2])), (qd2, .inl (cI, 8, .inl d_road)), (qn0, .inr (4, [.int n_calls, .int n_bord, .int n_rep, .int n_unl, .int n_pay, .ref qn1, .ref qn2, .ref qn3, .ref qn4, .ref qn5, .ref qn6])), (qn1, .inl (cI, 5, .inl n_cl))]) (As := [.int x7, .int (r115 ||| ((1 : Int32) <<< (x7 &&& 31))), .int x6, .int r128]) (rest := []) hx hb hml hown hts hK hP hD hS hA (k_X10_comeTo l N D cI cJ cZ cB cT qv0 qv4 qv5 qv1 qv2 qv3 v_up v_low v_gone v_may v_must v_ends v_beg x7 (r115 ||| ((1 : Int32) <<< (x7 &&& 31))) x6 r128 v_ends_131 hg131) (kwX10_114 hts rfl rfl ⟨Nat.le_of_ble_eq_true rfl, Nat.le_of_ble_eq_true rfl⟩) [0, 1, 2] [3, 4, 5, 6] rfl rfl rfl (by decide) rfl 0 rfl rfl rfl rfl hl.1 rfl (Nat.le_of_ble_eq_true rfl) dX10_countInCrowd_131 ⟨Nat.zero_le _, Nat.zero_le _⟩ (fun H locs hP hD hS => ?_)
              have hP := mP_sub (wc := (W_WYLN_0_4t6_8t10 qv0 qv4 qv5 qd0 qd2 qn0 qn1 qv1 qv2 qv3 qd1 qn2 qn3 qn4 qn5 qn6 cI cJ cZ cB cT v_up v_low v_gone v_may v_must v_ends_131 v_beg d_n d_road n_calls n_bord n_rep n_unl n_pay n_cl)) hP [4, 5, 6, 0, 1, 2, 3] rfl
              have hD := hD.sub (ws' := (W_WYLN_0_4t6_8t10 qv0 qv4 qv5 qd0 qd2 qn0 qn1 qv1 qv2 qv3 qd1 qn2 qn3 qn4 qn5 qn6 cI cJ cZ cB cT v_up v_low v_gone v_may v_must v_ends_131 v_beg d_n d_road n_calls n_bord n_rep n_unl n_pay n_cl)) [4, 5, 6, 0, 1, 2, 3] rfl rfl
              refine lv_iinc (v := (x7 + (1 : Int32))) (lv' := [(7, .int (x7 + (1 : Int32))), (0, .ref qv0), (1, .ref qd0), (2, .ref qn0), (4, .int x4), (6, .int x6)]) hx hb dX10_countInCrowd_134 hl (k := 5) rfl rfl (by decide) rfl (fun ls hl => ?_)
              refine lv_goto (tgt := 93) hx hb dX10_countInCrowd_137 (by decide) ?_
              exact ih93 v_gone v_may v_must v_ends_131 v_beg x4 x6 (x7 + (1 : Int32)) _ _ _ hf hP hD hS (lv_sub hl [1, 2, 3, 4, 5, 0] rfl)
      intro v_gone v_may v_must v_ends v_beg x4 x6 H locs ls hf hP hD hS hl
      rw [f_X10_countInCrowd_52.eq_2] at hf
      refine lv_iload hx hb dX10_countInCrowd_52 (lv_at hl 4 rfl) ?_
      refine lv_aload_n hx hb dX10_countInCrowd_54 rfl (lv_at hl 2 rfl) ?_
      refine gfX10_105 hx hb hts hown hK hP 5 rfl rfl dX10_countInCrowd_55 ?_
      refine xicmp_ge hx hb 146 dX10_countInCrowd_58 (by decide) hf (fun hf => ?_) (fun hf => ?_)
      · exact b146 v_gone v_may v_must v_ends v_beg x4 _ _ _ hf hP hD hS (lv_sub hl [0, 3] rfl)
      · refine lv_iload hx hb dX10_countInCrowd_61 (lv_at hl 4 rfl) ?_
        refine lv_iconst (v := (5 : Int32)) hx hb dX10_countInCrowd_63 (by decide) ?_
        refine xicmp_ge hx hb 146 dX10_countInCrowd_64 (by decide) hf (fun hf => ?_) (fun hf => ?_)
        · exact b146 v_gone v_may v_must v_ends v_beg x4 _ _ _ hf hP hD hS (lv_sub hl [0, 3] rfl)
        · refine lv_aload_n hx hb dX10_countInCrowd_67 rfl (lv_at hl 0 rfl) ?_
          refine gfX10_39 hx hb hts hown hK hP 0 rfl rfl dX10_countInCrowd_68 ?_
          refine lv_iconst (v := (0 : Int32)) hx hb dX10_countInCrowd_71 (by decide) ?_
          refine lv_aload_n hx hb dX10_countInCrowd_72 rfl (lv_at hl 0 rfl) ?_
          refine gfX10_42 hx hb hts hown hK hP 0 rfl rfl dX10_countInCrowd_73 ?_
          refine lv_iconst (v := (0 : Int32)) hx hb dX10_countInCrowd_76 (by decide) ?_
          refine lv_sipush (v := (256 : Int32)) hx hb dX10_countInCrowd_77 (by decide) ?_
          refine xcopy hx hb hml hl.1 hown hts cpwX10_108 hK hP hD hS 1 2 0 0 rfl rfl rfl rfl (Nat.le_of_ble_eq_true rfl) (by decide) dX10_countInCrowd_80 hf (fun v_beg_80 hf H locs hP hD hS => ?_)
          have hP : va_P D vwCl (W_WYLN_0_4t6_8t10 qv0 qv4 qv5 qd0 qd2 qn0 qn1 qv1 qv2 qv3 qd1 qn2 qn3 qn4 qn5 qn6 cI cJ cZ cB cT v_up v_low v_gone v_may v_must v_ends v_beg_80 d_n d_road n_calls n_bord n_rep n_unl n_pay n_cl) H := hP
          have hD : va_D A (W_WYLN_0_4t6_8t10 qv0 qv4 qv5 qd0 qd2 qn0 qn1 qv1 qv2 qv3 qd1 qn2 qn3 qn4 qn5 qn6 cI cJ cZ cB cT v_up v_low v_gone v_may v_must v_ends v_beg_80 d_n d_road n_calls n_bord n_rep n_unl n_pay n_cl) := hD
          refine lv_aload_n hx hb dX10_countInCrowd_83 rfl (lv_at hl 0 rfl) ?_
          refine gfX10_39 hx hb hts hown hK hP 0 rfl rfl dX10_countInCrowd_84 ?_
          obtain ⟨v_ends_87, hg87, hf⟩ := ob1_some hf
          refine mcS_v (wr := [(qv0, .inr (10, [.int v_up, .int v_low, .int v_gone, .int v_may, .int v_must, .ref qv1, .ref qv2, .ref qv3, .ref qv4, .ref qv5])), (qv5, .inl (cI, 256, .inl v_beg_80)), (qd0, .inr (2, [.int d_n, .ref qd1, .ref qd2])), (qd2, .inl (cI, 8, .inl d_road)), (qn0, .inr (4, [.int n_calls, .int n_bord, .int n_rep, .int n_unl, .int n_pay, .ref qn1, .ref qn2, .ref qn3, .ref qn4, .ref qn5, .ref qn6])), (qn1, .inl (cI, 5, .inl n_cl))]) (As := [.ref qv4]) (rest := []) hx hb hml hown hts hK hP hD hS hA (k_X10_clear l N D cI cJ cZ cB cT qv4 v_ends v_ends_87 hg87) (kwX10_98 hts rfl rfl ⟨Nat.le_of_ble_eq_true rfl, Nat.le_of_ble_eq_true rfl⟩) [1] [0, 2, 3, 4, 5, 6] rfl rfl rfl (by decide) rfl rfl hl.1 rfl (Nat.le_of_ble_eq_true rfl) dX10_countInCrowd_87 ⟨Nat.zero_le _, Nat.zero_le _⟩ (fun H locs hP hD hS => ?_)
          have hP := mP_sub (wc := (W_WYLN_0_4t6_8t10 qv0 qv4 qv5 qd0 qd2 qn0 qn1 qv1 qv2 qv3 qd1 qn2 qn3 qn4 qn5 qn6 cI cJ cZ cB cT v_up v_low v_gone v_may v_must v_ends_87 v_beg_80 d_n d_road n_calls n_bord n_rep n_unl n_pay n_cl)) hP [0, 6, 1, 2, 3, 4, 5] rfl
          have hD := hD.sub (ws' := (W_WYLN_0_4t6_8t10 qv0 qv4 qv5 qd0 qd2 qn0 qn1 qv1 qv2 qv3 qd1 qn2 qn3 qn4 qn5 qn6 cI cJ cZ cB cT v_up v_low v_gone v_may v_must v_ends_87 v_beg_80 d_n d_road n_calls n_bord n_rep n_unl n_pay n_cl)) [0, 6, 1, 2, 3, 4, 5] rfl rfl
          refine lv_iconst (v := (0 : Int32)) hx hb dX10_countInCrowd_90 (by decide) ?_
          refine lv_istore (lv' := [(7, .int (0 : Int32)), (0, .ref qv0), (1, .ref qd0), (2, .ref qn0), (4, .int x4), (6, .int x6)]) hx hb dX10_countInCrowd_91 hl (by decide) rfl (fun ls hl => ?_)
          exact b93 N v_gone v_may v_must v_ends_87 v_beg_80 x4 x6 (0 : Int32) _ _ _ hf hP hD hS (lv_sub hl [1, 2, 3, 4, 5, 0] rfl)
  have b49 : ∀ (v_gone : Int32) (v_may : Int32) (v_must : Int32) (v_ends : Nat → Int32) (v_beg : Nat → Int32) (x4 : Int32) (H : Heap) (locs : List Loc) (ls : Array Slot), f_X10_countInCrowd_49 N v_gone v_may v_must v_ends v_beg d_n d_road n_calls n_cl x4 = some (o_v_gone, o_v_may, o_v_must, o_v_ends, o_v_beg) → va_P D vwCl (W_WYLN_0_4t6_8t10 qv0 qv4 qv5 qd0 qd2 qn0 qn1 qv1 qv2 qv3 qd1 qn2 qn3 qn4 qn5 qn6 cI cJ cZ cB cT v_up v_low v_gone v_may v_must v_ends v_beg d_n d_road n_calls n_bord n_rep n_unl n_pay n_cl) H → va_D A (W_WYLN_0_4t6_8t10 qv0 qv4 qv5 qd0 qd2 qn0 qn1 qv1 qv2 qv3 qd1 qn2 qn3 qn4 qn5 qn6 cI cJ cZ cB cT v_up v_low v_gone v_may v_must v_ends v_beg d_n d_road n_calls n_bord n_rep n_unl n_pay n_cl) → va_S A s.heap H locs → lv_has ls 8 [(0, .ref qv0), (1, .ref qd0), (2, .ref qn0), (4, .int x4)] → W p l e ({ frames := 2, cells := 0, slots := 0, locals := 60 } : Room) s m ([.ref qv0, .ref qd0, .ref qn0, .int p3, .int p4] : List Value).toArray below meth c H locs 0 0 (MQ below ((mQv D (W_WYLN_0_4t6_8t10 qv0 qv4 qv5 qd0 qd2 qn0 qn1 qv1 qv2 qv3 qd1 qn2 qn3 qn4 qn5 qn6 cI cJ cZ cB cT v_up v_low o_v_gone o_v_may o_v_must o_v_ends o_v_beg d_n d_road n_calls n_bord n_rep n_unl n_pay n_cl)) A) ([.ref qv0, .ref qd0, .ref qn0, .int p3, .int p4] : List Value).toArray s 0 0 A) (F0 m 49 ls []) := by
    intro v_gone v_may v_must v_ends v_beg x4 H locs ls hf hP hD hS hl
    unfold f_X10_countInCrowd_49 at hf
    refine lv_iconst (v := (1 : Int32)) hx hb dX10_countInCrowd_49 (by decide) ?_
    refine lv_istore (lv' := [(6, .int (1 : Int32)), (0, .ref qv0), (1, .ref qd0), (2, .ref qn0), (4, .int x4)]) hx hb dX10_countInCrowd_50 hl (by decide) rfl (fun ls hl => ?_)
    exact b52 N v_gone v_may v_must v_ends v_beg x4 (1 : Int32) _ _ _ hf hP hD hS (lv_sub hl [1, 2, 3, 4, 0] rfl)
  have b25 : ∀ (v_gone : Int32) (v_may : Int32) (v_must : Int32) (v_ends : Nat → Int32) (v_beg : Nat → Int32) (x4 : Int32) (s0 : Int32) (s1 : Int32) (H : Heap) (locs : List Loc) (ls : Array Slot), f_X10_countInCrowd_25 N v_gone v_may v_must v_ends v_beg d_n d_road n_calls n_cl x4 s0 s1 = some (o_v_gone, o_v_may, o_v_must, o_v_ends, o_v_beg) → va_P D vwCl (W_WYLN_0_4t6_8t10 qv0 qv4 qv5 qd0 qd2 qn0 qn1 qv1 qv2 qv3 qd1 qn2 qn3 qn4 qn5 qn6 cI cJ cZ cB cT v_up v_low v_gone v_may v_must v_ends v_beg d_n d_road n_calls n_bord n_rep n_unl n_pay n_cl) H → va_D A (W_WYLN_0_4t6_8t10 qv0 qv4 qv5 qd0 qd2 qn0 qn1 qv1 qv2 qv3 qd1 qn2 qn3 qn4 qn5 qn6 cI cJ cZ cB cT v_up v_low v_gone v_may v_must v_ends v_beg d_n d_road n_calls n_bord n_rep n_unl n_pay n_cl) → va_S A s.heap H locs → lv_has ls 8 [(0, .ref qv0), (1, .ref qd0), (2, .ref qn0), (4, .int x4)] → W p l e ({ frames := 2, cells := 0, slots := 0, locals := 60 } : Room) s m ([.ref qv0, .ref qd0, .ref qn0, .int p3, .int p4] : List Value).toArray below meth c H locs 0 0 (MQ below ((mQv D (W_WYLN_0_4t6_8t10 qv0 qv4 qv5 qd0 qd2 qn0 qn1 qv1 qv2 qv3 qd1 qn2 qn3 qn4 qn5 qn6 cI cJ cZ cB cT v_up v_low o_v_gone o_v_may o_v_must o_v_ends o_v_beg d_n d_road n_calls n_bord n_rep n_unl n_pay n_cl)) A) ([.ref qv0, .ref qd0, .ref qn0, .int p3, .int p4] : List Value).toArray s 0 0 A) (F0 m 25 ls [.int s1, .int s0]) := by
    intro v_gone v_may v_must v_ends v_beg x4 s0 s1 H locs ls hf hP hD hS hl
    unfold f_X10_countInCrowd_25 at hf
    refine lv_iadd hx hb dX10_countInCrowd_25 ?_
    refine lv_istore (lv' := [(5, .int (s0 + s1)), (0, .ref qv0), (1, .ref qd0), (2, .ref qn0), (4, .int x4)]) hx hb dX10_countInCrowd_26 hl (by decide) rfl (fun ls hl => ?_)
    refine lv_iload hx hb dX10_countInCrowd_28 (lv_at hl 0 rfl) ?_
    refine xif_lt hx hb 49 dX10_countInCrowd_30 (by decide) hf (fun hf => ?_) (fun hf => ?_)
    · exact b49 v_gone v_may v_must v_ends v_beg x4 _ _ _ hf hP hD hS (lv_sub hl [1, 2, 3, 4] rfl)
    · refine lv_iload hx hb dX10_countInCrowd_33 (lv_at hl 0 rfl) ?_
      refine lv_sipush (v := (256 : Int32)) hx hb dX10_countInCrowd_35 (by decide) ?_
      refine xicmp_ge hx hb 49 dX10_countInCrowd_38 (by decide) hf (fun hf => ?_) (fun hf => ?_)
      · exact b49 v_gone v_may v_must v_ends v_beg x4 _ _ _ hf hP hD hS (lv_sub hl [1, 2, 3, 4] rfl)
      · refine lv_aload_n hx hb dX10_countInCrowd_41 rfl (lv_at hl 1 rfl) ?_
        refine gfX10_39 hx hb hts hown hK hP 0 rfl rfl dX10_countInCrowd_42 ?_
        refine lv_iload hx hb dX10_countInCrowd_45 (lv_at hl 0 rfl) ?_
        refine lv_iconst (v := (1 : Int32)) hx hb dX10_countInCrowd_47 (by decide) ?_
        refine xiast hx hb hK hP hD hS 1 0 rfl rfl dX10_countInCrowd_48 hf (fun v_ends_48 hf H locs hP hD hS => ?_)
        have hP : va_P D vwCl (W_WYLN_0_4t6_8t10 qv0 qv4 qv5 qd0 qd2 qn0 qn1 qv1 qv2 qv3 qd1 qn2 qn3 qn4 qn5 qn6 cI cJ cZ cB cT v_up v_low v_gone v_may v_must v_ends_48 v_beg d_n d_road n_calls n_bord n_rep n_unl n_pay n_cl) H := hP
        have hD : va_D A (W_WYLN_0_4t6_8t10 qv0 qv4 qv5 qd0 qd2 qn0 qn1 qv1 qv2 qv3 qd1 qn2 qn3 qn4 qn5 qn6 cI cJ cZ cB cT v_up v_low v_gone v_may v_must v_ends_48 v_beg d_n d_road n_calls n_bord n_rep n_unl n_pay n_cl) := hD
        exact b49 v_gone v_may v_must v_ends_48 v_beg x4 _ _ _ hf hP hD hS (lv_sub hl [1, 2, 3, 4] rfl)
  unfold f_X10_countInCrowd at hf
  refine lv_aload_n hx hb dX10_countInCrowd_0 rfl (lv_at hl 0 rfl) ?_
  refine gfX10_39 hx hb hts hown hK hP 0 rfl rfl dX10_countInCrowd_1 ?_
  obtain ⟨v_ends_4, hg4, hf⟩ := ob1_some hf
  refine mcS_v (wr := [(qv0, .inr (10, [.int v_up, .int v_low, .int v_gone, .int v_may, .int v_must, .ref qv1, .ref qv2, .ref qv3, .ref qv4, .ref qv5])), (qv5, .inl (cI, 256, .inl v_beg)), (qd0, .inr (2, [.int d_n, .ref qd1, .ref qd2])), (qd2, .inl (cI, 8, .inl d_road)), (qn0, .inr (4, [.int n_calls, .int n_bord, .int n_rep, .int n_unl, .int n_pay, .ref qn1, .ref qn2, .ref qn3, .ref qn4, .ref qn5, .ref qn6])), (qn1, .inl (cI, 5, .inl n_cl))]) (As := [.ref qv4]) (rest := []) hx hb hml hown hts hK hP hD hS hA (k_X10_clear l N D cI cJ cZ cB cT qv4 v_ends v_ends_4 hg4) (kwX10_98 hts rfl rfl ⟨Nat.le_of_ble_eq_true rfl, Nat.le_of_ble_eq_true rfl⟩) [1] [0, 2, 3, 4, 5, 6] rfl rfl rfl (by decide) rfl rfl hl.1 rfl (Nat.le_of_ble_eq_true rfl) dX10_countInCrowd_4 ⟨Nat.zero_le _, Nat.zero_le _⟩ (fun H locs hP hD hS => ?_)
  have hP := mP_sub (wc := (W_WYLN_0_4t6_8t10 qv0 qv4 qv5 qd0 qd2 qn0 qn1 qv1 qv2 qv3 qd1 qn2 qn3 qn4 qn5 qn6 cI cJ cZ cB cT v_up v_low v_gone v_may v_must v_ends_4 v_beg d_n d_road n_calls n_bord n_rep n_unl n_pay n_cl)) hP [0, 6, 1, 2, 3, 4, 5] rfl
  have hD := hD.sub (ws' := (W_WYLN_0_4t6_8t10 qv0 qv4 qv5 qd0 qd2 qn0 qn1 qv1 qv2 qv3 qd1 qn2 qn3 qn4 qn5 qn6 cI cJ cZ cB cT v_up v_low v_gone v_may v_must v_ends_4 v_beg d_n d_road n_calls n_bord n_rep n_unl n_pay n_cl)) [0, 6, 1, 2, 3, 4, 5] rfl rfl
  refine lv_iload_n hx hb dX10_countInCrowd_7 rfl (lv_at hl 3 rfl) ?_
  refine lv_bipush (v := (32 : Int32)) hx hb dX10_countInCrowd_8 (by decide) ?_
  refine lv_imul hx hb dX10_countInCrowd_10 ?_
  refine lv_aload_n hx hb dX10_countInCrowd_11 rfl (lv_at hl 2 rfl) ?_
  refine lv_iconst (v := (0 : Int32)) hx hb dX10_countInCrowd_12 (by decide) ?_
  obtain ⟨r13, hg13, hf⟩ := ob1_some hf
  refine mcV_i (wr := [(qv0, .inr (10, [.int v_up, .int v_low, .int v_gone, .int v_may, .int v_must, .ref qv1, .ref qv2, .ref qv3, .ref qv4, .ref qv5])), (qv4, .inl (cI, 256, .inl v_ends_4)), (qv5, .inl (cI, 256, .inl v_beg)), (qd0, .inr (2, [.int d_n, .ref qd1, .ref qd2])), (qd2, .inl (cI, 8, .inl d_road))]) (As := [.int (0 : Int32)]) (rest := [.int (p3 * (32 : Int32))]) hx hb hml hown hts hK hP hD hS hA (k_X4_callLand l N D cI cJ cZ cB cT qn0 qn1 qn2 qn3 qn4 qn5 qn6 n_calls n_bord n_rep n_unl n_pay n_cl (0 : Int32) r13 hg13) (kwX10_102 hts rfl rfl ⟨Nat.le_of_ble_eq_true rfl, Nat.le_of_ble_eq_true rfl⟩) [5, 6] [0, 1, 2, 3, 4] rfl rfl rfl (by decide) rfl 0 rfl rfl rfl rfl hl.1 rfl (Nat.le_of_ble_eq_true rfl) dX10_countInCrowd_13 ⟨Nat.zero_le _, Nat.zero_le _⟩ (fun hB13 H locs hP hD hS => ?_)
  have hP := mP_sub (wc := (W_WYLN_0_4t6_8t10 qv0 qv4 qv5 qd0 qd2 qn0 qn1 qv1 qv2 qv3 qd1 qn2 qn3 qn4 qn5 qn6 cI cJ cZ cB cT v_up v_low v_gone v_may v_must v_ends_4 v_beg d_n d_road n_calls n_bord n_rep n_unl n_pay n_cl)) hP [0, 1, 2, 3, 4, 5, 6] rfl
  have hD := hD.sub (ws' := (W_WYLN_0_4t6_8t10 qv0 qv4 qv5 qd0 qd2 qn0 qn1 qv1 qv2 qv3 qd1 qn2 qn3 qn4 qn5 qn6 cI cJ cZ cB cT v_up v_low v_gone v_may v_must v_ends_4 v_beg d_n d_road n_calls n_bord n_rep n_unl n_pay n_cl)) [0, 1, 2, 3, 4, 5, 6] rfl rfl
  refine lv_iload_n hx hb dX10_countInCrowd_16 rfl (lv_at hl 3 rfl) ?_
  refine xicmp_ne hx hb 24 dX10_countInCrowd_17 (by decide) hf (fun hf => ?_) (fun hf => ?_)
  · refine lv_iconst (v := (1 : Int32)) hx hb dX10_countInCrowd_20 (by decide) ?_
    refine lv_goto (tgt := 25) hx hb dX10_countInCrowd_21 (by decide) ?_
    exact b25 v_gone v_may v_must v_ends_4 v_beg p4 (p3 * (32 : Int32)) (1 : Int32) _ _ _ hf hP hD hS (lv_sub hl [0, 1, 2, 4] rfl)
  · refine lv_iconst (v := (0 : Int32)) hx hb dX10_countInCrowd_24 (by decide) ?_
    exact b25 v_gone v_may v_must v_ends_4 v_beg p4 (p3 * (32 : Int32)) (0 : Int32) _ _ _ hf hP hD hS (lv_sub hl [0, 1, 2, 4] rfl)
