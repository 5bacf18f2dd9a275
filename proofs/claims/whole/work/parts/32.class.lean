theorem dX8_put_0 : decode cX8_put 0 = .ok (.aload_n 0, 1) := by decide +kernel
theorem dX8_put_1 : decode cX8_put 1 = .ok (.getfield 15, 3) := by decide +kernel
theorem dX8_put_4 : decode cX8_put 4 = .ok (.ifCond .lt 53, 3) := by decide +kernel
theorem dX8_put_7 : decode cX8_put 7 = .ok (.aload_n 0, 1) := by decide +kernel
theorem dX8_put_8 : decode cX8_put 8 = .ok (.getfield 15, 3) := by decide +kernel
theorem dX8_put_11 : decode cX8_put 11 = .ok (.sipush 300, 3) := by decide +kernel
theorem dX8_put_14 : decode cX8_put 14 = .ok (.if_icmp .gt 43, 3) := by decide +kernel
theorem dX8_put_17 : decode cX8_put 17 = .ok (.aload_n 0, 1) := by decide +kernel
theorem dX8_put_18 : decode cX8_put 18 = .ok (.getfield 22, 3) := by decide +kernel
theorem dX8_put_21 : decode cX8_put 21 = .ok (.aload_n 0, 1) := by decide +kernel
theorem dX8_put_22 : decode cX8_put 22 = .ok (.getfield 15, 3) := by decide +kernel
theorem dX8_put_25 : decode cX8_put 25 = .ok (.iload_n 1, 1) := by decide +kernel
theorem dX8_put_26 : decode cX8_put 26 = .ok (.iastore, 1) := by decide +kernel
theorem dX8_put_27 : decode cX8_put 27 = .ok (.aload_n 0, 1) := by decide +kernel
theorem dX8_put_28 : decode cX8_put 28 = .ok (.getfield 26, 3) := by decide +kernel
theorem dX8_put_31 : decode cX8_put 31 = .ok (.aload_n 0, 1) := by decide +kernel
theorem dX8_put_32 : decode cX8_put 32 = .ok (.getfield 15, 3) := by decide +kernel
theorem dX8_put_35 : decode cX8_put 35 = .ok (.iload_n 2, 1) := by decide +kernel
theorem dX8_put_36 : decode cX8_put 36 = .ok (.iastore, 1) := by decide +kernel
theorem dX8_put_37 : decode cX8_put 37 = .ok (.aload_n 0, 1) := by decide +kernel
theorem dX8_put_38 : decode cX8_put 38 = .ok (.getfield 29, 3) := by decide +kernel
theorem dX8_put_41 : decode cX8_put 41 = .ok (.aload_n 0, 1) := by decide +kernel
theorem dX8_put_42 : decode cX8_put 42 = .ok (.getfield 15, 3) := by decide +kernel
theorem dX8_put_45 : decode cX8_put 45 = .ok (.iload_n 3, 1) := by decide +kernel
theorem dX8_put_46 : decode cX8_put 46 = .ok (.iastore, 1) := by decide +kernel
theorem dX8_put_47 : decode cX8_put 47 = .ok (.aload_n 0, 1) := by decide +kernel
theorem dX8_put_48 : decode cX8_put 48 = .ok (.dup, 1) := by decide +kernel
theorem dX8_put_49 : decode cX8_put 49 = .ok (.getfield 15, 3) := by decide +kernel
theorem dX8_put_52 : decode cX8_put 52 = .ok (.iconst 1, 1) := by decide +kernel
theorem dX8_put_53 : decode cX8_put 53 = .ok (.iadd, 1) := by decide +kernel
theorem dX8_put_54 : decode cX8_put 54 = .ok (.putfield 15, 3) := by decide +kernel
theorem dX8_put_57 : decode cX8_put 57 = .ok (.return_, 1) := by decide +kernel
def f_X8_put (N : Nat) (t_tok : Int32) (t_ki : Nat → Int32) (t_pl : Nat → Int32) (t_nu : Nat → Int32) (p1 : Int32) (p2 : Int32) (p3 : Int32) : Option (Int32 × (Nat → Int32) × (Nat → Int32) × (Nat → Int32)) := if t_tok < 0 then (some (t_tok, t_ki, t_pl, t_nu)) else (if (300 : Int32) < t_tok then (some (t_tok, t_ki, t_pl, t_nu)) else (sA t_ki 301 t_tok p1 fun t_ki_26 => sA t_pl 301 t_tok p2 fun t_pl_36 => sA t_nu 301 t_tok p3 fun t_nu_46 => some ((t_tok + (1 : Int32)), t_ki_26, t_pl_36, t_nu_46)))
set_option maxHeartbeats 4000000 in
set_option maxRecDepth 100000 in
theorem k_X8_put (l : Launch) (N : Nat) (D : va_G) (cI cJ cZ cB cT : ClassId) (qt0 : Nat) (qt2 : Nat) (qt3 : Nat) (qt4 : Nat) (qt1 : Nat) (t_len : Int32) (t_tok : Int32) (t_ki : Nat → Int32) (t_pl : Nat → Int32) (t_nu : Nat → Int32) (p1 : Int32) (p2 : Int32) (p3 : Int32) (o_t_tok : Int32) (o_t_ki : Nat → Int32) (o_t_pl : Nat → Int32) (o_t_nu : Nat → Int32) (hf : f_X8_put N t_tok t_ki t_pl t_nu p1 p2 p3 = some (o_t_tok, o_t_ki, o_t_pl, o_t_nu)) : ∀ sz, Met l yX8_put (mw yX8_put cX8_put 4 none) ({ frames := 0, cells := 0, slots := 0, locals := 0 } : Room) (mPre D (mT cI cJ cZ cB cT) (W_TP_0_2t4 qt0 qt2 qt3 qt4 qt1 cI cJ cZ cB cT t_len t_tok t_ki t_pl t_nu) sz [.ref qt0, .int p1, .int p2, .int p3]) ((mQv D (W_TP_0_2t4 qt0 qt2 qt3 qt4 qt1 cI cJ cZ cB cT t_len o_t_tok o_t_ki o_t_pl o_t_nu)) (va_A (W_TP_0_2t4 qt0 qt2 qt3 qt4 qt1 cI cJ cZ cB cT t_len t_tok t_ki t_pl t_nu) sz)) 0 0 (va_A (W_TP_0_2t4 qt0 qt2 qt3 qt4 qt1 cI cJ cZ cB cT t_len t_tok t_ki t_pl t_nu) sz) := by
  refine mMet (Qc := (mQv D (W_TP_0_2t4 qt0 qt2 qt3 qt4 qt1 cI cJ cZ cB cT t_len o_t_tok o_t_ki o_t_pl o_t_nu))) (by decide) (Nat.le_of_ble_eq_true rfl) (fun p e s m below meth c A ls hx hb hr hml hts hown hlocks hK hA hP hD hl => ?_)
  have hown : s.vm.findClass RX8 = some m.cls := hown
  have hl : lv_has ls 4 [(0, .ref qt0), (1, .int p1), (2, .int p2), (3, .int p3)] := hl
  have hS : va_S A s.heap s.heap [] := va_S.rf
  unfold f_X8_put at hf
  refine lv_aload_n hx hb dX8_put_0 rfl (lv_at hl 0 rfl) ?_
  refine gfX8_15 hx hb hts hown hK hP 0 rfl rfl dX8_put_1 ?_
  refine xif_lt hx hb 57 dX8_put_4 (by decide) hf (fun hf => ?_) (fun hf => ?_)
  · cases hf
    exact mret_v hx hb hr hlocks hP hD hS dX8_put_57
  · refine lv_aload_n hx hb dX8_put_7 rfl (lv_at hl 0 rfl) ?_
    refine gfX8_15 hx hb hts hown hK hP 0 rfl rfl dX8_put_8 ?_
    refine lv_sipush (v := (300 : Int32)) hx hb dX8_put_11 (by decide) ?_
    refine xicmp_gt hx hb 57 dX8_put_14 (by decide) hf (fun hf => ?_) (fun hf => ?_)
    · cases hf
      exact mret_v hx hb hr hlocks hP hD hS dX8_put_57
    · refine lv_aload_n hx hb dX8_put_17 rfl (lv_at hl 0 rfl) ?_
      refine gfX8_22 hx hb hts hown hK hP 0 rfl rfl dX8_put_18 ?_
      refine lv_aload_n hx hb dX8_put_21 rfl (lv_at hl 0 rfl) ?_
      refine gfX8_15 hx hb hts hown hK hP 0 rfl rfl dX8_put_22 ?_
      refine lv_iload_n hx hb dX8_put_25 rfl (lv_at hl 1 rfl) ?_
      refine xiast hx hb hK hP hD hS 1 0 rfl rfl dX8_put_26 hf (fun t_ki_26 hf H locs hP hD hS => ?_)
      have hP : va_P D vwCl (W_TP_0_2t4 qt0 qt2 qt3 qt4 qt1 cI cJ cZ cB cT t_len t_tok t_ki_26 t_pl t_nu) H := hP
      have hD : va_D A (W_TP_0_2t4 qt0 qt2 qt3 qt4 qt1 cI cJ cZ cB cT t_len t_tok t_ki_26 t_pl t_nu) := hD
      refine lv_aload_n hx hb dX8_put_27 rfl (lv_at hl 0 rfl) ?_
      refine gfX8_26 hx hb hts hown hK hP 0 rfl rfl dX8_put_28 ?_
      refine lv_aload_n hx hb dX8_put_31 rfl (lv_at hl 0 rfl) ?_
      refine gfX8_15 hx hb hts hown hK hP 0 rfl rfl dX8_put_32 ?_
      refine lv_iload_n hx hb dX8_put_35 rfl (lv_at hl 2 rfl) ?_
      refine xiast hx hb hK hP hD hS 2 0 rfl rfl dX8_put_36 hf (fun t_pl_36 hf H locs hP hD hS => ?_)
      have hP : va_P D vwCl (W_TP_0_2t4 qt0 qt2 qt3 qt4 qt1 cI cJ cZ cB cT t_len t_tok t_ki_26 t_pl_36 t_nu) H := hP
      have hD : va_D A (W_TP_0_2t4 qt0 qt2 qt3 qt4 qt1 cI cJ cZ cB cT t_len t_tok t_ki_26 t_pl_36 t_nu) := hD
      refine lv_aload_n hx hb dX8_put_37 rfl (lv_at hl 0 rfl) ?_
      refine gfX8_29 hx hb hts hown hK hP 0 rfl rfl dX8_put_38 ?_
      refine lv_aload_n hx hb dX8_put_41 rfl (lv_at hl 0 rfl) ?_
      refine gfX8_15 hx hb hts hown hK hP 0 rfl rfl dX8_put_42 ?_
      refine lv_iload_n hx hb dX8_put_45 rfl (lv_at hl 3 rfl) ?_
      refine xiast hx hb hK hP hD hS 3 0 rfl rfl dX8_put_46 hf (fun t_nu_46 hf H locs hP hD hS => ?_)
      have hP : va_P D vwCl (W_TP_0_2t4 qt0 qt2 qt3 qt4 qt1 cI cJ cZ cB cT t_len t_tok t_ki_26 t_pl_36 t_nu_46) H := hP
      have hD : va_D A (W_TP_0_2t4 qt0 qt2 qt3 qt4 qt1 cI cJ cZ cB cT t_len t_tok t_ki_26 t_pl_36 t_nu_46) := hD
      refine lv_aload_n hx hb dX8_put_47 rfl (lv_at hl 0 rfl) ?_
      refine lv_dup hx hb dX8_put_48 rfl ?_
      refine gfX8_15 hx hb hts hown hK hP 0 rfl rfl dX8_put_49 ?_
      refine lv_iconst (v := (1 : Int32)) hx hb dX8_put_52 (by decide) ?_
      refine lv_iadd hx hb dX8_put_53 ?_
      refine pfX8_15 hx hb hts hown hK hP hD hS 0 rfl (Nat.le_of_ble_eq_true rfl) dX8_put_54 (fun H locs hP hD hS => ?_)
      have hP : va_P D vwCl (W_TP_0_2t4 qt0 qt2 qt3 qt4 qt1 cI cJ cZ cB cT t_len (t_tok + (1 : Int32)) t_ki_26 t_pl_36 t_nu_46) H := hP
      have hD : va_D A (W_TP_0_2t4 qt0 qt2 qt3 qt4 qt1 cI cJ cZ cB cT t_len (t_tok + (1 : Int32)) t_ki_26 t_pl_36 t_nu_46) := hD
      cases hf
      exact mret_v hx hb hr hlocks hP hD hS dX8_put_57
theorem dX8_byteAt_0 : decode cX8_byteAt 0 = .ok (.iload_n 1, 1) := by decide +kernel
theorem dX8_byteAt_1 : decode cX8_byteAt 1 = .ok (.ifCond .lt 27, 3) := by decide +kernel
theorem dX8_byteAt_4 : decode cX8_byteAt 4 = .ok (.iload_n 1, 1) := by decide +kernel
theorem dX8_byteAt_5 : decode cX8_byteAt 5 = .ok (.aload_n 0, 1) := by decide +kernel
theorem dX8_byteAt_6 : decode cX8_byteAt 6 = .ok (.getfield 9, 3) := by decide +kernel
theorem dX8_byteAt_9 : decode cX8_byteAt 9 = .ok (.if_icmp .ge 19, 3) := by decide +kernel
theorem dX8_byteAt_12 : decode cX8_byteAt 12 = .ok (.iload_n 1, 1) := by decide +kernel
theorem dX8_byteAt_13 : decode cX8_byteAt 13 = .ok (.sipush 300, 3) := by decide +kernel
theorem dX8_byteAt_16 : decode cX8_byteAt 16 = .ok (.if_icmp .ge 12, 3) := by decide +kernel
theorem dX8_byteAt_19 : decode cX8_byteAt 19 = .ok (.aload_n 0, 1) := by decide +kernel
theorem dX8_byteAt_20 : decode cX8_byteAt 20 = .ok (.getfield 18, 3) := by decide +kernel
theorem dX8_byteAt_23 : decode cX8_byteAt 23 = .ok (.iload_n 1, 1) := by decide +kernel
theorem dX8_byteAt_24 : decode cX8_byteAt 24 = .ok (.baload, 1) := by decide +kernel
theorem dX8_byteAt_25 : decode cX8_byteAt 25 = .ok (.goto 4, 3) := by decide +kernel
theorem dX8_byteAt_28 : decode cX8_byteAt 28 = .ok (.iconst (-1), 1) := by decide +kernel
theorem dX8_byteAt_29 : decode cX8_byteAt 29 = .ok (.ireturn, 1) := by decide +kernel
def f_X8_byteAt (N : Nat) (t_len : Int32) (t_by : Nat → Int32) (p1 : Int32) : Option (Int32) := if p1 < 0 then (some (-1 : Int32)) else (if t_len ≤ p1 then (some (-1 : Int32)) else (if (300 : Int32) ≤ p1 then (some (-1 : Int32)) else (gA t_by 300 p1 fun v24 => some v24)))
set_option maxHeartbeats 4000000 in
set_option maxRecDepth 100000 in
theorem k_X8_byteAt (l : Launch) (N : Nat) (D : va_G) (cI cJ cZ cB cT : ClassId) (qt0 : Nat) (qt1 : Nat) (qt2 : Nat) (qt3 : Nat) (qt4 : Nat) (t_len : Int32) (t_tok : Int32) (t_by : Nat → Int32) (p1 : Int32) (o_r : Int32) (hf : f_X8_byteAt N t_len t_by p1 = some o_r) : ∀ sz, Met l yX8_byteAt (mw yX8_byteAt cX8_byteAt 2 (some .int)) ({ frames := 0, cells := 0, slots := 0, locals := 0 } : Room) (mPre D (mT cI cJ cZ cB cT) (W_TP_0t1 qt0 qt1 qt2 qt3 qt4 cI cJ cZ cB cT t_len t_tok t_by) sz [.ref qt0, .int p1]) ((mQi D (W_TP_0t1 qt0 qt1 qt2 qt3 qt4 cI cJ cZ cB cT t_len t_tok t_by) o_r True) (va_A (W_TP_0t1 qt0 qt1 qt2 qt3 qt4 cI cJ cZ cB cT t_len t_tok t_by) sz)) 0 0 (va_A (W_TP_0t1 qt0 qt1 qt2 qt3 qt4 cI cJ cZ cB cT t_len t_tok t_by) sz) := by
  refine mMet (Qc := (mQi D (W_TP_0t1 qt0 qt1 qt2 qt3 qt4 cI cJ cZ cB cT t_len t_tok t_by) o_r True)) (by decide) (Nat.le_of_ble_eq_true rfl) (fun p e s m below meth c A ls hx hb hr hml hts hown hlocks hK hA hP hD hl => ?_)
  have hown : s.vm.findClass RX8 = some m.cls := hown
  have hl : lv_has ls 2 [(0, .ref qt0), (1, .int p1)] := hl
  have hS : va_S A s.heap s.heap [] := va_S.rf
  unfold f_X8_byteAt at hf
  refine lv_iload_n hx hb dX8_byteAt_0 rfl (lv_at hl 1 rfl) ?_
  refine xif_lt hx hb 28 dX8_byteAt_1 (by decide) hf (fun hf => ?_) (fun hf => ?_)
  · refine lv_iconst (v := (-1 : Int32)) hx hb dX8_byteAt_28 (by decide) ?_
    cases hf
    exact mret_i hx hb hr hlocks hP hD hS dX8_byteAt_29 rfl trivial
  · refine lv_iload_n hx hb dX8_byteAt_4 rfl (lv_at hl 1 rfl) ?_
    refine lv_aload_n hx hb dX8_byteAt_5 rfl (lv_at hl 0 rfl) ?_
    refine gfX8_9 hx hb hts hown hK hP 0 rfl rfl dX8_byteAt_6 ?_
    refine xicmp_ge hx hb 28 dX8_byteAt_9 (by decide) hf (fun hf => ?_) (fun hf => ?_)
    · refine lv_iconst (v := (-1 : Int32)) hx hb dX8_byteAt_28 (by decide) ?_
      cases hf
      exact mret_i hx hb hr hlocks hP hD hS dX8_byteAt_29 rfl trivial
    · refine lv_iload_n hx hb dX8_byteAt_12 rfl (lv_at hl 1 rfl) ?_
      refine lv_sipush (v := (300 : Int32)) hx hb dX8_byteAt_13 (by decide) ?_
      refine xicmp_ge hx hb 28 dX8_byteAt_16 (by decide) hf (fun hf => ?_) (fun hf => ?_)
      · refine lv_iconst (v := (-1 : Int32)) hx hb dX8_byteAt_28 (by decide) ?_
        cases hf
        exact mret_i hx hb hr hlocks hP hD hS dX8_byteAt_29 rfl trivial
      · refine lv_aload_n hx hb dX8_byteAt_19 rfl (lv_at hl 0 rfl) ?_
        refine gfX8_18 hx hb hts hown hK hP 0 rfl rfl dX8_byteAt_20 ?_
        refine lv_iload_n hx hb dX8_byteAt_23 rfl (lv_at hl 1 rfl) ?_
        refine xbald hx hb hK hP 1 3 rfl rfl dX8_byteAt_24 hf (fun v24 hf => ?_)
        refine lv_goto (tgt := 29) hx hb dX8_byteAt_25 (by decide) ?_
        cases hf
        exact mret_i hx hb hr hlocks hP hD hS dX8_byteAt_29 rfl trivial
theorem dX8_signAt_0 : decode cX8_signAt 0 = .ok (.aload_n 0, 1) := by decide +kernel
theorem dX8_signAt_1 : decode cX8_signAt 1 = .ok (.iload_n 1, 1) := by decide +kernel
theorem dX8_signAt_2 : decode cX8_signAt 2 = .ok (.iconst 1, 1) := by decide +kernel
theorem dX8_signAt_3 : decode cX8_signAt 3 = .ok (.iadd, 1) := by decide +kernel
theorem dX8_signAt_4 : decode cX8_signAt 4 = .ok (.invokevirtual 32, 3) := by decide +kernel
theorem dX8_signAt_7 : decode cX8_signAt 7 = .ok (.bipush 61, 2) := by decide +kernel
theorem dX8_signAt_9 : decode cX8_signAt 9 = .ok (.if_icmp .ne 7, 3) := by decide +kernel
theorem dX8_signAt_12 : decode cX8_signAt 12 = .ok (.iconst 1, 1) := by decide +kernel
theorem dX8_signAt_13 : decode cX8_signAt 13 = .ok (.goto 4, 3) := by decide +kernel
theorem dX8_signAt_16 : decode cX8_signAt 16 = .ok (.iconst 0, 1) := by decide +kernel
theorem dX8_signAt_17 : decode cX8_signAt 17 = .ok (.istore_n 2, 1) := by decide +kernel
theorem dX8_signAt_18 : decode cX8_signAt 18 = .ok (.aload_n 0, 1) := by decide +kernel
theorem dX8_signAt_19 : decode cX8_signAt 19 = .ok (.iload_n 1, 1) := by decide +kernel
theorem dX8_signAt_20 : decode cX8_signAt 20 = .ok (.invokevirtual 32, 3) := by decide +kernel
theorem dX8_signAt_23 : decode cX8_signAt 23 = .ok (.tableswitch 176 35 62 #[152, 176, 176, 176, 176, 167, 170, 161, 155, 176, 158, 176, 164, 176, 176, 176, 176, 176, 176, 176, 176, 176, 176, 176, 173, 125, 149, 137], 125) := by decide +kernel
theorem dX8_signAt_148 : decode cX8_signAt 148 = .ok (.iload_n 2, 1) := by decide +kernel
theorem dX8_signAt_149 : decode cX8_signAt 149 = .ok (.ifCond .eq 8, 3) := by decide +kernel
theorem dX8_signAt_152 : decode cX8_signAt 152 = .ok (.bipush 33, 2) := by decide +kernel
theorem dX8_signAt_154 : decode cX8_signAt 154 = .ok (.goto 5, 3) := by decide +kernel
theorem dX8_signAt_157 : decode cX8_signAt 157 = .ok (.bipush 35, 2) := by decide +kernel
theorem dX8_signAt_159 : decode cX8_signAt 159 = .ok (.ireturn, 1) := by decide +kernel
theorem dX8_signAt_160 : decode cX8_signAt 160 = .ok (.iload_n 2, 1) := by decide +kernel
theorem dX8_signAt_161 : decode cX8_signAt 161 = .ok (.ifCond .eq 8, 3) := by decide +kernel
theorem dX8_signAt_164 : decode cX8_signAt 164 = .ok (.bipush 34, 2) := by decide +kernel
theorem dX8_signAt_166 : decode cX8_signAt 166 = .ok (.goto 5, 3) := by decide +kernel
theorem dX8_signAt_169 : decode cX8_signAt 169 = .ok (.bipush 36, 2) := by decide +kernel
theorem dX8_signAt_171 : decode cX8_signAt 171 = .ok (.ireturn, 1) := by decide +kernel
theorem dX8_signAt_172 : decode cX8_signAt 172 = .ok (.bipush 37, 2) := by decide +kernel
theorem dX8_signAt_174 : decode cX8_signAt 174 = .ok (.ireturn, 1) := by decide +kernel
theorem dX8_signAt_175 : decode cX8_signAt 175 = .ok (.bipush 38, 2) := by decide +kernel
theorem dX8_signAt_177 : decode cX8_signAt 177 = .ok (.ireturn, 1) := by decide +kernel
theorem dX8_signAt_178 : decode cX8_signAt 178 = .ok (.bipush 39, 2) := by decide +kernel
theorem dX8_signAt_180 : decode cX8_signAt 180 = .ok (.ireturn, 1) := by decide +kernel
theorem dX8_signAt_181 : decode cX8_signAt 181 = .ok (.bipush 40, 2) := by decide +kernel
theorem dX8_signAt_183 : decode cX8_signAt 183 = .ok (.ireturn, 1) := by decide +kernel
theorem dX8_signAt_184 : decode cX8_signAt 184 = .ok (.bipush 41, 2) := by decide +kernel
theorem dX8_signAt_186 : decode cX8_signAt 186 = .ok (.ireturn, 1) := by decide +kernel
theorem dX8_signAt_187 : decode cX8_signAt 187 = .ok (.bipush 42, 2) := by decide +kernel
theorem dX8_signAt_189 : decode cX8_signAt 189 = .ok (.ireturn, 1) := by decide +kernel
theorem dX8_signAt_190 : decode cX8_signAt 190 = .ok (.bipush 43, 2) := by decide +kernel
theorem dX8_signAt_192 : decode cX8_signAt 192 = .ok (.ireturn, 1) := by decide +kernel
theorem dX8_signAt_193 : decode cX8_signAt 193 = .ok (.bipush 44, 2) := by decide +kernel
theorem dX8_signAt_195 : decode cX8_signAt 195 = .ok (.ireturn, 1) := by decide +kernel
theorem dX8_signAt_196 : decode cX8_signAt 196 = .ok (.bipush 45, 2) := by decide +kernel
theorem dX8_signAt_198 : decode cX8_signAt 198 = .ok (.ireturn, 1) := by decide +kernel
theorem dX8_signAt_199 : decode cX8_signAt 199 = .ok (.bipush 48, 2) := by decide +kernel
theorem dX8_signAt_201 : decode cX8_signAt 201 = .ok (.ireturn, 1) := by decide +kernel
def f_X8_signAt_17 (N : Nat) (t_len : Int32) (t_by : Nat → Int32) (x1 : Int32) (s0 : Int32) : Option (Int32) := ob1 (f_X8_byteAt N t_len t_by x1) fun r20 => if r20 = (35 : Int32) then (some (38 : Int32)) else if r20 = (40 : Int32) then (some (43 : Int32)) else if r20 = (41 : Int32) then (some (44 : Int32)) else if r20 = (42 : Int32) then (some (41 : Int32)) else if r20 = (43 : Int32) then (some (39 : Int32)) else if r20 = (45 : Int32) then (some (40 : Int32)) else if r20 = (47 : Int32) then (some (42 : Int32)) else if r20 = (59 : Int32) then (some (45 : Int32)) else if r20 = (60 : Int32) then (if s0 = 0 then (some (35 : Int32)) else (some (33 : Int32))) else if r20 = (61 : Int32) then (some (37 : Int32)) else if r20 = (62 : Int32) then (if s0 = 0 then (some (36 : Int32)) else (some (34 : Int32))) else (some (48 : Int32))
def f_X8_signAt (N : Nat) (t_len : Int32) (t_by : Nat → Int32) (p1 : Int32) : Option (Int32) := ob1 (f_X8_byteAt N t_len t_by (p1 + (1 : Int32))) fun r4 => if r4 = (61 : Int32) then (f_X8_signAt_17 N t_len t_by p1 (1 : Int32)) else (f_X8_signAt_17 N t_len t_by p1 (0 : Int32))
set_option maxHeartbeats 4000000 in
set_option maxRecDepth 100000 in
theorem k_X8_signAt (l : Launch) (N : Nat) (D : va_G) (cI cJ cZ cB cT : ClassId) (qt0 : Nat) (qt1 : Nat) (qt2 : Nat) (qt3 : Nat) (qt4 : Nat) (t_len : Int32) (t_tok : Int32) (t_by : Nat → Int32) (p1 : Int32) (o_r : Int32) (hf : f_X8_signAt N t_len t_by p1 = some o_r) : ∀ sz, Met l yX8_signAt (mw yX8_signAt cX8_signAt 3 (some .int)) ({ frames := 1, cells := 0, slots := 0, locals := 21 } : Room) (mPre D (mT cI cJ cZ cB cT) (W_TP_0t1 qt0 qt1 qt2 qt3 qt4 cI cJ cZ cB cT t_len t_tok t_by) sz [.ref qt0, .int p1]) ((mQi D (W_TP_0t1 qt0 qt1 qt2 qt3 qt4 cI cJ cZ cB cT t_len t_tok t_by) o_r True) (va_A (W_TP_0t1 qt0 qt1 qt2 qt3 qt4 cI cJ cZ cB cT t_len t_tok t_by) sz)) 0 0 (va_A (W_TP_0t1 qt0 qt1 qt2 qt3 qt4 cI cJ cZ cB cT t_len t_tok t_by) sz) := by
  refine mMet (Qc := (mQi D (W_TP_0t1 qt0 qt1 qt2 qt3 qt4 cI cJ cZ cB cT t_len t_tok t_by) o_r True)) (by decide) (Nat.le_of_ble_eq_true rfl) (fun p e s m below meth c A ls hx hb hr hml hts hown hlocks hK hA hP hD hl => ?_)
  have hown : s.vm.findClass RX8 = some m.cls := hown
  have hl : lv_has ls 3 [(0, .ref qt0), (1, .int p1)] := hl
  have hS : va_S A s.heap s.heap [] := va_S.rf
  have b17 : ∀ (x1 : Int32) (s0 : Int32) (H : Heap) (locs : List Loc) (ls : Array Slot), f_X8_signAt_17 N t_len t_by x1 s0 = some o_r → va_P D vwCl (W_TP_0t1 qt0 qt1 qt2 qt3 qt4 cI cJ cZ cB cT t_len t_tok t_by) H → va_D A (W_TP_0t1 qt0 qt1 qt2 qt3 qt4 cI cJ cZ cB cT t_len t_tok t_by) → va_S A s.heap H locs → lv_has ls 3 [(0, .ref qt0), (1, .int x1)] → W p l e ({ frames := 1, cells := 0, slots := 0, locals := 21 } : Room) s m ([.ref qt0, .int p1] : List Value).toArray below meth c H locs 0 0 (MQ below ((mQi D (W_TP_0t1 qt0 qt1 qt2 qt3 qt4 cI cJ cZ cB cT t_len t_tok t_by) o_r True) A) ([.ref qt0, .int p1] : List Value).toArray s 0 0 A) (F0 m 17 ls [.int s0]) := by
    intro x1 s0 H locs ls hf hP hD hS hl
    unfold f_X8_signAt_17 at hf
    refine lv_istore_n (lv' := [(2, .int s0), (0, .ref qt0), (1, .int x1)]) hx hb dX8_signAt_17 rfl hl (by decide) rfl (fun ls hl => ?_)
    refine lv_aload_n hx hb dX8_signAt_18 rfl (lv_at hl 1 rfl) ?_
    refine lv_iload_n hx hb dX8_signAt_19 rfl (lv_at hl 2 rfl) ?_
    obtain ⟨r20, hg20, hf⟩ := ob1_some hf
    refine mcV1_i (As := [.int x1]) (rest := []) hx hb hml hown hts hK hP hD hS hA (k_X8_byteAt l N D cI cJ cZ cB cT qt0 qt1 qt2 qt3 qt4 t_len t_tok t_by x1 r20 hg20) (kwX8_32 hts rfl rfl ⟨Nat.le_of_ble_eq_true rfl, Nat.le_of_ble_eq_true rfl⟩) 0 rfl rfl rfl rfl hl.1 rfl (Nat.le_of_ble_eq_true rfl) dX8_signAt_20 ⟨Nat.zero_le _, Nat.zero_le _⟩ (fun hB20 H locs hP hD hS => ?_)
    have hP : va_P D vwCl (W_TP_0t1 qt0 qt1 qt2 qt3 qt4 cI cJ cZ cB cT t_len t_tok t_by) H := hP
    have hD : va_D A (W_TP_0t1 qt0 qt1 qt2 qt3 qt4 cI cJ cZ cB cT t_len t_tok t_by) := hD
    by_cases e23_35 : r20 = (35 : Int32)
    · replace hf := (if_pos e23_35).symm.trans hf
      refine lv_tableIn (off := 152) (tgt := 175) hx hb dX8_signAt_23 (by rw [e23_35]; decide) (by rw [e23_35]; decide) (by rw [e23_35]; rfl) (by decide) ?_
      refine lv_bipush (v := (38 : Int32)) hx hb dX8_signAt_175 (by decide) ?_
      cases hf
      exact mret_i hx hb hr hlocks hP hD hS dX8_signAt_177 rfl trivial
    replace hf := (if_neg e23_35).symm.trans hf
    by_cases e23_40 : r20 = (40 : Int32)
    · replace hf := (if_pos e23_40).symm.trans hf
      refine lv_tableIn (off := 167) (tgt := 190) hx hb dX8_signAt_23 (by rw [e23_40]; decide) (by rw [e23_40]; decide) (by rw [e23_40]; rfl) (by decide) ?_
      refine lv_bipush (v := (43 : Int32)) hx hb dX8_signAt_190 (by decide) ?_
      cases hf
      exact mret_i hx hb hr hlocks hP hD hS dX8_signAt_192 rfl trivial
    replace hf := (if_neg e23_40).symm.trans hf
    by_cases e23_41 : r20 = (41 : Int32)
    · replace hf := (if_pos e23_41).symm.trans hf
      refine lv_tableIn (off := 170) (tgt := 193) hx hb dX8_signAt_23 (by rw [e23_41]; decide) (by rw [e23_41]; decide) (by rw [e23_41]; rfl) (by decide) ?_
      refine lv_bipush (v := (44 : Int32)) hx hb dX8_signAt_193 (by decide) ?_
      cases hf
      exact mret_i hx hb hr hlocks hP hD hS dX8_signAt_195 rfl trivial
    replace hf := (if_neg e23_41).symm.trans hf
    by_cases e23_42 : r20 = (42 : Int32)
    · replace hf := (if_pos e23_42).symm.trans hf
      refine lv_tableIn (off := 161) (tgt := 184) hx hb dX8_signAt_23 (by rw [e23_42]; decide) (by rw [e23_42]; decide) (by rw [e23_42]; rfl) (by decide) ?_
      refine lv_bipush (v := (41 : Int32)) hx hb dX8_signAt_184 (by decide) ?_
      cases hf
      exact mret_i hx hb hr hlocks hP hD hS dX8_signAt_186 rfl trivial
    replace hf := (if_neg e23_42).symm.trans hf
    by_cases e23_43 : r20 = (43 : Int32)
    · replace hf := (if_pos e23_43).symm.trans hf
      refine lv_tableIn (off := 155) (tgt := 178) hx hb dX8_signAt_23 (by rw [e23_43]; decide) (by rw [e23_43]; decide) (by rw [e23_43]; rfl) (by decide) ?_
      refine lv_bipush (v := (39 : Int32)) hx hb dX8_signAt_178 (by decide) ?_
      cases hf
      exact mret_i hx hb hr hlocks hP hD hS dX8_signAt_180 rfl trivial
    replace hf := (if_neg e23_43).symm.trans hf
    by_cases e23_45 : r20 = (45 : Int32)
    · replace hf := (if_pos e23_45).symm.trans hf
      refine lv_tableIn (off := 158) (tgt := 181) hx hb dX8_signAt_23 (by rw [e23_45]; decide) (by rw [e23_45]; decide) (by rw [e23_45]; rfl) (by decide) ?_
      refine lv_bipush (v := (40 : Int32)) hx hb dX8_signAt_181 (by decide) ?_
      cases hf
      exact mret_i hx hb hr hlocks hP hD hS dX8_signAt_183 rfl trivial
    replace hf := (if_neg e23_45).symm.trans hf
    by_cases e23_47 : r20 = (47 : Int32)
    · replace hf := (if_pos e23_47).symm.trans hf
      refine lv_tableIn (off := 164) (tgt := 187) hx hb dX8_signAt_23 (by rw [e23_47]; decide) (by rw [e23_47]; decide) (by rw [e23_47]; rfl) (by decide) ?_
      refine lv_bipush (v := (42 : Int32)) hx hb dX8_signAt_187 (by decide) ?_
      cases hf
      exact mret_i hx hb hr hlocks hP hD hS dX8_signAt_189 rfl trivial
    replace hf := (if_neg e23_47).symm.trans hf
    by_cases e23_59 : r20 = (59 : Int32)
    · replace hf := (if_pos e23_59).symm.trans hf
      refine lv_tableIn (off := 173) (tgt := 196) hx hb dX8_signAt_23 (by rw [e23_59]; decide) (by rw [e23_59]; decide) (by rw [e23_59]; rfl) (by decide) ?_
      refine lv_bipush (v := (45 : Int32)) hx hb dX8_signAt_196 (by decide) ?_
      cases hf
      exact mret_i hx hb hr hlocks hP hD hS dX8_signAt_198 rfl trivial
    replace hf := (if_neg e23_59).symm.trans hf
    by_cases e23_60 : r20 = (60 : Int32)
    · replace hf := (if_pos e23_60).symm.trans hf
      refine lv_tableIn (off := 125) (tgt := 148) hx hb dX8_signAt_23 (by rw [e23_60]; decide) (by rw [e23_60]; decide) (by rw [e23_60]; rfl) (by decide) ?_
      refine lv_iload_n hx hb dX8_signAt_148 rfl (lv_at hl 0 rfl) ?_
      refine xif_eq hx hb 157 dX8_signAt_149 (by decide) hf (fun hf => ?_) (fun hf => ?_)
      · refine lv_bipush (v := (35 : Int32)) hx hb dX8_signAt_157 (by decide) ?_
        cases hf
        exact mret_i hx hb hr hlocks hP hD hS dX8_signAt_159 rfl trivial
      · refine lv_bipush (v := (33 : Int32)) hx hb dX8_signAt_152 (by decide) ?_
        refine lv_goto (tgt := 159) hx hb dX8_signAt_154 (by decide) ?_
        cases hf
        exact mret_i hx hb hr hlocks hP hD hS dX8_signAt_159 rfl trivial
    replace hf := (if_neg e23_60).symm.trans hf
    by_cases e23_61 : r20 = (61 : Int32)
    · replace hf := (if_pos e23_61).symm.trans hf
      refine lv_tableIn (off := 149) (tgt := 172) hx hb dX8_signAt_23 (by rw [e23_61]; decide) (by rw [e23_61]; decide) (by rw [e23_61]; rfl) (by decide) ?_
      refine lv_bipush (v := (37 : Int32)) hx hb dX8_signAt_172 (by decide) ?_
      cases hf
      exact mret_i hx hb hr hlocks hP hD hS dX8_signAt_174 rfl trivial
    replace hf := (if_neg e23_61).symm.trans hf
    by_cases e23_62 : r20 = (62 : Int32)
    · replace hf := (if_pos e23_62).symm.trans hf
      refine lv_tableIn (off := 137) (tgt := 160) hx hb dX8_signAt_23 (by rw [e23_62]; decide) (by rw [e23_62]; decide) (by rw [e23_62]; rfl) (by decide) ?_
      refine lv_iload_n hx hb dX8_signAt_160 rfl (lv_at hl 0 rfl) ?_
      refine xif_eq hx hb 169 dX8_signAt_161 (by decide) hf (fun hf => ?_) (fun hf => ?_)
      · refine lv_bipush (v := (36 : Int32)) hx hb dX8_signAt_169 (by decide) ?_
        cases hf
        exact mret_i hx hb hr hlocks hP hD hS dX8_signAt_171 rfl trivial
      · refine lv_bipush (v := (34 : Int32)) hx hb dX8_signAt_164 (by decide) ?_
        refine lv_goto (tgt := 171) hx hb dX8_signAt_166 (by decide) ?_
        cases hf
        exact mret_i hx hb hr hlocks hP hD hS dX8_signAt_171 rfl trivial
    replace hf := (if_neg e23_62).symm.trans hf
    by_cases e23_36 : r20 = (36 : Int32)
    · refine lv_tableIn (off := 176) (tgt := 199) hx hb dX8_signAt_23 (by rw [e23_36]; decide) (by rw [e23_36]; decide) (by rw [e23_36]; rfl) (by decide) ?_
      refine lv_bipush (v := (48 : Int32)) hx hb dX8_signAt_199 (by decide) ?_
      cases hf
      exact mret_i hx hb hr hlocks hP hD hS dX8_signAt_201 rfl trivial
    by_cases e23_37 : r20 = (37 : Int32)
    · refine lv_tableIn (off := 176) (tgt := 199) hx hb dX8_signAt_23 (by rw [e23_37]; decide) (by rw [e23_37]; decide) (by rw [e23_37]; rfl) (by decide) ?_
      refine lv_bipush (v := (48 : Int32)) hx hb dX8_signAt_199 (by decide) ?_
      cases hf
      exact mret_i hx hb hr hlocks hP hD hS dX8_signAt_201 rfl trivial
    by_cases e23_38 : r20 = (38 : Int32)
    · refine lv_tableIn (off := 176) (tgt := 199) hx hb dX8_signAt_23 (by rw [e23_38]; decide) (by rw [e23_38]; decide) (by rw [e23_38]; rfl) (by decide) ?_
      refine lv_bipush (v := (48 : Int32)) hx hb dX8_signAt_199 (by decide) ?_
      cases hf
      exact mret_i hx hb hr hlocks hP hD hS dX8_signAt_201 rfl trivial
    by_cases e23_39 : r20 = (39 : Int32)
    · refine lv_tableIn (off := 176) (tgt := 199) hx hb dX8_signAt_23 (by rw [e23_39]; decide) (by rw [e23_39]; decide) (by rw [e23_39]; rfl) (by decide) ?_
      refine lv_bipush (v := (48 : Int32)) hx hb dX8_signAt_199 (by decide) ?_
      cases hf
      exact mret_i hx hb hr hlocks hP hD hS dX8_signAt_201 rfl trivial
    by_cases e23_44 : r20 = (44 : Int32)
    · refine lv_tableIn (off := 176) (tgt := 199) hx hb dX8_signAt_23 (by rw [e23_44]; decide) (by rw [e23_44]; decide) (by rw [e23_44]; rfl) (by decide) ?_
      refine lv_bipush (v := (48 : Int32)) hx hb dX8_signAt_199 (by decide) ?_
      cases hf
      exact mret_i hx hb hr hlocks hP hD hS dX8_signAt_201 rfl trivial
    by_cases e23_46 : r20 = (46 : Int32)
    · refine lv_tableIn (off := 176) (tgt := 199) hx hb dX8_signAt_23 (by rw [e23_46]; decide) (by rw [e23_46]; decide) (by rw [e23_46]; rfl) (by decide) ?_
      refine lv_bipush (v := (48 : Int32)) hx hb dX8_signAt_199 (by decide) ?_
      cases hf
      exact mret_i hx hb hr hlocks hP hD hS dX8_signAt_201 rfl trivial
    by_cases e23_48 : r20 = (48 : Int32)
    · refine lv_tableIn (off := 176) (tgt := 199) hx hb dX8_signAt_23 (by rw [e23_48]; decide) (by rw [e23_48]; decide) (by rw [e23_48]; rfl) (by decide) ?_
      refine lv_bipush (v := (48 : Int32)) hx hb dX8_signAt_199 (by decide) ?_
      cases hf
      exact mret_i hx hb hr hlocks hP hD hS dX8_signAt_201 rfl trivial
    by_cases e23_49 : r20 = (49 : Int32)
    · refine lv_tableIn (off := 176) (tgt := 199) hx hb dX8_signAt_23 (by rw [e23_49]; decide) (by rw [e23_49]; decide) (by rw [e23_49]; rfl) (by decide) ?_
      refine lv_bipush (v := (48 : Int32)) hx hb dX8_signAt_199 (by decide) ?_
      cases hf
      exact mret_i hx hb hr hlocks hP hD hS dX8_signAt_201 rfl trivial
    by_cases e23_50 : r20 = (50 : Int32)
    · refine lv_tableIn (off := 176) (tgt := 199) hx hb dX8_signAt_23 (by rw [e23_50]; decide) (by rw [e23_50]; decide) (by rw [e23_50]; rfl) (by decide) ?_
      refine lv_bipush (v := (48 : Int32)) hx hb dX8_signAt_199 (by decide) ?_
      cases hf
      exact mret_i hx hb hr hlocks hP hD hS dX8_signAt_201 rfl trivial
    by_cases e23_51 : r20 = (51 : Int32)
    · refine lv_tableIn (off := 176) (tgt := 199) hx hb dX8_signAt_23 (by rw [e23_51]; decide) (by rw [e23_51]; decide) (by rw [e23_51]; rfl) (by decide) ?_
      refine lv_bipush (v := (48 : Int32)) hx hb dX8_signAt_199 (by decide) ?_
      cases hf
      exact mret_i hx hb hr hlocks hP hD hS dX8_signAt_201 rfl trivial
    by_cases e23_52 : r20 = (52 : Int32)
    · refine lv_tableIn (off := 176) (tgt := 199) hx hb dX8_signAt_23 (by rw [e23_52]; decide) (by rw [e23_52]; decide) (by rw [e23_52]; rfl) (by decide) ?_
      refine lv_bipush (v := (48 : Int32)) hx hb dX8_signAt_199 (by decide) ?_
      cases hf
      exact mret_i hx hb hr hlocks hP hD hS dX8_signAt_201 rfl trivial
    by_cases e23_53 : r20 = (53 : Int32)
    · refine lv_tableIn (off := 176) (tgt := 199) hx hb dX8_signAt_23 (by rw [e23_53]; decide) (by rw [e23_53]; decide) (by rw [e23_53]; rfl) (by decide) ?_
      refine lv_bipush (v := (48 : Int32)) hx hb dX8_signAt_199 (by decide) ?_
      cases hf
      exact mret_i hx hb hr hlocks hP hD hS dX8_signAt_201 rfl trivial
    by_cases e23_54 : r20 = (54 : Int32)
    · refine lv_tableIn (off := 176) (tgt := 199) hx hb dX8_signAt_23 (by rw [e23_54]; decide) (by rw [e23_54]; decide) (by rw [e23_54]; rfl) (by decide) ?_
      refine lv_bipush (v := (48 : Int32)) hx hb dX8_signAt_199 (by decide) ?_
      cases hf
      exact mret_i hx hb hr hlocks hP hD hS dX8_signAt_201 rfl trivial
    by_cases e23_55 : r20 = (55 : Int32)
    · refine lv_tableIn (off := 176) (tgt := 199) hx hb dX8_signAt_23 (by rw [e23_55]; decide) (by rw [e23_55]; decide) (by rw [e23_55]; rfl) (by decide) ?_
      refine lv_bipush (v := (48 : Int32)) hx hb dX8_signAt_199 (by decide) ?_
      cases hf
      exact mret_i hx hb hr hlocks hP hD hS dX8_signAt_201 rfl trivial
    by_cases e23_56 : r20 = (56 : Int32)
    · refine lv_tableIn (off := 176) (tgt := 199) hx hb dX8_signAt_23 (by rw [e23_56]; decide) (by rw [e23_56]; decide) (by rw [e23_56]; rfl) (by decide) ?_
      refine lv_bipush (v := (48 : Int32)) hx hb dX8_signAt_199 (by decide) ?_
      cases hf
      exact mret_i hx hb hr hlocks hP hD hS dX8_signAt_201 rfl trivial
    by_cases e23_57 : r20 = (57 : Int32)
    · refine lv_tableIn (off := 176) (tgt := 199) hx hb dX8_signAt_23 (by rw [e23_57]; decide) (by rw [e23_57]; decide) (by rw [e23_57]; rfl) (by decide) ?_
      refine lv_bipush (v := (48 : Int32)) hx hb dX8_signAt_199 (by decide) ?_
      cases hf
      exact mret_i hx hb hr hlocks hP hD hS dX8_signAt_201 rfl trivial
    by_cases e23_58 : r20 = (58 : Int32)
    · refine lv_tableIn (off := 176) (tgt := 199) hx hb dX8_signAt_23 (by rw [e23_58]; decide) (by rw [e23_58]; decide) (by rw [e23_58]; rfl) (by decide) ?_
      refine lv_bipush (v := (48 : Int32)) hx hb dX8_signAt_199 (by decide) ?_
      cases hf
      exact mret_i hx hb hr hlocks hP hD hS dX8_signAt_201 rfl trivial
    have ne23_35 : r20.toInt ≠ (35 : Int) := sw_ne e23_35
    have ne23_36 : r20.toInt ≠ (36 : Int) := sw_ne e23_36
    have ne23_37 : r20.toInt ≠ (37 : Int) := sw_ne e23_37
    have ne23_38 : r20.toInt ≠ (38 : Int) := sw_ne e23_38
    have ne23_39 : r20.toInt ≠ (39 : Int) := sw_ne e23_39
    have ne23_40 : r20.toInt ≠ (40 : Int) := sw_ne e23_40
    have ne23_41 : r20.toInt ≠ (41 : Int) := sw_ne e23_41
    have ne23_42 : r20.toInt ≠ (42 : Int) := sw_ne e23_42
    have ne23_43 : r20.toInt ≠ (43 : Int) := sw_ne e23_43
    have ne23_44 : r20.toInt ≠ (44 : Int) := sw_ne e23_44
    have ne23_45 : r20.toInt ≠ (45 : Int) := sw_ne e23_45
    have ne23_46 : r20.toInt ≠ (46 : Int) := sw_ne e23_46
    have ne23_47 : r20.toInt ≠ (47 : Int) := sw_ne e23_47
    have ne23_48 : r20.toInt ≠ (48 : Int) := sw_ne e23_48
    have ne23_49 : r20.toInt ≠ (49 : Int) := sw_ne e23_49
    have ne23_50 : r20.toInt ≠ (50 : Int) := sw_ne e23_50
    have ne23_51 : r20.toInt ≠ (51 : Int) := sw_ne e23_51
    have ne23_52 : r20.toInt ≠ (52 : Int) := sw_ne e23_52
    have ne23_53 : r20.toInt ≠ (53 : Int) := sw_ne e23_53
    have ne23_54 : r20.toInt ≠ (54 : Int) := sw_ne e23_54
    have ne23_55 : r20.toInt ≠ (55 : Int) := sw_ne e23_55
    have ne23_56 : r20.toInt ≠ (56 : Int) := sw_ne e23_56
    have ne23_57 : r20.toInt ≠ (57 : Int) := sw_ne e23_57
    have ne23_58 : r20.toInt ≠ (58 : Int) := sw_ne e23_58
    have ne23_59 : r20.toInt ≠ (59 : Int) := sw_ne e23_59
    have ne23_60 : r20.toInt ≠ (60 : Int) := sw_ne e23_60
    have ne23_61 : r20.toInt ≠ (61 : Int) := sw_ne e23_61
    have ne23_62 : r20.toInt ≠ (62 : Int) := sw_ne e23_62
    refine lv_tableOut (tgt := 199) hx hb dX8_signAt_23 (by omega) (by decide) ?_
    refine lv_bipush (v := (48 : Int32)) hx hb dX8_signAt_199 (by decide) ?_
    cases hf
    exact mret_i hx hb hr hlocks hP hD hS dX8_signAt_201 rfl trivial
  unfold f_X8_signAt at hf
  refine lv_aload_n hx hb dX8_signAt_0 rfl (lv_at hl 0 rfl) ?_
  refine lv_iload_n hx hb dX8_signAt_1 rfl (lv_at hl 1 rfl) ?_
  refine lv_iconst (v := (1 : Int32)) hx hb dX8_signAt_2 (by decide) ?_
  refine lv_iadd hx hb dX8_signAt_3 ?_
  obtain ⟨r4, hg4, hf⟩ := ob1_some hf
  refine mcV1_i (As := [.int (p1 + (1 : Int32))]) (rest := []) hx hb hml hown hts hK hP hD hS hA (k_X8_byteAt l N D cI cJ cZ cB cT qt0 qt1 qt2 qt3 qt4 t_len t_tok t_by (p1 + (1 : Int32)) r4 hg4) (kwX8_32 hts rfl rfl ⟨Nat.le_of_ble_eq_true rfl, Nat.le_of_ble_eq_true rfl⟩) 0 rfl rfl rfl rfl hl.1 rfl (Nat.le_of_ble_eq_true rfl) dX8_signAt_4 ⟨Nat.zero_le _, Nat.zero_le _⟩ (fun hB4 H locs hP hD hS => ?_)
  have hP : va_P D vwCl (W_TP_0t1 qt0 qt1 qt2 qt3 qt4 cI cJ cZ cB cT t_len t_tok t_by) H := hP
  have hD : va_D A (W_TP_0t1 qt0 qt1 qt2 qt3 qt4 cI cJ cZ cB cT t_len t_tok t_by) := hD
  refine lv_bipush (v := (61 : Int32)) hx hb dX8_signAt_7 (by decide) ?_
  refine xicmp_ne hx hb 16 dX8_signAt_9 (by decide) hf (fun hf => ?_) (fun hf => ?_)
  · refine lv_iconst (v := (1 : Int32)) hx hb dX8_signAt_12 (by decide) ?_
    refine lv_goto (tgt := 17) hx hb dX8_signAt_13 (by decide) ?_
    exact b17 p1 (1 : Int32) _ _ _ hf hP hD hS (lv_sub hl [0, 1] rfl)
  · refine lv_iconst (v := (0 : Int32)) hx hb dX8_signAt_16 (by decide) ?_
    exact b17 p1 (0 : Int32) _ _ _ hf hP hD hS (lv_sub hl [0, 1] rfl)
theorem dX8_isBlank_0 : decode cX8_isBlank 0 = .ok (.iload_n 0, 1) := by decide +kernel
theorem dX8_isBlank_1 : decode cX8_isBlank 1 = .ok (.bipush 32, 2) := by decide +kernel
theorem dX8_isBlank_3 : decode cX8_isBlank 3 = .ok (.if_icmp .eq 9, 3) := by decide +kernel
theorem dX8_isBlank_6 : decode cX8_isBlank 6 = .ok (.iload_n 0, 1) := by decide +kernel
theorem dX8_isBlank_7 : decode cX8_isBlank 7 = .ok (.bipush 10, 2) := by decide +kernel
theorem dX8_isBlank_9 : decode cX8_isBlank 9 = .ok (.if_icmp .ne 7, 3) := by decide +kernel
theorem dX8_isBlank_12 : decode cX8_isBlank 12 = .ok (.iconst 1, 1) := by decide +kernel
theorem dX8_isBlank_13 : decode cX8_isBlank 13 = .ok (.goto 4, 3) := by decide +kernel
theorem dX8_isBlank_16 : decode cX8_isBlank 16 = .ok (.iconst 0, 1) := by decide +kernel
theorem dX8_isBlank_17 : decode cX8_isBlank 17 = .ok (.ireturn, 1) := by decide +kernel
def f_X8_isBlank_12 (N : Nat) : Option (Int32) := some (1 : Int32)
def f_X8_isBlank (N : Nat) (p0 : Int32) : Option (Int32) := if p0 = (32 : Int32) then (f_X8_isBlank_12 N) else (if p0 = (10 : Int32) then (f_X8_isBlank_12 N) else (some (0 : Int32)))
set_option maxHeartbeats 4000000 in
set_option maxRecDepth 100000 in
theorem k_X8_isBlank (l : Launch) (N : Nat) (D : va_G) (cI cJ cZ cB cT : ClassId) (p0 : Int32) (o_r : Int32) (hf : f_X8_isBlank N p0 = some o_r) : ∀ sz, Met l yX8_isBlank (mw yX8_isBlank cX8_isBlank 1 (some .boolean)) ({ frames := 0, cells := 0, slots := 0, locals := 0 } : Room) (mPre D (mT cI cJ cZ cB cT) [] sz [.int p0]) ((mQi D [] o_r (mB o_r)) (va_A [] sz)) 0 0 (va_A [] sz) := by
  refine mMet (Qc := (mQi D [] o_r (mB o_r))) (by decide) (Nat.le_of_ble_eq_true rfl) (fun p e s m below meth c A ls hx hb hr hml hts hown hlocks hK hA hP hD hl => ?_)
  have hown : s.vm.findClass RX8 = some m.cls := hown
  have hl : lv_has ls 1 [(0, .int p0)] := hl
  have hS : va_S A s.heap s.heap [] := va_S.rf
  have b12 : ∀ (H : Heap) (locs : List Loc) (ls : Array Slot), f_X8_isBlank_12 N = some o_r → va_P D vwCl [] H → va_D A [] → va_S A s.heap H locs → lv_has ls 1 [] → W p l e ({ frames := 0, cells := 0, slots := 0, locals := 0 } : Room) s m ([.int p0] : List Value).toArray below meth c H locs 0 0 (MQ below ((mQi D [] o_r (mB o_r)) A) ([.int p0] : List Value).toArray s 0 0 A) (F0 m 12 ls []) := by
    intro H locs ls hf hP hD hS hl
    unfold f_X8_isBlank_12 at hf
    refine lv_iconst (v := (1 : Int32)) hx hb dX8_isBlank_12 (by decide) ?_
    refine lv_goto (tgt := 17) hx hb dX8_isBlank_13 (by decide) ?_
    cases hf
    exact mret_z hx hb hr hlocks hP hD hS dX8_isBlank_17 rfl rfl
  unfold f_X8_isBlank at hf
  refine lv_iload_n hx hb dX8_isBlank_0 rfl (lv_at hl 0 rfl) ?_
  refine lv_bipush (v := (32 : Int32)) hx hb dX8_isBlank_1 (by decide) ?_
  refine xicmp_eq hx hb 12 dX8_isBlank_3 (by decide) hf (fun hf => ?_) (fun hf => ?_)
  · exact b12 _ _ _ hf hP hD hS (lv_sub hl [] rfl)
  · refine lv_iload_n hx hb dX8_isBlank_6 rfl (lv_at hl 0 rfl) ?_
    refine lv_bipush (v := (10 : Int32)) hx hb dX8_isBlank_7 (by decide) ?_
    refine xicmp_ne hx hb 16 dX8_isBlank_9 (by decide) hf (fun hf => ?_) (fun hf => ?_)
    · exact b12 _ _ _ hf hP hD hS (lv_sub hl [] rfl)
    · refine lv_iconst (v := (0 : Int32)) hx hb dX8_isBlank_16 (by decide) ?_
      cases hf
      exact mret_z hx hb hr hlocks hP hD hS dX8_isBlank_17 rfl rfl
theorem dX8_isLetter_0 : decode cX8_isLetter 0 = .ok (.iload_n 0, 1) := by decide +kernel
theorem dX8_isLetter_1 : decode cX8_isLetter 1 = .ok (.bipush 97, 2) := by decide +kernel
theorem dX8_isLetter_3 : decode cX8_isLetter 3 = .ok (.if_icmp .lt 9, 3) := by decide +kernel
theorem dX8_isLetter_6 : decode cX8_isLetter 6 = .ok (.iload_n 0, 1) := by decide +kernel
theorem dX8_isLetter_7 : decode cX8_isLetter 7 = .ok (.bipush 122, 2) := by decide +kernel
theorem dX8_isLetter_9 : decode cX8_isLetter 9 = .ok (.if_icmp .le 15, 3) := by decide +kernel
theorem dX8_isLetter_12 : decode cX8_isLetter 12 = .ok (.iload_n 0, 1) := by decide +kernel
theorem dX8_isLetter_13 : decode cX8_isLetter 13 = .ok (.bipush 65, 2) := by decide +kernel
theorem dX8_isLetter_15 : decode cX8_isLetter 15 = .ok (.if_icmp .lt 13, 3) := by decide +kernel
theorem dX8_isLetter_18 : decode cX8_isLetter 18 = .ok (.iload_n 0, 1) := by decide +kernel
theorem dX8_isLetter_19 : decode cX8_isLetter 19 = .ok (.bipush 90, 2) := by decide +kernel
theorem dX8_isLetter_21 : decode cX8_isLetter 21 = .ok (.if_icmp .gt 7, 3) := by decide +kernel
theorem dX8_isLetter_24 : decode cX8_isLetter 24 = .ok (.iconst 1, 1) := by decide +kernel
theorem dX8_isLetter_25 : decode cX8_isLetter 25 = .ok (.goto 4, 3) := by decide +kernel
theorem dX8_isLetter_28 : decode cX8_isLetter 28 = .ok (.iconst 0, 1) := by decide +kernel
theorem dX8_isLetter_29 : decode cX8_isLetter 29 = .ok (.ireturn, 1) := by decide +kernel
def f_X8_isLetter_24 (N : Nat) : Option (Int32) := some (1 : Int32)
def f_X8_isLetter_12 (N : Nat) (x0 : Int32) : Option (Int32) := if x0 < (65 : Int32) then (some (0 : Int32)) else (if (90 : Int32) < x0 then (some (0 : Int32)) else (f_X8_isLetter_24 N))
def f_X8_isLetter (N : Nat) (p0 : Int32) : Option (Int32) := if p0 < (97 : Int32) then (f_X8_isLetter_12 N p0) else (if p0 ≤ (122 : Int32) then (f_X8_isLetter_24 N) else (f_X8_isLetter_12 N p0))
set_option maxHeartbeats 4000000 in
set_option maxRecDepth 100000 in
theorem k_X8_isLetter (l : Launch) (N : Nat) (D : va_G) (cI cJ cZ cB cT : ClassId) (p0 : Int32) (o_r : Int32) (hf : f_X8_isLetter N p0 = some o_r) : ∀ sz, Met l yX8_isLetter (mw yX8_isLetter cX8_isLetter 1 (some .boolean)) ({ frames := 0, cells := 0, slots := 0, locals := 0 } : Room) (mPre D (mT cI cJ cZ cB cT) [] sz [.int p0]) ((mQi D [] o_r (mB o_r)) (va_A [] sz)) 0 0 (va_A [] sz) := by
  refine mMet (Qc := (mQi D [] o_r (mB o_r))) (by decide) (Nat.le_of_ble_eq_true rfl) (fun p e s m below meth c A ls hx hb hr hml hts hown hlocks hK hA hP hD hl => ?_)
  have hown : s.vm.findClass RX8 = some m.cls := hown
  have hl : lv_has ls 1 [(0, .int p0)] := hl
  have hS : va_S A s.heap s.heap [] := va_S.rf
  have b24 : ∀ (H : Heap) (locs : List Loc) (ls : Array Slot), f_X8_isLetter_24 N = some o_r → va_P D vwCl [] H → va_D A [] → va_S A s.heap H locs → lv_has ls 1 [] → W p l e ({ frames := 0, cells := 0, slots := 0, locals := 0 } : Room) s m ([.int p0] : List Value).toArray below meth c H locs 0 0 (MQ below ((mQi D [] o_r (mB o_r)) A) ([.int p0] : List Value).toArray s 0 0 A) (F0 m 24 ls []) := by
    intro H locs ls hf hP hD hS hl
    unfold f_X8_isLetter_24 at hf
    refine lv_iconst (v := (1 : Int32)) hx hb dX8_isLetter_24 (by decide) ?_
    refine lv_goto (tgt := 29) hx hb dX8_isLetter_25 (by decide) ?_
    cases hf
    exact mret_z hx hb hr hlocks hP hD hS dX8_isLetter_29 rfl rfl
  have b12 : ∀ (x0 : Int32) (H : Heap) (locs : List Loc) (ls : Array Slot), f_X8_isLetter_12 N x0 = some o_r → va_P D vwCl [] H → va_D A [] → va_S A s.heap H locs → lv_has ls 1 [(0, .int x0)] → W p l e ({ frames := 0, cells := 0, slots := 0, locals := 0 } : Room) s m ([.int p0] : List Value).toArray below meth c H locs 0 0 (MQ below ((mQi D [] o_r (mB o_r)) A) ([.int p0] : List Value).toArray s 0 0 A) (F0 m 12 ls []) := by
    intro x0 H locs ls hf hP hD hS hl
    unfold f_X8_isLetter_12 at hf
    refine lv_iload_n hx hb dX8_isLetter_12 rfl (lv_at hl 0 rfl) ?_
    refine lv_bipush (v := (65 : Int32)) hx hb dX8_isLetter_13 (by decide) ?_
    refine xicmp_lt hx hb 28 dX8_isLetter_15 (by decide) hf (fun hf => ?_) (fun hf => ?_)
    · refine lv_iconst (v := (0 : Int32)) hx hb dX8_isLetter_28 (by decide) ?_
      cases hf
      exact mret_z hx hb hr hlocks hP hD hS dX8_isLetter_29 rfl rfl
    · refine lv_iload_n hx hb dX8_isLetter_18 rfl (lv_at hl 0 rfl) ?_
      refine lv_bipush (v := (90 : Int32)) hx hb dX8_isLetter_19 (by decide) ?_
      refine xicmp_gt hx hb 28 dX8_isLetter_21 (by decide) hf (fun hf => ?_) (fun hf => ?_)
      · refine lv_iconst (v := (0 : Int32)) hx hb dX8_isLetter_28 (by decide) ?_
        cases hf
        exact mret_z hx hb hr hlocks hP hD hS dX8_isLetter_29 rfl rfl
      · exact b24 _ _ _ hf hP hD hS (lv_sub hl [] rfl)
  unfold f_X8_isLetter at hf
  refine lv_iload_n hx hb dX8_isLetter_0 rfl (lv_at hl 0 rfl) ?_
  refine lv_bipush (v := (97 : Int32)) hx hb dX8_isLetter_1 (by decide) ?_
  refine xicmp_lt hx hb 12 dX8_isLetter_3 (by decide) hf (fun hf => ?_) (fun hf => ?_)
  · exact b12 p0 _ _ _ hf hP hD hS (lv_sub hl [0] rfl)
  · refine lv_iload_n hx hb dX8_isLetter_6 rfl (lv_at hl 0 rfl) ?_
    refine lv_bipush (v := (122 : Int32)) hx hb dX8_isLetter_7 (by decide) ?_
    refine xicmp_le hx hb 24 dX8_isLetter_9 (by decide) hf (fun hf => ?_) (fun hf => ?_)
    · exact b24 _ _ _ hf hP hD hS (lv_sub hl [] rfl)
    · exact b12 p0 _ _ _ hf hP hD hS (lv_sub hl [0] rfl)
theorem dX8_isDigit_0 : decode cX8_isDigit 0 = .ok (.iload_n 0, 1) := by decide +kernel
theorem dX8_isDigit_1 : decode cX8_isDigit 1 = .ok (.bipush 48, 2) := by decide +kernel
theorem dX8_isDigit_3 : decode cX8_isDigit 3 = .ok (.if_icmp .lt 13, 3) := by decide +kernel
theorem dX8_isDigit_6 : decode cX8_isDigit 6 = .ok (.iload_n 0, 1) := by decide +kernel
theorem dX8_isDigit_7 : decode cX8_isDigit 7 = .ok (.bipush 57, 2) := by decide +kernel
theorem dX8_isDigit_9 : decode cX8_isDigit 9 = .ok (.if_icmp .gt 7, 3) := by decide +kernel
theorem dX8_isDigit_12 : decode cX8_isDigit 12 = .ok (.iconst 1, 1) := by decide +kernel
theorem dX8_isDigit_13 : decode cX8_isDigit 13 = .ok (.goto 4, 3) := by decide +kernel
theorem dX8_isDigit_16 : decode cX8_isDigit 16 = .ok (.iconst 0, 1) := by decide +kernel
theorem dX8_isDigit_17 : decode cX8_isDigit 17 = .ok (.ireturn, 1) := by decide +kernel
def f_X8_isDigit (N : Nat) (p0 : Int32) : Option (Int32) := if p0 < (48 : Int32) then (some (0 : Int32)) else (if (57 : Int32) < p0 then (some (0 : Int32)) else (some (1 : Int32)))
set_option maxHeartbeats 4000000 in
set_option maxRecDepth 100000 in
theorem k_X8_isDigit (l : Launch) (N : Nat) (D : va_G) (cI cJ cZ cB cT : ClassId) (p0 : Int32) (o_r : Int32) (hf : f_X8_isDigit N p0 = some o_r) : ∀ sz, Met l yX8_isDigit (mw yX8_isDigit cX8_isDigit 1 (some .boolean)) ({ frames := 0, cells := 0, slots := 0, locals := 0 } : Room) (mPre D (mT cI cJ cZ cB cT) [] sz [.int p0]) ((mQi D [] o_r (mB o_r)) (va_A [] sz)) 0 0 (va_A [] sz) := by
  refine mMet (Qc := (mQi D [] o_r (mB o_r))) (by decide) (Nat.le_of_ble_eq_true rfl) (fun p e s m below meth c A ls hx hb hr hml hts hown hlocks hK hA hP hD hl => ?_)
  have hown : s.vm.findClass RX8 = some m.cls := hown
  have hl : lv_has ls 1 [(0, .int p0)] := hl
  have hS : va_S A s.heap s.heap [] := va_S.rf
  unfold f_X8_isDigit at hf
  refine lv_iload_n hx hb dX8_isDigit_0 rfl (lv_at hl 0 rfl) ?_
  refine lv_bipush (v := (48 : Int32)) hx hb dX8_isDigit_1 (by decide) ?_
  refine xicmp_lt hx hb 16 dX8_isDigit_3 (by decide) hf (fun hf => ?_) (fun hf => ?_)
  · refine lv_iconst (v := (0 : Int32)) hx hb dX8_isDigit_16 (by decide) ?_
    cases hf
    exact mret_z hx hb hr hlocks hP hD hS dX8_isDigit_17 rfl rfl
  · refine lv_iload_n hx hb dX8_isDigit_6 rfl (lv_at hl 0 rfl) ?_
    refine lv_bipush (v := (57 : Int32)) hx hb dX8_isDigit_7 (by decide) ?_
    refine xicmp_gt hx hb 16 dX8_isDigit_9 (by decide) hf (fun hf => ?_) (fun hf => ?_)
    · refine lv_iconst (v := (0 : Int32)) hx hb dX8_isDigit_16 (by decide) ?_
      cases hf
      exact mret_z hx hb hr hlocks hP hD hS dX8_isDigit_17 rfl rfl
    · refine lv_iconst (v := (1 : Int32)) hx hb dX8_isDigit_12 (by decide) ?_
      refine lv_goto (tgt := 17) hx hb dX8_isDigit_13 (by decide) ?_
      cases hf
      exact mret_z hx hb hr hlocks hP hD hS dX8_isDigit_17 rfl rfl
theorem dX8_kind_0 : decode cX8_kind 0 = .ok (.iload_n 1, 1) := by decide +kernel
theorem dX8_kind_1 : decode cX8_kind 1 = .ok (.ifCond .lt 27, 3) := by decide +kernel
theorem dX8_kind_4 : decode cX8_kind 4 = .ok (.iload_n 1, 1) := by decide +kernel
theorem dX8_kind_5 : decode cX8_kind 5 = .ok (.aload_n 0, 1) := by decide +kernel
theorem dX8_kind_6 : decode cX8_kind 6 = .ok (.getfield 15, 3) := by decide +kernel
theorem dX8_kind_9 : decode cX8_kind 9 = .ok (.if_icmp .ge 19, 3) := by decide +kernel
theorem dX8_kind_12 : decode cX8_kind 12 = .ok (.iload_n 1, 1) := by decide +kernel
theorem dX8_kind_13 : decode cX8_kind 13 = .ok (.sipush 300, 3) := by decide +kernel
theorem dX8_kind_16 : decode cX8_kind 16 = .ok (.if_icmp .gt 12, 3) := by decide +kernel
theorem dX8_kind_19 : decode cX8_kind 19 = .ok (.aload_n 0, 1) := by decide +kernel
theorem dX8_kind_20 : decode cX8_kind 20 = .ok (.getfield 22, 3) := by decide +kernel
theorem dX8_kind_23 : decode cX8_kind 23 = .ok (.iload_n 1, 1) := by decide +kernel
theorem dX8_kind_24 : decode cX8_kind 24 = .ok (.iaload, 1) := by decide +kernel
theorem dX8_kind_25 : decode cX8_kind 25 = .ok (.goto 5, 3) := by decide +kernel
theorem dX8_kind_28 : decode cX8_kind 28 = .ok (.bipush 47, 2) := by decide +kernel
theorem dX8_kind_30 : decode cX8_kind 30 = .ok (.ireturn, 1) := by decide +kernel
def f_X8_kind (N : Nat) (t_tok : Int32) (t_ki : Nat → Int32) (p1 : Int32) : Option (Int32) := if p1 < 0 then (some (47 : Int32)) else (if t_tok ≤ p1 then (some (47 : Int32)) else (if (300 : Int32) < p1 then (some (47 : Int32)) else (gA t_ki 301 p1 fun v24 => some v24)))
set_option maxHeartbeats 4000000 in
set_option maxRecDepth 100000 in
theorem k_X8_kind (l : Launch) (N : Nat) (D : va_G) (cI cJ cZ cB cT : ClassId) (qt0 : Nat) (qt2 : Nat) (qt1 : Nat) (qt3 : Nat) (qt4 : Nat) (t_len : Int32) (t_tok : Int32) (t_ki : Nat → Int32) (p1 : Int32) (o_r : Int32) (hf : f_X8_kind N t_tok t_ki p1 = some o_r) : ∀ sz, Met l yX8_kind (mw yX8_kind cX8_kind 2 (some .int)) ({ frames := 0, cells := 0, slots := 0, locals := 0 } : Room) (mPre D (mT cI cJ cZ cB cT) (W_TP_0_2 qt0 qt2 qt1 qt3 qt4 cI cJ cZ cB cT t_len t_tok t_ki) sz [.ref qt0, .int p1]) ((mQi D (W_TP_0_2 qt0 qt2 qt1 qt3 qt4 cI cJ cZ cB cT t_len t_tok t_ki) o_r True) (va_A (W_TP_0_2 qt0 qt2 qt1 qt3 qt4 cI cJ cZ cB cT t_len t_tok t_ki) sz)) 0 0 (va_A (W_TP_0_2 qt0 qt2 qt1 qt3 qt4 cI cJ cZ cB cT t_len t_tok t_ki) sz) := by
  refine mMet (Qc := (mQi D (W_TP_0_2 qt0 qt2 qt1 qt3 qt4 cI cJ cZ cB cT t_len t_tok t_ki) o_r True)) (by decide) (Nat.le_of_ble_eq_true rfl) (fun p e s m below meth c A ls hx hb hr hml hts hown hlocks hK hA hP hD hl => ?_)
  have hown : s.vm.findClass RX8 = some m.cls := hown
  have hl : lv_has ls 2 [(0, .ref qt0), (1, .int p1)] := hl
  have hS : va_S A s.heap s.heap [] := va_S.rf
  unfold f_X8_kind at hf
  refine lv_iload_n hx hb dX8_kind_0 rfl (lv_at hl 1 rfl) ?_
  refine xif_lt hx hb 28 dX8_kind_1 (by decide) hf (fun hf => ?_) (fun hf => ?_)
  · refine lv_bipush (v := (47 : Int32)) hx hb dX8_kind_28 (by decide) ?_
    cases hf
    exact mret_i hx hb hr hlocks hP hD hS dX8_kind_30 rfl trivial
  · refine lv_iload_n hx hb dX8_kind_4 rfl (lv_at hl 1 rfl) ?_
    refine lv_aload_n hx hb dX8_kind_5 rfl (lv_at hl 0 rfl) ?_
    refine gfX8_15 hx hb hts hown hK hP 0 rfl rfl dX8_kind_6 ?_
    refine xicmp_ge hx hb 28 dX8_kind_9 (by decide) hf (fun hf => ?_) (fun hf => ?_)
    · refine lv_bipush (v := (47 : Int32)) hx hb dX8_kind_28 (by decide) ?_
      cases hf
      exact mret_i hx hb hr hlocks hP hD hS dX8_kind_30 rfl trivial
    · refine lv_iload_n hx hb dX8_kind_12 rfl (lv_at hl 1 rfl) ?_
      refine lv_sipush (v := (300 : Int32)) hx hb dX8_kind_13 (by decide) ?_
      refine xicmp_gt hx hb 28 dX8_kind_16 (by decide) hf (fun hf => ?_) (fun hf => ?_)
      · refine lv_bipush (v := (47 : Int32)) hx hb dX8_kind_28 (by decide) ?_
        cases hf
        exact mret_i hx hb hr hlocks hP hD hS dX8_kind_30 rfl trivial
      · refine lv_aload_n hx hb dX8_kind_19 rfl (lv_at hl 0 rfl) ?_
        refine gfX8_22 hx hb hts hown hK hP 0 rfl rfl dX8_kind_20 ?_
        refine lv_iload_n hx hb dX8_kind_23 rfl (lv_at hl 1 rfl) ?_
        refine xiald hx hb hK hP 1 0 rfl rfl dX8_kind_24 hf (fun v24 hf => ?_)
        refine lv_goto (tgt := 30) hx hb dX8_kind_25 (by decide) ?_
        cases hf
        exact mret_i hx hb hr hlocks hP hD hS dX8_kind_30 rfl trivial
theorem dX8_place_0 : decode cX8_place 0 = .ok (.iload_n 1, 1) := by decide +kernel
theorem dX8_place_1 : decode cX8_place 1 = .ok (.ifCond .lt 27, 3) := by decide +kernel
theorem dX8_place_4 : decode cX8_place 4 = .ok (.iload_n 1, 1) := by decide +kernel
theorem dX8_place_5 : decode cX8_place 5 = .ok (.aload_n 0, 1) := by decide +kernel
theorem dX8_place_6 : decode cX8_place 6 = .ok (.getfield 15, 3) := by decide +kernel
theorem dX8_place_9 : decode cX8_place 9 = .ok (.if_icmp .ge 19, 3) := by decide +kernel
theorem dX8_place_12 : decode cX8_place 12 = .ok (.iload_n 1, 1) := by decide +kernel
theorem dX8_place_13 : decode cX8_place 13 = .ok (.sipush 300, 3) := by decide +kernel
theorem dX8_place_16 : decode cX8_place 16 = .ok (.if_icmp .gt 12, 3) := by decide +kernel
theorem dX8_place_19 : decode cX8_place 19 = .ok (.aload_n 0, 1) := by decide +kernel
theorem dX8_place_20 : decode cX8_place 20 = .ok (.getfield 26, 3) := by decide +kernel
theorem dX8_place_23 : decode cX8_place 23 = .ok (.iload_n 1, 1) := by decide +kernel
theorem dX8_place_24 : decode cX8_place 24 = .ok (.iaload, 1) := by decide +kernel
theorem dX8_place_25 : decode cX8_place 25 = .ok (.goto 7, 3) := by decide +kernel
theorem dX8_place_28 : decode cX8_place 28 = .ok (.aload_n 0, 1) := by decide +kernel
theorem dX8_place_29 : decode cX8_place 29 = .ok (.getfield 9, 3) := by decide +kernel
theorem dX8_place_32 : decode cX8_place 32 = .ok (.ireturn, 1) := by decide +kernel
def f_X8_place_28 (N : Nat) (t_len : Int32) (t_tok : Int32) (t_pl : Nat → Int32) : Option (Int32) := some t_len
def f_X8_place (N : Nat) (t_len : Int32) (t_tok : Int32) (t_pl : Nat → Int32) (p1 : Int32) : Option (Int32) := if p1 < 0 then (f_X8_place_28 N t_len t_tok t_pl) else (if t_tok ≤ p1 then (f_X8_place_28 N t_len t_tok t_pl) else (if (300 : Int32) < p1 then (f_X8_place_28 N t_len t_tok t_pl) else (gA t_pl 301 p1 fun v24 => some v24)))
set_option maxHeartbeats 4000000 in
set_option maxRecDepth 100000 in
theorem k_X8_place (l : Launch) (N : Nat) (D : va_G) (cI cJ cZ cB cT : ClassId) (qt0 : Nat) (qt3 : Nat) (qt1 : Nat) (qt2 : Nat) (qt4 : Nat) (t_len : Int32) (t_tok : Int32) (t_pl : Nat → Int32) (p1 : Int32) (o_r : Int32) (hf : f_X8_place N t_len t_tok t_pl p1 = some o_r) : ∀ sz, Met l yX8_place (mw yX8_place cX8_place 2 (some .int)) ({ frames := 0, cells := 0, slots := 0, locals := 0 } : Room) (mPre D (mT cI cJ cZ cB cT) (W_TP_0_3 qt0 qt3 qt1 qt2 qt4 cI cJ cZ cB cT t_len t_tok t_pl) sz [.ref qt0, .int p1]) ((mQi D (W_TP_0_3 qt0 qt3 qt1 qt2 qt4 cI cJ cZ cB cT t_len t_tok t_pl) o_r True) (va_A (W_TP_0_3 qt0 qt3 qt1 qt2 qt4 cI cJ cZ cB cT t_len t_tok t_pl) sz)) 0 0 (va_A (W_TP_0_3 qt0 qt3 qt1 qt2 qt4 cI cJ cZ cB cT t_len t_tok t_pl) sz) := by
  refine mMet (Qc := (mQi D (W_TP_0_3 qt0 qt3 qt1 qt2 qt4 cI cJ cZ cB cT t_len t_tok t_pl) o_r True)) (by decide) (Nat.le_of_ble_eq_true rfl) (fun p e s m below meth c A ls hx hb hr hml hts hown hlocks hK hA hP hD hl => ?_)
  have hown : s.vm.findClass RX8 = some m.cls := hown
  have hl : lv_has ls 2 [(0, .ref qt0), (1, .int p1)] := hl
  have hS : va_S A s.heap s.heap [] := va_S.rf
  have b28 : ∀ (H : Heap) (locs : List Loc) (ls : Array Slot), f_X8_place_28 N t_len t_tok t_pl = some o_r → va_P D vwCl (W_TP_0_3 qt0 qt3 qt1 qt2 qt4 cI cJ cZ cB cT t_len t_tok t_pl) H → va_D A (W_TP_0_3 qt0 qt3 qt1 qt2 qt4 cI cJ cZ cB cT t_len t_tok t_pl) → va_S A s.heap H locs → lv_has ls 2 [(0, .ref qt0)] → W p l e ({ frames := 0, cells := 0, slots := 0, locals := 0 } : Room) s m ([.ref qt0, .int p1] : List Value).toArray below meth c H locs 0 0 (MQ below ((mQi D (W_TP_0_3 qt0 qt3 qt1 qt2 qt4 cI cJ cZ cB cT t_len t_tok t_pl) o_r True) A) ([.ref qt0, .int p1] : List Value).toArray s 0 0 A) (F0 m 28 ls []) := by
    intro H locs ls hf hP hD hS hl
    unfold f_X8_place_28 at hf
    refine lv_aload_n hx hb dX8_place_28 rfl (lv_at hl 0 rfl) ?_
    refine gfX8_9 hx hb hts hown hK hP 0 rfl rfl dX8_place_29 ?_
    cases hf
    exact mret_i hx hb hr hlocks hP hD hS dX8_place_32 rfl trivial
  unfold f_X8_place at hf
  refine lv_iload_n hx hb dX8_place_0 rfl (lv_at hl 1 rfl) ?_
  refine xif_lt hx hb 28 dX8_place_1 (by decide) hf (fun hf => ?_) (fun hf => ?_)
  · exact b28 _ _ _ hf hP hD hS (lv_sub hl [0] rfl)
  · refine lv_iload_n hx hb dX8_place_4 rfl (lv_at hl 1 rfl) ?_
    refine lv_aload_n hx hb dX8_place_5 rfl (lv_at hl 0 rfl) ?_
    refine gfX8_15 hx hb hts hown hK hP 0 rfl rfl dX8_place_6 ?_
    refine xicmp_ge hx hb 28 dX8_place_9 (by decide) hf (fun hf => ?_) (fun hf => ?_)
    · exact b28 _ _ _ hf hP hD hS (lv_sub hl [0] rfl)
    · refine lv_iload_n hx hb dX8_place_12 rfl (lv_at hl 1 rfl) ?_
      refine lv_sipush (v := (300 : Int32)) hx hb dX8_place_13 (by decide) ?_
      refine xicmp_gt hx hb 28 dX8_place_16 (by decide) hf (fun hf => ?_) (fun hf => ?_)
      · exact b28 _ _ _ hf hP hD hS (lv_sub hl [0] rfl)
      · refine lv_aload_n hx hb dX8_place_19 rfl (lv_at hl 0 rfl) ?_
        refine gfX8_26 hx hb hts hown hK hP 0 rfl rfl dX8_place_20 ?_
        refine lv_iload_n hx hb dX8_place_23 rfl (lv_at hl 1 rfl) ?_
        refine xiald hx hb hK hP 1 0 rfl rfl dX8_place_24 hf (fun v24 hf => ?_)
        refine lv_goto (tgt := 32) hx hb dX8_place_25 (by decide) ?_
        cases hf
        exact mret_i hx hb hr hlocks hP hD hS dX8_place_32 rfl trivial
theorem dX8_number_0 : decode cX8_number 0 = .ok (.iload_n 1, 1) := by decide +kernel
theorem dX8_number_1 : decode cX8_number 1 = .ok (.ifCond .lt 27, 3) := by decide +kernel
theorem dX8_number_4 : decode cX8_number 4 = .ok (.iload_n 1, 1) := by decide +kernel
theorem dX8_number_5 : decode cX8_number 5 = .ok (.aload_n 0, 1) := by decide +kernel
theorem dX8_number_6 : decode cX8_number 6 = .ok (.getfield 15, 3) := by decide +kernel
theorem dX8_number_9 : decode cX8_number 9 = .ok (.if_icmp .ge 19, 3) := by decide +kernel
theorem dX8_number_12 : decode cX8_number 12 = .ok (.iload_n 1, 1) := by decide +kernel
theorem dX8_number_13 : decode cX8_number 13 = .ok (.sipush 300, 3) := by decide +kernel
theorem dX8_number_16 : decode cX8_number 16 = .ok (.if_icmp .gt 12, 3) := by decide +kernel
theorem dX8_number_19 : decode cX8_number 19 = .ok (.aload_n 0, 1) := by decide +kernel
theorem dX8_number_20 : decode cX8_number 20 = .ok (.getfield 29, 3) := by decide +kernel
theorem dX8_number_23 : decode cX8_number 23 = .ok (.iload_n 1, 1) := by decide +kernel
theorem dX8_number_24 : decode cX8_number 24 = .ok (.iaload, 1) := by decide +kernel
theorem dX8_number_25 : decode cX8_number 25 = .ok (.goto 4, 3) := by decide +kernel
theorem dX8_number_28 : decode cX8_number 28 = .ok (.iconst 0, 1) := by decide +kernel
theorem dX8_number_29 : decode cX8_number 29 = .ok (.ireturn, 1) := by decide +kernel
def f_X8_number (N : Nat) (t_tok : Int32) (t_nu : Nat → Int32) (p1 : Int32) : Option (Int32) := if p1 < 0 then (some (0 : Int32)) else (if t_tok ≤ p1 then (some (0 : Int32)) else (if (300 : Int32) < p1 then (some (0 : Int32)) else (gA t_nu 301 p1 fun v24 => some v24)))
set_option maxHeartbeats 4000000 in
set_option maxRecDepth 100000 in
theorem k_X8_number (l : Launch) (N : Nat) (D : va_G) (cI cJ cZ cB cT : ClassId) (qt0 : Nat) (qt4 : Nat) (qt1 : Nat) (qt2 : Nat) (qt3 : Nat) (t_len : Int32) (t_tok : Int32) (t_nu : Nat → Int32) (p1 : Int32) (o_r : Int32) (hf : f_X8_number N t_tok t_nu p1 = some o_r) : ∀ sz, Met l yX8_number (mw yX8_number cX8_number 2 (some .int)) ({ frames := 0, cells := 0, slots := 0, locals := 0 } : Room) (mPre D (mT cI cJ cZ cB cT) (W_TP_0_4 qt0 qt4 qt1 qt2 qt3 cI cJ cZ cB cT t_len t_tok t_nu) sz [.ref qt0, .int p1]) ((mQi D (W_TP_0_4 qt0 qt4 qt1 qt2 qt3 cI cJ cZ cB cT t_len t_tok t_nu) o_r True) (va_A (W_TP_0_4 qt0 qt4 qt1 qt2 qt3 cI cJ cZ cB cT t_len t_tok t_nu) sz)) 0 0 (va_A (W_TP_0_4 qt0 qt4 qt1 qt2 qt3 cI cJ cZ cB cT t_len t_tok t_nu) sz) := by
  refine mMet (Qc := (mQi D (W_TP_0_4 qt0 qt4 qt1 qt2 qt3 cI cJ cZ cB cT t_len t_tok t_nu) o_r True)) (by decide) (Nat.le_of_ble_eq_true rfl) (fun p e s m below meth c A ls hx hb hr hml hts hown hlocks hK hA hP hD hl => ?_)
  have hown : s.vm.findClass RX8 = some m.cls := hown
  have hl : lv_has ls 2 [(0, .ref qt0), (1, .int p1)] := hl
  have hS : va_S A s.heap s.heap [] := va_S.rf
  unfold f_X8_number at hf
  refine lv_iload_n hx hb dX8_number_0 rfl (lv_at hl 1 rfl) ?_
  refine xif_lt hx hb 28 dX8_number_1 (by decide) hf (fun hf => ?_) (fun hf => ?_)
  · refine lv_iconst (v := (0 : Int32)) hx hb dX8_number_28 (by decide) ?_
    cases hf
    exact mret_i hx hb hr hlocks hP hD hS dX8_number_29 rfl trivial
  · refine lv_iload_n hx hb dX8_number_4 rfl (lv_at hl 1 rfl) ?_
    refine lv_aload_n hx hb dX8_number_5 rfl (lv_at hl 0 rfl) ?_
    refine gfX8_15 hx hb hts hown hK hP 0 rfl rfl dX8_number_6 ?_
    refine xicmp_ge hx hb 28 dX8_number_9 (by decide) hf (fun hf => ?_) (fun hf => ?_)
    · refine lv_iconst (v := (0 : Int32)) hx hb dX8_number_28 (by decide) ?_
      cases hf
      exact mret_i hx hb hr hlocks hP hD hS dX8_number_29 rfl trivial
    · refine lv_iload_n hx hb dX8_number_12 rfl (lv_at hl 1 rfl) ?_
      refine lv_sipush (v := (300 : Int32)) hx hb dX8_number_13 (by decide) ?_
      refine xicmp_gt hx hb 28 dX8_number_16 (by decide) hf (fun hf => ?_) (fun hf => ?_)
      · refine lv_iconst (v := (0 : Int32)) hx hb dX8_number_28 (by decide) ?_
        cases hf
        exact mret_i hx hb hr hlocks hP hD hS dX8_number_29 rfl trivial
      · refine lv_aload_n hx hb dX8_number_19 rfl (lv_at hl 0 rfl) ?_
        refine gfX8_29 hx hb hts hown hK hP 0 rfl rfl dX8_number_20 ?_
        refine lv_iload_n hx hb dX8_number_23 rfl (lv_at hl 1 rfl) ?_
        refine xiald hx hb hK hP 1 0 rfl rfl dX8_number_24 hf (fun v24 hf => ?_)
        refine lv_goto (tgt := 29) hx hb dX8_number_25 (by decide) ?_
        cases hf
        exact mret_i hx hb hr hlocks hP hD hS dX8_number_29 rfl trivial
theorem dX9_empty_0 : decode cX9_empty 0 = .ok (.aload_n 0, 1) := by decide +kernel
theorem dX9_empty_1 : decode cX9_empty 1 = .ok (.iconst 0, 1) := by decide +kernel
theorem dX9_empty_2 : decode cX9_empty 2 = .ok (.putfield 11, 3) := by decide +kernel
theorem dX9_empty_5 : decode cX9_empty 5 = .ok (.aload_n 0, 1) := by decide +kernel
theorem dX9_empty_6 : decode cX9_empty 6 = .ok (.iconst 0, 1) := by decide +kernel
theorem dX9_empty_7 : decode cX9_empty 7 = .ok (.putfield 17, 3) := by decide +kernel
theorem dX9_empty_10 : decode cX9_empty 10 = .ok (.aload_n 0, 1) := by decide +kernel
theorem dX9_empty_11 : decode cX9_empty 11 = .ok (.iconst 0, 1) := by decide +kernel
theorem dX9_empty_12 : decode cX9_empty 12 = .ok (.putfield 20, 3) := by decide +kernel
theorem dX9_empty_15 : decode cX9_empty 15 = .ok (.iconst 0, 1) := by decide +kernel
theorem dX9_empty_16 : decode cX9_empty 16 = .ok (.istore_n 1, 1) := by decide +kernel
theorem dX9_empty_17 : decode cX9_empty 17 = .ok (.iload_n 1, 1) := by decide +kernel
theorem dX9_empty_18 : decode cX9_empty 18 = .ok (.iconst 4, 1) := by decide +kernel
theorem dX9_empty_19 : decode cX9_empty 19 = .ok (.if_icmp .ge 23, 3) := by decide +kernel
theorem dX9_empty_22 : decode cX9_empty 22 = .ok (.aload_n 0, 1) := by decide +kernel
theorem dX9_empty_23 : decode cX9_empty 23 = .ok (.getfield 27, 3) := by decide +kernel
theorem dX9_empty_26 : decode cX9_empty 26 = .ok (.iload_n 1, 1) := by decide +kernel
theorem dX9_empty_27 : decode cX9_empty 27 = .ok (.iconst (-1), 1) := by decide +kernel
theorem dX9_empty_28 : decode cX9_empty 28 = .ok (.iastore, 1) := by decide +kernel
theorem dX9_empty_29 : decode cX9_empty 29 = .ok (.aload_n 0, 1) := by decide +kernel
theorem dX9_empty_30 : decode cX9_empty 30 = .ok (.getfield 30, 3) := by decide +kernel
theorem dX9_empty_33 : decode cX9_empty 33 = .ok (.iload_n 1, 1) := by decide +kernel
theorem dX9_empty_34 : decode cX9_empty 34 = .ok (.iconst (-1), 1) := by decide +kernel
theorem dX9_empty_35 : decode cX9_empty 35 = .ok (.iastore, 1) := by decide +kernel
theorem dX9_empty_36 : decode cX9_empty 36 = .ok (.iinc 1 1, 3) := by decide +kernel
theorem dX9_empty_39 : decode cX9_empty 39 = .ok (.goto (-22), 3) := by decide +kernel
theorem dX9_empty_42 : decode cX9_empty 42 = .ok (.return_, 1) := by decide +kernel
def f_X9_empty_17 (N : Nat) : Nat → Int32 → Int32 → Int32 → (Nat → Int32) → (Nat → Int32) → Int32 → Option (Int32 × Int32 × Int32 × (Nat → Int32) × (Nat → Int32))
  | 0, _, _, _, _, _, _ => none
  | n + 1, x_cl, x_ln, x_pt, x_st, x_en, x1 => if (4 : Int32) ≤ x1 then (some (x_cl, x_ln, x_pt, x_st, x_en)) else (sA x_st 4 x1 (-1 : Int32) fun x_st_28 => sA x_en 4 x1 (-1 : Int32) fun x_en_35 => (f_X9_empty_17 N n) x_cl x_ln x_pt x_st_28 x_en_35 (x1 + (1 : Int32)))
def f_X9_empty (N : Nat) (x_cl : Int32) (x_ln : Int32) (x_pt : Int32) (x_st : Nat → Int32) (x_en : Nat → Int32) : Option (Int32 × Int32 × Int32 × (Nat → Int32) × (Nat → Int32)) := f_X9_empty_17 N N (0 : Int32) (0 : Int32) (0 : Int32) x_st x_en (0 : Int32)
set_option maxHeartbeats 4000000 in
set_option maxRecDepth 100000 in
theorem k_X9_empty (l : Launch) (N : Nat) (D : va_G) (cI cJ cZ cB cT : ClassId) (qx0 : Nat) (qx2 : Nat) (qx3 : Nat) (qx1 : Nat) (qx4 : Nat) (x_cl : Int32) (x_ln : Int32) (x_pt : Int32) (x_st : Nat → Int32) (x_en : Nat → Int32) (o_x_cl : Int32) (o_x_ln : Int32) (o_x_pt : Int32) (o_x_st : Nat → Int32) (o_x_en : Nat → Int32) (hf : f_X9_empty N x_cl x_ln x_pt x_st x_en = some (o_x_cl, o_x_ln, o_x_pt, o_x_st, o_x_en)) : ∀ sz, Met l yX9_empty (mw yX9_empty cX9_empty 2 none) ({ frames := 0, cells := 0, slots := 0, locals := 0 } : Room) (mPre D (mT cI cJ cZ cB cT) (W_TX_0_2t3 qx0 qx2 qx3 qx1 qx4 cI cJ cZ cB cT x_cl x_ln x_pt x_st x_en) sz [.ref qx0]) ((mQv D (W_TX_0_2t3 qx0 qx2 qx3 qx1 qx4 cI cJ cZ cB cT o_x_cl o_x_ln o_x_pt o_x_st o_x_en)) (va_A (W_TX_0_2t3 qx0 qx2 qx3 qx1 qx4 cI cJ cZ cB cT x_cl x_ln x_pt x_st x_en) sz)) 0 0 (va_A (W_TX_0_2t3 qx0 qx2 qx3 qx1 qx4 cI cJ cZ cB cT x_cl x_ln x_pt x_st x_en) sz) := by
  refine mMet (Qc := (mQv D (W_TX_0_2t3 qx0 qx2 qx3 qx1 qx4 cI cJ cZ cB cT o_x_cl o_x_ln o_x_pt o_x_st o_x_en))) (by decide) (Nat.le_of_ble_eq_true rfl) (fun p e s m below meth c A ls hx hb hr hml hts hown hlocks hK hA hP hD hl => ?_)
  have hown : s.vm.findClass RX9 = some m.cls := hown
  have hl : lv_has ls 2 [(0, .ref qx0)] := hl
  have hS : va_S A s.heap s.heap [] := va_S.rf
  have b17 : ∀ n17 : Nat, ∀ (x_cl : Int32) (x_ln : Int32) (x_pt : Int32) (x_st : Nat → Int32) (x_en : Nat → Int32) (x1 : Int32) (H : Heap) (locs : List Loc) (ls : Array Slot), f_X9_empty_17 N n17 x_cl x_ln x_pt x_st x_en x1 = some (o_x_cl, o_x_ln, o_x_pt, o_x_st, o_x_en) → va_P D vwCl (W_TX_0_2t3 qx0 qx2 qx3 qx1 qx4 cI cJ cZ cB cT x_cl x_ln x_pt x_st x_en) H → va_D A (W_TX_0_2t3 qx0 qx2 qx3 qx1 qx4 cI cJ cZ cB cT x_cl x_ln x_pt x_st x_en) → va_S A s.heap H locs → lv_has ls 2 [(0, .ref qx0), (1, .int x1)] → W p l e ({ frames := 0, cells := 0, slots := 0, locals := 0 } : Room) s m ([.ref qx0] : List Value).toArray below meth c H locs 0 0 (MQ below ((mQv D (W_TX_0_2t3 qx0 qx2 qx3 qx1 qx4 cI cJ cZ cB cT o_x_cl o_x_ln o_x_pt o_x_st o_x_en)) A) ([.ref qx0] : List Value).toArray s 0 0 A) (F0 m 17 ls []) := by
    intro n17
    induction n17 with
    | zero =>
      intro x_cl x_ln x_pt x_st x_en x1 H locs ls hf hP hD hS hl
      simp [f_X9_empty_17] at hf
    | succ n17 ih17 =>
      intro x_cl x_ln x_pt x_st x_en x1 H locs ls hf hP hD hS hl
      rw [f_X9_empty_17.eq_2] at hf
      refine lv_iload_n hx hb dX9_empty_17 rfl (lv_at hl 1 rfl) ?_
      refine lv_iconst (v := (4 : Int32)) hx hb dX9_empty_18 (by decide) ?_
      refine xicmp_ge hx hb 42 dX9_empty_19 (by decide) hf (fun hf => ?_) (fun hf => ?_)
      · cases hf
        exact mret_v hx hb hr hlocks hP hD hS dX9_empty_42
      · refine lv_aload_n hx hb dX9_empty_22 rfl (lv_at hl 0 rfl) ?_
        refine gfX9_27 hx hb hts hown hK hP 0 rfl rfl dX9_empty_23 ?_
        refine lv_iload_n hx hb dX9_empty_26 rfl (lv_at hl 1 rfl) ?_
        refine lv_iconst (v := (-1 : Int32)) hx hb dX9_empty_27 (by decide) ?_
        refine xiast hx hb hK hP hD hS 1 0 rfl rfl dX9_empty_28 hf (fun x_st_28 hf H locs hP hD hS => ?_)
        have hP : va_P D vwCl (W_TX_0_2t3 qx0 qx2 qx3 qx1 qx4 cI cJ cZ cB cT x_cl x_ln x_pt x_st_28 x_en) H := hP
        have hD : va_D A (W_TX_0_2t3 qx0 qx2 qx3 qx1 qx4 cI cJ cZ cB cT x_cl x_ln x_pt x_st_28 x_en) := hD
        refine lv_aload_n hx hb dX9_empty_29 rfl (lv_at hl 0 rfl) ?_
        refine gfX9_30 hx hb hts hown hK hP 0 rfl rfl dX9_empty_30 ?_
        refine lv_iload_n hx hb dX9_empty_33 rfl (lv_at hl 1 rfl) ?_
        refine lv_iconst (v := (-1 : Int32)) hx hb dX9_empty_34 (by decide) ?_
        refine xiast hx hb hK hP hD hS 2 0 rfl rfl dX9_empty_35 hf (fun x_en_35 hf H locs hP hD hS => ?_)
        have hP : va_P D vwCl (W_TX_0_2t3 qx0 qx2 qx3 qx1 qx4 cI cJ cZ cB cT x_cl x_ln x_pt x_st_28 x_en_35) H := hP
        have hD : va_D A (W_TX_0_2t3 qx0 qx2 qx3 qx1 qx4 cI cJ cZ cB cT x_cl x_ln x_pt x_st_28 x_en_35) := hD
        refine lv_iinc (v := (x1 + (1 : Int32))) (lv' := [(1, .int (x1 + (1 : Int32))), (0, .ref qx0)]) hx hb dX9_empty_36 hl (k := 1) rfl rfl (by decide) rfl (fun ls hl => ?_)
        refine lv_goto (tgt := 17) hx hb dX9_empty_39 (by decide) ?_
        exact ih17 x_cl x_ln x_pt x_st_28 x_en_35 (x1 + (1 : Int32)) _ _ _ hf hP hD hS (lv_sub hl [1, 0] rfl)
  unfold f_X9_empty at hf
  refine lv_aload_n hx hb dX9_empty_0 rfl (lv_at hl 0 rfl) ?_
  refine lv_iconst (v := (0 : Int32)) hx hb dX9_empty_1 (by decide) ?_
  refine pfX9_11 hx hb hts hown hK hP hD hS 0 rfl (Nat.le_of_ble_eq_true rfl) dX9_empty_2 (fun H locs hP hD hS => ?_)
  have hP : va_P D vwCl (W_TX_0_2t3 qx0 qx2 qx3 qx1 qx4 cI cJ cZ cB cT (0 : Int32) x_ln x_pt x_st x_en) H := hP
  have hD : va_D A (W_TX_0_2t3 qx0 qx2 qx3 qx1 qx4 cI cJ cZ cB cT (0 : Int32) x_ln x_pt x_st x_en) := hD
  refine lv_aload_n hx hb dX9_empty_5 rfl (lv_at hl 0 rfl) ?_
  refine lv_iconst (v := (0 : Int32)) hx hb dX9_empty_6 (by decide) ?_
  refine pfX9_17 hx hb hts hown hK hP hD hS 0 rfl (Nat.le_of_ble_eq_true rfl) dX9_empty_7 (fun H locs hP hD hS => ?_)
  have hP : va_P D vwCl (W_TX_0_2t3 qx0 qx2 qx3 qx1 qx4 cI cJ cZ cB cT (0 : Int32) (0 : Int32) x_pt x_st x_en) H := hP
  have hD : va_D A (W_TX_0_2t3 qx0 qx2 qx3 qx1 qx4 cI cJ cZ cB cT (0 : Int32) (0 : Int32) x_pt x_st x_en) := hD
  refine lv_aload_n hx hb dX9_empty_10 rfl (lv_at hl 0 rfl) ?_
  refine lv_iconst (v := (0 : Int32)) hx hb dX9_empty_11 (by decide) ?_
  refine pfX9_20 hx hb hts hown hK hP hD hS 0 rfl (Nat.le_of_ble_eq_true rfl) dX9_empty_12 (fun H locs hP hD hS => ?_)
  have hP : va_P D vwCl (W_TX_0_2t3 qx0 qx2 qx3 qx1 qx4 cI cJ cZ cB cT (0 : Int32) (0 : Int32) (0 : Int32) x_st x_en) H := hP
  have hD : va_D A (W_TX_0_2t3 qx0 qx2 qx3 qx1 qx4 cI cJ cZ cB cT (0 : Int32) (0 : Int32) (0 : Int32) x_st x_en) := hD
  refine lv_iconst (v := (0 : Int32)) hx hb dX9_empty_15 (by decide) ?_
  refine lv_istore_n (lv' := [(1, .int (0 : Int32)), (0, .ref qx0)]) hx hb dX9_empty_16 rfl hl (by decide) rfl (fun ls hl => ?_)
  exact b17 N (0 : Int32) (0 : Int32) (0 : Int32) x_st x_en (0 : Int32) _ _ _ hf hP hD hS (lv_sub hl [1, 0] rfl)
theorem dX9_addPart_0 : decode cX9_addPart 0 = .ok (.aload_n 0, 1) := by decide +kernel
theorem dX9_addPart_1 : decode cX9_addPart 1 = .ok (.getfield 11, 3) := by decide +kernel
theorem dX9_addPart_4 : decode cX9_addPart 4 = .ok (.iconst 1, 1) := by decide +kernel
theorem dX9_addPart_5 : decode cX9_addPart 5 = .ok (.isub, 1) := by decide +kernel
theorem dX9_addPart_6 : decode cX9_addPart 6 = .ok (.iconst 5, 1) := by decide +kernel
theorem dX9_addPart_7 : decode cX9_addPart 7 = .ok (.imul, 1) := by decide +kernel
theorem dX9_addPart_8 : decode cX9_addPart 8 = .ok (.aload_n 0, 1) := by decide +kernel
theorem dX9_addPart_9 : decode cX9_addPart 9 = .ok (.getfield 20, 3) := by decide +kernel
theorem dX9_addPart_12 : decode cX9_addPart 12 = .ok (.iadd, 1) := by decide +kernel
theorem dX9_addPart_13 : decode cX9_addPart 13 = .ok (.istore_n 2, 1) := by decide +kernel
theorem dX9_addPart_14 : decode cX9_addPart 14 = .ok (.aload_n 0, 1) := by decide +kernel
theorem dX9_addPart_15 : decode cX9_addPart 15 = .ok (.getfield 20, 3) := by decide +kernel
theorem dX9_addPart_18 : decode cX9_addPart 18 = .ok (.iconst 5, 1) := by decide +kernel
theorem dX9_addPart_19 : decode cX9_addPart 19 = .ok (.if_icmp .ge 33, 3) := by decide +kernel
theorem dX9_addPart_22 : decode cX9_addPart 22 = .ok (.iload_n 2, 1) := by decide +kernel
theorem dX9_addPart_23 : decode cX9_addPart 23 = .ok (.ifCond .lt 29, 3) := by decide +kernel
theorem dX9_addPart_26 : decode cX9_addPart 26 = .ok (.iload_n 2, 1) := by decide +kernel
theorem dX9_addPart_27 : decode cX9_addPart 27 = .ok (.aload_n 0, 1) := by decide +kernel
theorem dX9_addPart_28 : decode cX9_addPart 28 = .ok (.getfield 33, 3) := by decide +kernel
theorem dX9_addPart_31 : decode cX9_addPart 31 = .ok (.arraylength, 1) := by decide +kernel
theorem dX9_addPart_32 : decode cX9_addPart 32 = .ok (.if_icmp .ge 20, 3) := by decide +kernel
theorem dX9_addPart_35 : decode cX9_addPart 35 = .ok (.aload_n 0, 1) := by decide +kernel
theorem dX9_addPart_36 : decode cX9_addPart 36 = .ok (.getfield 33, 3) := by decide +kernel
theorem dX9_addPart_39 : decode cX9_addPart 39 = .ok (.iload_n 2, 1) := by decide +kernel
theorem dX9_addPart_40 : decode cX9_addPart 40 = .ok (.iload_n 1, 1) := by decide +kernel
theorem dX9_addPart_41 : decode cX9_addPart 41 = .ok (.iastore, 1) := by decide +kernel
theorem dX9_addPart_42 : decode cX9_addPart 42 = .ok (.aload_n 0, 1) := by decide +kernel
theorem dX9_addPart_43 : decode cX9_addPart 43 = .ok (.dup, 1) := by decide +kernel
theorem dX9_addPart_44 : decode cX9_addPart 44 = .ok (.getfield 20, 3) := by decide +kernel
theorem dX9_addPart_47 : decode cX9_addPart 47 = .ok (.iconst 1, 1) := by decide +kernel
theorem dX9_addPart_48 : decode cX9_addPart 48 = .ok (.iadd, 1) := by decide +kernel
theorem dX9_addPart_49 : decode cX9_addPart 49 = .ok (.putfield 20, 3) := by decide +kernel
theorem dX9_addPart_52 : decode cX9_addPart 52 = .ok (.return_, 1) := by decide +kernel
def f_X9_addPart (N : Nat) (x_cl : Int32) (x_pt : Int32) (x_rows : Nat → Int32) (p1 : Int32) : Option (Int32 × (Nat → Int32)) := if (5 : Int32) ≤ x_pt then (some (x_pt, x_rows)) else (if (((x_cl - (1 : Int32)) * (5 : Int32)) + x_pt) < 0 then (some (x_pt, x_rows)) else (if (120 : Int32) ≤ (((x_cl - (1 : Int32)) * (5 : Int32)) + x_pt) then (some (x_pt, x_rows)) else (sA x_rows 120 (((x_cl - (1 : Int32)) * (5 : Int32)) + x_pt) p1 fun x_rows_41 => some ((x_pt + (1 : Int32)), x_rows_41))))
set_option maxHeartbeats 4000000 in
set_option maxRecDepth 100000 in
theorem k_X9_addPart (l : Launch) (N : Nat) (D : va_G) (cI cJ cZ cB cT : ClassId) (qx0 : Nat) (qx4 : Nat) (qx1 : Nat) (qx2 : Nat) (qx3 : Nat) (x_cl : Int32) (x_ln : Int32) (x_pt : Int32) (x_rows : Nat → Int32) (p1 : Int32) (o_x_pt : Int32) (o_x_rows : Nat → Int32) (hf : f_X9_addPart N x_cl x_pt x_rows p1 = some (o_x_pt, o_x_rows)) : ∀ sz, Met l yX9_addPart (mw yX9_addPart cX9_addPart 3 none) ({ frames := 0, cells := 0, slots := 0, locals := 0 } : Room) (mPre D (mT cI cJ cZ cB cT) (W_TX_0_4 qx0 qx4 qx1 qx2 qx3 cI cJ cZ cB cT x_cl x_ln x_pt x_rows) sz [.ref qx0, .int p1]) ((mQv D (W_TX_0_4 qx0 qx4 qx1 qx2 qx3 cI cJ cZ cB cT x_cl x_ln o_x_pt o_x_rows)) (va_A (W_TX_0_4 qx0 qx4 qx1 qx2 qx3 cI cJ cZ cB cT x_cl x_ln x_pt x_rows) sz)) 0 0 (va_A (W_TX_0_4 qx0 qx4 qx1 qx2 qx3 cI cJ cZ cB cT x_cl x_ln x_pt x_rows) sz) := by
  refine mMet (Qc := (mQv D (W_TX_0_4 qx0 qx4 qx1 qx2 qx3 cI cJ cZ cB cT x_cl x_ln o_x_pt o_x_rows))) (by decide) (Nat.le_of_ble_eq_true rfl) (fun p e s m below meth c A ls hx hb hr hml hts hown hlocks hK hA hP hD hl => ?_)
  have hown : s.vm.findClass RX9 = some m.cls := hown
  have hl : lv_has ls 3 [(0, .ref qx0), (1, .int p1)] := hl
  have hS : va_S A s.heap s.heap [] := va_S.rf
  unfold f_X9_addPart at hf
  refine lv_aload_n hx hb dX9_addPart_0 rfl (lv_at hl 0 rfl) ?_
  refine gfX9_11 hx hb hts hown hK hP 0 rfl rfl dX9_addPart_1 ?_
  refine lv_iconst (v := (1 : Int32)) hx hb dX9_addPart_4 (by decide) ?_
  refine lv_isub hx hb dX9_addPart_5 ?_
  refine lv_iconst (v := (5 : Int32)) hx hb dX9_addPart_6 (by decide) ?_
  refine lv_imul hx hb dX9_addPart_7 ?_
  refine lv_aload_n hx hb dX9_addPart_8 rfl (lv_at hl 0 rfl) ?_
  refine gfX9_20 hx hb hts hown hK hP 0 rfl rfl dX9_addPart_9 ?_
  refine lv_iadd hx hb dX9_addPart_12 ?_
  refine lv_istore_n (lv' := [(2, .int (((x_cl - (1 : Int32)) * (5 : Int32)) + x_pt)), (0, .ref qx0), (1, .int p1)]) hx hb dX9_addPart_13 rfl hl (by decide) rfl (fun ls hl => ?_)
  refine lv_aload_n hx hb dX9_addPart_14 rfl (lv_at hl 1 rfl) ?_
  refine gfX9_20 hx hb hts hown hK hP 0 rfl rfl dX9_addPart_15 ?_
  refine lv_iconst (v := (5 : Int32)) hx hb dX9_addPart_18 (by decide) ?_
  refine xicmp_ge hx hb 52 dX9_addPart_19 (by decide) hf (fun hf => ?_) (fun hf => ?_)
  · cases hf
    exact mret_v hx hb hr hlocks hP hD hS dX9_addPart_52
  · refine lv_iload_n hx hb dX9_addPart_22 rfl (lv_at hl 0 rfl) ?_
    refine xif_lt hx hb 52 dX9_addPart_23 (by decide) hf (fun hf => ?_) (fun hf => ?_)
    · cases hf
      exact mret_v hx hb hr hlocks hP hD hS dX9_addPart_52
    · refine lv_iload_n hx hb dX9_addPart_26 rfl (lv_at hl 0 rfl) ?_
      refine lv_aload_n hx hb dX9_addPart_27 rfl (lv_at hl 1 rfl) ?_
      refine gfX9_33 hx hb hts hown hK hP 0 rfl rfl dX9_addPart_28 ?_
      refine va_alen (v := (120 : Int32)) hx hb hK hP 1 0 rfl rfl rfl dX9_addPart_31 ?_
      refine xicmp_ge hx hb 52 dX9_addPart_32 (by decide) hf (fun hf => ?_) (fun hf => ?_)
      · cases hf
        exact mret_v hx hb hr hlocks hP hD hS dX9_addPart_52
      · refine lv_aload_n hx hb dX9_addPart_35 rfl (lv_at hl 1 rfl) ?_
        refine gfX9_33 hx hb hts hown hK hP 0 rfl rfl dX9_addPart_36 ?_
        refine lv_iload_n hx hb dX9_addPart_39 rfl (lv_at hl 0 rfl) ?_
        refine lv_iload_n hx hb dX9_addPart_40 rfl (lv_at hl 2 rfl) ?_
        refine xiast hx hb hK hP hD hS 1 0 rfl rfl dX9_addPart_41 hf (fun x_rows_41 hf H locs hP hD hS => ?_)
        have hP : va_P D vwCl (W_TX_0_4 qx0 qx4 qx1 qx2 qx3 cI cJ cZ cB cT x_cl x_ln x_pt x_rows_41) H := hP
        have hD : va_D A (W_TX_0_4 qx0 qx4 qx1 qx2 qx3 cI cJ cZ cB cT x_cl x_ln x_pt x_rows_41) := hD
        refine lv_aload_n hx hb dX9_addPart_42 rfl (lv_at hl 1 rfl) ?_
        refine lv_dup hx hb dX9_addPart_43 rfl ?_
        refine gfX9_20 hx hb hts hown hK hP 0 rfl rfl dX9_addPart_44 ?_
        refine lv_iconst (v := (1 : Int32)) hx hb dX9_addPart_47 (by decide) ?_
        refine lv_iadd hx hb dX9_addPart_48 ?_
        refine pfX9_20 hx hb hts hown hK hP hD hS 0 rfl (Nat.le_of_ble_eq_true rfl) dX9_addPart_49 (fun H locs hP hD hS => ?_)
        have hP : va_P D vwCl (W_TX_0_4 qx0 qx4 qx1 qx2 qx3 cI cJ cZ cB cT x_cl x_ln (x_pt + (1 : Int32)) x_rows_41) H := hP
        have hD : va_D A (W_TX_0_4 qx0 qx4 qx1 qx2 qx3 cI cJ cZ cB cT x_cl x_ln (x_pt + (1 : Int32)) x_rows_41) := hD
        cases hf
        exact mret_v hx hb hr hlocks hP hD hS dX9_addPart_52
theorem dX9_openClause_0 : decode cX9_openClause 0 = .ok (.aload_n 0, 1) := by decide +kernel
theorem dX9_openClause_1 : decode cX9_openClause 1 = .ok (.dup, 1) := by decide +kernel
theorem dX9_openClause_2 : decode cX9_openClause 2 = .ok (.getfield 11, 3) := by decide +kernel
theorem dX9_openClause_5 : decode cX9_openClause 5 = .ok (.iconst 1, 1) := by decide +kernel
theorem dX9_openClause_6 : decode cX9_openClause 6 = .ok (.iadd, 1) := by decide +kernel
theorem dX9_openClause_7 : decode cX9_openClause 7 = .ok (.putfield 11, 3) := by decide +kernel
theorem dX9_openClause_10 : decode cX9_openClause 10 = .ok (.aload_n 0, 1) := by decide +kernel
theorem dX9_openClause_11 : decode cX9_openClause 11 = .ok (.iconst 0, 1) := by decide +kernel
theorem dX9_openClause_12 : decode cX9_openClause 12 = .ok (.putfield 20, 3) := by decide +kernel
theorem dX9_openClause_15 : decode cX9_openClause 15 = .ok (.aload_n 0, 1) := by decide +kernel
theorem dX9_openClause_16 : decode cX9_openClause 16 = .ok (.iload_n 1, 1) := by decide +kernel
theorem dX9_openClause_17 : decode cX9_openClause 17 = .ok (.invokevirtual 36, 3) := by decide +kernel
theorem dX9_openClause_20 : decode cX9_openClause 20 = .ok (.iload_n 1, 1) := by decide +kernel
theorem dX9_openClause_21 : decode cX9_openClause 21 = .ok (.ifCond .lt 18, 3) := by decide +kernel
theorem dX9_openClause_24 : decode cX9_openClause 24 = .ok (.iload_n 1, 1) := by decide +kernel
theorem dX9_openClause_25 : decode cX9_openClause 25 = .ok (.iconst 4, 1) := by decide +kernel
theorem dX9_openClause_26 : decode cX9_openClause 26 = .ok (.if_icmp .ge 13, 3) := by decide +kernel
theorem dX9_openClause_29 : decode cX9_openClause 29 = .ok (.aload_n 0, 1) := by decide +kernel
theorem dX9_openClause_30 : decode cX9_openClause 30 = .ok (.getfield 27, 3) := by decide +kernel
theorem dX9_openClause_33 : decode cX9_openClause 33 = .ok (.iload_n 1, 1) := by decide +kernel
theorem dX9_openClause_34 : decode cX9_openClause 34 = .ok (.aload_n 0, 1) := by decide +kernel
theorem dX9_openClause_35 : decode cX9_openClause 35 = .ok (.getfield 17, 3) := by decide +kernel
theorem dX9_openClause_38 : decode cX9_openClause 38 = .ok (.iastore, 1) := by decide +kernel
theorem dX9_openClause_39 : decode cX9_openClause 39 = .ok (.return_, 1) := by decide +kernel
def f_X9_openClause (N : Nat) (x_cl : Int32) (x_ln : Int32) (x_pt : Int32) (x_st : Nat → Int32) (x_rows : Nat → Int32) (p1 : Int32) : Option (Int32 × Int32 × (Nat → Int32) × (Nat → Int32)) := ob2 (f_X9_addPart N (x_cl + (1 : Int32)) (0 : Int32) x_rows p1) fun x_pt_17 x_rows_17 => if p1 < 0 then (some ((x_cl + (1 : Int32)), x_pt_17, x_st, x_rows_17)) else (if (4 : Int32) ≤ p1 then (some ((x_cl + (1 : Int32)), x_pt_17, x_st, x_rows_17)) else (sA x_st 4 p1 x_ln fun x_st_38 => some ((x_cl + (1 : Int32)), x_pt_17, x_st_38, x_rows_17)))
set_option maxHeartbeats 4000000 in
set_option maxRecDepth 100000 in
theorem k_X9_openClause (l : Launch) (N : Nat) (D : va_G) (cI cJ cZ cB cT : ClassId) (qx0 : Nat) (qx2 : Nat) (qx4 : Nat) (qx1 : Nat) (qx3 : Nat) (x_cl : Int32) (x_ln : Int32) (x_pt : Int32) (x_st : Nat → Int32) (x_rows : Nat → Int32) (p1 : Int32) (o_x_cl : Int32) (o_x_pt : Int32) (o_x_st : Nat → Int32) (o_x_rows : Nat → Int32) (hf : f_X9_openClause N x_cl x_ln x_pt x_st x_rows p1 = some (o_x_cl, o_x_pt, o_x_st, o_x_rows)) : ∀ sz, Met l yX9_openClause (mw yX9_openClause cX9_openClause 2 none) ({ frames := 1, cells := 0, slots := 0, locals := 22 } : Room) (mPre D (mT cI cJ cZ cB cT) (W_TX_0_2_4 qx0 qx2 qx4 qx1 qx3 cI cJ cZ cB cT x_cl x_ln x_pt x_st x_rows) sz [.ref qx0, .int p1]) ((mQv D (W_TX_0_2_4 qx0 qx2 qx4 qx1 qx3 cI cJ cZ cB cT o_x_cl x_ln o_x_pt o_x_st o_x_rows)) (va_A (W_TX_0_2_4 qx0 qx2 qx4 qx1 qx3 cI cJ cZ cB cT x_cl x_ln x_pt x_st x_rows) sz)) 0 0 (va_A (W_TX_0_2_4 qx0 qx2 qx4 qx1 qx3 cI cJ cZ cB cT x_cl x_ln x_pt x_st x_rows) sz) := by
  refine mMet (Qc := (mQv D (W_TX_0_2_4 qx0 qx2 qx4 qx1 qx3 cI cJ cZ cB cT o_x_cl x_ln o_x_pt o_x_st o_x_rows))) (by decide) (Nat.le_of_ble_eq_true rfl) (fun p e s m below meth c A ls hx hb hr hml hts hown hlocks hK hA hP hD hl => ?_)
  have hown : s.vm.findClass RX9 = some m.cls := hown
  have hl : lv_has ls 2 [(0, .ref qx0), (1, .int p1)] := hl
  have hS : va_S A s.heap s.heap [] := va_S.rf
  unfold f_X9_openClause at hf
  refine lv_aload_n hx hb dX9_openClause_0 rfl (lv_at hl 0 rfl) ?_
  refine lv_dup hx hb dX9_openClause_1 rfl ?_
  refine gfX9_11 hx hb hts hown hK hP 0 rfl rfl dX9_openClause_2 ?_
  refine lv_iconst (v := (1 : Int32)) hx hb dX9_openClause_5 (by decide) ?_
  refine lv_iadd hx hb dX9_openClause_6 ?_
  refine pfX9_11 hx hb hts hown hK hP hD hS 0 rfl (Nat.le_of_ble_eq_true rfl) dX9_openClause_7 (fun H locs hP hD hS => ?_)
  have hP : va_P D vwCl (W_TX_0_2_4 qx0 qx2 qx4 qx1 qx3 cI cJ cZ cB cT (x_cl + (1 : Int32)) x_ln x_pt x_st x_rows) H := hP
  have hD : va_D A (W_TX_0_2_4 qx0 qx2 qx4 qx1 qx3 cI cJ cZ cB cT (x_cl + (1 : Int32)) x_ln x_pt x_st x_rows) := hD
  refine lv_aload_n hx hb dX9_openClause_10 rfl (lv_at hl 0 rfl) ?_
  refine lv_iconst (v := (0 : Int32)) hx hb dX9_openClause_11 (by decide) ?_
  refine pfX9_20 hx hb hts hown hK hP hD hS 0 rfl (Nat.le_of_ble_eq_true rfl) dX9_openClause_12 (fun H locs hP hD hS => ?_)
  have hP : va_P D vwCl (W_TX_0_2_4 qx0 qx2 qx4 qx1 qx3 cI cJ cZ cB cT (x_cl + (1 : Int32)) x_ln (0 : Int32) x_st x_rows) H := hP
  have hD : va_D A (W_TX_0_2_4 qx0 qx2 qx4 qx1 qx3 cI cJ cZ cB cT (x_cl + (1 : Int32)) x_ln (0 : Int32) x_st x_rows) := hD
  refine lv_aload_n hx hb dX9_openClause_15 rfl (lv_at hl 0 rfl) ?_
  refine lv_iload_n hx hb dX9_openClause_16 rfl (lv_at hl 1 rfl) ?_
  obtain ⟨x_pt_17, x_rows_17, hg17, hf⟩ := ob2_some hf
  refine mcV_v (wr := [(qx2, .inl (cI, 4, .inl x_st))]) (As := [.int p1]) (rest := []) hx hb hml hown hts hK hP hD hS hA (k_X9_addPart l N D cI cJ cZ cB cT qx0 qx4 qx1 qx2 qx3 (x_cl + (1 : Int32)) x_ln (0 : Int32) x_rows p1 x_pt_17 x_rows_17 hg17) (kwX9_36 hts rfl rfl ⟨Nat.le_of_ble_eq_true rfl, Nat.le_of_ble_eq_true rfl⟩) [0, 2] [1] rfl rfl rfl (by decide) rfl 0 rfl rfl rfl rfl hl.1 rfl (Nat.le_of_ble_eq_true rfl) dX9_openClause_17 ⟨Nat.zero_le _, Nat.zero_le _⟩ (fun H locs hP hD hS => ?_)
  have hP := mP_sub (wc := (W_TX_0_2_4 qx0 qx2 qx4 qx1 qx3 cI cJ cZ cB cT (x_cl + (1 : Int32)) x_ln x_pt_17 x_st x_rows_17)) hP [1, 0, 2] rfl
  have hD := hD.sub (ws' := (W_TX_0_2_4 qx0 qx2 qx4 qx1 qx3 cI cJ cZ cB cT (x_cl + (1 : Int32)) x_ln x_pt_17 x_st x_rows_17)) [1, 0, 2] rfl rfl
  refine lv_iload_n hx hb dX9_openClause_20 rfl (lv_at hl 1 rfl) ?_
  refine xif_lt hx hb 39 dX9_openClause_21 (by decide) hf (fun hf => ?_) (fun hf => ?_)
  · cases hf
    exact mret_v hx hb hr hlocks hP hD hS dX9_openClause_39
  · refine lv_iload_n hx hb dX9_openClause_24 rfl (lv_at hl 1 rfl) ?_
    refine lv_iconst (v := (4 : Int32)) hx hb dX9_openClause_25 (by decide) ?_
    refine xicmp_ge hx hb 39 dX9_openClause_26 (by decide) hf (fun hf => ?_) (fun hf => ?_)
    · cases hf
      exact mret_v hx hb hr hlocks hP hD hS dX9_openClause_39
    · refine lv_aload_n hx hb dX9_openClause_29 rfl (lv_at hl 0 rfl) ?_
      refine gfX9_27 hx hb hts hown hK hP 0 rfl rfl dX9_openClause_30 ?_
      refine lv_iload_n hx hb dX9_openClause_33 rfl (lv_at hl 1 rfl) ?_
      refine lv_aload_n hx hb dX9_openClause_34 rfl (lv_at hl 0 rfl) ?_
      refine gfX9_17 hx hb hts hown hK hP 0 rfl rfl dX9_openClause_35 ?_
      refine xiast hx hb hK hP hD hS 1 0 rfl rfl dX9_openClause_38 hf (fun x_st_38 hf H locs hP hD hS => ?_)
      have hP : va_P D vwCl (W_TX_0_2_4 qx0 qx2 qx4 qx1 qx3 cI cJ cZ cB cT (x_cl + (1 : Int32)) x_ln x_pt_17 x_st_38 x_rows_17) H := hP
      have hD : va_D A (W_TX_0_2_4 qx0 qx2 qx4 qx1 qx3 cI cJ cZ cB cT (x_cl + (1 : Int32)) x_ln x_pt_17 x_st_38 x_rows_17) := hD
      cases hf
      exact mret_v hx hb hr hlocks hP hD hS dX9_openClause_39
theorem dX9_part_0 : decode cX9_part 0 = .ok (.iload_n 1, 1) := by decide +kernel
theorem dX9_part_1 : decode cX9_part 1 = .ok (.ifCond .lt 26, 3) := by decide +kernel
theorem dX9_part_4 : decode cX9_part 4 = .ok (.iload_n 1, 1) := by decide +kernel
theorem dX9_part_5 : decode cX9_part 5 = .ok (.aload_n 0, 1) := by decide +kernel
theorem dX9_part_6 : decode cX9_part 6 = .ok (.getfield 11, 3) := by decide +kernel
theorem dX9_part_9 : decode cX9_part 9 = .ok (.if_icmp .ge 18, 3) := by decide +kernel
theorem dX9_part_12 : decode cX9_part 12 = .ok (.iload_n 1, 1) := by decide +kernel
theorem dX9_part_13 : decode cX9_part 13 = .ok (.bipush 24, 2) := by decide +kernel
theorem dX9_part_15 : decode cX9_part 15 = .ok (.if_icmp .ge 12, 3) := by decide +kernel
theorem dX9_part_18 : decode cX9_part 18 = .ok (.iload_n 2, 1) := by decide +kernel
theorem dX9_part_19 : decode cX9_part 19 = .ok (.ifCond .lt 8, 3) := by decide +kernel
theorem dX9_part_22 : decode cX9_part 22 = .ok (.iload_n 2, 1) := by decide +kernel
theorem dX9_part_23 : decode cX9_part 23 = .ok (.iconst 5, 1) := by decide +kernel
theorem dX9_part_24 : decode cX9_part 24 = .ok (.if_icmp .lt 5, 3) := by decide +kernel
theorem dX9_part_27 : decode cX9_part 27 = .ok (.iconst 0, 1) := by decide +kernel
theorem dX9_part_28 : decode cX9_part 28 = .ok (.ireturn, 1) := by decide +kernel
theorem dX9_part_29 : decode cX9_part 29 = .ok (.aload_n 0, 1) := by decide +kernel
theorem dX9_part_30 : decode cX9_part 30 = .ok (.getfield 33, 3) := by decide +kernel
theorem dX9_part_33 : decode cX9_part 33 = .ok (.iload_n 1, 1) := by decide +kernel
theorem dX9_part_34 : decode cX9_part 34 = .ok (.iconst 5, 1) := by decide +kernel
theorem dX9_part_35 : decode cX9_part 35 = .ok (.imul, 1) := by decide +kernel
theorem dX9_part_36 : decode cX9_part 36 = .ok (.iload_n 2, 1) := by decide +kernel
theorem dX9_part_37 : decode cX9_part 37 = .ok (.iadd, 1) := by decide +kernel
theorem dX9_part_38 : decode cX9_part 38 = .ok (.iaload, 1) := by decide +kernel
theorem dX9_part_39 : decode cX9_part 39 = .ok (.ireturn, 1) := by decide +kernel
def f_X9_part (N : Nat) (x_cl : Int32) (x_rows : Nat → Int32) (p1 : Int32) (p2 : Int32) : Option (Int32) := if p1 < 0 then (some (0 : Int32)) else (if x_cl ≤ p1 then (some (0 : Int32)) else (if (24 : Int32) ≤ p1 then (some (0 : Int32)) else (if p2 < 0 then (some (0 : Int32)) else (if p2 < (5 : Int32) then (gA x_rows 120 ((p1 * (5 : Int32)) + p2) fun v38 => some v38) else (some (0 : Int32))))))
set_option maxHeartbeats 4000000 in
set_option maxRecDepth 100000 in
theorem k_X9_part (l : Launch) (N : Nat) (D : va_G) (cI cJ cZ cB cT : ClassId) (qx0 : Nat) (qx4 : Nat) (qx1 : Nat) (qx2 : Nat) (qx3 : Nat) (x_cl : Int32) (x_ln : Int32) (x_pt : Int32) (x_rows : Nat → Int32) (p1 : Int32) (p2 : Int32) (o_r : Int32) (hf : f_X9_part N x_cl x_rows p1 p2 = some o_r) : ∀ sz, Met l yX9_part (mw yX9_part cX9_part 3 (some .int)) ({ frames := 0, cells := 0, slots := 0, locals := 0 } : Room) (mPre D (mT cI cJ cZ cB cT) (W_TX_0_4 qx0 qx4 qx1 qx2 qx3 cI cJ cZ cB cT x_cl x_ln x_pt x_rows) sz [.ref qx0, .int p1, .int p2]) ((mQi D (W_TX_0_4 qx0 qx4 qx1 qx2 qx3 cI cJ cZ cB cT x_cl x_ln x_pt x_rows) o_r True) (va_A (W_TX_0_4 qx0 qx4 qx1 qx2 qx3 cI cJ cZ cB cT x_cl x_ln x_pt x_rows) sz)) 0 0 (va_A (W_TX_0_4 qx0 qx4 qx1 qx2 qx3 cI cJ cZ cB cT x_cl x_ln x_pt x_rows) sz) := by
  refine mMet (Qc := (mQi D (W_TX_0_4 qx0 qx4 qx1 qx2 qx3 cI cJ cZ cB cT x_cl x_ln x_pt x_rows) o_r True)) (by decide) (Nat.le_of_ble_eq_true rfl) (fun p e s m below meth c A ls hx hb hr hml hts hown hlocks hK hA hP hD hl => ?_)
  have hown : s.vm.findClass RX9 = some m.cls := hown
  have hl : lv_has ls 3 [(0, .ref qx0), (1, .int p1), (2, .int p2)] := hl
  have hS : va_S A s.heap s.heap [] := va_S.rf
  unfold f_X9_part at hf
  refine lv_iload_n hx hb dX9_part_0 rfl (lv_at hl 1 rfl) ?_
  refine xif_lt hx hb 27 dX9_part_1 (by decide) hf (fun hf => ?_) (fun hf => ?_)
  · refine lv_iconst (v := (0 : Int32)) hx hb dX9_part_27 (by decide) ?_
    cases hf
    exact mret_i hx hb hr hlocks hP hD hS dX9_part_28 rfl trivial
  · refine lv_iload_n hx hb dX9_part_4 rfl (lv_at hl 1 rfl) ?_
    refine lv_aload_n hx hb dX9_part_5 rfl (lv_at hl 0 rfl) ?_
    refine gfX9_11 hx hb hts hown hK hP 0 rfl rfl dX9_part_6 ?_
    refine xicmp_ge hx hb 27 dX9_part_9 (by decide) hf (fun hf => ?_) (fun hf => ?_)
    · refine lv_iconst (v := (0 : Int32)) hx hb dX9_part_27 (by decide) ?_
      cases hf
      exact mret_i hx hb hr hlocks hP hD hS dX9_part_28 rfl trivial
    · refine lv_iload_n hx hb dX9_part_12 rfl (lv_at hl 1 rfl) ?_
      refine lv_bipush (v := (24 : Int32)) hx hb dX9_part_13 (by decide) ?_
      refine xicmp_ge hx hb 27 dX9_part_15 (by decide) hf (fun hf => ?_) (fun hf => ?_)
      · refine lv_iconst (v := (0 : Int32)) hx hb dX9_part_27 (by decide) ?_
        cases hf
        exact mret_i hx hb hr hlocks hP hD hS dX9_part_28 rfl trivial
      · refine lv_iload_n hx hb dX9_part_18 rfl (lv_at hl 2 rfl) ?_
        refine xif_lt hx hb 27 dX9_part_19 (by decide) hf (fun hf => ?_) (fun hf => ?_)
        · refine lv_iconst (v := (0 : Int32)) hx hb dX9_part_27 (by decide) ?_
          cases hf
          exact mret_i hx hb hr hlocks hP hD hS dX9_part_28 rfl trivial
        · refine lv_iload_n hx hb dX9_part_22 rfl (lv_at hl 2 rfl) ?_
          refine lv_iconst (v := (5 : Int32)) hx hb dX9_part_23 (by decide) ?_
          refine xicmp_lt hx hb 29 dX9_part_24 (by decide) hf (fun hf => ?_) (fun hf => ?_)
          · refine lv_aload_n hx hb dX9_part_29 rfl (lv_at hl 0 rfl) ?_
            refine gfX9_33 hx hb hts hown hK hP 0 rfl rfl dX9_part_30 ?_
            refine lv_iload_n hx hb dX9_part_33 rfl (lv_at hl 1 rfl) ?_
            refine lv_iconst (v := (5 : Int32)) hx hb dX9_part_34 (by decide) ?_
            refine lv_imul hx hb dX9_part_35 ?_
            refine lv_iload_n hx hb dX9_part_36 rfl (lv_at hl 2 rfl) ?_
            refine lv_iadd hx hb dX9_part_37 ?_
            refine xiald hx hb hK hP 1 0 rfl rfl dX9_part_38 hf (fun v38 hf => ?_)
            cases hf
            exact mret_i hx hb hr hlocks hP hD hS dX9_part_39 rfl trivial
          · refine lv_iconst (v := (0 : Int32)) hx hb dX9_part_27 (by decide) ?_
            cases hf
            exact mret_i hx hb hr hlocks hP hD hS dX9_part_28 rfl trivial
theorem dX9_closeLaw_0 : decode cX9_closeLaw 0 = .ok (.iload_n 1, 1) := by decide +kernel
theorem dX9_closeLaw_1 : decode cX9_closeLaw 1 = .ok (.ifCond .lt 18, 3) := by decide +kernel
theorem dX9_closeLaw_4 : decode cX9_closeLaw 4 = .ok (.iload_n 1, 1) := by decide +kernel
theorem dX9_closeLaw_5 : decode cX9_closeLaw 5 = .ok (.iconst 4, 1) := by decide +kernel
theorem dX9_closeLaw_6 : decode cX9_closeLaw 6 = .ok (.if_icmp .ge 13, 3) := by decide +kernel
theorem dX9_closeLaw_9 : decode cX9_closeLaw 9 = .ok (.aload_n 0, 1) := by decide +kernel
theorem dX9_closeLaw_10 : decode cX9_closeLaw 10 = .ok (.getfield 30, 3) := by decide +kernel
theorem dX9_closeLaw_13 : decode cX9_closeLaw 13 = .ok (.iload_n 1, 1) := by decide +kernel
theorem dX9_closeLaw_14 : decode cX9_closeLaw 14 = .ok (.aload_n 0, 1) := by decide +kernel
theorem dX9_closeLaw_15 : decode cX9_closeLaw 15 = .ok (.getfield 17, 3) := by decide +kernel
theorem dX9_closeLaw_18 : decode cX9_closeLaw 18 = .ok (.iastore, 1) := by decide +kernel
theorem dX9_closeLaw_19 : decode cX9_closeLaw 19 = .ok (.return_, 1) := by decide +kernel
def f_X9_closeLaw (N : Nat) (x_ln : Int32) (x_en : Nat → Int32) (p1 : Int32) : Option ((Nat → Int32)) := if p1 < 0 then (some x_en) else (if (4 : Int32) ≤ p1 then (some x_en) else (sA x_en 4 p1 x_ln fun x_en_18 => some x_en_18))
set_option maxHeartbeats 4000000 in
set_option maxRecDepth 100000 in
theorem k_X9_closeLaw (l : Launch) (N : Nat) (D : va_G) (cI cJ cZ cB cT : ClassId) (qx0 : Nat) (qx3 : Nat) (qx1 : Nat) (qx2 : Nat) (qx4 : Nat) (x_cl : Int32) (x_ln : Int32) (x_pt : Int32) (x_en : Nat → Int32) (p1 : Int32) (o_x_en : Nat → Int32) (hf : f_X9_closeLaw N x_ln x_en p1 = some o_x_en) : ∀ sz, Met l yX9_closeLaw (mw yX9_closeLaw cX9_closeLaw 2 none) ({ frames := 0, cells := 0, slots := 0, locals := 0 } : Room) (mPre D (mT cI cJ cZ cB cT) (W_TX_0_3 qx0 qx3 qx1 qx2 qx4 cI cJ cZ cB cT x_cl x_ln x_pt x_en) sz [.ref qx0, .int p1]) ((mQv D (W_TX_0_3 qx0 qx3 qx1 qx2 qx4 cI cJ cZ cB cT x_cl x_ln x_pt o_x_en)) (va_A (W_TX_0_3 qx0 qx3 qx1 qx2 qx4 cI cJ cZ cB cT x_cl x_ln x_pt x_en) sz)) 0 0 (va_A (W_TX_0_3 qx0 qx3 qx1 qx2 qx4 cI cJ cZ cB cT x_cl x_ln x_pt x_en) sz) := by
  refine mMet (Qc := (mQv D (W_TX_0_3 qx0 qx3 qx1 qx2 qx4 cI cJ cZ cB cT x_cl x_ln x_pt o_x_en))) (by decide) (Nat.le_of_ble_eq_true rfl) (fun p e s m below meth c A ls hx hb hr hml hts hown hlocks hK hA hP hD hl => ?_)
  have hown : s.vm.findClass RX9 = some m.cls := hown
  have hl : lv_has ls 2 [(0, .ref qx0), (1, .int p1)] := hl
  have hS : va_S A s.heap s.heap [] := va_S.rf
  unfold f_X9_closeLaw at hf
  refine lv_iload_n hx hb dX9_closeLaw_0 rfl (lv_at hl 1 rfl) ?_
  refine xif_lt hx hb 19 dX9_closeLaw_1 (by decide) hf (fun hf => ?_) (fun hf => ?_)
  · cases hf
    exact mret_v hx hb hr hlocks hP hD hS dX9_closeLaw_19
  · refine lv_iload_n hx hb dX9_closeLaw_4 rfl (lv_at hl 1 rfl) ?_
    refine lv_iconst (v := (4 : Int32)) hx hb dX9_closeLaw_5 (by decide) ?_
    refine xicmp_ge hx hb 19 dX9_closeLaw_6 (by decide) hf (fun hf => ?_) (fun hf => ?_)
    · cases hf
      exact mret_v hx hb hr hlocks hP hD hS dX9_closeLaw_19
    · refine lv_aload_n hx hb dX9_closeLaw_9 rfl (lv_at hl 0 rfl) ?_
      refine gfX9_30 hx hb hts hown hK hP 0 rfl rfl dX9_closeLaw_10 ?_
      refine lv_iload_n hx hb dX9_closeLaw_13 rfl (lv_at hl 1 rfl) ?_
      refine lv_aload_n hx hb dX9_closeLaw_14 rfl (lv_at hl 0 rfl) ?_
      refine gfX9_17 hx hb hts hown hK hP 0 rfl rfl dX9_closeLaw_15 ?_
      refine xiast hx hb hK hP hD hS 1 0 rfl rfl dX9_closeLaw_18 hf (fun x_en_18 hf H locs hP hD hS => ?_)
      have hP : va_P D vwCl (W_TX_0_3 qx0 qx3 qx1 qx2 qx4 cI cJ cZ cB cT x_cl x_ln x_pt x_en_18) H := hP
      have hD : va_D A (W_TX_0_3 qx0 qx3 qx1 qx2 qx4 cI cJ cZ cB cT x_cl x_ln x_pt x_en_18) := hD
      cases hf
      exact mret_v hx hb hr hlocks hP hD hS dX9_closeLaw_19
theorem dX9_put_0 : decode cX9_put 0 = .ok (.aload_n 0, 1) := by decide +kernel
theorem dX9_put_1 : decode cX9_put 1 = .ok (.getfield 17, 3) := by decide +kernel
theorem dX9_put_4 : decode cX9_put 4 = .ok (.ifCond .lt 38, 3) := by decide +kernel
theorem dX9_put_7 : decode cX9_put 7 = .ok (.aload_n 0, 1) := by decide +kernel
theorem dX9_put_8 : decode cX9_put 8 = .ok (.getfield 17, 3) := by decide +kernel
theorem dX9_put_11 : decode cX9_put 11 = .ok (.sipush 301, 3) := by decide +kernel
theorem dX9_put_14 : decode cX9_put 14 = .ok (.if_icmp .ge 28, 3) := by decide +kernel
theorem dX9_put_17 : decode cX9_put 17 = .ok (.aload_n 0, 1) := by decide +kernel
theorem dX9_put_18 : decode cX9_put 18 = .ok (.getfield 23, 3) := by decide +kernel
theorem dX9_put_21 : decode cX9_put 21 = .ok (.aload_n 0, 1) := by decide +kernel
theorem dX9_put_22 : decode cX9_put 22 = .ok (.getfield 17, 3) := by decide +kernel
theorem dX9_put_25 : decode cX9_put 25 = .ok (.iload_n 2, 1) := by decide +kernel
theorem dX9_put_26 : decode cX9_put 26 = .ok (.bipush 64, 2) := by decide +kernel
theorem dX9_put_28 : decode cX9_put 28 = .ok (.imul, 1) := by decide +kernel
theorem dX9_put_29 : decode cX9_put 29 = .ok (.iload_n 1, 1) := by decide +kernel
theorem dX9_put_30 : decode cX9_put 30 = .ok (.iadd, 1) := by decide +kernel
theorem dX9_put_31 : decode cX9_put 31 = .ok (.iastore, 1) := by decide +kernel
theorem dX9_put_32 : decode cX9_put 32 = .ok (.aload_n 0, 1) := by decide +kernel
theorem dX9_put_33 : decode cX9_put 33 = .ok (.dup, 1) := by decide +kernel
theorem dX9_put_34 : decode cX9_put 34 = .ok (.getfield 17, 3) := by decide +kernel
theorem dX9_put_37 : decode cX9_put 37 = .ok (.iconst 1, 1) := by decide +kernel
theorem dX9_put_38 : decode cX9_put 38 = .ok (.iadd, 1) := by decide +kernel
theorem dX9_put_39 : decode cX9_put 39 = .ok (.putfield 17, 3) := by decide +kernel
theorem dX9_put_42 : decode cX9_put 42 = .ok (.return_, 1) := by decide +kernel
def f_X9_put (N : Nat) (x_ln : Int32) (x_code : Nat → Int32) (p1 : Int32) (p2 : Int32) : Option (Int32 × (Nat → Int32)) := if x_ln < 0 then (some (x_ln, x_code)) else (if (301 : Int32) ≤ x_ln then (some (x_ln, x_code)) else (sA x_code 301 x_ln ((p2 * (64 : Int32)) + p1) fun x_code_31 => some ((x_ln + (1 : Int32)), x_code_31)))
set_option maxHeartbeats 4000000 in
set_option maxRecDepth 100000 in
theorem k_X9_put (l : Launch) (N : Nat) (D : va_G) (cI cJ cZ cB cT : ClassId) (qx0 : Nat) (qx1 : Nat) (qx2 : Nat) (qx3 : Nat) (qx4 : Nat) (x_cl : Int32) (x_ln : Int32) (x_pt : Int32) (x_code : Nat → Int32) (p1 : Int32) (p2 : Int32) (o_x_ln : Int32) (o_x_code : Nat → Int32) (hf : f_X9_put N x_ln x_code p1 p2 = some (o_x_ln, o_x_code)) : ∀ sz, Met l yX9_put (mw yX9_put cX9_put 3 none) ({ frames := 0, cells := 0, slots := 0, locals := 0 } : Room) (mPre D (mT cI cJ cZ cB cT) (W_TX_0t1 qx0 qx1 qx2 qx3 qx4 cI cJ cZ cB cT x_cl x_ln x_pt x_code) sz [.ref qx0, .int p1, .int p2]) ((mQv D (W_TX_0t1 qx0 qx1 qx2 qx3 qx4 cI cJ cZ cB cT x_cl o_x_ln x_pt o_x_code)) (va_A (W_TX_0t1 qx0 qx1 qx2 qx3 qx4 cI cJ cZ cB cT x_cl x_ln x_pt x_code) sz)) 0 0 (va_A (W_TX_0t1 qx0 qx1 qx2 qx3 qx4 cI cJ cZ cB cT x_cl x_ln x_pt x_code) sz) := by
  refine mMet (Qc := (mQv D (W_TX_0t1 qx0 qx1 qx2 qx3 qx4 cI cJ cZ cB cT x_cl o_x_ln x_pt o_x_code))) (by decide) (Nat.le_of_ble_eq_true rfl) (fun p e s m below meth c A ls hx hb hr hml hts hown hlocks hK hA hP hD hl => ?_)
  have hown : s.vm.findClass RX9 = some m.cls := hown
  have hl : lv_has ls 3 [(0, .ref qx0), (1, .int p1), (2, .int p2)] := hl
  have hS : va_S A s.heap s.heap [] := va_S.rf
  unfold f_X9_put at hf
  refine lv_aload_n hx hb dX9_put_0 rfl (lv_at hl 0 rfl) ?_
  refine gfX9_17 hx hb hts hown hK hP 0 rfl rfl dX9_put_1 ?_
  refine xif_lt hx hb 42 dX9_put_4 (by decide) hf (fun hf => ?_) (fun hf => ?_)
  · cases hf
    exact mret_v hx hb hr hlocks hP hD hS dX9_put_42
  · refine lv_aload_n hx hb dX9_put_7 rfl (lv_at hl 0 rfl) ?_
    refine gfX9_17 hx hb hts hown hK hP 0 rfl rfl dX9_put_8 ?_
    refine lv_sipush (v := (301 : Int32)) hx hb dX9_put_11 (by decide) ?_
    refine xicmp_ge hx hb 42 dX9_put_14 (by decide) hf (fun hf => ?_) (fun hf => ?_)
    · cases hf
      exact mret_v hx hb hr hlocks hP hD hS dX9_put_42
    · refine lv_aload_n hx hb dX9_put_17 rfl (lv_at hl 0 rfl) ?_
      refine gfX9_23 hx hb hts hown hK hP 0 rfl rfl dX9_put_18 ?_
      refine lv_aload_n hx hb dX9_put_21 rfl (lv_at hl 0 rfl) ?_
      refine gfX9_17 hx hb hts hown hK hP 0 rfl rfl dX9_put_22 ?_
      refine lv_iload_n hx hb dX9_put_25 rfl (lv_at hl 2 rfl) ?_
      refine lv_bipush (v := (64 : Int32)) hx hb dX9_put_26 (by decide) ?_
      refine lv_imul hx hb dX9_put_28 ?_
      refine lv_iload_n hx hb dX9_put_29 rfl (lv_at hl 1 rfl) ?_
      refine lv_iadd hx hb dX9_put_30 ?_
      refine xiast hx hb hK hP hD hS 1 0 rfl rfl dX9_put_31 hf (fun x_code_31 hf H locs hP hD hS => ?_)
      have hP : va_P D vwCl (W_TX_0t1 qx0 qx1 qx2 qx3 qx4 cI cJ cZ cB cT x_cl x_ln x_pt x_code_31) H := hP
      have hD : va_D A (W_TX_0t1 qx0 qx1 qx2 qx3 qx4 cI cJ cZ cB cT x_cl x_ln x_pt x_code_31) := hD
      refine lv_aload_n hx hb dX9_put_32 rfl (lv_at hl 0 rfl) ?_
      refine lv_dup hx hb dX9_put_33 rfl ?_
      refine gfX9_17 hx hb hts hown hK hP 0 rfl rfl dX9_put_34 ?_
      refine lv_iconst (v := (1 : Int32)) hx hb dX9_put_37 (by decide) ?_
      refine lv_iadd hx hb dX9_put_38 ?_
      refine pfX9_17 hx hb hts hown hK hP hD hS 0 rfl (Nat.le_of_ble_eq_true rfl) dX9_put_39 (fun H locs hP hD hS => ?_)
      have hP : va_P D vwCl (W_TX_0t1 qx0 qx1 qx2 qx3 qx4 cI cJ cZ cB cT x_cl (x_ln + (1 : Int32)) x_pt x_code_31) H := hP
      have hD : va_D A (W_TX_0t1 qx0 qx1 qx2 qx3 qx4 cI cJ cZ cB cT x_cl (x_ln + (1 : Int32)) x_pt x_code_31) := hD
      cases hf
      exact mret_v hx hb hr hlocks hP hD hS dX9_put_42
theorem dX9_putLeap_0 : decode cX9_putLeap 0 = .ok (.aload_n 0, 1) := by decide +kernel
theorem dX9_putLeap_1 : decode cX9_putLeap 1 = .ok (.iload_n 1, 1) := by decide +kernel
theorem dX9_putLeap_2 : decode cX9_putLeap 2 = .ok (.iconst 0, 1) := by decide +kernel
theorem dX9_putLeap_3 : decode cX9_putLeap 3 = .ok (.invokevirtual 40, 3) := by decide +kernel
theorem dX9_putLeap_6 : decode cX9_putLeap 6 = .ok (.aload_n 0, 1) := by decide +kernel
theorem dX9_putLeap_7 : decode cX9_putLeap 7 = .ok (.getfield 17, 3) := by decide +kernel
theorem dX9_putLeap_10 : decode cX9_putLeap 10 = .ok (.iconst 1, 1) := by decide +kernel
theorem dX9_putLeap_11 : decode cX9_putLeap 11 = .ok (.isub, 1) := by decide +kernel
theorem dX9_putLeap_12 : decode cX9_putLeap 12 = .ok (.ireturn, 1) := by decide +kernel
def f_X9_putLeap (N : Nat) (x_ln : Int32) (x_code : Nat → Int32) (p1 : Int32) : Option (Int32 × Int32 × (Nat → Int32)) := ob2 (f_X9_put N x_ln x_code p1 (0 : Int32)) fun x_ln_3 x_code_3 => some ((x_ln_3 - (1 : Int32)), x_ln_3, x_code_3)
set_option maxHeartbeats 4000000 in
set_option maxRecDepth 100000 in
theorem k_X9_putLeap (l : Launch) (N : Nat) (D : va_G) (cI cJ cZ cB cT : ClassId) (qx0 : Nat) (qx1 : Nat) (qx2 : Nat) (qx3 : Nat) (qx4 : Nat) (x_cl : Int32) (x_ln : Int32) (x_pt : Int32) (x_code : Nat → Int32) (p1 : Int32) (o_r : Int32) (o_x_ln : Int32) (o_x_code : Nat → Int32) (hf : f_X9_putLeap N x_ln x_code p1 = some (o_r, o_x_ln, o_x_code)) : ∀ sz, Met l yX9_putLeap (mw yX9_putLeap cX9_putLeap 2 (some .int)) ({ frames := 1, cells := 0, slots := 0, locals := 22 } : Room) (mPre D (mT cI cJ cZ cB cT) (W_TX_0t1 qx0 qx1 qx2 qx3 qx4 cI cJ cZ cB cT x_cl x_ln x_pt x_code) sz [.ref qx0, .int p1]) ((mQi D (W_TX_0t1 qx0 qx1 qx2 qx3 qx4 cI cJ cZ cB cT x_cl o_x_ln x_pt o_x_code) o_r True) (va_A (W_TX_0t1 qx0 qx1 qx2 qx3 qx4 cI cJ cZ cB cT x_cl x_ln x_pt x_code) sz)) 0 0 (va_A (W_TX_0t1 qx0 qx1 qx2 qx3 qx4 cI cJ cZ cB cT x_cl x_ln x_pt x_code) sz) := by
  refine mMet (Qc := (mQi D (W_TX_0t1 qx0 qx1 qx2 qx3 qx4 cI cJ cZ cB cT x_cl o_x_ln x_pt o_x_code) o_r True)) (by decide) (Nat.le_of_ble_eq_true rfl) (fun p e s m below meth c A ls hx hb hr hml hts hown hlocks hK hA hP hD hl => ?_)
  have hown : s.vm.findClass RX9 = some m.cls := hown
  have hl : lv_has ls 2 [(0, .ref qx0), (1, .int p1)] := hl
  have hS : va_S A s.heap s.heap [] := va_S.rf
  unfold f_X9_putLeap at hf
  refine lv_aload_n hx hb dX9_putLeap_0 rfl (lv_at hl 0 rfl) ?_
  refine lv_iload_n hx hb dX9_putLeap_1 rfl (lv_at hl 1 rfl) ?_
  refine lv_iconst (v := (0 : Int32)) hx hb dX9_putLeap_2 (by decide) ?_
  obtain ⟨x_ln_3, x_code_3, hg3, hf⟩ := ob2_some hf
  refine mcV1_v (As := [.int p1, .int (0 : Int32)]) (rest := []) hx hb hml hown hts hK hP hD hS hA (k_X9_put l N D cI cJ cZ cB cT qx0 qx1 qx2 qx3 qx4 x_cl x_ln x_pt x_code p1 (0 : Int32) x_ln_3 x_code_3 hg3) (kwX9_40 hts rfl rfl ⟨Nat.le_of_ble_eq_true rfl, Nat.le_of_ble_eq_true rfl⟩) 0 rfl rfl rfl rfl hl.1 rfl (Nat.le_of_ble_eq_true rfl) dX9_putLeap_3 ⟨Nat.zero_le _, Nat.zero_le _⟩ (fun H locs hP hD hS => ?_)
  have hP : va_P D vwCl (W_TX_0t1 qx0 qx1 qx2 qx3 qx4 cI cJ cZ cB cT x_cl x_ln_3 x_pt x_code_3) H := hP
  have hD : va_D A (W_TX_0t1 qx0 qx1 qx2 qx3 qx4 cI cJ cZ cB cT x_cl x_ln_3 x_pt x_code_3) := hD
  refine lv_aload_n hx hb dX9_putLeap_6 rfl (lv_at hl 0 rfl) ?_
  refine gfX9_17 hx hb hts hown hK hP 0 rfl rfl dX9_putLeap_7 ?_
  refine lv_iconst (v := (1 : Int32)) hx hb dX9_putLeap_10 (by decide) ?_
  refine lv_isub hx hb dX9_putLeap_11 ?_
  cases hf
  exact mret_i hx hb hr hlocks hP hD hS dX9_putLeap_12 rfl trivial
theorem dX9_leapsHere_0 : decode cX9_leapsHere 0 = .ok (.iload_n 1, 1) := by decide +kernel
theorem dX9_leapsHere_1 : decode cX9_leapsHere 1 = .ok (.ifCond .lt 25, 3) := by decide +kernel
theorem dX9_leapsHere_4 : decode cX9_leapsHere 4 = .ok (.iload_n 1, 1) := by decide +kernel
theorem dX9_leapsHere_5 : decode cX9_leapsHere 5 = .ok (.sipush 301, 3) := by decide +kernel
theorem dX9_leapsHere_8 : decode cX9_leapsHere 8 = .ok (.if_icmp .ge 18, 3) := by decide +kernel
theorem dX9_leapsHere_11 : decode cX9_leapsHere 11 = .ok (.aload_n 0, 1) := by decide +kernel
theorem dX9_leapsHere_12 : decode cX9_leapsHere 12 = .ok (.getfield 23, 3) := by decide +kernel
theorem dX9_leapsHere_15 : decode cX9_leapsHere 15 = .ok (.iload_n 1, 1) := by decide +kernel
theorem dX9_leapsHere_16 : decode cX9_leapsHere 16 = .ok (.aload_n 0, 1) := by decide +kernel
theorem dX9_leapsHere_17 : decode cX9_leapsHere 17 = .ok (.getfield 17, 3) := by decide +kernel
theorem dX9_leapsHere_20 : decode cX9_leapsHere 20 = .ok (.bipush 64, 2) := by decide +kernel
theorem dX9_leapsHere_22 : decode cX9_leapsHere 22 = .ok (.imul, 1) := by decide +kernel
theorem dX9_leapsHere_23 : decode cX9_leapsHere 23 = .ok (.iload_n 2, 1) := by decide +kernel
theorem dX9_leapsHere_24 : decode cX9_leapsHere 24 = .ok (.iadd, 1) := by decide +kernel
theorem dX9_leapsHere_25 : decode cX9_leapsHere 25 = .ok (.iastore, 1) := by decide +kernel
theorem dX9_leapsHere_26 : decode cX9_leapsHere 26 = .ok (.return_, 1) := by decide +kernel
def f_X9_leapsHere (N : Nat) (x_ln : Int32) (x_code : Nat → Int32) (p1 : Int32) (p2 : Int32) : Option ((Nat → Int32)) := if p1 < 0 then (some x_code) else (if (301 : Int32) ≤ p1 then (some x_code) else (sA x_code 301 p1 ((x_ln * (64 : Int32)) + p2) fun x_code_25 => some x_code_25))
set_option maxHeartbeats 4000000 in
set_option maxRecDepth 100000 in
theorem k_X9_leapsHere (l : Launch) (N : Nat) (D : va_G) (cI cJ cZ cB cT : ClassId) (qx0 : Nat) (qx1 : Nat) (qx2 : Nat) (qx3 : Nat) (qx4 : Nat) (x_cl : Int32) (x_ln : Int32) (x_pt : Int32) (x_code : Nat → Int32) (p1 : Int32) (p2 : Int32) (o_x_code : Nat → Int32) (hf : f_X9_leapsHere N x_ln x_code p1 p2 = some o_x_code) : ∀ sz, Met l yX9_leapsHere (mw yX9_leapsHere cX9_leapsHere 3 none) ({ frames := 0, cells := 0, slots := 0, locals := 0 } : Room) (mPre D (mT cI cJ cZ cB cT) (W_TX_0t1 qx0 qx1 qx2 qx3 qx4 cI cJ cZ cB cT x_cl x_ln x_pt x_code) sz [.ref qx0, .int p1, .int p2]) ((mQv D (W_TX_0t1 qx0 qx1 qx2 qx3 qx4 cI cJ cZ cB cT x_cl x_ln x_pt o_x_code)) (va_A (W_TX_0t1 qx0 qx1 qx2 qx3 qx4 cI cJ cZ cB cT x_cl x_ln x_pt x_code) sz)) 0 0 (va_A (W_TX_0t1 qx0 qx1 qx2 qx3 qx4 cI cJ cZ cB cT x_cl x_ln x_pt x_code) sz) := by
  refine mMet (Qc := (mQv D (W_TX_0t1 qx0 qx1 qx2 qx3 qx4 cI cJ cZ cB cT x_cl x_ln x_pt o_x_code))) (by decide) (Nat.le_of_ble_eq_true rfl) (fun p e s m below meth c A ls hx hb hr hml hts hown hlocks hK hA hP hD hl => ?_)
  have hown : s.vm.findClass RX9 = some m.cls := hown
  have hl : lv_has ls 3 [(0, .ref qx0), (1, .int p1), (2, .int p2)] := hl
  have hS : va_S A s.heap s.heap [] := va_S.rf
  unfold f_X9_leapsHere at hf
  refine lv_iload_n hx hb dX9_leapsHere_0 rfl (lv_at hl 1 rfl) ?_
  refine xif_lt hx hb 26 dX9_leapsHere_1 (by decide) hf (fun hf => ?_) (fun hf => ?_)
  · cases hf
    exact mret_v hx hb hr hlocks hP hD hS dX9_leapsHere_26
  · refine lv_iload_n hx hb dX9_leapsHere_4 rfl (lv_at hl 1 rfl) ?_
    refine lv_sipush (v := (301 : Int32)) hx hb dX9_leapsHere_5 (by decide) ?_
    refine xicmp_ge hx hb 26 dX9_leapsHere_8 (by decide) hf (fun hf => ?_) (fun hf => ?_)
    · cases hf
      exact mret_v hx hb hr hlocks hP hD hS dX9_leapsHere_26
    · refine lv_aload_n hx hb dX9_leapsHere_11 rfl (lv_at hl 0 rfl) ?_
      refine gfX9_23 hx hb hts hown hK hP 0 rfl rfl dX9_leapsHere_12 ?_
      refine lv_iload_n hx hb dX9_leapsHere_15 rfl (lv_at hl 1 rfl) ?_
      refine lv_aload_n hx hb dX9_leapsHere_16 rfl (lv_at hl 0 rfl) ?_
      refine gfX9_17 hx hb hts hown hK hP 0 rfl rfl dX9_leapsHere_17 ?_
      refine lv_bipush (v := (64 : Int32)) hx hb dX9_leapsHere_20 (by decide) ?_
      refine lv_imul hx hb dX9_leapsHere_22 ?_
      refine lv_iload_n hx hb dX9_leapsHere_23 rfl (lv_at hl 2 rfl) ?_
      refine lv_iadd hx hb dX9_leapsHere_24 ?_
      refine xiast hx hb hK hP hD hS 1 0 rfl rfl dX9_leapsHere_25 hf (fun x_code_25 hf H locs hP hD hS => ?_)
      have hP : va_P D vwCl (W_TX_0t1 qx0 qx1 qx2 qx3 qx4 cI cJ cZ cB cT x_cl x_ln x_pt x_code_25) H := hP
      have hD : va_D A (W_TX_0t1 qx0 qx1 qx2 qx3 qx4 cI cJ cZ cB cT x_cl x_ln x_pt x_code_25) := hD
      cases hf
      exact mret_v hx hb hr hlocks hP hD hS dX9_leapsHere_26
theorem dX10_bestAfter_0 : decode cX10_bestAfter 0 = .ok (.iload_n 2, 1) := by decide +kernel
theorem dX10_bestAfter_1 : decode cX10_bestAfter 1 = .ok (.bipush 8, 2) := by decide +kernel
theorem dX10_bestAfter_3 : decode cX10_bestAfter 3 = .ok (.imul, 1) := by decide +kernel
theorem dX10_bestAfter_4 : decode cX10_bestAfter 4 = .ok (.iload_n 1, 1) := by decide +kernel
theorem dX10_bestAfter_5 : decode cX10_bestAfter 5 = .ok (.iadd, 1) := by decide +kernel
theorem dX10_bestAfter_6 : decode cX10_bestAfter 6 = .ok (.istore_n 3, 1) := by decide +kernel
theorem dX10_bestAfter_7 : decode cX10_bestAfter 7 = .ok (.iload_n 3, 1) := by decide +kernel
theorem dX10_bestAfter_8 : decode cX10_bestAfter 8 = .ok (.ifCond .lt 21, 3) := by decide +kernel
theorem dX10_bestAfter_11 : decode cX10_bestAfter 11 = .ok (.iload_n 3, 1) := by decide +kernel
theorem dX10_bestAfter_12 : decode cX10_bestAfter 12 = .ok (.aload_n 0, 1) := by decide +kernel
theorem dX10_bestAfter_13 : decode cX10_bestAfter 13 = .ok (.getfield 33, 3) := by decide +kernel
theorem dX10_bestAfter_16 : decode cX10_bestAfter 16 = .ok (.arraylength, 1) := by decide +kernel
theorem dX10_bestAfter_17 : decode cX10_bestAfter 17 = .ok (.if_icmp .ge 12, 3) := by decide +kernel
theorem dX10_bestAfter_20 : decode cX10_bestAfter 20 = .ok (.aload_n 0, 1) := by decide +kernel
theorem dX10_bestAfter_21 : decode cX10_bestAfter 21 = .ok (.getfield 33, 3) := by decide +kernel
theorem dX10_bestAfter_24 : decode cX10_bestAfter 24 = .ok (.iload_n 3, 1) := by decide +kernel
theorem dX10_bestAfter_25 : decode cX10_bestAfter 25 = .ok (.iaload, 1) := by decide +kernel
theorem dX10_bestAfter_26 : decode cX10_bestAfter 26 = .ok (.goto 4, 3) := by decide +kernel
theorem dX10_bestAfter_29 : decode cX10_bestAfter 29 = .ok (.iconst 0, 1) := by decide +kernel
theorem dX10_bestAfter_30 : decode cX10_bestAfter 30 = .ok (.ireturn, 1) := by decide +kernel
def f_X10_bestAfter (N : Nat) (v_best : Nat → Int32) (p1 : Int32) (p2 : Int32) : Option (Int32) := if ((p2 * (8 : Int32)) + p1) < 0 then (some (0 : Int32)) else (if (56 : Int32) ≤ ((p2 * (8 : Int32)) + p1) then (some (0 : Int32)) else (gA v_best 56 ((p2 * (8 : Int32)) + p1) fun v25 => some v25))
set_option maxHeartbeats 4000000 in
set_option maxRecDepth 100000 in
theorem k_X10_bestAfter (l : Launch) (N : Nat) (D : va_G) (cI cJ cZ cB cT : ClassId) (qv0 : Nat) (qv2 : Nat) (qv1 : Nat) (qv3 : Nat) (qv4 : Nat) (qv5 : Nat) (v_up : Int32) (v_low : Int32) (v_gone : Int32) (v_may : Int32) (v_must : Int32) (v_best : Nat → Int32) (p1 : Int32) (p2 : Int32) (o_r : Int32) (hf : f_X10_bestAfter N v_best p1 p2 = some o_r) : ∀ sz, Met l yX10_bestAfter (mw yX10_bestAfter cX10_bestAfter 4 (some .int)) ({ frames := 0, cells := 0, slots := 0, locals := 0 } : Room) (mPre D (mT cI cJ cZ cB cT) (W_WY_0_2 qv0 qv2 qv1 qv3 qv4 qv5 cI cJ cZ cB cT v_up v_low v_gone v_may v_must v_best) sz [.ref qv0, .int p1, .int p2]) ((mQi D (W_WY_0_2 qv0 qv2 qv1 qv3 qv4 qv5 cI cJ cZ cB cT v_up v_low v_gone v_may v_must v_best) o_r True) (va_A (W_WY_0_2 qv0 qv2 qv1 qv3 qv4 qv5 cI cJ cZ cB cT v_up v_low v_gone v_may v_must v_best) sz)) 0 0 (va_A (W_WY_0_2 qv0 qv2 qv1 qv3 qv4 qv5 cI cJ cZ cB cT v_up v_low v_gone v_may v_must v_best) sz) := by
  refine mMet (Qc := (mQi D (W_WY_0_2 qv0 qv2 qv1 qv3 qv4 qv5 cI cJ cZ cB cT v_up v_low v_gone v_may v_must v_best) o_r True)) (by decide) (Nat.le_of_ble_eq_true rfl) (fun p e s m below meth c A ls hx hb hr hml hts hown hlocks hK hA hP hD hl => ?_)
  have hown : s.vm.findClass RX10 = some m.cls := hown
  have hl : lv_has ls 4 [(0, .ref qv0), (1, .int p1), (2, .int p2)] := hl
  have hS : va_S A s.heap s.heap [] := va_S.rf
  unfold f_X10_bestAfter at hf
  refine lv_iload_n hx hb dX10_bestAfter_0 rfl (lv_at hl 2 rfl) ?_
  refine lv_bipush (v := (8 : Int32)) hx hb dX10_bestAfter_1 (by decide) ?_
  refine lv_imul hx hb dX10_bestAfter_3 ?_
  refine lv_iload_n hx hb dX10_bestAfter_4 rfl (lv_at hl 1 rfl) ?_
  refine lv_iadd hx hb dX10_bestAfter_5 ?_
  refine lv_istore_n (lv' := [(3, .int ((p2 * (8 : Int32)) + p1)), (0, .ref qv0), (1, .int p1), (2, .int p2)]) hx hb dX10_bestAfter_6 rfl hl (by decide) rfl (fun ls hl => ?_)
  refine lv_iload_n hx hb dX10_bestAfter_7 rfl (lv_at hl 0 rfl) ?_
  refine xif_lt hx hb 29 dX10_bestAfter_8 (by decide) hf (fun hf => ?_) (fun hf => ?_)
  · refine lv_iconst (v := (0 : Int32)) hx hb dX10_bestAfter_29 (by decide) ?_
    cases hf
    exact mret_i hx hb hr hlocks hP hD hS dX10_bestAfter_30 rfl trivial
  · refine lv_iload_n hx hb dX10_bestAfter_11 rfl (lv_at hl 0 rfl) ?_
    refine lv_aload_n hx hb dX10_bestAfter_12 rfl (lv_at hl 1 rfl) ?_
    refine gfX10_33 hx hb hts hown hK hP 0 rfl rfl dX10_bestAfter_13 ?_
    refine va_alen (v := (56 : Int32)) hx hb hK hP 1 0 rfl rfl rfl dX10_bestAfter_16 ?_
    refine xicmp_ge hx hb 29 dX10_bestAfter_17 (by decide) hf (fun hf => ?_) (fun hf => ?_)
    · refine lv_iconst (v := (0 : Int32)) hx hb dX10_bestAfter_29 (by decide) ?_
      cases hf
      exact mret_i hx hb hr hlocks hP hD hS dX10_bestAfter_30 rfl trivial
    · refine lv_aload_n hx hb dX10_bestAfter_20 rfl (lv_at hl 1 rfl) ?_
      refine gfX10_33 hx hb hts hown hK hP 0 rfl rfl dX10_bestAfter_21 ?_
      refine lv_iload_n hx hb dX10_bestAfter_24 rfl (lv_at hl 0 rfl) ?_
      refine xiald hx hb hK hP 1 0 rfl rfl dX10_bestAfter_25 hf (fun v25 hf => ?_)
      refine lv_goto (tgt := 30) hx hb dX10_bestAfter_26 (by decide) ?_
      cases hf
      exact mret_i hx hb hr hlocks hP hD hS dX10_bestAfter_30 rfl trivial
theorem dX10_bestFrom_0 : decode cX10_bestFrom 0 = .ok (.aload_n 1, 1) := by decide +kernel
theorem dX10_bestFrom_1 : decode cX10_bestFrom 1 = .ok (.iload_n 2, 1) := by decide +kernel
theorem dX10_bestFrom_2 : decode cX10_bestFrom 2 = .ok (.invokevirtual 86, 3) := by decide +kernel
theorem dX10_bestFrom_5 : decode cX10_bestFrom 5 = .ok (.iconst 1, 1) := by decide +kernel
theorem dX10_bestFrom_6 : decode cX10_bestFrom 6 = .ok (.iload_n 2, 1) := by decide +kernel
theorem dX10_bestFrom_7 : decode cX10_bestFrom 7 = .ok (.ishl, 1) := by decide +kernel
theorem dX10_bestFrom_8 : decode cX10_bestFrom 8 = .ok (.ior, 1) := by decide +kernel
theorem dX10_bestFrom_9 : decode cX10_bestFrom 9 = .ok (.istore 4, 2) := by decide +kernel
theorem dX10_bestFrom_11 : decode cX10_bestFrom 11 = .ok (.iconst 0, 1) := by decide +kernel
theorem dX10_bestFrom_12 : decode cX10_bestFrom 12 = .ok (.istore 5, 2) := by decide +kernel
theorem dX10_bestFrom_14 : decode cX10_bestFrom 14 = .ok (.iconst 0, 1) := by decide +kernel
theorem dX10_bestFrom_15 : decode cX10_bestFrom 15 = .ok (.istore 6, 2) := by decide +kernel
theorem dX10_bestFrom_17 : decode cX10_bestFrom 17 = .ok (.iload 6, 2) := by decide +kernel
theorem dX10_bestFrom_19 : decode cX10_bestFrom 19 = .ok (.aload_n 1, 1) := by decide +kernel
theorem dX10_bestFrom_20 : decode cX10_bestFrom 20 = .ok (.getfield 51, 3) := by decide +kernel
theorem dX10_bestFrom_23 : decode cX10_bestFrom 23 = .ok (.if_icmp .ge 51, 3) := by decide +kernel
theorem dX10_bestFrom_26 : decode cX10_bestFrom 26 = .ok (.iload 6, 2) := by decide +kernel
theorem dX10_bestFrom_28 : decode cX10_bestFrom 28 = .ok (.bipush 8, 2) := by decide +kernel
theorem dX10_bestFrom_30 : decode cX10_bestFrom 30 = .ok (.if_icmp .ge 44, 3) := by decide +kernel
theorem dX10_bestFrom_33 : decode cX10_bestFrom 33 = .ok (.iload 4, 2) := by decide +kernel
theorem dX10_bestFrom_35 : decode cX10_bestFrom 35 = .ok (.iload 6, 2) := by decide +kernel
theorem dX10_bestFrom_37 : decode cX10_bestFrom 37 = .ok (.ishr, 1) := by decide +kernel
theorem dX10_bestFrom_38 : decode cX10_bestFrom 38 = .ok (.iconst 1, 1) := by decide +kernel
theorem dX10_bestFrom_39 : decode cX10_bestFrom 39 = .ok (.iand, 1) := by decide +kernel
theorem dX10_bestFrom_40 : decode cX10_bestFrom 40 = .ok (.iconst 1, 1) := by decide +kernel
theorem dX10_bestFrom_41 : decode cX10_bestFrom 41 = .ok (.if_icmp .ne 27, 3) := by decide +kernel
theorem dX10_bestFrom_44 : decode cX10_bestFrom 44 = .ok (.iload 5, 2) := by decide +kernel
theorem dX10_bestFrom_46 : decode cX10_bestFrom 46 = .ok (.aload_n 0, 1) := by decide +kernel
theorem dX10_bestFrom_47 : decode cX10_bestFrom 47 = .ok (.getfield 29, 3) := by decide +kernel
theorem dX10_bestFrom_50 : decode cX10_bestFrom 50 = .ok (.iload 6, 2) := by decide +kernel
theorem dX10_bestFrom_52 : decode cX10_bestFrom 52 = .ok (.iaload, 1) := by decide +kernel
theorem dX10_bestFrom_53 : decode cX10_bestFrom 53 = .ok (.aload_n 0, 1) := by decide +kernel
theorem dX10_bestFrom_54 : decode cX10_bestFrom 54 = .ok (.iload 6, 2) := by decide +kernel
theorem dX10_bestFrom_56 : decode cX10_bestFrom 56 = .ok (.iload_n 3, 1) := by decide +kernel
theorem dX10_bestFrom_57 : decode cX10_bestFrom 57 = .ok (.iconst 1, 1) := by decide +kernel
theorem dX10_bestFrom_58 : decode cX10_bestFrom 58 = .ok (.isub, 1) := by decide +kernel
theorem dX10_bestFrom_59 : decode cX10_bestFrom 59 = .ok (.invokevirtual 90, 3) := by decide +kernel
theorem dX10_bestFrom_62 : decode cX10_bestFrom 62 = .ok (.imul, 1) := by decide +kernel
theorem dX10_bestFrom_63 : decode cX10_bestFrom 63 = .ok (.invokestatic 93, 3) := by decide +kernel
theorem dX10_bestFrom_66 : decode cX10_bestFrom 66 = .ok (.istore 5, 2) := by decide +kernel
theorem dX10_bestFrom_68 : decode cX10_bestFrom 68 = .ok (.iinc 6 1, 3) := by decide +kernel
theorem dX10_bestFrom_71 : decode cX10_bestFrom 71 = .ok (.goto (-54), 3) := by decide +kernel
theorem dX10_bestFrom_74 : decode cX10_bestFrom 74 = .ok (.iload 5, 2) := by decide +kernel
theorem dX10_bestFrom_76 : decode cX10_bestFrom 76 = .ok (.ireturn, 1) := by decide +kernel
def f_X10_bestFrom_68 (N : Nat) (k_17 : (Nat → Int32) → (Nat → Int32) → Int32 → (Nat → Int32) → Int32 → Int32 → Int32 → Int32 → Option (Int32)) (v_liv : Nat → Int32) (v_best : Nat → Int32) (d_n : Int32) (d_road : Nat → Int32) (x3 : Int32) (x4 : Int32) (x5 : Int32) (x6 : Int32) : Option (Int32) := k_17 v_liv v_best d_n d_road x3 x4 x5 (x6 + (1 : Int32))
def f_X10_bestFrom_17 (N : Nat) : Nat → (Nat → Int32) → (Nat → Int32) → Int32 → (Nat → Int32) → Int32 → Int32 → Int32 → Int32 → Option (Int32)
  | 0, _, _, _, _, _, _, _, _ => none
  | n + 1, v_liv, v_best, d_n, d_road, x3, x4, x5, x6 => if d_n ≤ x6 then (some x5) else (if (8 : Int32) ≤ x6 then (some x5) else (if ((x4 >>> (x6 &&& 31)) &&& (1 : Int32)) = (1 : Int32) then (gA v_liv 8 x6 fun v52 => ob1 (f_X10_bestAfter N v_best x6 (x3 - (1 : Int32))) fun r59 => f_X10_bestFrom_68 N (f_X10_bestFrom_17 N n) v_liv v_best d_n d_road x3 x4 (mxI x5 (v52 * r59)) x6) else (f_X10_bestFrom_68 N (f_X10_bestFrom_17 N n) v_liv v_best d_n d_road x3 x4 x5 x6)))
def f_X10_bestFrom (N : Nat) (v_liv : Nat → Int32) (v_best : Nat → Int32) (d_n : Int32) (d_road : Nat → Int32) (p2 : Int32) (p3 : Int32) : Option (Int32) := ob1 (f_X2_near N d_n d_road p2) fun r2 => f_X10_bestFrom_17 N N v_liv v_best d_n d_road p3 (r2 ||| ((1 : Int32) <<< (p2 &&& 31))) (0 : Int32) (0 : Int32)
set_option maxHeartbeats 4000000 in
set_option maxRecDepth 100000 in
theorem k_X10_bestFrom (l : Launch) (N : Nat) (D : va_G) (cI cJ cZ cB cT : ClassId) (qv0 : Nat) (qv1 : Nat) (qv2 : Nat) (qd0 : Nat) (qd2 : Nat) (qv3 : Nat) (qv4 : Nat) (qv5 : Nat) (qd1 : Nat) (v_up : Int32) (v_low : Int32) (v_gone : Int32) (v_may : Int32) (v_must : Int32) (v_liv : Nat → Int32) (v_best : Nat → Int32) (d_n : Int32) (d_road : Nat → Int32) (p2 : Int32) (p3 : Int32) (o_r : Int32) (hf : f_X10_bestFrom N v_liv v_best d_n d_road p2 p3 = some o_r) : ∀ sz, Met l yX10_bestFrom (mw yX10_bestFrom cX10_bestFrom 7 (some .int)) ({ frames := 1, cells := 0, slots := 0, locals := 40 } : Room) (mPre D (mT cI cJ cZ cB cT) (W_WYL_0t2_6_8 qv0 qv1 qv2 qd0 qd2 qv3 qv4 qv5 qd1 cI cJ cZ cB cT v_up v_low v_gone v_may v_must v_liv v_best d_n d_road) sz [.ref qv0, .ref qd0, .int p2, .int p3]) ((mQi D (W_WYL_0t2_6_8 qv0 qv1 qv2 qd0 qd2 qv3 qv4 qv5 qd1 cI cJ cZ cB cT v_up v_low v_gone v_may v_must v_liv v_best d_n d_road) o_r True) (va_A (W_WYL_0t2_6_8 qv0 qv1 qv2 qd0 qd2 qv3 qv4 qv5 qd1 cI cJ cZ cB cT v_up v_low v_gone v_may v_must v_liv v_best d_n d_road) sz)) 0 0 (va_A (W_WYL_0t2_6_8 qv0 qv1 qv2 qd0 qd2 qv3 qv4 qv5 qd1 cI cJ cZ cB cT v_up v_low v_gone v_may v_must v_liv v_best d_n d_road) sz) := by
  refine mMet (Qc := (mQi D (W_WYL_0t2_6_8 qv0 qv1 qv2 qd0 qd2 qv3 qv4 qv5 qd1 cI cJ cZ cB cT v_up v_low v_gone v_may v_must v_liv v_best d_n d_road) o_r True)) (by decide) (Nat.le_of_ble_eq_true rfl) (fun p e s m below meth c A ls hx hb hr hml hts hown hlocks hK hA hP hD hl => ?_)
  have hown : s.vm.findClass RX10 = some m.cls := hown
  have hl : lv_has ls 7 [(0, .ref qv0), (1, .ref qd0), (2, .int p2), (3, .int p3)] := hl
  have hS : va_S A s.heap s.heap [] := va_S.rf
  have b17 : ∀ n17 : Nat, ∀ (x3 : Int32) (x4 : Int32) (x5 : Int32) (x6 : Int32) (H : Heap) (locs : List Loc) (ls : Array Slot), f_X10_bestFrom_17 N n17 v_liv v_best d_n d_road x3 x4 x5 x6 = some o_r → va_P D vwCl (W_WYL_0t2_6_8 qv0 qv1 qv2 qd0 qd2 qv3 qv4 qv5 qd1 cI cJ cZ cB cT v_up v_low v_gone v_may v_must v_liv v_best d_n d_road) H → va_D A (W_WYL_0t2_6_8 qv0 qv1 qv2 qd0 qd2 qv3 qv4 qv5 qd1 cI cJ cZ cB cT v_up v_low v_gone v_may v_must v_liv v_best d_n d_road) → va_S A s.heap H locs → lv_has ls 7 [(0, .ref qv0), (1, .ref qd0), (3, .int x3), (4, .int x4), (5, .int x5), (6, .int x6)] → W p l e ({ frames := 1, cells := 0, slots := 0, locals := 40 } : Room) s m ([.ref qv0, .ref qd0, .int p2, .int p3] : List Value).toArray below meth c H locs 0 0 (MQ below ((mQi D (W_WYL_0t2_6_8 qv0 qv1 qv2 qd0 qd2 qv3 qv4 qv5 qd1 cI cJ cZ cB cT v_up v_low v_gone v_may v_must v_liv v_best d_n d_road) o_r True) A) ([.ref qv0, .ref qd0, .int p2, .int p3] : List Value).toArray s 0 0 A) (F0 m 17 ls []) := by
    intro n17
    induction n17 with
    | zero =>
      intro x3 x4 x5 x6 H locs ls hf hP hD hS hl
      simp [f_X10_bestFrom_17] at hf
    | succ n17 ih17 =>
      have b68 : ∀ (x3 : Int32) (x4 : Int32) (x5 : Int32) (x6 : Int32) (H : Heap) (locs : List Loc) (ls : Array Slot), f_X10_bestFrom_68 N (f_X10_bestFrom_17 N n17) v_liv v_best d_n d_road x3 x4 x5 x6 = some o_r → va_P D vwCl (W_WYL_0t2_6_8 qv0 qv1 qv2 qd0 qd2 qv3 qv4 qv5 qd1 cI cJ cZ cB cT v_up v_low v_gone v_may v_must v_liv v_best d_n d_road) H → va_D A (W_WYL_0t2_6_8 qv0 qv1 qv2 qd0 qd2 qv3 qv4 qv5 qd1 cI cJ cZ cB cT v_up v_low v_gone v_may v_must v_liv v_best d_n d_road) → va_S A s.heap H locs → lv_has ls 7 [(0, .ref qv0), (1, .ref qd0), (3, .int x3), (4, .int x4), (5, .int x5), (6, .int x6)] → W p l e ({ frames := 1, cells := 0, slots := 0, locals := 40 } : Room) s m ([.ref qv0, .ref qd0, .int p2, .int p3] : List Value).toArray below meth c H locs 0 0 (MQ below ((mQi D (W_WYL_0t2_6_8 qv0 qv1 qv2 qd0 qd2 qv3 qv4 qv5 qd1 cI cJ cZ cB cT v_up v_low v_gone v_may v_must v_liv v_best d_n d_road) o_r True) A) ([.ref qv0, .ref qd0, .int p2, .int p3] : List Value).toArray s 0 0 A) (F0 m 68 ls []) := by
        intro x3 x4 x5 x6 H locs ls hf hP hD hS hl
        unfold f_X10_bestFrom_68 at hf
        refine lv_iinc (v := (x6 + (1 : Int32))) (lv' := [(6, .int (x6 + (1 : Int32))), (0, .ref qv0), (1, .ref qd0), (3, .int x3), (4, .int x4), (5, .int x5)]) hx hb dX10_bestFrom_68 hl (k := 5) rfl rfl (by decide) rfl (fun ls hl => ?_)
        refine lv_goto (tgt := 17) hx hb dX10_bestFrom_71 (by decide) ?_
        exact ih17 x3 x4 x5 (x6 + (1 : Int32)) _ _ _ hf hP hD hS (lv_sub hl [1, 2, 3, 4, 5, 0] rfl)
      intro x3 x4 x5 x6 H locs ls hf hP hD hS hl
      rw [f_X10_bestFrom_17.eq_2] at hf
      refine lv_iload hx hb dX10_bestFrom_17 (lv_at hl 5 rfl) ?_
      refine lv_aload_n hx hb dX10_bestFrom_19 rfl (lv_at hl 1 rfl) ?_
      refine gfX10_51 hx hb hts hown hK hP 3 rfl rfl dX10_bestFrom_20 ?_
      refine xicmp_ge hx hb 74 dX10_bestFrom_23 (by decide) hf (fun hf => ?_) (fun hf => ?_)
      · refine lv_iload hx hb dX10_bestFrom_74 (lv_at hl 4 rfl) ?_
        cases hf
        exact mret_i hx hb hr hlocks hP hD hS dX10_bestFrom_76 rfl trivial
      · refine lv_iload hx hb dX10_bestFrom_26 (lv_at hl 5 rfl) ?_
        refine lv_bipush (v := (8 : Int32)) hx hb dX10_bestFrom_28 (by decide) ?_
        refine xicmp_ge hx hb 74 dX10_bestFrom_30 (by decide) hf (fun hf => ?_) (fun hf => ?_)
        · refine lv_iload hx hb dX10_bestFrom_74 (lv_at hl 4 rfl) ?_
          cases hf
          exact mret_i hx hb hr hlocks hP hD hS dX10_bestFrom_76 rfl trivial
        · refine lv_iload hx hb dX10_bestFrom_33 (lv_at hl 3 rfl) ?_
          refine lv_iload hx hb dX10_bestFrom_35 (lv_at hl 5 rfl) ?_
          refine lv_ishr hx hb dX10_bestFrom_37 ?_
          refine lv_iconst (v := (1 : Int32)) hx hb dX10_bestFrom_38 (by decide) ?_
          refine lv_iand hx hb dX10_bestFrom_39 ?_
          refine lv_iconst (v := (1 : Int32)) hx hb dX10_bestFrom_40 (by decide) ?_
          refine xicmp_ne hx hb 68 dX10_bestFrom_41 (by decide) hf (fun hf => ?_) (fun hf => ?_)
          · refine lv_iload hx hb dX10_bestFrom_44 (lv_at hl 4 rfl) ?_
            refine lv_aload_n hx hb dX10_bestFrom_46 rfl (lv_at hl 0 rfl) ?_
            refine gfX10_29 hx hb hts hown hK hP 0 rfl rfl dX10_bestFrom_47 ?_
            refine lv_iload hx hb dX10_bestFrom_50 (lv_at hl 5 rfl) ?_
            refine xiald hx hb hK hP 1 0 rfl rfl dX10_bestFrom_52 hf (fun v52 hf => ?_)
            refine lv_aload_n hx hb dX10_bestFrom_53 rfl (lv_at hl 0 rfl) ?_
            refine lv_iload hx hb dX10_bestFrom_54 (lv_at hl 5 rfl) ?_
            refine lv_iload_n hx hb dX10_bestFrom_56 rfl (lv_at hl 2 rfl) ?_
            refine lv_iconst (v := (1 : Int32)) hx hb dX10_bestFrom_57 (by decide) ?_
            refine lv_isub hx hb dX10_bestFrom_58 ?_
            obtain ⟨r59, hg59, hf⟩ := ob1_some hf
            refine mcV_i (wr := [(qv1, .inl (cI, 8, .inl v_liv)), (qd0, .inr (2, [.int d_n, .ref qd1, .ref qd2])), (qd2, .inl (cI, 8, .inl d_road))]) (As := [.int x6, .int (x3 - (1 : Int32))]) (rest := [.int v52, .int x5]) hx hb hml hown hts hK hP hD hS hA (k_X10_bestAfter l N D cI cJ cZ cB cT qv0 qv2 qv1 qv3 qv4 qv5 v_up v_low v_gone v_may v_must v_best x6 (x3 - (1 : Int32)) r59 hg59) (kwX10_90 hts rfl rfl ⟨Nat.le_of_ble_eq_true rfl, Nat.le_of_ble_eq_true rfl⟩) [0, 2] [1, 3, 4] rfl rfl rfl (by decide) rfl 0 rfl rfl rfl rfl hl.1 rfl (Nat.le_of_ble_eq_true rfl) dX10_bestFrom_59 ⟨Nat.zero_le _, Nat.zero_le _⟩ (fun hB59 H locs hP hD hS => ?_)
            have hP := mP_sub (wc := (W_WYL_0t2_6_8 qv0 qv1 qv2 qd0 qd2 qv3 qv4 qv5 qd1 cI cJ cZ cB cT v_up v_low v_gone v_may v_must v_liv v_best d_n d_road)) hP [3, 0, 4, 1, 2] rfl
            have hD := hD.sub (ws' := (W_WYL_0t2_6_8 qv0 qv1 qv2 qd0 qd2 qv3 qv4 qv5 qd1 cI cJ cZ cB cT v_up v_low v_gone v_may v_must v_liv v_best d_n d_road)) [3, 0, 4, 1, 2] rfl rfl
            refine lv_imul hx hb dX10_bestFrom_62 ?_
            refine xmax hx hb hml hl.1 hown hts mtX10_93 (Nat.le_of_ble_eq_true rfl) (Nat.le_of_ble_eq_true rfl) ⟨Nat.zero_le _, Nat.zero_le _⟩ dX10_bestFrom_63 ?_
            refine lv_istore (lv' := [(5, .int (mxI x5 (v52 * r59))), (0, .ref qv0), (1, .ref qd0), (3, .int x3), (4, .int x4), (6, .int x6)]) hx hb dX10_bestFrom_66 hl (by decide) rfl (fun ls hl => ?_)
            exact b68 x3 x4 (mxI x5 (v52 * r59)) x6 _ _ _ hf hP hD hS (lv_sub hl [1, 2, 3, 4, 0, 5] rfl)
          · exact b68 x3 x4 x5 x6 _ _ _ hf hP hD hS (lv_sub hl [0, 1, 2, 3, 4, 5] rfl)
  unfold f_X10_bestFrom at hf
  refine lv_aload_n hx hb dX10_bestFrom_0 rfl (lv_at hl 1 rfl) ?_
  refine lv_iload_n hx hb dX10_bestFrom_1 rfl (lv_at hl 2 rfl) ?_
  obtain ⟨r2, hg2, hf⟩ := ob1_some hf
  refine mcV_i (wr := [(qv0, .inr (10, [.int v_up, .int v_low, .int v_gone, .int v_may, .int v_must, .ref qv1, .ref qv2, .ref qv3, .ref qv4, .ref qv5])), (qv1, .inl (cI, 8, .inl v_liv)), (qv2, .inl (cI, 56, .inl v_best))]) (As := [.int p2]) (rest := []) hx hb hml hown hts hK hP hD hS hA (k_X2_near l N D cI cJ cZ cB cT qd0 qd2 qd1 d_n d_road p2 r2 hg2) (kwX10_86 hts rfl rfl ⟨Nat.le_of_ble_eq_true rfl, Nat.le_of_ble_eq_true rfl⟩) [3, 4] [0, 1, 2] rfl rfl rfl (by decide) rfl 0 rfl rfl rfl rfl hl.1 rfl (Nat.le_of_ble_eq_true rfl) dX10_bestFrom_2 ⟨Nat.zero_le _, Nat.zero_le _⟩ (fun hB2 H locs hP hD hS => ?_)
  have hP := mP_sub (wc := (W_WYL_0t2_6_8 qv0 qv1 qv2 qd0 qd2 qv3 qv4 qv5 qd1 cI cJ cZ cB cT v_up v_low v_gone v_may v_must v_liv v_best d_n d_road)) hP [0, 1, 2, 3, 4] rfl
  have hD := hD.sub (ws' := (W_WYL_0t2_6_8 qv0 qv1 qv2 qd0 qd2 qv3 qv4 qv5 qd1 cI cJ cZ cB cT v_up v_low v_gone v_may v_must v_liv v_best d_n d_road)) [0, 1, 2, 3, 4] rfl rfl
  refine lv_iconst (v := (1 : Int32)) hx hb dX10_bestFrom_5 (by decide) ?_
  refine lv_iload_n hx hb dX10_bestFrom_6 rfl (lv_at hl 2 rfl) ?_
  refine lv_ishl hx hb dX10_bestFrom_7 ?_
  refine lv_ior hx hb dX10_bestFrom_8 ?_
  refine lv_istore (lv' := [(4, .int (r2 ||| ((1 : Int32) <<< (p2 &&& 31)))), (0, .ref qv0), (1, .ref qd0), (2, .int p2), (3, .int p3)]) hx hb dX10_bestFrom_9 hl (by decide) rfl (fun ls hl => ?_)
  refine lv_iconst (v := (0 : Int32)) hx hb dX10_bestFrom_11 (by decide) ?_
  refine lv_istore (lv' := [(5, .int (0 : Int32)), (4, .int (r2 ||| ((1 : Int32) <<< (p2 &&& 31)))), (0, .ref qv0), (1, .ref qd0), (2, .int p2), (3, .int p3)]) hx hb dX10_bestFrom_12 hl (by decide) rfl (fun ls hl => ?_)
  refine lv_iconst (v := (0 : Int32)) hx hb dX10_bestFrom_14 (by decide) ?_
  refine lv_istore (lv' := [(6, .int (0 : Int32)), (5, .int (0 : Int32)), (4, .int (r2 ||| ((1 : Int32) <<< (p2 &&& 31)))), (0, .ref qv0), (1, .ref qd0), (2, .int p2), (3, .int p3)]) hx hb dX10_bestFrom_15 hl (by decide) rfl (fun ls hl => ?_)
  exact b17 N p3 (r2 ||| ((1 : Int32) <<< (p2 &&& 31))) (0 : Int32) (0 : Int32) _ _ _ hf hP hD hS (lv_sub hl [3, 4, 6, 2, 1, 0] rfl)
theorem dX10_follow_0 : decode cX10_follow 0 = .ok (.iload_n 2, 1) := by decide +kernel
theorem dX10_follow_1 : decode cX10_follow 1 = .ok (.istore 4, 2) := by decide +kernel
theorem dX10_follow_3 : decode cX10_follow 3 = .ok (.iconst 1, 1) := by decide +kernel
theorem dX10_follow_4 : decode cX10_follow 4 = .ok (.istore 5, 2) := by decide +kernel
theorem dX10_follow_6 : decode cX10_follow 6 = .ok (.iconst 0, 1) := by decide +kernel
theorem dX10_follow_7 : decode cX10_follow 7 = .ok (.istore 6, 2) := by decide +kernel
theorem dX10_follow_9 : decode cX10_follow 9 = .ok (.iload 6, 2) := by decide +kernel
theorem dX10_follow_11 : decode cX10_follow 11 = .ok (.iload_n 3, 1) := by decide +kernel
theorem dX10_follow_12 : decode cX10_follow 12 = .ok (.if_icmp .ge 151, 3) := by decide +kernel
theorem dX10_follow_15 : decode cX10_follow 15 = .ok (.iload 6, 2) := by decide +kernel
theorem dX10_follow_17 : decode cX10_follow 17 = .ok (.bipush 6, 2) := by decide +kernel
theorem dX10_follow_19 : decode cX10_follow 19 = .ok (.if_icmp .ge 144, 3) := by decide +kernel
theorem dX10_follow_22 : decode cX10_follow 22 = .ok (.aload_n 1, 1) := by decide +kernel
theorem dX10_follow_23 : decode cX10_follow 23 = .ok (.iload 4, 2) := by decide +kernel
theorem dX10_follow_25 : decode cX10_follow 25 = .ok (.invokevirtual 86, 3) := by decide +kernel
theorem dX10_follow_28 : decode cX10_follow 28 = .ok (.iconst 1, 1) := by decide +kernel
theorem dX10_follow_29 : decode cX10_follow 29 = .ok (.iload 4, 2) := by decide +kernel
theorem dX10_follow_31 : decode cX10_follow 31 = .ok (.ishl, 1) := by decide +kernel
theorem dX10_follow_32 : decode cX10_follow 32 = .ok (.ior, 1) := by decide +kernel
theorem dX10_follow_33 : decode cX10_follow 33 = .ok (.istore 7, 2) := by decide +kernel
theorem dX10_follow_35 : decode cX10_follow 35 = .ok (.iconst 0, 1) := by decide +kernel
theorem dX10_follow_36 : decode cX10_follow 36 = .ok (.istore 8, 2) := by decide +kernel
theorem dX10_follow_38 : decode cX10_follow 38 = .ok (.iload 8, 2) := by decide +kernel
theorem dX10_follow_40 : decode cX10_follow 40 = .ok (.aload_n 1, 1) := by decide +kernel
theorem dX10_follow_41 : decode cX10_follow 41 = .ok (.getfield 51, 3) := by decide +kernel
theorem dX10_follow_44 : decode cX10_follow 44 = .ok (.if_icmp .ge 76, 3) := by decide +kernel
theorem dX10_follow_47 : decode cX10_follow 47 = .ok (.iload 8, 2) := by decide +kernel
theorem dX10_follow_49 : decode cX10_follow 49 = .ok (.bipush 8, 2) := by decide +kernel
theorem dX10_follow_51 : decode cX10_follow 51 = .ok (.if_icmp .ge 69, 3) := by decide +kernel
theorem dX10_follow_54 : decode cX10_follow 54 = .ok (.iload 7, 2) := by decide +kernel
theorem dX10_follow_56 : decode cX10_follow 56 = .ok (.iload 8, 2) := by decide +kernel
theorem dX10_follow_58 : decode cX10_follow 58 = .ok (.ishr, 1) := by decide +kernel
theorem dX10_follow_59 : decode cX10_follow 59 = .ok (.iconst 1, 1) := by decide +kernel
theorem dX10_follow_60 : decode cX10_follow 60 = .ok (.iand, 1) := by decide +kernel
theorem dX10_follow_61 : decode cX10_follow 61 = .ok (.iconst 1, 1) := by decide +kernel
theorem dX10_follow_62 : decode cX10_follow 62 = .ok (.if_icmp .ne 7, 3) := by decide +kernel
theorem dX10_follow_65 : decode cX10_follow 65 = .ok (.iconst 1, 1) := by decide +kernel
theorem dX10_follow_66 : decode cX10_follow 66 = .ok (.goto 4, 3) := by decide +kernel
theorem dX10_follow_69 : decode cX10_follow 69 = .ok (.iconst 0, 1) := by decide +kernel
theorem dX10_follow_70 : decode cX10_follow 70 = .ok (.istore 9, 2) := by decide +kernel
theorem dX10_follow_72 : decode cX10_follow 72 = .ok (.iload 9, 2) := by decide +kernel
theorem dX10_follow_74 : decode cX10_follow 74 = .ok (.ifCond .eq 40, 3) := by decide +kernel
theorem dX10_follow_77 : decode cX10_follow 77 = .ok (.iload 5, 2) := by decide +kernel
theorem dX10_follow_79 : decode cX10_follow 79 = .ok (.aload_n 0, 1) := by decide +kernel
theorem dX10_follow_80 : decode cX10_follow 80 = .ok (.getfield 29, 3) := by decide +kernel
theorem dX10_follow_83 : decode cX10_follow 83 = .ok (.iload 8, 2) := by decide +kernel
theorem dX10_follow_85 : decode cX10_follow 85 = .ok (.iaload, 1) := by decide +kernel
theorem dX10_follow_86 : decode cX10_follow 86 = .ok (.imul, 1) := by decide +kernel
theorem dX10_follow_87 : decode cX10_follow 87 = .ok (.aload_n 0, 1) := by decide +kernel
theorem dX10_follow_88 : decode cX10_follow 88 = .ok (.iload 8, 2) := by decide +kernel
theorem dX10_follow_90 : decode cX10_follow 90 = .ok (.iload_n 3, 1) := by decide +kernel
theorem dX10_follow_91 : decode cX10_follow 91 = .ok (.iconst 1, 1) := by decide +kernel
theorem dX10_follow_92 : decode cX10_follow 92 = .ok (.isub, 1) := by decide +kernel
theorem dX10_follow_93 : decode cX10_follow 93 = .ok (.iload 6, 2) := by decide +kernel
theorem dX10_follow_95 : decode cX10_follow 95 = .ok (.isub, 1) := by decide +kernel
theorem dX10_follow_96 : decode cX10_follow 96 = .ok (.invokevirtual 90, 3) := by decide +kernel
theorem dX10_follow_99 : decode cX10_follow 99 = .ok (.imul, 1) := by decide +kernel
theorem dX10_follow_100 : decode cX10_follow 100 = .ok (.aload_n 0, 1) := by decide +kernel
theorem dX10_follow_101 : decode cX10_follow 101 = .ok (.getfield 13, 3) := by decide +kernel
theorem dX10_follow_104 : decode cX10_follow 104 = .ok (.if_icmp .ne 10, 3) := by decide +kernel
theorem dX10_follow_107 : decode cX10_follow 107 = .ok (.iload 8, 2) := by decide +kernel
theorem dX10_follow_109 : decode cX10_follow 109 = .ok (.istore 4, 2) := by decide +kernel
theorem dX10_follow_111 : decode cX10_follow 111 = .ok (.goto 9, 3) := by decide +kernel
theorem dX10_follow_114 : decode cX10_follow 114 = .ok (.iinc 8 1, 3) := by decide +kernel
theorem dX10_follow_117 : decode cX10_follow 117 = .ok (.goto (-79), 3) := by decide +kernel
theorem dX10_follow_120 : decode cX10_follow 120 = .ok (.aload_n 0, 1) := by decide +kernel
theorem dX10_follow_121 : decode cX10_follow 121 = .ok (.getfield 36, 3) := by decide +kernel
theorem dX10_follow_124 : decode cX10_follow 124 = .ok (.iload 6, 2) := by decide +kernel
theorem dX10_follow_126 : decode cX10_follow 126 = .ok (.iload 4, 2) := by decide +kernel
theorem dX10_follow_128 : decode cX10_follow 128 = .ok (.iastore, 1) := by decide +kernel
theorem dX10_follow_129 : decode cX10_follow 129 = .ok (.iload 5, 2) := by decide +kernel
theorem dX10_follow_131 : decode cX10_follow 131 = .ok (.iload 4, 2) := by decide +kernel
theorem dX10_follow_133 : decode cX10_follow 133 = .ok (.ifCond .lt 20, 3) := by decide +kernel
theorem dX10_follow_136 : decode cX10_follow 136 = .ok (.iload 4, 2) := by decide +kernel
theorem dX10_follow_138 : decode cX10_follow 138 = .ok (.bipush 8, 2) := by decide +kernel
theorem dX10_follow_140 : decode cX10_follow 140 = .ok (.if_icmp .ge 13, 3) := by decide +kernel
theorem dX10_follow_143 : decode cX10_follow 143 = .ok (.aload_n 0, 1) := by decide +kernel
theorem dX10_follow_144 : decode cX10_follow 144 = .ok (.getfield 29, 3) := by decide +kernel
theorem dX10_follow_147 : decode cX10_follow 147 = .ok (.iload 4, 2) := by decide +kernel
theorem dX10_follow_149 : decode cX10_follow 149 = .ok (.iaload, 1) := by decide +kernel
theorem dX10_follow_150 : decode cX10_follow 150 = .ok (.goto 4, 3) := by decide +kernel
theorem dX10_follow_153 : decode cX10_follow 153 = .ok (.iconst 0, 1) := by decide +kernel
theorem dX10_follow_154 : decode cX10_follow 154 = .ok (.imul, 1) := by decide +kernel
theorem dX10_follow_155 : decode cX10_follow 155 = .ok (.istore 5, 2) := by decide +kernel
theorem dX10_follow_157 : decode cX10_follow 157 = .ok (.iinc 6 1, 3) := by decide +kernel
theorem dX10_follow_160 : decode cX10_follow 160 = .ok (.goto (-151), 3) := by decide +kernel
theorem dX10_follow_163 : decode cX10_follow 163 = .ok (.return_, 1) := by decide +kernel
def f_X10_follow_154 (N : Nat) (k_9 : Int32 → (Nat → Int32) → (Nat → Int32) → (Nat → Int32) → Int32 → (Nat → Int32) → Int32 → Int32 → Int32 → Int32 → Option ((Nat → Int32))) (v_up : Int32) (v_liv : Nat → Int32) (v_best : Nat → Int32) (v_way : Nat → Int32) (d_n : Int32) (d_road : Nat → Int32) (x3 : Int32) (x4 : Int32) (x6 : Int32) (s0 : Int32) (s1 : Int32) : Option ((Nat → Int32)) := k_9 v_up v_liv v_best v_way d_n d_road x3 x4 (s0 * s1) (x6 + (1 : Int32))
def f_X10_follow_153 (N : Nat) (k_9 : Int32 → (Nat → Int32) → (Nat → Int32) → (Nat → Int32) → Int32 → (Nat → Int32) → Int32 → Int32 → Int32 → Int32 → Option ((Nat → Int32))) (v_up : Int32) (v_liv : Nat → Int32) (v_best : Nat → Int32) (v_way : Nat → Int32) (d_n : Int32) (d_road : Nat → Int32) (x3 : Int32) (x4 : Int32) (x6 : Int32) (s0 : Int32) : Option ((Nat → Int32)) := f_X10_follow_154 N k_9 v_up v_liv v_best v_way d_n d_road x3 x4 x6 s0 (0 : Int32)
def f_X10_follow_120 (N : Nat) (k_9 : Int32 → (Nat → Int32) → (Nat → Int32) → (Nat → Int32) → Int32 → (Nat → Int32) → Int32 → Int32 → Int32 → Int32 → Option ((Nat → Int32))) (v_up : Int32) (v_liv : Nat → Int32) (v_best : Nat → Int32) (v_way : Nat → Int32) (d_n : Int32) (d_road : Nat → Int32) (x3 : Int32) (x4 : Int32) (x5 : Int32) (x6 : Int32) : Option ((Nat → Int32)) := sA v_way 6 x6 x4 fun v_way_128 => if x4 < 0 then (f_X10_follow_153 N k_9 v_up v_liv v_best v_way_128 d_n d_road x3 x4 x6 x5) else (if (8 : Int32) ≤ x4 then (f_X10_follow_153 N k_9 v_up v_liv v_best v_way_128 d_n d_road x3 x4 x6 x5) else (gA v_liv 8 x4 fun v149 => f_X10_follow_154 N k_9 v_up v_liv v_best v_way_128 d_n d_road x3 x4 x6 x5 v149))
def f_X10_follow_114 (N : Nat) (k_38 : Int32 → (Nat → Int32) → (Nat → Int32) → (Nat → Int32) → Int32 → (Nat → Int32) → Int32 → Int32 → Int32 → Int32 → Int32 → Int32 → Option ((Nat → Int32))) (k_9 : Int32 → (Nat → Int32) → (Nat → Int32) → (Nat → Int32) → Int32 → (Nat → Int32) → Int32 → Int32 → Int32 → Int32 → Option ((Nat → Int32))) (v_up : Int32) (v_liv : Nat → Int32) (v_best : Nat → Int32) (v_way : Nat → Int32) (d_n : Int32) (d_road : Nat → Int32) (x3 : Int32) (x4 : Int32) (x5 : Int32) (x6 : Int32) (x7 : Int32) (x8 : Int32) : Option ((Nat → Int32)) := k_38 v_up v_liv v_best v_way d_n d_road x3 x4 x5 x6 x7 (x8 + (1 : Int32))
def f_X10_follow_70 (N : Nat) (k_38 : Int32 → (Nat → Int32) → (Nat → Int32) → (Nat → Int32) → Int32 → (Nat → Int32) → Int32 → Int32 → Int32 → Int32 → Int32 → Int32 → Option ((Nat → Int32))) (k_9 : Int32 → (Nat → Int32) → (Nat → Int32) → (Nat → Int32) → Int32 → (Nat → Int32) → Int32 → Int32 → Int32 → Int32 → Option ((Nat → Int32))) (v_up : Int32) (v_liv : Nat → Int32) (v_best : Nat → Int32) (v_way : Nat → Int32) (d_n : Int32) (d_road : Nat → Int32) (x3 : Int32) (x4 : Int32) (x5 : Int32) (x6 : Int32) (x7 : Int32) (x8 : Int32) (s0 : Int32) : Option ((Nat → Int32)) := if s0 = 0 then (f_X10_follow_114 N k_38 k_9 v_up v_liv v_best v_way d_n d_road x3 x4 x5 x6 x7 x8) else (gA v_liv 8 x8 fun v85 => ob1 (f_X10_bestAfter N v_best x8 ((x3 - (1 : Int32)) - x6)) fun r96 => if ((x5 * v85) * r96) = v_up then (f_X10_follow_120 N k_9 v_up v_liv v_best v_way d_n d_road x3 x8 x5 x6) else (f_X10_follow_114 N k_38 k_9 v_up v_liv v_best v_way d_n d_road x3 x4 x5 x6 x7 x8))
def f_X10_follow_38 (N : Nat) (k_9 : Int32 → (Nat → Int32) → (Nat → Int32) → (Nat → Int32) → Int32 → (Nat → Int32) → Int32 → Int32 → Int32 → Int32 → Option ((Nat → Int32))) : Nat → Int32 → (Nat → Int32) → (Nat → Int32) → (Nat → Int32) → Int32 → (Nat → Int32) → Int32 → Int32 → Int32 → Int32 → Int32 → Int32 → Option ((Nat → Int32))
  | 0, _, _, _, _, _, _, _, _, _, _, _, _ => none
  | n + 1, v_up, v_liv, v_best, v_way, d_n, d_road, x3, x4, x5, x6, x7, x8 => if d_n ≤ x8 then (f_X10_follow_120 N k_9 v_up v_liv v_best v_way d_n d_road x3 x4 x5 x6) else (if (8 : Int32) ≤ x8 then (f_X10_follow_120 N k_9 v_up v_liv v_best v_way d_n d_road x3 x4 x5 x6) else (if ((x7 >>> (x8 &&& 31)) &&& (1 : Int32)) = (1 : Int32) then (f_X10_follow_70 N (f_X10_follow_38 N k_9 n) k_9 v_up v_liv v_best v_way d_n d_road x3 x4 x5 x6 x7 x8 (1 : Int32)) else (f_X10_follow_70 N (f_X10_follow_38 N k_9 n) k_9 v_up v_liv v_best v_way d_n d_road x3 x4 x5 x6 x7 x8 (0 : Int32))))
def f_X10_follow_9 (N : Nat) : Nat → Int32 → (Nat → Int32) → (Nat → Int32) → (Nat → Int32) → Int32 → (Nat → Int32) → Int32 → Int32 → Int32 → Int32 → Option ((Nat → Int32))
  | 0, _, _, _, _, _, _, _, _, _, _ => none
  | n + 1, v_up, v_liv, v_best, v_way, d_n, d_road, x3, x4, x5, x6 => if x3 ≤ x6 then (some v_way) else (if (6 : Int32) ≤ x6 then (some v_way) else (ob1 (f_X2_near N d_n d_road x4) fun r25 => f_X10_follow_38 N (f_X10_follow_9 N n) N v_up v_liv v_best v_way d_n d_road x3 x4 x5 x6 (r25 ||| ((1 : Int32) <<< (x4 &&& 31))) (0 : Int32)))
def f_X10_follow (N : Nat) (v_up : Int32) (v_liv : Nat → Int32) (v_best : Nat → Int32) (v_way : Nat → Int32) (d_n : Int32) (d_road : Nat → Int32) (p2 : Int32) (p3 : Int32) : Option ((Nat → Int32)) := f_X10_follow_9 N N v_up v_liv v_best v_way d_n d_road p3 p2 (1 : Int32) (0 : Int32)
set_option maxHeartbeats 4000000 in
set_option maxRecDepth 100000 in
theorem k_X10_follow (l : Launch) (N : Nat) (D : va_G) (cI cJ cZ cB cT : ClassId) (qv0 : Nat) (qv1 : Nat) (qv2 : Nat) (qv3 : Nat) (qd0 : Nat) (qd2 : Nat) (qv4 : Nat) (qv5 : Nat) (qd1 : Nat) (v_up : Int32) (v_low : Int32) (v_gone : Int32) (v_may : Int32) (v_must : Int32) (v_liv : Nat → Int32) (v_best : Nat → Int32) (v_way : Nat → Int32) (d_n : Int32) (d_road : Nat → Int32) (p2 : Int32) (p3 : Int32) (o_v_way : Nat → Int32) (hf : f_X10_follow N v_up v_liv v_best v_way d_n d_road p2 p3 = some o_v_way) : ∀ sz, Met l yX10_follow (mw yX10_follow cX10_follow 10 none) ({ frames := 1, cells := 0, slots := 0, locals := 23 } : Room) (mPre D (mT cI cJ cZ cB cT) (W_WYL_0t3_6_8 qv0 qv1 qv2 qv3 qd0 qd2 qv4 qv5 qd1 cI cJ cZ cB cT v_up v_low v_gone v_may v_must v_liv v_best v_way d_n d_road) sz [.ref qv0, .ref qd0, .int p2, .int p3]) ((mQv D (W_WYL_0t3_6_8 qv0 qv1 qv2 qv3 qd0 qd2 qv4 qv5 qd1 cI cJ cZ cB cT v_up v_low v_gone v_may v_must v_liv v_best o_v_way d_n d_road)) (va_A (W_WYL_0t3_6_8 qv0 qv1 qv2 qv3 qd0 qd2 qv4 qv5 qd1 cI cJ cZ cB cT v_up v_low v_gone v_may v_must v_liv v_best v_way d_n d_road) sz)) 0 0 (va_A (W_WYL_0t3_6_8 qv0 qv1 qv2 qv3 qd0 qd2 qv4 qv5 qd1 cI cJ cZ cB cT v_up v_low v_gone v_may v_must v_liv v_best v_way d_n d_road) sz) := by
  refine mMet (Qc := (mQv D (W_WYL_0t3_6_8 qv0 qv1 qv2 qv3 qd0 qd2 qv4 qv5 qd1 cI cJ cZ cB cT v_up v_low v_gone v_may v_must v_liv v_best o_v_way d_n d_road))) (by decide) (Nat.le_of_ble_eq_true rfl) (fun p e s m below meth c A ls hx hb hr hml hts hown hlocks hK hA hP hD hl => ?_)
  have hown : s.vm.findClass RX10 = some m.cls := hown
  have hl : lv_has ls 10 [(0, .ref qv0), (1, .ref qd0), (2, .int p2), (3, .int p3)] := hl
  have hS : va_S A s.heap s.heap [] := va_S.rf
  have b9 : ∀ n9 : Nat, ∀ (v_way : Nat → Int32) (x3 : Int32) (x4 : Int32) (x5 : Int32) (x6 : Int32) (H : Heap) (locs : List Loc) (ls : Array Slot), f_X10_follow_9 N n9 v_up v_liv v_best v_way d_n d_road x3 x4 x5 x6 = some o_v_way → va_P D vwCl (W_WYL_0t3_6_8 qv0 qv1 qv2 qv3 qd0 qd2 qv4 qv5 qd1 cI cJ cZ cB cT v_up v_low v_gone v_may v_must v_liv v_best v_way d_n d_road) H → va_D A (W_WYL_0t3_6_8 qv0 qv1 qv2 qv3 qd0 qd2 qv4 qv5 qd1 cI cJ cZ cB cT v_up v_low v_gone v_may v_must v_liv v_best v_way d_n d_road) → va_S A s.heap H locs → lv_has ls 10 [(0, .ref qv0), (1, .ref qd0), (3, .int x3), (4, .int x4), (5, .int x5), (6, .int x6)] → W p l e ({ frames := 1, cells := 0, slots := 0, locals := 23 } : Room) s m ([.ref qv0, .ref qd0, .int p2, .int p3] : List Value).toArray below meth c H locs 0 0 (MQ below ((mQv D (W_WYL_0t3_6_8 qv0 qv1 qv2 qv3 qd0 qd2 qv4 qv5 qd1 cI cJ cZ cB cT v_up v_low v_gone v_may v_must v_liv v_best o_v_way d_n d_road)) A) ([.ref qv0, .ref qd0, .int p2, .int p3] : List Value).toArray s 0 0 A) (F0 m 9 ls []) := by
    intro n9
    induction n9 with
    | zero =>
      intro v_way x3 x4 x5 x6 H locs ls hf hP hD hS hl
      simp [f_X10_follow_9] at hf
    | succ n9 ih9 =>
      have b154 : ∀ (v_way : Nat → Int32) (x3 : Int32) (x4 : Int32) (x6 : Int32) (s0 : Int32) (s1 : Int32) (H : Heap) (locs : List Loc) (ls : Array Slot), f_X10_follow_154 N (f_X10_follow_9 N n9) v_up v_liv v_best v_way d_n d_road x3 x4 x6 s0 s1 = some o_v_way → va_P D vwCl (W_WYL_0t3_6_8 qv0 qv1 qv2 qv3 qd0 qd2 qv4 qv5 qd1 cI cJ cZ cB cT v_up v_low v_gone v_may v_must v_liv v_best v_way d_n d_road) H → va_D A (W_WYL_0t3_6_8 qv0 qv1 qv2 qv3 qd0 qd2 qv4 qv5 qd1 cI cJ cZ cB cT v_up v_low v_gone v_may v_must v_liv v_best v_way d_n d_road) → va_S A s.heap H locs → lv_has ls 10 [(0, .ref qv0), (1, .ref qd0), (3, .int x3), (4, .int x4), (6, .int x6)] → W p l e ({ frames := 1, cells := 0, slots := 0, locals := 23 } : Room) s m ([.ref qv0, .ref qd0, .int p2, .int p3] : List Value).toArray below meth c H locs 0 0 (MQ below ((mQv D (W_WYL_0t3_6_8 qv0 qv1 qv2 qv3 qd0 qd2 qv4 qv5 qd1 cI cJ cZ cB cT v_up v_low v_gone v_may v_must v_liv v_best o_v_way d_n d_road)) A) ([.ref qv0, .ref qd0, .int p2, .int p3] : List Value).toArray s 0 0 A) (F0 m 154 ls [.int s1, .int s0]) := by
        intro v_way x3 x4 x6 s0 s1 H locs ls hf hP hD hS hl
        unfold f_X10_follow_154 at hf
        refine lv_imul hx hb dX10_follow_154 ?_
        refine lv_istore (lv' := [(5, .int (s0 * s1)), (0, .ref qv0), (1, .ref qd0), (3, .int x3), (4, .int x4), (6, .int x6)]) hx hb dX10_follow_155 hl (by decide) rfl (fun ls hl => ?_)
        refine lv_iinc (v := (x6 + (1 : Int32))) (lv' := [(6, .int (x6 + (1 : Int32))), (5, .int (s0 * s1)), (0, .ref qv0), (1, .ref qd0), (3, .int x3), (4, .int x4)]) hx hb dX10_follow_157 hl (k := 5) rfl rfl (by decide) rfl (fun ls hl => ?_)
        refine lv_goto (tgt := 9) hx hb dX10_follow_160 (by decide) ?_
        exact ih9 v_way x3 x4 (s0 * s1) (x6 + (1 : Int32)) _ _ _ hf hP hD hS (lv_sub hl [2, 3, 4, 5, 1, 0] rfl)
      have b153 : ∀ (v_way : Nat → Int32) (x3 : Int32) (x4 : Int32) (x6 : Int32) (s0 : Int32) (H : Heap) (locs : List Loc) (ls : Array Slot), f_X10_follow_153 N (f_X10_follow_9 N n9) v_up v_liv v_best v_way d_n d_road x3 x4 x6 s0 = some o_v_way → va_P D vwCl (W_WYL_0t3_6_8 qv0 qv1 qv2 qv3 qd0 qd2 qv4 qv5 qd1 cI cJ cZ cB cT v_up v_low v_gone v_may v_must v_liv v_best v_way d_n d_road) H → va_D A (W_WYL_0t3_6_8 qv0 qv1 qv2 qv3 qd0 qd2 qv4 qv5 qd1 cI cJ cZ cB cT v_up v_low v_gone v_may v_must v_liv v_best v_way d_n d_road) → va_S A s.heap H locs → lv_has ls 10 [(0, .ref qv0), (1, .ref qd0), (3, .int x3), (4, .int x4), (6, .int x6)] → W p l e ({ frames := 1, cells := 0, slots := 0, locals := 23 } : Room) s m ([.ref qv0, .ref qd0, .int p2, .int p3] : List Value).toArray below meth c H locs 0 0 (MQ below ((mQv D (W_WYL_0t3_6_8 qv0 qv1 qv2 qv3 qd0 qd2 qv4 qv5 qd1 cI cJ cZ cB cT v_up v_low v_gone v_may v_must v_liv v_best o_v_way d_n d_road)) A) ([.ref qv0, .ref qd0, .int p2, .int p3] : List Value).toArray s 0 0 A) (F0 m 153 ls [.int s0]) := by
        intro v_way x3 x4 x6 s0 H locs ls hf hP hD hS hl
        unfold f_X10_follow_153 at hf
        refine lv_iconst (v := (0 : Int32)) hx hb dX10_follow_153 (by decide) ?_
        exact b154 v_way x3 x4 x6 s0 (0 : Int32) _ _ _ hf hP hD hS (lv_sub hl [0, 1, 2, 3, 4] rfl)
      have b120 : ∀ (v_way : Nat → Int32) (x3 : Int32) (x4 : Int32) (x5 : Int32) (x6 : Int32) (H : Heap) (locs : List Loc) (ls : Array Slot), f_X10_follow_120 N (f_X10_follow_9 N n9) v_up v_liv v_best v_way d_n d_road x3 x4 x5 x6 = some o_v_way → va_P D vwCl (W_WYL_0t3_6_8 qv0 qv1 qv2 qv3 qd0 qd2 qv4 qv5 qd1 cI cJ cZ cB cT v_up v_low v_gone v_may v_must v_liv v_best v_way d_n d_road) H → va_D A (W_WYL_0t3_6_8 qv0 qv1 qv2 qv3 qd0 qd2 qv4 qv5 qd1 cI cJ cZ cB cT v_up v_low v_gone v_may v_must v_liv v_best v_way d_n d_road) → va_S A s.heap H locs → lv_has ls 10 [(0, .ref qv0), (1, .ref qd0), (3, .int x3), (4, .int x4), (5, .int x5), (6, .int x6)] → W p l e ({ frames := 1, cells := 0, slots := 0, locals := 23 } : Room) s m ([.ref qv0, .ref qd0, .int p2, .int p3] : List Value).toArray below meth c H locs 0 0 (MQ below ((mQv D (W_WYL_0t3_6_8 qv0 qv1 qv2 qv3 qd0 qd2 qv4 qv5 qd1 cI cJ cZ cB cT v_up v_low v_gone v_may v_must v_liv v_best o_v_way d_n d_road)) A) ([.ref qv0, .ref qd0, .int p2, .int p3] : List Value).toArray s 0 0 A) (F0 m 120 ls []) := by
        intro v_way x3 x4 x5 x6 H locs ls hf hP hD hS hl
        unfold f_X10_follow_120 at hf
        refine lv_aload_n hx hb dX10_follow_120 rfl (lv_at hl 0 rfl) ?_
        refine gfX10_36 hx hb hts hown hK hP 0 rfl rfl dX10_follow_121 ?_
        refine lv_iload hx hb dX10_follow_124 (lv_at hl 5 rfl) ?_
        refine lv_iload hx hb dX10_follow_126 (lv_at hl 3 rfl) ?_
        refine xiast hx hb hK hP hD hS 3 0 rfl rfl dX10_follow_128 hf (fun v_way_128 hf H locs hP hD hS => ?_)
        have hP : va_P D vwCl (W_WYL_0t3_6_8 qv0 qv1 qv2 qv3 qd0 qd2 qv4 qv5 qd1 cI cJ cZ cB cT v_up v_low v_gone v_may v_must v_liv v_best v_way_128 d_n d_road) H := hP
        have hD : va_D A (W_WYL_0t3_6_8 qv0 qv1 qv2 qv3 qd0 qd2 qv4 qv5 qd1 cI cJ cZ cB cT v_up v_low v_gone v_may v_must v_liv v_best v_way_128 d_n d_road) := hD
        refine lv_iload hx hb dX10_follow_129 (lv_at hl 4 rfl) ?_
        refine lv_iload hx hb dX10_follow_131 (lv_at hl 3 rfl) ?_
        refine xif_lt hx hb 153 dX10_follow_133 (by decide) hf (fun hf => ?_) (fun hf => ?_)
        · exact b153 v_way_128 x3 x4 x6 x5 _ _ _ hf hP hD hS (lv_sub hl [0, 1, 2, 3, 5] rfl)
        · refine lv_iload hx hb dX10_follow_136 (lv_at hl 3 rfl) ?_
          refine lv_bipush (v := (8 : Int32)) hx hb dX10_follow_138 (by decide) ?_
          refine xicmp_ge hx hb 153 dX10_follow_140 (by decide) hf (fun hf => ?_) (fun hf => ?_)
          · exact b153 v_way_128 x3 x4 x6 x5 _ _ _ hf hP hD hS (lv_sub hl [0, 1, 2, 3, 5] rfl)
          · refine lv_aload_n hx hb dX10_follow_143 rfl (lv_at hl 0 rfl) ?_
            refine gfX10_29 hx hb hts hown hK hP 0 rfl rfl dX10_follow_144 ?_
            refine lv_iload hx hb dX10_follow_147 (lv_at hl 3 rfl) ?_
            refine xiald hx hb hK hP 1 0 rfl rfl dX10_follow_149 hf (fun v149 hf => ?_)
            refine lv_goto (tgt := 154) hx hb dX10_follow_150 (by decide) ?_
            exact b154 v_way_128 x3 x4 x6 x5 v149 _ _ _ hf hP hD hS (lv_sub hl [0, 1, 2, 3, 5] rfl)
      have b38 : ∀ n38 : Nat, ∀ (v_way : Nat → Int32) (x3 : Int32) (x4 : Int32) (x5 : Int32) (x6 : Int32) (x7 : Int32) (x8 : Int32) (H : Heap) (locs : List Loc) (ls : Array Slot), f_X10_follow_38 N (f_X10_follow_9 N n9) n38 v_up v_liv v_best v_way d_n d_road x3 x4 x5 x6 x7 x8 = some o_v_way → va_P D vwCl (W_WYL_0t3_6_8 qv0 qv1 qv2 qv3 qd0 qd2 qv4 qv5 qd1 cI cJ cZ cB cT v_up v_low v_gone v_may v_must v_liv v_best v_way d_n d_road) H → va_D A (W_WYL_0t3_6_8 qv0 qv1 qv2 qv3 qd0 qd2 qv4 qv5 qd1 cI cJ cZ cB cT v_up v_low v_gone v_may v_must v_liv v_best v_way d_n d_road) → va_S A s.heap H locs → lv_has ls 10 [(0, .ref qv0), (1, .ref qd0), (3, .int x3), (4, .int x4), (5, .int x5), (6, .int x6), (7, .int x7), (8, .int x8)] → W p l e ({ frames := 1, cells := 0, slots := 0, locals := 23 } : Room) s m ([.ref qv0, .ref qd0, .int p2, .int p3] : List Value).toArray below meth c H locs 0 0 (MQ below ((mQv D (W_WYL_0t3_6_8 qv0 qv1 qv2 qv3 qd0 qd2 qv4 qv5 qd1 cI cJ cZ cB cT v_up v_low v_gone v_may v_must v_liv v_best o_v_way d_n d_road)) A) ([.ref qv0, .ref qd0, .int p2, .int p3] : List Value).toArray s 0 0 A) (F0 m 38 ls []) := by
        intro n38
        induction n38 with
        | zero =>
          intro v_way x3 x4 x5 x6 x7 x8 H locs ls hf hP hD hS hl
          simp [f_X10_follow_38] at hf
        | succ n38 ih38 =>
          have b114 : ∀ (v_way : Nat → Int32) (x3 : Int32) (x4 : Int32) (x5 : Int32) (x6 : Int32) (x7 : Int32) (x8 : Int32) (H : Heap) (locs : List Loc) (ls : Array Slot), f_X10_follow_114 N (f_X10_follow_38 N (f_X10_follow_9 N n9) n38) (f_X10_follow_9 N n9) v_up v_liv v_best v_way d_n d_road x3 x4 x5 x6 x7 x8 = some o_v_way → va_P D vwCl (W_WYL_0t3_6_8 qv0 qv1 qv2 qv3 qd0 qd2 qv4 qv5 qd1 cI cJ cZ cB cT v_up v_low v_gone v_may v_must v_liv v_best v_way d_n d_road) H → va_D A (W_WYL_0t3_6_8 qv0 qv1 qv2 qv3 qd0 qd2 qv4 qv5 qd1 cI cJ cZ cB cT v_up v_low v_gone v_may v_must v_liv v_best v_way d_n d_road) → va_S A s.heap H locs → lv_has ls 10 [(0, .ref qv0), (1, .ref qd0), (3, .int x3), (4, .int x4), (5, .int x5), (6, .int x6), (7, .int x7), (8, .int x8)] → W p l e ({ frames := 1, cells := 0, slots := 0, locals := 23 } : Room) s m ([.ref qv0, .ref qd0, .int p2, .int p3] : List Value).toArray below meth c H locs 0 0 (MQ below ((mQv D (W_WYL_0t3_6_8 qv0 qv1 qv2 qv3 qd0 qd2 qv4 qv5 qd1 cI cJ cZ cB cT v_up v_low v_gone v_may v_must v_liv v_best o_v_way d_n d_road)) A) ([.ref qv0, .ref qd0, .int p2, .int p3] : List Value).toArray s 0 0 A) (F0 m 114 ls []) := by
            intro v_way x3 x4 x5 x6 x7 x8 H locs ls hf hP hD hS hl
            unfold f_X10_follow_114 at hf
            refine lv_iinc (v := (x8 + (1 : Int32))) (lv' := [(8, .int (x8 + (1 : Int32))), (0, .ref qv0), (1, .ref qd0), (3, .int x3), (4, .int x4), (5, .int x5), (6, .int x6), (7, .int x7)]) hx hb dX10_follow_114 hl (k := 7) rfl rfl (by decide) rfl (fun ls hl => ?_)
            refine lv_goto (tgt := 38) hx hb dX10_follow_117 (by decide) ?_
            exact ih38 v_way x3 x4 x5 x6 x7 (x8 + (1 : Int32)) _ _ _ hf hP hD hS (lv_sub hl [1, 2, 3, 4, 5, 6, 7, 0] rfl)
          have b70 : ∀ (v_way : Nat → Int32) (x3 : Int32) (x4 : Int32) (x5 : Int32) (x6 : Int32) (x7 : Int32) (x8 : Int32) (s0 : Int32) (H : Heap) (locs : List Loc) (ls : Array Slot), f_X10_follow_70 N (f_X10_follow_38 N (f_X10_follow_9 N n9) n38) (f_X10_follow_9 N n9) v_up v_liv v_best v_way d_n d_road x3 x4 x5 x6 x7 x8 s0 = some o_v_way → va_P D vwCl (W_WYL_0t3_6_8 qv0 qv1 qv2 qv3 qd0 qd2 qv4 qv5 qd1 cI cJ cZ cB cT v_up v_low v_gone v_may v_must v_liv v_best v_way d_n d_road) H → va_D A (W_WYL_0t3_6_8 qv0 qv1 qv2 qv3 qd0 qd2 qv4 qv5 qd1 cI cJ cZ cB cT v_up v_low v_gone v_may v_must v_liv v_best v_way d_n d_road) → va_S A s.heap H locs → lv_has ls 10 [(0, .ref qv0), (1, .ref qd0), (3, .int x3), (4, .int x4), (5, .int x5), (6, .int x6), (7, .int x7), (8, .int x8)] → W p l e ({ frames := 1, cells := 0, slots := 0, locals := 23 } : Room) s m ([.ref qv0, .ref qd0, .int p2, .int p3] : List Value).toArray below meth c H locs 0 0 (MQ below ((mQv D (W_WYL_0t3_6_8 qv0 qv1 qv2 qv3 qd0 qd2 qv4 qv5 qd1 cI cJ cZ cB cT v_up v_low v_gone v_may v_must v_liv v_best o_v_way d_n d_road)) A) ([.ref qv0, .ref qd0, .int p2, .int p3] : List Value).toArray s 0 0 A) (F0 m 70 ls [.int s0]) := by
            intro v_way x3 x4 x5 x6 x7 x8 s0 H locs ls hf hP hD hS hl
            unfold f_X10_follow_70 at hf
            refine lv_istore (lv' := [(9, .int s0), (0, .ref qv0), (1, .ref qd0), (3, .int x3), (4, .int x4), (5, .int x5), (6, .int x6), (7, .int x7), (8, .int x8)]) hx hb dX10_follow_70 hl (by decide) rfl (fun ls hl => ?_)
            refine lv_iload hx hb dX10_follow_72 (lv_at hl 0 rfl) ?_
            refine xif_eq hx hb 114 dX10_follow_74 (by decide) hf (fun hf => ?_) (fun hf => ?_)
            · exact b114 v_way x3 x4 x5 x6 x7 x8 _ _ _ hf hP hD hS (lv_sub hl [1, 2, 3, 4, 5, 6, 7, 8] rfl)
            · refine lv_iload hx hb dX10_follow_77 (lv_at hl 5 rfl) ?_
              refine lv_aload_n hx hb dX10_follow_79 rfl (lv_at hl 1 rfl) ?_
              refine gfX10_29 hx hb hts hown hK hP 0 rfl rfl dX10_follow_80 ?_
              refine lv_iload hx hb dX10_follow_83 (lv_at hl 8 rfl) ?_
              refine xiald hx hb hK hP 1 0 rfl rfl dX10_follow_85 hf (fun v85 hf => ?_)
              refine lv_imul hx hb dX10_follow_86 ?_
              refine lv_aload_n hx hb dX10_follow_87 rfl (lv_at hl 1 rfl) ?_
              refine lv_iload hx hb dX10_follow_88 (lv_at hl 8 rfl) ?_
              refine lv_iload_n hx hb dX10_follow_90 rfl (lv_at hl 3 rfl) ?_
              refine lv_iconst (v := (1 : Int32)) hx hb dX10_follow_91 (by decide) ?_
              refine lv_isub hx hb dX10_follow_92 ?_
              refine lv_iload hx hb dX10_follow_93 (lv_at hl 6 rfl) ?_
              refine lv_isub hx hb dX10_follow_95 ?_
              obtain ⟨r96, hg96, hf⟩ := ob1_some hf
              refine mcV_i (wr := [(qv1, .inl (cI, 8, .inl v_liv)), (qv3, .inl (cI, 6, .inl v_way)), (qd0, .inr (2, [.int d_n, .ref qd1, .ref qd2])), (qd2, .inl (cI, 8, .inl d_road))]) (As := [.int x8, .int ((x3 - (1 : Int32)) - x6)]) (rest := [.int (x5 * v85)]) hx hb hml hown hts hK hP hD hS hA (k_X10_bestAfter l N D cI cJ cZ cB cT qv0 qv2 qv1 qv3 qv4 qv5 v_up v_low v_gone v_may v_must v_best x8 ((x3 - (1 : Int32)) - x6) r96 hg96) (kwX10_90 hts rfl rfl ⟨Nat.le_of_ble_eq_true rfl, Nat.le_of_ble_eq_true rfl⟩) [0, 2] [1, 3, 4, 5] rfl rfl rfl (by decide) rfl 0 rfl rfl rfl rfl hl.1 rfl (Nat.le_of_ble_eq_true rfl) dX10_follow_96 ⟨Nat.zero_le _, Nat.zero_le _⟩ (fun hB96 H locs hP hD hS => ?_)
              have hP := mP_sub (wc := (W_WYL_0t3_6_8 qv0 qv1 qv2 qv3 qd0 qd2 qv4 qv5 qd1 cI cJ cZ cB cT v_up v_low v_gone v_may v_must v_liv v_best v_way d_n d_road)) hP [4, 0, 5, 1, 2, 3] rfl
              have hD := hD.sub (ws' := (W_WYL_0t3_6_8 qv0 qv1 qv2 qv3 qd0 qd2 qv4 qv5 qd1 cI cJ cZ cB cT v_up v_low v_gone v_may v_must v_liv v_best v_way d_n d_road)) [4, 0, 5, 1, 2, 3] rfl rfl
              refine lv_imul hx hb dX10_follow_99 ?_
              refine lv_aload_n hx hb dX10_follow_100 rfl (lv_at hl 1 rfl) ?_
              refine gfX10_13 hx hb hts hown hK hP 0 rfl rfl dX10_follow_101 ?_
              refine xicmp_ne hx hb 114 dX10_follow_104 (by decide) hf (fun hf => ?_) (fun hf => ?_)
              · refine lv_iload hx hb dX10_follow_107 (lv_at hl 8 rfl) ?_
                refine lv_istore (lv' := [(4, .int x8), (9, .int s0), (0, .ref qv0), (1, .ref qd0), (3, .int x3), (5, .int x5), (6, .int x6), (7, .int x7), (8, .int x8)]) hx hb dX10_follow_109 hl (by decide) rfl (fun ls hl => ?_)
                refine lv_goto (tgt := 120) hx hb dX10_follow_111 (by decide) ?_
                exact b120 v_way x3 x8 x5 x6 _ _ _ hf hP hD hS (lv_sub hl [2, 3, 4, 0, 5, 6] rfl)
              · exact b114 v_way x3 x4 x5 x6 x7 x8 _ _ _ hf hP hD hS (lv_sub hl [1, 2, 3, 4, 5, 6, 7, 8] rfl)
          intro v_way x3 x4 x5 x6 x7 x8 H locs ls hf hP hD hS hl
          rw [f_X10_follow_38.eq_2] at hf
          refine lv_iload hx hb dX10_follow_38 (lv_at hl 7 rfl) ?_
          refine lv_aload_n hx hb dX10_follow_40 rfl (lv_at hl 1 rfl) ?_
          refine gfX10_51 hx hb hts hown hK hP 4 rfl rfl dX10_follow_41 ?_
          refine xicmp_ge hx hb 120 dX10_follow_44 (by decide) hf (fun hf => ?_) (fun hf => ?_)
          · exact b120 v_way x3 x4 x5 x6 _ _ _ hf hP hD hS (lv_sub hl [0, 1, 2, 3, 4, 5] rfl)
          · refine lv_iload hx hb dX10_follow_47 (lv_at hl 7 rfl) ?_
            refine lv_bipush (v := (8 : Int32)) hx hb dX10_follow_49 (by decide) ?_
            refine xicmp_ge hx hb 120 dX10_follow_51 (by decide) hf (fun hf => ?_) (fun hf => ?_)
            · exact b120 v_way x3 x4 x5 x6 _ _ _ hf hP hD hS (lv_sub hl [0, 1, 2, 3, 4, 5] rfl)
            · refine lv_iload hx hb dX10_follow_54 (lv_at hl 6 rfl) ?_
              refine lv_iload hx hb dX10_follow_56 (lv_at hl 7 rfl) ?_
              refine lv_ishr hx hb dX10_follow_58 ?_
              refine lv_iconst (v := (1 : Int32)) hx hb dX10_follow_59 (by decide) ?_
              refine lv_iand hx hb dX10_follow_60 ?_
              refine lv_iconst (v := (1 : Int32)) hx hb dX10_follow_61 (by decide) ?_
              refine xicmp_ne hx hb 69 dX10_follow_62 (by decide) hf (fun hf => ?_) (fun hf => ?_)
              · refine lv_iconst (v := (1 : Int32)) hx hb dX10_follow_65 (by decide) ?_
                refine lv_goto (tgt := 70) hx hb dX10_follow_66 (by decide) ?_
                exact b70 v_way x3 x4 x5 x6 x7 x8 (1 : Int32) _ _ _ hf hP hD hS (lv_sub hl [0, 1, 2, 3, 4, 5, 6, 7] rfl)
              · refine lv_iconst (v := (0 : Int32)) hx hb dX10_follow_69 (by decide) ?_
                exact b70 v_way x3 x4 x5 x6 x7 x8 (0 : Int32) _ _ _ hf hP hD hS (lv_sub hl [0, 1, 2, 3, 4, 5, 6, 7] rfl)
      intro v_way x3 x4 x5 x6 H locs ls hf hP hD hS hl
      rw [f_X10_follow_9.eq_2] at hf
      refine lv_iload hx hb dX10_follow_9 (lv_at hl 5 rfl) ?_
      refine lv_iload_n hx hb dX10_follow_11 rfl (lv_at hl 2 rfl) ?_
      refine xicmp_ge hx hb 163 dX10_follow_12 (by decide) hf (fun hf => ?_) (fun hf => ?_)
      · cases hf
        exact mret_v hx hb hr hlocks hP hD hS dX10_follow_163
      · refine lv_iload hx hb dX10_follow_15 (lv_at hl 5 rfl) ?_
        refine lv_bipush (v := (6 : Int32)) hx hb dX10_follow_17 (by decide) ?_
        refine xicmp_ge hx hb 163 dX10_follow_19 (by decide) hf (fun hf => ?_) (fun hf => ?_)
        · cases hf
          exact mret_v hx hb hr hlocks hP hD hS dX10_follow_163
        · refine lv_aload_n hx hb dX10_follow_22 rfl (lv_at hl 1 rfl) ?_
          refine lv_iload hx hb dX10_follow_23 (lv_at hl 3 rfl) ?_
          obtain ⟨r25, hg25, hf⟩ := ob1_some hf
          refine mcV_i (wr := [(qv0, .inr (10, [.int v_up, .int v_low, .int v_gone, .int v_may, .int v_must, .ref qv1, .ref qv2, .ref qv3, .ref qv4, .ref qv5])), (qv1, .inl (cI, 8, .inl v_liv)), (qv2, .inl (cI, 56, .inl v_best)), (qv3, .inl (cI, 6, .inl v_way))]) (As := [.int x4]) (rest := []) hx hb hml hown hts hK hP hD hS hA (k_X2_near l N D cI cJ cZ cB cT qd0 qd2 qd1 d_n d_road x4 r25 hg25) (kwX10_86 hts rfl rfl ⟨Nat.le_of_ble_eq_true rfl, Nat.le_of_ble_eq_true rfl⟩) [4, 5] [0, 1, 2, 3] rfl rfl rfl (by decide) rfl 0 rfl rfl rfl rfl hl.1 rfl (Nat.le_of_ble_eq_true rfl) dX10_follow_25 ⟨Nat.zero_le _, Nat.zero_le _⟩ (fun hB25 H locs hP hD hS => ?_)
          have hP := mP_sub (wc := (W_WYL_0t3_6_8 qv0 qv1 qv2 qv3 qd0 qd2 qv4 qv5 qd1 cI cJ cZ cB cT v_up v_low v_gone v_may v_must v_liv v_best v_way d_n d_road)) hP [0, 1, 2, 3, 4, 5] rfl
          have hD := hD.sub (ws' := (W_WYL_0t3_6_8 qv0 qv1 qv2 qv3 qd0 qd2 qv4 qv5 qd1 cI cJ cZ cB cT v_up v_low v_gone v_may v_must v_liv v_best v_way d_n d_road)) [0, 1, 2, 3, 4, 5] rfl rfl
          refine lv_iconst (v := (1 : Int32)) hx hb dX10_follow_28 (by decide) ?_
          refine lv_iload hx hb dX10_follow_29 (lv_at hl 3 rfl) ?_
          refine lv_ishl hx hb dX10_follow_31 ?_
          refine lv_ior hx hb dX10_follow_32 ?_
          refine lv_istore (lv' := [(7, .int (r25 ||| ((1 : Int32) <<< (x4 &&& 31)))), (0, .ref qv0), (1, .ref qd0), (3, .int x3), (4, .int x4), (5, .int x5), (6, .int x6)]) hx hb dX10_follow_33 hl (by decide) rfl (fun ls hl => ?_)
          refine lv_iconst (v := (0 : Int32)) hx hb dX10_follow_35 (by decide) ?_
          refine lv_istore (lv' := [(8, .int (0 : Int32)), (7, .int (r25 ||| ((1 : Int32) <<< (x4 &&& 31)))), (0, .ref qv0), (1, .ref qd0), (3, .int x3), (4, .int x4), (5, .int x5), (6, .int x6)]) hx hb dX10_follow_36 hl (by decide) rfl (fun ls hl => ?_)
          exact b38 N v_way x3 x4 x5 x6 (r25 ||| ((1 : Int32) <<< (x4 &&& 31))) (0 : Int32) _ _ _ hf hP hD hS (lv_sub hl [2, 3, 4, 5, 6, 7, 1, 0] rfl)
  unfold f_X10_follow at hf
  refine lv_iload_n hx hb dX10_follow_0 rfl (lv_at hl 2 rfl) ?_
  refine lv_istore (lv' := [(4, .int p2), (0, .ref qv0), (1, .ref qd0), (2, .int p2), (3, .int p3)]) hx hb dX10_follow_1 hl (by decide) rfl (fun ls hl => ?_)
  refine lv_iconst (v := (1 : Int32)) hx hb dX10_follow_3 (by decide) ?_
  refine lv_istore (lv' := [(5, .int (1 : Int32)), (4, .int p2), (0, .ref qv0), (1, .ref qd0), (2, .int p2), (3, .int p3)]) hx hb dX10_follow_4 hl (by decide) rfl (fun ls hl => ?_)
  refine lv_iconst (v := (0 : Int32)) hx hb dX10_follow_6 (by decide) ?_
  refine lv_istore (lv' := [(6, .int (0 : Int32)), (5, .int (1 : Int32)), (4, .int p2), (0, .ref qv0), (1, .ref qd0), (2, .int p2), (3, .int p3)]) hx hb dX10_follow_7 hl (by decide) rfl (fun ls hl => ?_)
  exact b9 N v_way p3 p2 (1 : Int32) (0 : Int32) _ _ _ hf hP hD hS (lv_sub hl [3, 4, 6, 2, 1, 0] rfl)
theorem dX10_landAt_0 : decode cX10_landAt 0 = .ok (.iload_n 1, 1) := by decide +kernel
theorem dX10_landAt_1 : decode cX10_landAt 1 = .ok (.ifCond .lt 18, 3) := by decide +kernel
theorem dX10_landAt_4 : decode cX10_landAt 4 = .ok (.iload_n 1, 1) := by decide +kernel
theorem dX10_landAt_5 : decode cX10_landAt 5 = .ok (.bipush 6, 2) := by decide +kernel
theorem dX10_landAt_7 : decode cX10_landAt 7 = .ok (.if_icmp .ge 12, 3) := by decide +kernel
theorem dX10_landAt_10 : decode cX10_landAt 10 = .ok (.aload_n 0, 1) := by decide +kernel
theorem dX10_landAt_11 : decode cX10_landAt 11 = .ok (.getfield 36, 3) := by decide +kernel
theorem dX10_landAt_14 : decode cX10_landAt 14 = .ok (.iload_n 1, 1) := by decide +kernel
theorem dX10_landAt_15 : decode cX10_landAt 15 = .ok (.iaload, 1) := by decide +kernel
theorem dX10_landAt_16 : decode cX10_landAt 16 = .ok (.goto 5, 3) := by decide +kernel
theorem dX10_landAt_19 : decode cX10_landAt 19 = .ok (.bipush (-3), 2) := by decide +kernel
theorem dX10_landAt_21 : decode cX10_landAt 21 = .ok (.ireturn, 1) := by decide +kernel
def f_X10_landAt (N : Nat) (v_way : Nat → Int32) (p1 : Int32) : Option (Int32) := if p1 < 0 then (some (-3 : Int32)) else (if (6 : Int32) ≤ p1 then (some (-3 : Int32)) else (gA v_way 6 p1 fun v15 => some v15))
set_option maxHeartbeats 4000000 in
set_option maxRecDepth 100000 in
theorem k_X10_landAt (l : Launch) (N : Nat) (D : va_G) (cI cJ cZ cB cT : ClassId) (qv0 : Nat) (qv3 : Nat) (qv1 : Nat) (qv2 : Nat) (qv4 : Nat) (qv5 : Nat) (v_up : Int32) (v_low : Int32) (v_gone : Int32) (v_may : Int32) (v_must : Int32) (v_way : Nat → Int32) (p1 : Int32) (o_r : Int32) (hf : f_X10_landAt N v_way p1 = some o_r) : ∀ sz, Met l yX10_landAt (mw yX10_landAt cX10_landAt 2 (some .int)) ({ frames := 0, cells := 0, slots := 0, locals := 0 } : Room) (mPre D (mT cI cJ cZ cB cT) (W_WY_0_3 qv0 qv3 qv1 qv2 qv4 qv5 cI cJ cZ cB cT v_up v_low v_gone v_may v_must v_way) sz [.ref qv0, .int p1]) ((mQi D (W_WY_0_3 qv0 qv3 qv1 qv2 qv4 qv5 cI cJ cZ cB cT v_up v_low v_gone v_may v_must v_way) o_r True) (va_A (W_WY_0_3 qv0 qv3 qv1 qv2 qv4 qv5 cI cJ cZ cB cT v_up v_low v_gone v_may v_must v_way) sz)) 0 0 (va_A (W_WY_0_3 qv0 qv3 qv1 qv2 qv4 qv5 cI cJ cZ cB cT v_up v_low v_gone v_may v_must v_way) sz) := by
  refine mMet (Qc := (mQi D (W_WY_0_3 qv0 qv3 qv1 qv2 qv4 qv5 cI cJ cZ cB cT v_up v_low v_gone v_may v_must v_way) o_r True)) (by decide) (Nat.le_of_ble_eq_true rfl) (fun p e s m below meth c A ls hx hb hr hml hts hown hlocks hK hA hP hD hl => ?_)
  have hown : s.vm.findClass RX10 = some m.cls := hown
  have hl : lv_has ls 2 [(0, .ref qv0), (1, .int p1)] := hl
  have hS : va_S A s.heap s.heap [] := va_S.rf
  unfold f_X10_landAt at hf
  refine lv_iload_n hx hb dX10_landAt_0 rfl (lv_at hl 1 rfl) ?_
  refine xif_lt hx hb 19 dX10_landAt_1 (by decide) hf (fun hf => ?_) (fun hf => ?_)
  · refine lv_bipush (v := (-3 : Int32)) hx hb dX10_landAt_19 (by decide) ?_
    cases hf
    exact mret_i hx hb hr hlocks hP hD hS dX10_landAt_21 rfl trivial
  · refine lv_iload_n hx hb dX10_landAt_4 rfl (lv_at hl 1 rfl) ?_
    refine lv_bipush (v := (6 : Int32)) hx hb dX10_landAt_5 (by decide) ?_
    refine xicmp_ge hx hb 19 dX10_landAt_7 (by decide) hf (fun hf => ?_) (fun hf => ?_)
    · refine lv_bipush (v := (-3 : Int32)) hx hb dX10_landAt_19 (by decide) ?_
      cases hf
      exact mret_i hx hb hr hlocks hP hD hS dX10_landAt_21 rfl trivial
    · refine lv_aload_n hx hb dX10_landAt_10 rfl (lv_at hl 0 rfl) ?_
      refine gfX10_36 hx hb hts hown hK hP 0 rfl rfl dX10_landAt_11 ?_
      refine lv_iload_n hx hb dX10_landAt_14 rfl (lv_at hl 1 rfl) ?_
      refine xiald hx hb hK hP 1 0 rfl rfl dX10_landAt_15 hf (fun v15 hf => ?_)
      refine lv_goto (tgt := 21) hx hb dX10_landAt_16 (by decide) ?_
      cases hf
      exact mret_i hx hb hr hlocks hP hD hS dX10_landAt_21 rfl trivial
theorem dX10_clear_0 : decode cX10_clear 0 = .ok (.iconst 0, 1) := by decide +kernel
theorem dX10_clear_1 : decode cX10_clear 1 = .ok (.istore_n 1, 1) := by decide +kernel
theorem dX10_clear_2 : decode cX10_clear 2 = .ok (.iload_n 1, 1) := by decide +kernel
theorem dX10_clear_3 : decode cX10_clear 3 = .ok (.aload_n 0, 1) := by decide +kernel
theorem dX10_clear_4 : decode cX10_clear 4 = .ok (.arraylength, 1) := by decide +kernel
theorem dX10_clear_5 : decode cX10_clear 5 = .ok (.if_icmp .ge 13, 3) := by decide +kernel
theorem dX10_clear_8 : decode cX10_clear 8 = .ok (.aload_n 0, 1) := by decide +kernel
theorem dX10_clear_9 : decode cX10_clear 9 = .ok (.iload_n 1, 1) := by decide +kernel
theorem dX10_clear_10 : decode cX10_clear 10 = .ok (.iconst 0, 1) := by decide +kernel
theorem dX10_clear_11 : decode cX10_clear 11 = .ok (.iastore, 1) := by decide +kernel
theorem dX10_clear_12 : decode cX10_clear 12 = .ok (.iinc 1 1, 3) := by decide +kernel
theorem dX10_clear_15 : decode cX10_clear 15 = .ok (.goto (-13), 3) := by decide +kernel
theorem dX10_clear_18 : decode cX10_clear 18 = .ok (.return_, 1) := by decide +kernel
def f_X10_clear_2 (N : Nat) : Nat → (Nat → Int32) → Int32 → Option ((Nat → Int32))
  | 0, _, _ => none
  | n + 1, a_c, x1 => if (256 : Int32) ≤ x1 then (some a_c) else (sA a_c 256 x1 (0 : Int32) fun a_c_11 => (f_X10_clear_2 N n) a_c_11 (x1 + (1 : Int32)))
def f_X10_clear (N : Nat) (a_c : Nat → Int32) : Option ((Nat → Int32)) := f_X10_clear_2 N N a_c (0 : Int32)
set_option maxHeartbeats 4000000 in
set_option maxRecDepth 100000 in
theorem k_X10_clear (l : Launch) (N : Nat) (D : va_G) (cI cJ cZ cB cT : ClassId) (qa1 : Nat) (a_c : Nat → Int32) (o_a_c : Nat → Int32) (hf : f_X10_clear N a_c = some o_a_c) : ∀ sz, Met l yX10_clear (mw yX10_clear cX10_clear 2 none) ({ frames := 0, cells := 0, slots := 0, locals := 0 } : Room) (mPre D (mT cI cJ cZ cB cT) (W_A1_0 qa1 cI cJ cZ cB cT a_c) sz [.ref qa1]) ((mQv D (W_A1_0 qa1 cI cJ cZ cB cT o_a_c)) (va_A (W_A1_0 qa1 cI cJ cZ cB cT a_c) sz)) 0 0 (va_A (W_A1_0 qa1 cI cJ cZ cB cT a_c) sz) := by
  refine mMet (Qc := (mQv D (W_A1_0 qa1 cI cJ cZ cB cT o_a_c))) (by decide) (Nat.le_of_ble_eq_true rfl) (fun p e s m below meth c A ls hx hb hr hml hts hown hlocks hK hA hP hD hl => ?_)
  have hown : s.vm.findClass RX10 = some m.cls := hown
  have hl : lv_has ls 2 [(0, .ref qa1)] := hl
  have hS : va_S A s.heap s.heap [] := va_S.rf
  have b2 : ∀ n2 : Nat, ∀ (a_c : Nat → Int32) (x1 : Int32) (H : Heap) (locs : List Loc) (ls : Array Slot), f_X10_clear_2 N n2 a_c x1 = some o_a_c → va_P D vwCl (W_A1_0 qa1 cI cJ cZ cB cT a_c) H → va_D A (W_A1_0 qa1 cI cJ cZ cB cT a_c) → va_S A s.heap H locs → lv_has ls 2 [(0, .ref qa1), (1, .int x1)] → W p l e ({ frames := 0, cells := 0, slots := 0, locals := 0 } : Room) s m ([.ref qa1] : List Value).toArray below meth c H locs 0 0 (MQ below ((mQv D (W_A1_0 qa1 cI cJ cZ cB cT o_a_c)) A) ([.ref qa1] : List Value).toArray s 0 0 A) (F0 m 2 ls []) := by
    intro n2
    induction n2 with
    | zero =>
      intro a_c x1 H locs ls hf hP hD hS hl
      simp [f_X10_clear_2] at hf
    | succ n2 ih2 =>
      intro a_c x1 H locs ls hf hP hD hS hl
      rw [f_X10_clear_2.eq_2] at hf
      refine lv_iload_n hx hb dX10_clear_2 rfl (lv_at hl 1 rfl) ?_
      refine lv_aload_n hx hb dX10_clear_3 rfl (lv_at hl 0 rfl) ?_
      refine va_alen (v := (256 : Int32)) hx hb hK hP 0 0 rfl rfl rfl dX10_clear_4 ?_
      refine xicmp_ge hx hb 18 dX10_clear_5 (by decide) hf (fun hf => ?_) (fun hf => ?_)
      · cases hf
        exact mret_v hx hb hr hlocks hP hD hS dX10_clear_18
      · refine lv_aload_n hx hb dX10_clear_8 rfl (lv_at hl 0 rfl) ?_
        refine lv_iload_n hx hb dX10_clear_9 rfl (lv_at hl 1 rfl) ?_
        refine lv_iconst (v := (0 : Int32)) hx hb dX10_clear_10 (by decide) ?_
        refine xiast hx hb hK hP hD hS 0 0 rfl rfl dX10_clear_11 hf (fun a_c_11 hf H locs hP hD hS => ?_)
        have hP : va_P D vwCl (W_A1_0 qa1 cI cJ cZ cB cT a_c_11) H := hP
        have hD : va_D A (W_A1_0 qa1 cI cJ cZ cB cT a_c_11) := hD
        refine lv_iinc (v := (x1 + (1 : Int32))) (lv' := [(1, .int (x1 + (1 : Int32))), (0, .ref qa1)]) hx hb dX10_clear_12 hl (k := 1) rfl rfl (by decide) rfl (fun ls hl => ?_)
        refine lv_goto (tgt := 2) hx hb dX10_clear_15 (by decide) ?_
        exact ih2 a_c_11 (x1 + (1 : Int32)) _ _ _ hf hP hD hS (lv_sub hl [1, 0] rfl)
  unfold f_X10_clear at hf
  refine lv_iconst (v := (0 : Int32)) hx hb dX10_clear_0 (by decide) ?_
  refine lv_istore_n (lv' := [(1, .int (0 : Int32)), (0, .ref qa1)]) hx hb dX10_clear_1 rfl hl (by decide) rfl (fun ls hl => ?_)
  exact b2 N a_c (0 : Int32) _ _ _ hf hP hD hS (lv_sub hl [1, 0] rfl)
theorem dX10_comeTo_0 : decode cX10_comeTo 0 = .ok (.iload_n 1, 1) := by decide +kernel
theorem dX10_comeTo_1 : decode cX10_comeTo 1 = .ok (.iload 4, 2) := by decide +kernel
theorem dX10_comeTo_3 : decode cX10_comeTo 3 = .ok (.if_icmp .ne 9, 3) := by decide +kernel
theorem dX10_comeTo_6 : decode cX10_comeTo 6 = .ok (.iconst 1, 1) := by decide +kernel
theorem dX10_comeTo_7 : decode cX10_comeTo 7 = .ok (.iload_n 3, 1) := by decide +kernel
theorem dX10_comeTo_8 : decode cX10_comeTo 8 = .ok (.ishl, 1) := by decide +kernel
theorem dX10_comeTo_9 : decode cX10_comeTo 9 = .ok (.goto 4, 3) := by decide +kernel
theorem dX10_comeTo_12 : decode cX10_comeTo 12 = .ok (.iconst 0, 1) := by decide +kernel
theorem dX10_comeTo_13 : decode cX10_comeTo 13 = .ok (.istore 5, 2) := by decide +kernel
theorem dX10_comeTo_15 : decode cX10_comeTo 15 = .ok (.iconst 0, 1) := by decide +kernel
theorem dX10_comeTo_16 : decode cX10_comeTo 16 = .ok (.istore 6, 2) := by decide +kernel
theorem dX10_comeTo_18 : decode cX10_comeTo 18 = .ok (.iload 6, 2) := by decide +kernel
theorem dX10_comeTo_20 : decode cX10_comeTo 20 = .ok (.bipush 8, 2) := by decide +kernel
theorem dX10_comeTo_22 : decode cX10_comeTo 22 = .ok (.if_icmp .ge 79, 3) := by decide +kernel
theorem dX10_comeTo_25 : decode cX10_comeTo 25 = .ok (.iload_n 2, 1) := by decide +kernel
theorem dX10_comeTo_26 : decode cX10_comeTo 26 = .ok (.iload 6, 2) := by decide +kernel
theorem dX10_comeTo_28 : decode cX10_comeTo 28 = .ok (.ishr, 1) := by decide +kernel
theorem dX10_comeTo_29 : decode cX10_comeTo 29 = .ok (.iconst 1, 1) := by decide +kernel
theorem dX10_comeTo_30 : decode cX10_comeTo 30 = .ok (.iand, 1) := by decide +kernel
theorem dX10_comeTo_31 : decode cX10_comeTo 31 = .ok (.ifCond .ne 6, 3) := by decide +kernel
theorem dX10_comeTo_34 : decode cX10_comeTo 34 = .ok (.goto 61, 3) := by decide +kernel
theorem dX10_comeTo_37 : decode cX10_comeTo 37 = .ok (.iconst 0, 1) := by decide +kernel
theorem dX10_comeTo_38 : decode cX10_comeTo 38 = .ok (.istore 7, 2) := by decide +kernel
theorem dX10_comeTo_40 : decode cX10_comeTo 40 = .ok (.iload 7, 2) := by decide +kernel
theorem dX10_comeTo_42 : decode cX10_comeTo 42 = .ok (.iconst 1, 1) := by decide +kernel
theorem dX10_comeTo_43 : decode cX10_comeTo 43 = .ok (.iload_n 3, 1) := by decide +kernel
theorem dX10_comeTo_44 : decode cX10_comeTo 44 = .ok (.ishl, 1) := by decide +kernel
theorem dX10_comeTo_45 : decode cX10_comeTo 45 = .ok (.if_icmp .ge 50, 3) := by decide +kernel
theorem dX10_comeTo_48 : decode cX10_comeTo 48 = .ok (.iload 7, 2) := by decide +kernel
theorem dX10_comeTo_50 : decode cX10_comeTo 50 = .ok (.iload 5, 2) := by decide +kernel
theorem dX10_comeTo_52 : decode cX10_comeTo 52 = .ok (.ior, 1) := by decide +kernel
theorem dX10_comeTo_53 : decode cX10_comeTo 53 = .ok (.bipush 32, 2) := by decide +kernel
theorem dX10_comeTo_55 : decode cX10_comeTo 55 = .ok (.if_icmp .ge 40, 3) := by decide +kernel
theorem dX10_comeTo_58 : decode cX10_comeTo 58 = .ok (.aload_n 0, 1) := by decide +kernel
theorem dX10_comeTo_59 : decode cX10_comeTo 59 = .ok (.getfield 39, 3) := by decide +kernel
theorem dX10_comeTo_62 : decode cX10_comeTo 62 = .ok (.iload_n 1, 1) := by decide +kernel
theorem dX10_comeTo_63 : decode cX10_comeTo 63 = .ok (.bipush 32, 2) := by decide +kernel
theorem dX10_comeTo_65 : decode cX10_comeTo 65 = .ok (.imul, 1) := by decide +kernel
theorem dX10_comeTo_66 : decode cX10_comeTo 66 = .ok (.iload 7, 2) := by decide +kernel
theorem dX10_comeTo_68 : decode cX10_comeTo 68 = .ok (.iload 5, 2) := by decide +kernel
theorem dX10_comeTo_70 : decode cX10_comeTo 70 = .ok (.ior, 1) := by decide +kernel
theorem dX10_comeTo_71 : decode cX10_comeTo 71 = .ok (.iadd, 1) := by decide +kernel
theorem dX10_comeTo_72 : decode cX10_comeTo 72 = .ok (.dup2, 1) := by decide +kernel
theorem dX10_comeTo_73 : decode cX10_comeTo 73 = .ok (.iaload, 1) := by decide +kernel
theorem dX10_comeTo_74 : decode cX10_comeTo 74 = .ok (.aload_n 0, 1) := by decide +kernel
theorem dX10_comeTo_75 : decode cX10_comeTo 75 = .ok (.getfield 42, 3) := by decide +kernel
theorem dX10_comeTo_78 : decode cX10_comeTo 78 = .ok (.iload 6, 2) := by decide +kernel
theorem dX10_comeTo_80 : decode cX10_comeTo 80 = .ok (.bipush 32, 2) := by decide +kernel
theorem dX10_comeTo_82 : decode cX10_comeTo 82 = .ok (.imul, 1) := by decide +kernel
theorem dX10_comeTo_83 : decode cX10_comeTo 83 = .ok (.iload 7, 2) := by decide +kernel
theorem dX10_comeTo_85 : decode cX10_comeTo 85 = .ok (.iadd, 1) := by decide +kernel
theorem dX10_comeTo_86 : decode cX10_comeTo 86 = .ok (.iaload, 1) := by decide +kernel
theorem dX10_comeTo_87 : decode cX10_comeTo 87 = .ok (.iadd, 1) := by decide +kernel
theorem dX10_comeTo_88 : decode cX10_comeTo 88 = .ok (.iastore, 1) := by decide +kernel
theorem dX10_comeTo_89 : decode cX10_comeTo 89 = .ok (.iinc 7 1, 3) := by decide +kernel
theorem dX10_comeTo_92 : decode cX10_comeTo 92 = .ok (.goto (-52), 3) := by decide +kernel
theorem dX10_comeTo_95 : decode cX10_comeTo 95 = .ok (.iinc 6 1, 3) := by decide +kernel
theorem dX10_comeTo_98 : decode cX10_comeTo 98 = .ok (.goto (-80), 3) := by decide +kernel
theorem dX10_comeTo_101 : decode cX10_comeTo 101 = .ok (.return_, 1) := by decide +kernel
def f_X10_comeTo_95 (N : Nat) (k_18 : (Nat → Int32) → (Nat → Int32) → Int32 → Int32 → Int32 → Int32 → Int32 → Option ((Nat → Int32))) (v_ends : Nat → Int32) (v_beg : Nat → Int32) (x1 : Int32) (x2 : Int32) (x3 : Int32) (x5 : Int32) (x6 : Int32) : Option ((Nat → Int32)) := k_18 v_ends v_beg x1 x2 x3 x5 (x6 + (1 : Int32))
def f_X10_comeTo_40 (N : Nat) (k_18 : (Nat → Int32) → (Nat → Int32) → Int32 → Int32 → Int32 → Int32 → Int32 → Option ((Nat → Int32))) : Nat → (Nat → Int32) → (Nat → Int32) → Int32 → Int32 → Int32 → Int32 → Int32 → Int32 → Option ((Nat → Int32))
  | 0, _, _, _, _, _, _, _, _ => none
  | n + 1, v_ends, v_beg, x1, x2, x3, x5, x6, x7 => if ((1 : Int32) <<< (x3 &&& 31)) ≤ x7 then (f_X10_comeTo_95 N k_18 v_ends v_beg x1 x2 x3 x5 x6) else (if (32 : Int32) ≤ (x7 ||| x5) then (f_X10_comeTo_95 N k_18 v_ends v_beg x1 x2 x3 x5 x6) else (gA v_ends 256 ((x1 * (32 : Int32)) + (x7 ||| x5)) fun v73 => gA v_beg 256 ((x6 * (32 : Int32)) + x7) fun v86 => sA v_ends 256 ((x1 * (32 : Int32)) + (x7 ||| x5)) (v73 + v86) fun v_ends_88 => (f_X10_comeTo_40 N k_18 n) v_ends_88 v_beg x1 x2 x3 x5 x6 (x7 + (1 : Int32))))
def f_X10_comeTo_18 (N : Nat) : Nat → (Nat → Int32) → (Nat → Int32) → Int32 → Int32 → Int32 → Int32 → Int32 → Option ((Nat → Int32))
  | 0, _, _, _, _, _, _, _ => none
  | n + 1, v_ends, v_beg, x1, x2, x3, x5, x6 => if (8 : Int32) ≤ x6 then (some v_ends) else (if ((x2 >>> (x6 &&& 31)) &&& (1 : Int32)) = 0 then (f_X10_comeTo_95 N (f_X10_comeTo_18 N n) v_ends v_beg x1 x2 x3 x5 x6) else (f_X10_comeTo_40 N (f_X10_comeTo_18 N n) N v_ends v_beg x1 x2 x3 x5 x6 (0 : Int32)))
def f_X10_comeTo_13 (N : Nat) (v_ends : Nat → Int32) (v_beg : Nat → Int32) (x1 : Int32) (x2 : Int32) (x3 : Int32) (s0 : Int32) : Option ((Nat → Int32)) := f_X10_comeTo_18 N N v_ends v_beg x1 x2 x3 s0 (0 : Int32)
def f_X10_comeTo (N : Nat) (v_ends : Nat → Int32) (v_beg : Nat → Int32) (p1 : Int32) (p2 : Int32) (p3 : Int32) (p4 : Int32) : Option ((Nat → Int32)) := if p1 = p4 then (f_X10_comeTo_13 N v_ends v_beg p1 p2 p3 ((1 : Int32) <<< (p3 &&& 31))) else (f_X10_comeTo_13 N v_ends v_beg p1 p2 p3 (0 : Int32))
set_option maxHeartbeats 4000000 in
set_option maxRecDepth 100000 in
theorem k_X10_comeTo (l : Launch) (N : Nat) (D : va_G) (cI cJ cZ cB cT : ClassId) (qv0 : Nat) (qv4 : Nat) (qv5 : Nat) (qv1 : Nat) (qv2 : Nat) (qv3 : Nat) (v_up : Int32) (v_low : Int32) (v_gone : Int32) (v_may : Int32) (v_must : Int32) (v_ends : Nat → Int32) (v_beg : Nat → Int32) (p1 : Int32) (p2 : Int32) (p3 : Int32) (p4 : Int32) (o_v_ends : Nat → Int32) (hf : f_X10_comeTo N v_ends v_beg p1 p2 p3 p4 = some o_v_ends) : ∀ sz, Met l yX10_comeTo (mw yX10_comeTo cX10_comeTo 8 none) ({ frames := 0, cells := 0, slots := 0, locals := 0 } : Room) (mPre D (mT cI cJ cZ cB cT) (W_WY_0_4t5 qv0 qv4 qv5 qv1 qv2 qv3 cI cJ cZ cB cT v_up v_low v_gone v_may v_must v_ends v_beg) sz [.ref qv0, .int p1, .int p2, .int p3, .int p4]) ((mQv D (W_WY_0_4t5 qv0 qv4 qv5 qv1 qv2 qv3 cI cJ cZ cB cT v_up v_low v_gone v_may v_must o_v_ends v_beg)) (va_A (W_WY_0_4t5 qv0 qv4 qv5 qv1 qv2 qv3 cI cJ cZ cB cT v_up v_low v_gone v_may v_must v_ends v_beg) sz)) 0 0 (va_A (W_WY_0_4t5 qv0 qv4 qv5 qv1 qv2 qv3 cI cJ cZ cB cT v_up v_low v_gone v_may v_must v_ends v_beg) sz) := by
  refine mMet (Qc := (mQv D (W_WY_0_4t5 qv0 qv4 qv5 qv1 qv2 qv3 cI cJ cZ cB cT v_up v_low v_gone v_may v_must o_v_ends v_beg))) (by decide) (Nat.le_of_ble_eq_true rfl) (fun p e s m below meth c A ls hx hb hr hml hts hown hlocks hK hA hP hD hl => ?_)
  have hown : s.vm.findClass RX10 = some m.cls := hown
  have hl : lv_has ls 8 [(0, .ref qv0), (1, .int p1), (2, .int p2), (3, .int p3), (4, .int p4)] := hl
  have hS : va_S A s.heap s.heap [] := va_S.rf
  have b18 : ∀ n18 : Nat, ∀ (v_ends : Nat → Int32) (x1 : Int32) (x2 : Int32) (x3 : Int32) (x5 : Int32) (x6 : Int32) (H : Heap) (locs : List Loc) (ls : Array Slot), f_X10_comeTo_18 N n18 v_ends v_beg x1 x2 x3 x5 x6 = some o_v_ends → va_P D vwCl (W_WY_0_4t5 qv0 qv4 qv5 qv1 qv2 qv3 cI cJ cZ cB cT v_up v_low v_gone v_may v_must v_ends v_beg) H → va_D A (W_WY_0_4t5 qv0 qv4 qv5 qv1 qv2 qv3 cI cJ cZ cB cT v_up v_low v_gone v_may v_must v_ends v_beg) → va_S A s.heap H locs → lv_has ls 8 [(0, .ref qv0), (1, .int x1), (2, .int x2), (3, .int x3), (5, .int x5), (6, .int x6)] → W p l e ({ frames := 0, cells := 0, slots := 0, locals := 0 } : Room) s m ([.ref qv0, .int p1, .int p2, .int p3, .int p4] : List Value).toArray below meth c H locs 0 0 (MQ below ((mQv D (W_WY_0_4t5 qv0 qv4 qv5 qv1 qv2 qv3 cI cJ cZ cB cT v_up v_low v_gone v_may v_must o_v_ends v_beg)) A) ([.ref qv0, .int p1, .int p2, .int p3, .int p4] : List Value).toArray s 0 0 A) (F0 m 18 ls []) := by
    intro n18
    induction n18 with
    | zero =>
      intro v_ends x1 x2 x3 x5 x6 H locs ls hf hP hD hS hl
      simp [f_X10_comeTo_18] at hf
    | succ n18 ih18 =>
      have b95 : ∀ (v_ends : Nat → Int32) (x1 : Int32) (x2 : Int32) (x3 : Int32) (x5 : Int32) (x6 : Int32) (H : Heap) (locs : List Loc) (ls : Array Slot), f_X10_comeTo_95 N (f_X10_comeTo_18 N n18) v_ends v_beg x1 x2 x3 x5 x6 = some o_v_ends → va_P D vwCl (W_WY_0_4t5 qv0 qv4 qv5 qv1 qv2 qv3 cI cJ cZ cB cT v_up v_low v_gone v_may v_must v_ends v_beg) H → va_D A (W_WY_0_4t5 qv0 qv4 qv5 qv1 qv2 qv3 cI cJ cZ cB cT v_up v_low v_gone v_may v_must v_ends v_beg) → va_S A s.heap H locs → lv_has ls 8 [(0, .ref qv0), (1, .int x1), (2, .int x2), (3, .int x3), (5, .int x5), (6, .int x6)] → W p l e ({ frames := 0, cells := 0, slots := 0, locals := 0 } : Room) s m ([.ref qv0, .int p1, .int p2, .int p3, .int p4] : List Value).toArray below meth c H locs 0 0 (MQ below ((mQv D (W_WY_0_4t5 qv0 qv4 qv5 qv1 qv2 qv3 cI cJ cZ cB cT v_up v_low v_gone v_may v_must o_v_ends v_beg)) A) ([.ref qv0, .int p1, .int p2, .int p3, .int p4] : List Value).toArray s 0 0 A) (F0 m 95 ls []) := by
        intro v_ends x1 x2 x3 x5 x6 H locs ls hf hP hD hS hl
        unfold f_X10_comeTo_95 at hf
        refine lv_iinc (v := (x6 + (1 : Int32))) (lv' := [(6, .int (x6 + (1 : Int32))), (0, .ref qv0), (1, .int x1), (2, .int x2), (3, .int x3), (5, .int x5)]) hx hb dX10_comeTo_95 hl (k := 5) rfl rfl (by decide) rfl (fun ls hl => ?_)
        refine lv_goto (tgt := 18) hx hb dX10_comeTo_98 (by decide) ?_
        exact ih18 v_ends x1 x2 x3 x5 (x6 + (1 : Int32)) _ _ _ hf hP hD hS (lv_sub hl [1, 2, 3, 4, 5, 0] rfl)
      have b40 : ∀ n40 : Nat, ∀ (v_ends : Nat → Int32) (x1 : Int32) (x2 : Int32) (x3 : Int32) (x5 : Int32) (x6 : Int32) (x7 : Int32) (H : Heap) (locs : List Loc) (ls : Array Slot), f_X10_comeTo_40 N (f_X10_comeTo_18 N n18) n40 v_ends v_beg x1 x2 x3 x5 x6 x7 = some o_v_ends → va_P D vwCl (W_WY_0_4t5 qv0 qv4 qv5 qv1 qv2 qv3 cI cJ cZ cB cT v_up v_low v_gone v_may v_must v_ends v_beg) H → va_D A (W_WY_0_4t5 qv0 qv4 qv5 qv1 qv2 qv3 cI cJ cZ cB cT v_up v_low v_gone v_may v_must v_ends v_beg) → va_S A s.heap H locs → lv_has ls 8 [(0, .ref qv0), (1, .int x1), (2, .int x2), (3, .int x3), (5, .int x5), (6, .int x6), (7, .int x7)] → W p l e ({ frames := 0, cells := 0, slots := 0, locals := 0 } : Room) s m ([.ref qv0, .int p1, .int p2, .int p3, .int p4] : List Value).toArray below meth c H locs 0 0 (MQ below ((mQv D (W_WY_0_4t5 qv0 qv4 qv5 qv1 qv2 qv3 cI cJ cZ cB cT v_up v_low v_gone v_may v_must o_v_ends v_beg)) A) ([.ref qv0, .int p1, .int p2, .int p3, .int p4] : List Value).toArray s 0 0 A) (F0 m 40 ls []) := by
        intro n40
        induction n40 with
        | zero =>
          intro v_ends x1 x2 x3 x5 x6 x7 H locs ls hf hP hD hS hl
          simp [f_X10_comeTo_40] at hf
        | succ n40 ih40 =>
          intro v_ends x1 x2 x3 x5 x6 x7 H locs ls hf hP hD hS hl
          rw [f_X10_comeTo_40.eq_2] at hf
          refine lv_iload hx hb dX10_comeTo_40 (lv_at hl 6 rfl) ?_
          refine lv_iconst (v := (1 : Int32)) hx hb dX10_comeTo_42 (by decide) ?_
          refine lv_iload_n hx hb dX10_comeTo_43 rfl (lv_at hl 3 rfl) ?_
          refine lv_ishl hx hb dX10_comeTo_44 ?_
          refine xicmp_ge hx hb 95 dX10_comeTo_45 (by decide) hf (fun hf => ?_) (fun hf => ?_)
          · exact b95 v_ends x1 x2 x3 x5 x6 _ _ _ hf hP hD hS (lv_sub hl [0, 1, 2, 3, 4, 5] rfl)
          · refine lv_iload hx hb dX10_comeTo_48 (lv_at hl 6 rfl) ?_
            refine lv_iload hx hb dX10_comeTo_50 (lv_at hl 4 rfl) ?_
            refine lv_ior hx hb dX10_comeTo_52 ?_
            refine lv_bipush (v := (32 : Int32)) hx hb dX10_comeTo_53 (by decide) ?_
            refine xicmp_ge hx hb 95 dX10_comeTo_55 (by decide) hf (fun hf => ?_) (fun hf => ?_)
            · exact b95 v_ends x1 x2 x3 x5 x6 _ _ _ hf hP hD hS (lv_sub hl [0, 1, 2, 3, 4, 5] rfl)
            · refine lv_aload_n hx hb dX10_comeTo_58 rfl (lv_at hl 0 rfl) ?_
              refine gfX10_39 hx hb hts hown hK hP 0 rfl rfl dX10_comeTo_59 ?_
              refine lv_iload_n hx hb dX10_comeTo_62 rfl (lv_at hl 1 rfl) ?_
              refine lv_bipush (v := (32 : Int32)) hx hb dX10_comeTo_63 (by decide) ?_
              refine lv_imul hx hb dX10_comeTo_65 ?_
              refine lv_iload hx hb dX10_comeTo_66 (lv_at hl 6 rfl) ?_
              refine lv_iload hx hb dX10_comeTo_68 (lv_at hl 4 rfl) ?_
              refine lv_ior hx hb dX10_comeTo_70 ?_
              refine lv_iadd hx hb dX10_comeTo_71 ?_
              refine lv_dup2_11 hx hb dX10_comeTo_72 rfl rfl ?_
              refine xiald hx hb hK hP 1 0 rfl rfl dX10_comeTo_73 hf (fun v73 hf => ?_)
              refine lv_aload_n hx hb dX10_comeTo_74 rfl (lv_at hl 0 rfl) ?_
              refine gfX10_42 hx hb hts hown hK hP 0 rfl rfl dX10_comeTo_75 ?_
              refine lv_iload hx hb dX10_comeTo_78 (lv_at hl 5 rfl) ?_
              refine lv_bipush (v := (32 : Int32)) hx hb dX10_comeTo_80 (by decide) ?_
              refine lv_imul hx hb dX10_comeTo_82 ?_
              refine lv_iload hx hb dX10_comeTo_83 (lv_at hl 6 rfl) ?_
              refine lv_iadd hx hb dX10_comeTo_85 ?_
              refine xiald hx hb hK hP 2 0 rfl rfl dX10_comeTo_86 hf (fun v86 hf => ?_)
              refine lv_iadd hx hb dX10_comeTo_87 ?_
              refine xiast hx hb hK hP hD hS 1 0 rfl rfl dX10_comeTo_88 hf (fun v_ends_88 hf H locs hP hD hS => ?_)
              have hP : va_P D vwCl (W_WY_0_4t5 qv0 qv4 qv5 qv1 qv2 qv3 cI cJ cZ cB cT v_up v_low v_gone v_may v_must v_ends_88 v_beg) H := hP
              have hD : va_D A (W_WY_0_4t5 qv0 qv4 qv5 qv1 qv2 qv3 cI cJ cZ cB cT v_up v_low v_gone v_may v_must v_ends_88 v_beg) := hD
              refine lv_iinc (v := (x7 + (1 : Int32))) (lv' := [(7, .int (x7 + (1 : Int32))), (0, .ref qv0), (1, .int x1), (2, .int x2), (3, .int x3), (5, .int x5), (6, .int x6)]) hx hb dX10_comeTo_89 hl (k := 6) rfl rfl (by decide) rfl (fun ls hl => ?_)
              refine lv_goto (tgt := 40) hx hb dX10_comeTo_92 (by decide) ?_
              exact ih40 v_ends_88 x1 x2 x3 x5 x6 (x7 + (1 : Int32)) _ _ _ hf hP hD hS (lv_sub hl [1, 2, 3, 4, 5, 6, 0] rfl)
      intro v_ends x1 x2 x3 x5 x6 H locs ls hf hP hD hS hl
      rw [f_X10_comeTo_18.eq_2] at hf
      refine lv_iload hx hb dX10_comeTo_18 (lv_at hl 5 rfl) ?_
      refine lv_bipush (v := (8 : Int32)) hx hb dX10_comeTo_20 (by decide) ?_
      refine xicmp_ge hx hb 101 dX10_comeTo_22 (by decide) hf (fun hf => ?_) (fun hf => ?_)
      · cases hf
        exact mret_v hx hb hr hlocks hP hD hS dX10_comeTo_101
      · refine lv_iload_n hx hb dX10_comeTo_25 rfl (lv_at hl 2 rfl) ?_
        refine lv_iload hx hb dX10_comeTo_26 (lv_at hl 5 rfl) ?_
        refine lv_ishr hx hb dX10_comeTo_28 ?_
        refine lv_iconst (v := (1 : Int32)) hx hb dX10_comeTo_29 (by decide) ?_
        refine lv_iand hx hb dX10_comeTo_30 ?_
        refine xif_ne hx hb 37 dX10_comeTo_31 (by decide) hf (fun hf => ?_) (fun hf => ?_)
        · refine lv_goto (tgt := 95) hx hb dX10_comeTo_34 (by decide) ?_
          exact b95 v_ends x1 x2 x3 x5 x6 _ _ _ hf hP hD hS (lv_sub hl [0, 1, 2, 3, 4, 5] rfl)
        · refine lv_iconst (v := (0 : Int32)) hx hb dX10_comeTo_37 (by decide) ?_
          refine lv_istore (lv' := [(7, .int (0 : Int32)), (0, .ref qv0), (1, .int x1), (2, .int x2), (3, .int x3), (5, .int x5), (6, .int x6)]) hx hb dX10_comeTo_38 hl (by decide) rfl (fun ls hl => ?_)
          exact b40 N v_ends x1 x2 x3 x5 x6 (0 : Int32) _ _ _ hf hP hD hS (lv_sub hl [1, 2, 3, 4, 5, 6, 0] rfl)
  have b13 : ∀ (v_ends : Nat → Int32) (x1 : Int32) (x2 : Int32) (x3 : Int32) (s0 : Int32) (H : Heap) (locs : List Loc) (ls : Array Slot), f_X10_comeTo_13 N v_ends v_beg x1 x2 x3 s0 = some o_v_ends → va_P D vwCl (W_WY_0_4t5 qv0 qv4 qv5 qv1 qv2 qv3 cI cJ cZ cB cT v_up v_low v_gone v_may v_must v_ends v_beg) H → va_D A (W_WY_0_4t5 qv0 qv4 qv5 qv1 qv2 qv3 cI cJ cZ cB cT v_up v_low v_gone v_may v_must v_ends v_beg) → va_S A s.heap H locs → lv_has ls 8 [(0, .ref qv0), (1, .int x1), (2, .int x2), (3, .int x3)] → W p l e ({ frames := 0, cells := 0, slots := 0, locals := 0 } : Room) s m ([.ref qv0, .int p1, .int p2, .int p3, .int p4] : List Value).toArray below meth c H locs 0 0 (MQ below ((mQv D (W_WY_0_4t5 qv0 qv4 qv5 qv1 qv2 qv3 cI cJ cZ cB cT v_up v_low v_gone v_may v_must o_v_ends v_beg)) A) ([.ref qv0, .int p1, .int p2, .int p3, .int p4] : List Value).toArray s 0 0 A) (F0 m 13 ls [.int s0]) := by
    intro v_ends x1 x2 x3 s0 H locs ls hf hP hD hS hl
    unfold f_X10_comeTo_13 at hf
    refine lv_istore (lv' := [(5, .int s0), (0, .ref qv0), (1, .int x1), (2, .int x2), (3, .int x3)]) hx hb dX10_comeTo_13 hl (by decide) rfl (fun ls hl => ?_)
    refine lv_iconst (v := (0 : Int32)) hx hb dX10_comeTo_15 (by decide) ?_
    refine lv_istore (lv' := [(6, .int (0 : Int32)), (5, .int s0), (0, .ref qv0), (1, .int x1), (2, .int x2), (3, .int x3)]) hx hb dX10_comeTo_16 hl (by decide) rfl (fun ls hl => ?_)
    exact b18 N v_ends x1 x2 x3 s0 (0 : Int32) _ _ _ hf hP hD hS (lv_sub hl [2, 3, 4, 5, 1, 0] rfl)
  unfold f_X10_comeTo at hf
  refine lv_iload_n hx hb dX10_comeTo_0 rfl (lv_at hl 1 rfl) ?_
  refine lv_iload hx hb dX10_comeTo_1 (lv_at hl 4 rfl) ?_
  refine xicmp_ne hx hb 12 dX10_comeTo_3 (by decide) hf (fun hf => ?_) (fun hf => ?_)
  · refine lv_iconst (v := (1 : Int32)) hx hb dX10_comeTo_6 (by decide) ?_
    refine lv_iload_n hx hb dX10_comeTo_7 rfl (lv_at hl 3 rfl) ?_
    refine lv_ishl hx hb dX10_comeTo_8 ?_
    refine lv_goto (tgt := 13) hx hb dX10_comeTo_9 (by decide) ?_
    exact b13 v_ends p1 p2 p3 ((1 : Int32) <<< (p3 &&& 31)) _ _ _ hf hP hD hS (lv_sub hl [0, 1, 2, 3] rfl)
  · refine lv_iconst (v := (0 : Int32)) hx hb dX10_comeTo_12 (by decide) ?_
    exact b13 v_ends p1 p2 p3 (0 : Int32) _ _ _ hf hP hD hS (lv_sub hl [0, 1, 2, 3] rfl)
theorem dX10_sumUp_0 : decode cX10_sumUp 0 = .ok (.aload_n 0, 1) := by decide +kernel
theorem dX10_sumUp_1 : decode cX10_sumUp 1 = .ok (.iconst 0, 1) := by decide +kernel
theorem dX10_sumUp_2 : decode cX10_sumUp 2 = .ok (.putfield 20, 3) := by decide +kernel
theorem dX10_sumUp_5 : decode cX10_sumUp 5 = .ok (.aload_n 0, 1) := by decide +kernel
theorem dX10_sumUp_6 : decode cX10_sumUp 6 = .ok (.iconst 0, 1) := by decide +kernel
theorem dX10_sumUp_7 : decode cX10_sumUp 7 = .ok (.putfield 23, 3) := by decide +kernel
theorem dX10_sumUp_10 : decode cX10_sumUp 10 = .ok (.aload_n 0, 1) := by decide +kernel
theorem dX10_sumUp_11 : decode cX10_sumUp 11 = .ok (.bipush 31, 2) := by decide +kernel
theorem dX10_sumUp_13 : decode cX10_sumUp 13 = .ok (.putfield 26, 3) := by decide +kernel
theorem dX10_sumUp_16 : decode cX10_sumUp 16 = .ok (.iconst 0, 1) := by decide +kernel
theorem dX10_sumUp_17 : decode cX10_sumUp 17 = .ok (.istore_n 2, 1) := by decide +kernel
theorem dX10_sumUp_18 : decode cX10_sumUp 18 = .ok (.iload_n 2, 1) := by decide +kernel
theorem dX10_sumUp_19 : decode cX10_sumUp 19 = .ok (.sipush 256, 3) := by decide +kernel
theorem dX10_sumUp_22 : decode cX10_sumUp 22 = .ok (.if_icmp .ge 66, 3) := by decide +kernel
theorem dX10_sumUp_25 : decode cX10_sumUp 25 = .ok (.iload_n 2, 1) := by decide +kernel
theorem dX10_sumUp_26 : decode cX10_sumUp 26 = .ok (.bipush 32, 2) := by decide +kernel
theorem dX10_sumUp_28 : decode cX10_sumUp 28 = .ok (.irem, 1) := by decide +kernel
theorem dX10_sumUp_29 : decode cX10_sumUp 29 = .ok (.istore_n 3, 1) := by decide +kernel
theorem dX10_sumUp_30 : decode cX10_sumUp 30 = .ok (.aload_n 0, 1) := by decide +kernel
theorem dX10_sumUp_31 : decode cX10_sumUp 31 = .ok (.getfield 39, 3) := by decide +kernel
theorem dX10_sumUp_34 : decode cX10_sumUp 34 = .ok (.iload_n 2, 1) := by decide +kernel
theorem dX10_sumUp_35 : decode cX10_sumUp 35 = .ok (.iaload, 1) := by decide +kernel
theorem dX10_sumUp_36 : decode cX10_sumUp 36 = .ok (.ifCond .le 46, 3) := by decide +kernel
theorem dX10_sumUp_39 : decode cX10_sumUp 39 = .ok (.iload_n 3, 1) := by decide +kernel
theorem dX10_sumUp_40 : decode cX10_sumUp 40 = .ok (.invokestatic 122, 3) := by decide +kernel
theorem dX10_sumUp_43 : decode cX10_sumUp 43 = .ok (.iload_n 1, 1) := by decide +kernel
theorem dX10_sumUp_44 : decode cX10_sumUp 44 = .ok (.if_icmp .ne 38, 3) := by decide +kernel
theorem dX10_sumUp_47 : decode cX10_sumUp 47 = .ok (.aload_n 0, 1) := by decide +kernel
theorem dX10_sumUp_48 : decode cX10_sumUp 48 = .ok (.dup, 1) := by decide +kernel
theorem dX10_sumUp_49 : decode cX10_sumUp 49 = .ok (.getfield 20, 3) := by decide +kernel
theorem dX10_sumUp_52 : decode cX10_sumUp 52 = .ok (.aload_n 0, 1) := by decide +kernel
theorem dX10_sumUp_53 : decode cX10_sumUp 53 = .ok (.getfield 39, 3) := by decide +kernel
theorem dX10_sumUp_56 : decode cX10_sumUp 56 = .ok (.iload_n 2, 1) := by decide +kernel
theorem dX10_sumUp_57 : decode cX10_sumUp 57 = .ok (.iaload, 1) := by decide +kernel
theorem dX10_sumUp_58 : decode cX10_sumUp 58 = .ok (.iadd, 1) := by decide +kernel
theorem dX10_sumUp_59 : decode cX10_sumUp 59 = .ok (.putfield 20, 3) := by decide +kernel
theorem dX10_sumUp_62 : decode cX10_sumUp 62 = .ok (.aload_n 0, 1) := by decide +kernel
theorem dX10_sumUp_63 : decode cX10_sumUp 63 = .ok (.dup, 1) := by decide +kernel
theorem dX10_sumUp_64 : decode cX10_sumUp 64 = .ok (.getfield 23, 3) := by decide +kernel
theorem dX10_sumUp_67 : decode cX10_sumUp 67 = .ok (.iload_n 3, 1) := by decide +kernel
theorem dX10_sumUp_68 : decode cX10_sumUp 68 = .ok (.ior, 1) := by decide +kernel
theorem dX10_sumUp_69 : decode cX10_sumUp 69 = .ok (.putfield 23, 3) := by decide +kernel
theorem dX10_sumUp_72 : decode cX10_sumUp 72 = .ok (.aload_n 0, 1) := by decide +kernel
theorem dX10_sumUp_73 : decode cX10_sumUp 73 = .ok (.dup, 1) := by decide +kernel
theorem dX10_sumUp_74 : decode cX10_sumUp 74 = .ok (.getfield 26, 3) := by decide +kernel
theorem dX10_sumUp_77 : decode cX10_sumUp 77 = .ok (.iload_n 3, 1) := by decide +kernel
theorem dX10_sumUp_78 : decode cX10_sumUp 78 = .ok (.iand, 1) := by decide +kernel
theorem dX10_sumUp_79 : decode cX10_sumUp 79 = .ok (.putfield 26, 3) := by decide +kernel
theorem dX10_sumUp_82 : decode cX10_sumUp 82 = .ok (.iinc 2 1, 3) := by decide +kernel
theorem dX10_sumUp_85 : decode cX10_sumUp 85 = .ok (.goto (-67), 3) := by decide +kernel
theorem dX10_sumUp_88 : decode cX10_sumUp 88 = .ok (.aload_n 0, 1) := by decide +kernel
theorem dX10_sumUp_89 : decode cX10_sumUp 89 = .ok (.aload_n 0, 1) := by decide +kernel
theorem dX10_sumUp_90 : decode cX10_sumUp 90 = .ok (.getfield 20, 3) := by decide +kernel
theorem dX10_sumUp_93 : decode cX10_sumUp 93 = .ok (.ifCond .ne 7, 3) := by decide +kernel
theorem dX10_sumUp_96 : decode cX10_sumUp 96 = .ok (.iconst 0, 1) := by decide +kernel
theorem dX10_sumUp_97 : decode cX10_sumUp 97 = .ok (.goto 7, 3) := by decide +kernel
theorem dX10_sumUp_100 : decode cX10_sumUp 100 = .ok (.aload_n 0, 1) := by decide +kernel
theorem dX10_sumUp_101 : decode cX10_sumUp 101 = .ok (.getfield 26, 3) := by decide +kernel
theorem dX10_sumUp_104 : decode cX10_sumUp 104 = .ok (.putfield 26, 3) := by decide +kernel
theorem dX10_sumUp_107 : decode cX10_sumUp 107 = .ok (.return_, 1) := by decide +kernel
def f_X10_sumUp_104 (N : Nat) (v_gone : Int32) (v_may : Int32) (v_must : Int32) (v_ends : Nat → Int32) (s1 : Int32) : Option (Int32 × Int32 × Int32) := some (v_gone, v_may, s1)
def f_X10_sumUp_82 (N : Nat) (k_18 : Int32 → Int32 → Int32 → (Nat → Int32) → Int32 → Int32 → Option (Int32 × Int32 × Int32)) (v_gone : Int32) (v_may : Int32) (v_must : Int32) (v_ends : Nat → Int32) (x1 : Int32) (x2 : Int32) : Option (Int32 × Int32 × Int32) := k_18 v_gone v_may v_must v_ends x1 (x2 + (1 : Int32))
def f_X10_sumUp_18 (N : Nat) : Nat → Int32 → Int32 → Int32 → (Nat → Int32) → Int32 → Int32 → Option (Int32 × Int32 × Int32)
  | 0, _, _, _, _, _, _ => none
  | n + 1, v_gone, v_may, v_must, v_ends, x1, x2 => if (256 : Int32) ≤ x2 then (if v_gone = 0 then (f_X10_sumUp_104 N v_gone v_may v_must v_ends (0 : Int32)) else (f_X10_sumUp_104 N v_gone v_may v_must v_ends v_must)) else (rmI x2 (32 : Int32) fun v28 => gA v_ends 256 x2 fun v35 => if v35 ≤ 0 then (f_X10_sumUp_82 N (f_X10_sumUp_18 N n) v_gone v_may v_must v_ends x1 x2) else (ob1 (f_J6_bitCount_0f7a4 N v28) fun r40 => if r40 = x1 then (gA v_ends 256 x2 fun v57 => f_X10_sumUp_82 N (f_X10_sumUp_18 N n) (v_gone + v57) (v_may ||| v28) (v_must &&& v28) v_ends x1 x2) else (f_X10_sumUp_82 N (f_X10_sumUp_18 N n) v_gone v_may v_must v_ends x1 x2)))
def f_X10_sumUp (N : Nat) (v_gone : Int32) (v_may : Int32) (v_must : Int32) (v_ends : Nat → Int32) (p1 : Int32) : Option (Int32 × Int32 × Int32) := f_X10_sumUp_18 N N (0 : Int32) (0 : Int32) (31 : Int32) v_ends p1 (0 : Int32)
set_option maxHeartbeats 4000000 in
set_option maxRecDepth 100000 in
theorem k_X10_sumUp (l : Launch) (N : Nat) (D : va_G) (cI cJ cZ cB cT : ClassId) (qv0 : Nat) (qv4 : Nat) (qv1 : Nat) (qv2 : Nat) (qv3 : Nat) (qv5 : Nat) (v_up : Int32) (v_low : Int32) (v_gone : Int32) (v_may : Int32) (v_must : Int32) (v_ends : Nat → Int32) (p1 : Int32) (o_v_gone : Int32) (o_v_may : Int32) (o_v_must : Int32) (hf : f_X10_sumUp N v_gone v_may v_must v_ends p1 = some (o_v_gone, o_v_may, o_v_must)) : ∀ sz, Met l yX10_sumUp (mw yX10_sumUp cX10_sumUp 4 none) ({ frames := 1, cells := 0, slots := 0, locals := 20 } : Room) (mPre D (mT cI cJ cZ cB cT) (W_WY_0_4 qv0 qv4 qv1 qv2 qv3 qv5 cI cJ cZ cB cT v_up v_low v_gone v_may v_must v_ends) sz [.ref qv0, .int p1]) ((mQv D (W_WY_0_4 qv0 qv4 qv1 qv2 qv3 qv5 cI cJ cZ cB cT v_up v_low o_v_gone o_v_may o_v_must v_ends)) (va_A (W_WY_0_4 qv0 qv4 qv1 qv2 qv3 qv5 cI cJ cZ cB cT v_up v_low v_gone v_may v_must v_ends) sz)) 0 0 (va_A (W_WY_0_4 qv0 qv4 qv1 qv2 qv3 qv5 cI cJ cZ cB cT v_up v_low v_gone v_may v_must v_ends) sz) := by
  refine mMet (Qc := (mQv D (W_WY_0_4 qv0 qv4 qv1 qv2 qv3 qv5 cI cJ cZ cB cT v_up v_low o_v_gone o_v_may o_v_must v_ends))) (by decide) (Nat.le_of_ble_eq_true rfl) (fun p e s m below meth c A ls hx hb hr hml hts hown hlocks hK hA hP hD hl => ?_)
  have hown : s.vm.findClass RX10 = some m.cls := hown
  have hl : lv_has ls 4 [(0, .ref qv0), (1, .int p1)] := hl
  have hS : va_S A s.heap s.heap [] := va_S.rf
  have b104 : ∀ (v_gone : Int32) (v_may : Int32) (v_must : Int32) (s1 : Int32) (H : Heap) (locs : List Loc) (ls : Array Slot), f_X10_sumUp_104 N v_gone v_may v_must v_ends s1 = some (o_v_gone, o_v_may, o_v_must) → va_P D vwCl (W_WY_0_4 qv0 qv4 qv1 qv2 qv3 qv5 cI cJ cZ cB cT v_up v_low v_gone v_may v_must v_ends) H → va_D A (W_WY_0_4 qv0 qv4 qv1 qv2 qv3 qv5 cI cJ cZ cB cT v_up v_low v_gone v_may v_must v_ends) → va_S A s.heap H locs → lv_has ls 4 [] → W p l e ({ frames := 1, cells := 0, slots := 0, locals := 20 } : Room) s m ([.ref qv0, .int p1] : List Value).toArray below meth c H locs 0 0 (MQ below ((mQv D (W_WY_0_4 qv0 qv4 qv1 qv2 qv3 qv5 cI cJ cZ cB cT v_up v_low o_v_gone o_v_may o_v_must v_ends)) A) ([.ref qv0, .int p1] : List Value).toArray s 0 0 A) (F0 m 104 ls [.int s1, .ref qv0]) := by
    intro v_gone v_may v_must s1 H locs ls hf hP hD hS hl
    unfold f_X10_sumUp_104 at hf
    refine pfX10_26 hx hb hts hown hK hP hD hS 0 rfl (Nat.le_of_ble_eq_true rfl) dX10_sumUp_104 (fun H locs hP hD hS => ?_)
    have hP : va_P D vwCl (W_WY_0_4 qv0 qv4 qv1 qv2 qv3 qv5 cI cJ cZ cB cT v_up v_low v_gone v_may s1 v_ends) H := hP
    have hD : va_D A (W_WY_0_4 qv0 qv4 qv1 qv2 qv3 qv5 cI cJ cZ cB cT v_up v_low v_gone v_may s1 v_ends) := hD
    cases hf
    exact mret_v hx hb hr hlocks hP hD hS dX10_sumUp_107
  have b18 : ∀ n18 : Nat, ∀ (v_gone : Int32) (v_may : Int32) (v_must : Int32) (x1 : Int32) (x2 : Int32) (H : Heap) (locs : List Loc) (ls : Array Slot), f_X10_sumUp_18 N n18 v_gone v_may v_must v_ends x1 x2 = some (o_v_gone, o_v_may, o_v_must) → va_P D vwCl (W_WY_0_4 qv0 qv4 qv1 qv2 qv3 qv5 cI cJ cZ cB cT v_up v_low v_gone v_may v_must v_ends) H → va_D A (W_WY_0_4 qv0 qv4 qv1 qv2 qv3 qv5 cI cJ cZ cB cT v_up v_low v_gone v_may v_must v_ends) → va_S A s.heap H locs → lv_has ls 4 [(0, .ref qv0), (1, .int x1), (2, .int x2)] → W p l e ({ frames := 1, cells := 0, slots := 0, locals := 20 } : Room) s m ([.ref qv0, .int p1] : List Value).toArray below meth c H locs 0 0 (MQ below ((mQv D (W_WY_0_4 qv0 qv4 qv1 qv2 qv3 qv5 cI cJ cZ cB cT v_up v_low o_v_gone o_v_may o_v_must v_ends)) A) ([.ref qv0, .int p1] : List Value).toArray s 0 0 A) (F0 m 18 ls []) := by
    intro n18
    induction n18 with
    | zero =>
      intro v_gone v_may v_must x1 x2 H locs ls hf hP hD hS hl
      simp [f_X10_sumUp_18] at hf
    | succ n18 ih18 =>
      have b82 : ∀ (v_gone : Int32) (v_may : Int32) (v_must : Int32) (x1 : Int32) (x2 : Int32) (H : Heap) (locs : List Loc) (ls : Array Slot), f_X10_sumUp_82 N (f_X10_sumUp_18 N n18) v_gone v_may v_must v_ends x1 x2 = some (o_v_gone, o_v_may, o_v_must) → va_P D vwCl (W_WY_0_4 qv0 qv4 qv1 qv2 qv3 qv5 cI cJ cZ cB cT v_up v_low v_gone v_may v_must v_ends) H → va_D A (W_WY_0_4 qv0 qv4 qv1 qv2 qv3 qv5 cI cJ cZ cB cT v_up v_low v_gone v_may v_must v_ends) → va_S A s.heap H locs → lv_has ls 4 [(0, .ref qv0), (1, .int x1), (2, .int x2)] → W p l e ({ frames := 1, cells := 0, slots := 0, locals := 20 } : Room) s m ([.ref qv0, .int p1] : List Value).toArray below meth c H locs 0 0 (MQ below ((mQv D (W_WY_0_4 qv0 qv4 qv1 qv2 qv3 qv5 cI cJ cZ cB cT v_up v_low o_v_gone o_v_may o_v_must v_ends)) A) ([.ref qv0, .int p1] : List Value).toArray s 0 0 A) (F0 m 82 ls []) := by
        intro v_gone v_may v_must x1 x2 H locs ls hf hP hD hS hl
        unfold f_X10_sumUp_82 at hf
        refine lv_iinc (v := (x2 + (1 : Int32))) (lv' := [(2, .int (x2 + (1 : Int32))), (0, .ref qv0), (1, .int x1)]) hx hb dX10_sumUp_82 hl (k := 2) rfl rfl (by decide) rfl (fun ls hl => ?_)
        refine lv_goto (tgt := 18) hx hb dX10_sumUp_85 (by decide) ?_
        exact ih18 v_gone v_may v_must x1 (x2 + (1 : Int32)) _ _ _ hf hP hD hS (lv_sub hl [1, 2, 0] rfl)
      intro v_gone v_may v_must x1 x2 H locs ls hf hP hD hS hl
      rw [f_X10_sumUp_18.eq_2] at hf
      refine lv_iload_n hx hb dX10_sumUp_18 rfl (lv_at hl 2 rfl) ?_
      refine lv_sipush (v := (256 : Int32)) hx hb dX10_sumUp_19 (by decide) ?_
      refine xicmp_ge hx hb 88 dX10_sumUp_22 (by decide) hf (fun hf => ?_) (fun hf => ?_)
      · refine lv_aload_n hx hb dX10_sumUp_88 rfl (lv_at hl 0 rfl) ?_
        refine lv_aload_n hx hb dX10_sumUp_89 rfl (lv_at hl 0 rfl) ?_
        refine gfX10_20 hx hb hts hown hK hP 0 rfl rfl dX10_sumUp_90 ?_
        refine xif_ne hx hb 100 dX10_sumUp_93 (by decide) hf (fun hf => ?_) (fun hf => ?_)
        · refine lv_iconst (v := (0 : Int32)) hx hb dX10_sumUp_96 (by decide) ?_
          refine lv_goto (tgt := 104) hx hb dX10_sumUp_97 (by decide) ?_
          exact b104 v_gone v_may v_must (0 : Int32) _ _ _ hf hP hD hS (lv_sub hl [] rfl)
        · refine lv_aload_n hx hb dX10_sumUp_100 rfl (lv_at hl 0 rfl) ?_
          refine gfX10_26 hx hb hts hown hK hP 0 rfl rfl dX10_sumUp_101 ?_
          exact b104 v_gone v_may v_must v_must _ _ _ hf hP hD hS (lv_sub hl [] rfl)
      · refine lv_iload_n hx hb dX10_sumUp_25 rfl (lv_at hl 2 rfl) ?_
        refine lv_bipush (v := (32 : Int32)) hx hb dX10_sumUp_26 (by decide) ?_
        refine xirem hx hb dX10_sumUp_28 hf (fun v28 hf => ?_)
        refine lv_istore_n (lv' := [(3, .int v28), (0, .ref qv0), (1, .int x1), (2, .int x2)]) hx hb dX10_sumUp_29 rfl hl (by decide) rfl (fun ls hl => ?_)
        refine lv_aload_n hx hb dX10_sumUp_30 rfl (lv_at hl 1 rfl) ?_
        refine gfX10_39 hx hb hts hown hK hP 0 rfl rfl dX10_sumUp_31 ?_
        refine lv_iload_n hx hb dX10_sumUp_34 rfl (lv_at hl 3 rfl) ?_
        refine xiald hx hb hK hP 1 0 rfl rfl dX10_sumUp_35 hf (fun v35 hf => ?_)
        refine xif_le hx hb 82 dX10_sumUp_36 (by decide) hf (fun hf => ?_) (fun hf => ?_)
        · exact b82 v_gone v_may v_must x1 x2 _ _ _ hf hP hD hS (lv_sub hl [1, 2, 3] rfl)
        · refine lv_iload_n hx hb dX10_sumUp_39 rfl (lv_at hl 0 rfl) ?_
          obtain ⟨r40, hg40, hf⟩ := ob1_some hf
          refine mcS0_i (As := [.int v28]) (rest := []) hx hb hml hown hts hK hP hD hS hA (k_J6_bitCount_0f7a4 l N D cI cJ cZ cB cT v28 r40 hg40) (kwX10_122 hts rfl rfl ⟨Nat.le_of_ble_eq_true rfl, Nat.le_of_ble_eq_true rfl⟩) rfl hl.1 rfl (Nat.le_of_ble_eq_true rfl) dX10_sumUp_40 ⟨Nat.zero_le _, Nat.zero_le _⟩ (fun hB40 H locs hP hD hS => ?_)
          refine lv_iload_n hx hb dX10_sumUp_43 rfl (lv_at hl 2 rfl) ?_
          refine xicmp_ne hx hb 82 dX10_sumUp_44 (by decide) hf (fun hf => ?_) (fun hf => ?_)
          · refine lv_aload_n hx hb dX10_sumUp_47 rfl (lv_at hl 1 rfl) ?_
            refine lv_dup hx hb dX10_sumUp_48 rfl ?_
            refine gfX10_20 hx hb hts hown hK hP 0 rfl rfl dX10_sumUp_49 ?_
            refine lv_aload_n hx hb dX10_sumUp_52 rfl (lv_at hl 1 rfl) ?_
            refine gfX10_39 hx hb hts hown hK hP 0 rfl rfl dX10_sumUp_53 ?_
            refine lv_iload_n hx hb dX10_sumUp_56 rfl (lv_at hl 3 rfl) ?_
            refine xiald hx hb hK hP 1 0 rfl rfl dX10_sumUp_57 hf (fun v57 hf => ?_)
            refine lv_iadd hx hb dX10_sumUp_58 ?_
            refine pfX10_20 hx hb hts hown hK hP hD hS 0 rfl (Nat.le_of_ble_eq_true rfl) dX10_sumUp_59 (fun H locs hP hD hS => ?_)
            have hP : va_P D vwCl (W_WY_0_4 qv0 qv4 qv1 qv2 qv3 qv5 cI cJ cZ cB cT v_up v_low (v_gone + v57) v_may v_must v_ends) H := hP
            have hD : va_D A (W_WY_0_4 qv0 qv4 qv1 qv2 qv3 qv5 cI cJ cZ cB cT v_up v_low (v_gone + v57) v_may v_must v_ends) := hD
            refine lv_aload_n hx hb dX10_sumUp_62 rfl (lv_at hl 1 rfl) ?_
            refine lv_dup hx hb dX10_sumUp_63 rfl ?_
            refine gfX10_23 hx hb hts hown hK hP 0 rfl rfl dX10_sumUp_64 ?_
            refine lv_iload_n hx hb dX10_sumUp_67 rfl (lv_at hl 0 rfl) ?_
            refine lv_ior hx hb dX10_sumUp_68 ?_
            refine pfX10_23 hx hb hts hown hK hP hD hS 0 rfl (Nat.le_of_ble_eq_true rfl) dX10_sumUp_69 (fun H locs hP hD hS => ?_)
            have hP : va_P D vwCl (W_WY_0_4 qv0 qv4 qv1 qv2 qv3 qv5 cI cJ cZ cB cT v_up v_low (v_gone + v57) (v_may ||| v28) v_must v_ends) H := hP
            have hD : va_D A (W_WY_0_4 qv0 qv4 qv1 qv2 qv3 qv5 cI cJ cZ cB cT v_up v_low (v_gone + v57) (v_may ||| v28) v_must v_ends) := hD
            refine lv_aload_n hx hb dX10_sumUp_72 rfl (lv_at hl 1 rfl) ?_
            refine lv_dup hx hb dX10_sumUp_73 rfl ?_
            refine gfX10_26 hx hb hts hown hK hP 0 rfl rfl dX10_sumUp_74 ?_
            refine lv_iload_n hx hb dX10_sumUp_77 rfl (lv_at hl 0 rfl) ?_
            refine lv_iand hx hb dX10_sumUp_78 ?_
            refine pfX10_26 hx hb hts hown hK hP hD hS 0 rfl (Nat.le_of_ble_eq_true rfl) dX10_sumUp_79 (fun H locs hP hD hS => ?_)
            have hP : va_P D vwCl (W_WY_0_4 qv0 qv4 qv1 qv2 qv3 qv5 cI cJ cZ cB cT v_up v_low (v_gone + v57) (v_may ||| v28) (v_must &&& v28) v_ends) H := hP
            have hD : va_D A (W_WY_0_4 qv0 qv4 qv1 qv2 qv3 qv5 cI cJ cZ cB cT v_up v_low (v_gone + v57) (v_may ||| v28) (v_must &&& v28) v_ends) := hD
            exact b82 (v_gone + v57) (v_may ||| v28) (v_must &&& v28) x1 x2 _ _ _ hf hP hD hS (lv_sub hl [1, 2, 3] rfl)
          · exact b82 v_gone v_may v_must x1 x2 _ _ _ hf hP hD hS (lv_sub hl [1, 2, 3] rfl)
  unfold f_X10_sumUp at hf
  refine lv_aload_n hx hb dX10_sumUp_0 rfl (lv_at hl 0 rfl) ?_
  refine lv_iconst (v := (0 : Int32)) hx hb dX10_sumUp_1 (by decide) ?_
  refine pfX10_20 hx hb hts hown hK hP hD hS 0 rfl (Nat.le_of_ble_eq_true rfl) dX10_sumUp_2 (fun H locs hP hD hS => ?_)
  have hP : va_P D vwCl (W_WY_0_4 qv0 qv4 qv1 qv2 qv3 qv5 cI cJ cZ cB cT v_up v_low (0 : Int32) v_may v_must v_ends) H := hP
  have hD : va_D A (W_WY_0_4 qv0 qv4 qv1 qv2 qv3 qv5 cI cJ cZ cB cT v_up v_low (0 : Int32) v_may v_must v_ends) := hD
  refine lv_aload_n hx hb dX10_sumUp_5 rfl (lv_at hl 0 rfl) ?_
  refine lv_iconst (v := (0 : Int32)) hx hb dX10_sumUp_6 (by decide) ?_
  refine pfX10_23 hx hb hts hown hK hP hD hS 0 rfl (Nat.le_of_ble_eq_true rfl) dX10_sumUp_7 (fun H locs hP hD hS => ?_)
  have hP : va_P D vwCl (W_WY_0_4 qv0 qv4 qv1 qv2 qv3 qv5 cI cJ cZ cB cT v_up v_low (0 : Int32) (0 : Int32) v_must v_ends) H := hP
  have hD : va_D A (W_WY_0_4 qv0 qv4 qv1 qv2 qv3 qv5 cI cJ cZ cB cT v_up v_low (0 : Int32) (0 : Int32) v_must v_ends) := hD
  refine lv_aload_n hx hb dX10_sumUp_10 rfl (lv_at hl 0 rfl) ?_
  refine lv_bipush (v := (31 : Int32)) hx hb dX10_sumUp_11 (by decide) ?_
  refine pfX10_26 hx hb hts hown hK hP hD hS 0 rfl (Nat.le_of_ble_eq_true rfl) dX10_sumUp_13 (fun H locs hP hD hS => ?_)
  have hP : va_P D vwCl (W_WY_0_4 qv0 qv4 qv1 qv2 qv3 qv5 cI cJ cZ cB cT v_up v_low (0 : Int32) (0 : Int32) (31 : Int32) v_ends) H := hP
  have hD : va_D A (W_WY_0_4 qv0 qv4 qv1 qv2 qv3 qv5 cI cJ cZ cB cT v_up v_low (0 : Int32) (0 : Int32) (31 : Int32) v_ends) := hD
  refine lv_iconst (v := (0 : Int32)) hx hb dX10_sumUp_16 (by decide) ?_
  refine lv_istore_n (lv' := [(2, .int (0 : Int32)), (0, .ref qv0), (1, .int p1)]) hx hb dX10_sumUp_17 rfl hl (by decide) rfl (fun ls hl => ?_)
  exact b18 N (0 : Int32) (0 : Int32) (31 : Int32) p1 (0 : Int32) _ _ _ hf hP hD hS (lv_sub hl [1, 2, 0] rfl)
theorem dX10_countInCrowd_0 : decode cX10_countInCrowd 0 = .ok (.aload_n 0, 1) := by decide +kernel
theorem dX10_countInCrowd_1 : decode cX10_countInCrowd 1 = .ok (.getfield 39, 3) := by decide +kernel
theorem dX10_countInCrowd_4 : decode cX10_countInCrowd 4 = .ok (.invokestatic 98, 3) := by decide +kernel
theorem dX10_countInCrowd_7 : decode cX10_countInCrowd 7 = .ok (.iload_n 3, 1) := by decide +kernel
theorem dX10_countInCrowd_8 : decode cX10_countInCrowd 8 = .ok (.bipush 32, 2) := by decide +kernel
theorem dX10_countInCrowd_10 : decode cX10_countInCrowd 10 = .ok (.imul, 1) := by decide +kernel
theorem dX10_countInCrowd_11 : decode cX10_countInCrowd 11 = .ok (.aload_n 2, 1) := by decide +kernel
theorem dX10_countInCrowd_12 : decode cX10_countInCrowd 12 = .ok (.iconst 0, 1) := by decide +kernel
theorem dX10_countInCrowd_13 : decode cX10_countInCrowd 13 = .ok (.invokevirtual 102, 3) := by decide +kernel
theorem dX10_countInCrowd_16 : decode cX10_countInCrowd 16 = .ok (.iload_n 3, 1) := by decide +kernel
theorem dX10_countInCrowd_17 : decode cX10_countInCrowd 17 = .ok (.if_icmp .ne 7, 3) := by decide +kernel
theorem dX10_countInCrowd_20 : decode cX10_countInCrowd 20 = .ok (.iconst 1, 1) := by decide +kernel
theorem dX10_countInCrowd_21 : decode cX10_countInCrowd 21 = .ok (.goto 4, 3) := by decide +kernel
theorem dX10_countInCrowd_24 : decode cX10_countInCrowd 24 = .ok (.iconst 0, 1) := by decide +kernel
theorem dX10_countInCrowd_25 : decode cX10_countInCrowd 25 = .ok (.iadd, 1) := by decide +kernel
theorem dX10_countInCrowd_26 : decode cX10_countInCrowd 26 = .ok (.istore 5, 2) := by decide +kernel
theorem dX10_countInCrowd_28 : decode cX10_countInCrowd 28 = .ok (.iload 5, 2) := by decide +kernel
theorem dX10_countInCrowd_30 : decode cX10_countInCrowd 30 = .ok (.ifCond .lt 19, 3) := by decide +kernel
theorem dX10_countInCrowd_33 : decode cX10_countInCrowd 33 = .ok (.iload 5, 2) := by decide +kernel
theorem dX10_countInCrowd_35 : decode cX10_countInCrowd 35 = .ok (.sipush 256, 3) := by decide +kernel
theorem dX10_countInCrowd_38 : decode cX10_countInCrowd 38 = .ok (.if_icmp .ge 11, 3) := by decide +kernel
theorem dX10_countInCrowd_41 : decode cX10_countInCrowd 41 = .ok (.aload_n 0, 1) := by decide +kernel
theorem dX10_countInCrowd_42 : decode cX10_countInCrowd 42 = .ok (.getfield 39, 3) := by decide +kernel
theorem dX10_countInCrowd_45 : decode cX10_countInCrowd 45 = .ok (.iload 5, 2) := by decide +kernel
theorem dX10_countInCrowd_47 : decode cX10_countInCrowd 47 = .ok (.iconst 1, 1) := by decide +kernel
theorem dX10_countInCrowd_48 : decode cX10_countInCrowd 48 = .ok (.iastore, 1) := by decide +kernel
theorem dX10_countInCrowd_49 : decode cX10_countInCrowd 49 = .ok (.iconst 1, 1) := by decide +kernel
theorem dX10_countInCrowd_50 : decode cX10_countInCrowd 50 = .ok (.istore 6, 2) := by decide +kernel
theorem dX10_countInCrowd_52 : decode cX10_countInCrowd 52 = .ok (.iload 6, 2) := by decide +kernel
theorem dX10_countInCrowd_54 : decode cX10_countInCrowd 54 = .ok (.aload_n 2, 1) := by decide +kernel
theorem dX10_countInCrowd_55 : decode cX10_countInCrowd 55 = .ok (.getfield 105, 3) := by decide +kernel
theorem dX10_countInCrowd_58 : decode cX10_countInCrowd 58 = .ok (.if_icmp .ge 88, 3) := by decide +kernel
theorem dX10_countInCrowd_61 : decode cX10_countInCrowd 61 = .ok (.iload 6, 2) := by decide +kernel
theorem dX10_countInCrowd_63 : decode cX10_countInCrowd 63 = .ok (.iconst 5, 1) := by decide +kernel
theorem dX10_countInCrowd_64 : decode cX10_countInCrowd 64 = .ok (.if_icmp .ge 82, 3) := by decide +kernel
theorem dX10_countInCrowd_67 : decode cX10_countInCrowd 67 = .ok (.aload_n 0, 1) := by decide +kernel
theorem dX10_countInCrowd_68 : decode cX10_countInCrowd 68 = .ok (.getfield 39, 3) := by decide +kernel
theorem dX10_countInCrowd_71 : decode cX10_countInCrowd 71 = .ok (.iconst 0, 1) := by decide +kernel
theorem dX10_countInCrowd_72 : decode cX10_countInCrowd 72 = .ok (.aload_n 0, 1) := by decide +kernel
theorem dX10_countInCrowd_73 : decode cX10_countInCrowd 73 = .ok (.getfield 42, 3) := by decide +kernel
theorem dX10_countInCrowd_76 : decode cX10_countInCrowd 76 = .ok (.iconst 0, 1) := by decide +kernel
theorem dX10_countInCrowd_77 : decode cX10_countInCrowd 77 = .ok (.sipush 256, 3) := by decide +kernel
theorem dX10_countInCrowd_80 : decode cX10_countInCrowd 80 = .ok (.invokestatic 108, 3) := by decide +kernel
theorem dX10_countInCrowd_83 : decode cX10_countInCrowd 83 = .ok (.aload_n 0, 1) := by decide +kernel
theorem dX10_countInCrowd_84 : decode cX10_countInCrowd 84 = .ok (.getfield 39, 3) := by decide +kernel
theorem dX10_countInCrowd_87 : decode cX10_countInCrowd 87 = .ok (.invokestatic 98, 3) := by decide +kernel
theorem dX10_countInCrowd_90 : decode cX10_countInCrowd 90 = .ok (.iconst 0, 1) := by decide +kernel
theorem dX10_countInCrowd_91 : decode cX10_countInCrowd 91 = .ok (.istore 7, 2) := by decide +kernel
theorem dX10_countInCrowd_93 : decode cX10_countInCrowd 93 = .ok (.iload 7, 2) := by decide +kernel
theorem dX10_countInCrowd_95 : decode cX10_countInCrowd 95 = .ok (.aload_n 1, 1) := by decide +kernel
theorem dX10_countInCrowd_96 : decode cX10_countInCrowd 96 = .ok (.getfield 51, 3) := by decide +kernel
theorem dX10_countInCrowd_99 : decode cX10_countInCrowd 99 = .ok (.if_icmp .ge 41, 3) := by decide +kernel
theorem dX10_countInCrowd_102 : decode cX10_countInCrowd 102 = .ok (.iload 7, 2) := by decide +kernel
theorem dX10_countInCrowd_104 : decode cX10_countInCrowd 104 = .ok (.bipush 8, 2) := by decide +kernel
theorem dX10_countInCrowd_106 : decode cX10_countInCrowd 106 = .ok (.if_icmp .ge 34, 3) := by decide +kernel
theorem dX10_countInCrowd_109 : decode cX10_countInCrowd 109 = .ok (.aload_n 0, 1) := by decide +kernel
theorem dX10_countInCrowd_110 : decode cX10_countInCrowd 110 = .ok (.iload 7, 2) := by decide +kernel
theorem dX10_countInCrowd_112 : decode cX10_countInCrowd 112 = .ok (.aload_n 1, 1) := by decide +kernel
theorem dX10_countInCrowd_113 : decode cX10_countInCrowd 113 = .ok (.iload 7, 2) := by decide +kernel
theorem dX10_countInCrowd_115 : decode cX10_countInCrowd 115 = .ok (.invokevirtual 86, 3) := by decide +kernel
theorem dX10_countInCrowd_118 : decode cX10_countInCrowd 118 = .ok (.iconst 1, 1) := by decide +kernel
theorem dX10_countInCrowd_119 : decode cX10_countInCrowd 119 = .ok (.iload 7, 2) := by decide +kernel
theorem dX10_countInCrowd_121 : decode cX10_countInCrowd 121 = .ok (.ishl, 1) := by decide +kernel
theorem dX10_countInCrowd_122 : decode cX10_countInCrowd 122 = .ok (.ior, 1) := by decide +kernel
theorem dX10_countInCrowd_123 : decode cX10_countInCrowd 123 = .ok (.iload 6, 2) := by decide +kernel
theorem dX10_countInCrowd_125 : decode cX10_countInCrowd 125 = .ok (.aload_n 2, 1) := by decide +kernel
theorem dX10_countInCrowd_126 : decode cX10_countInCrowd 126 = .ok (.iload 6, 2) := by decide +kernel
theorem dX10_countInCrowd_128 : decode cX10_countInCrowd 128 = .ok (.invokevirtual 102, 3) := by decide +kernel
theorem dX10_countInCrowd_131 : decode cX10_countInCrowd 131 = .ok (.invokevirtual 114, 3) := by decide +kernel
theorem dX10_countInCrowd_134 : decode cX10_countInCrowd 134 = .ok (.iinc 7 1, 3) := by decide +kernel
theorem dX10_countInCrowd_137 : decode cX10_countInCrowd 137 = .ok (.goto (-44), 3) := by decide +kernel
theorem dX10_countInCrowd_140 : decode cX10_countInCrowd 140 = .ok (.iinc 6 1, 3) := by decide +kernel
theorem dX10_countInCrowd_143 : decode cX10_countInCrowd 143 = .ok (.goto (-91), 3) := by decide +kernel
theorem dX10_countInCrowd_146 : decode cX10_countInCrowd 146 = .ok (.aload_n 0, 1) := by decide +kernel
theorem dX10_countInCrowd_147 : decode cX10_countInCrowd 147 = .ok (.iload 4, 2) := by decide +kernel
theorem dX10_countInCrowd_149 : decode cX10_countInCrowd 149 = .ok (.invokevirtual 118, 3) := by decide +kernel
theorem dX10_countInCrowd_152 : decode cX10_countInCrowd 152 = .ok (.return_, 1) := by decide +kernel
def f_X10_countInCrowd_146 (N : Nat) (v_gone : Int32) (v_may : Int32) (v_must : Int32) (v_ends : Nat → Int32) (v_beg : Nat → Int32) (d_n : Int32) (d_road : Nat → Int32) (n_calls : Int32) (n_cl : Nat → Int32) (x4 : Int32) : Option (Int32 × Int32 × Int32 × (Nat → Int32) × (Nat → Int32)) := ob3 (f_X10_sumUp N v_gone v_may v_must v_ends x4) fun v_gone_149 v_may_149 v_must_149 => some (v_gone_149, v_may_149, v_must_149, v_ends, v_beg)
def f_X10_countInCrowd_140 (N : Nat) (k_52 : Int32 → Int32 → Int32 → (Nat → Int32) → (Nat → Int32) → Int32 → (Nat → Int32) → Int32 → (Nat → Int32) → Int32 → Int32 → Option (Int32 × Int32 × Int32 × (Nat → Int32) × (Nat → Int32))) (v_gone : Int32) (v_may : Int32) (v_must : Int32) (v_ends : Nat → Int32) (v_beg : Nat → Int32) (d_n : Int32) (d_road : Nat → Int32) (n_calls : Int32) (n_cl : Nat → Int32) (x4 : Int32) (x6 : Int32) : Option (Int32 × Int32 × Int32 × (Nat → Int32) × (Nat → Int32)) := k_52 v_gone v_may v_must v_ends v_beg d_n d_road n_calls n_cl x4 (x6 + (1 : Int32))
def f_X10_countInCrowd_93 (N : Nat) (k_52 : Int32 → Int32 → Int32 → (Nat → Int32) → (Nat → Int32) → Int32 → (Nat → Int32) → Int32 → (Nat → Int32) → Int32 → Int32 → Option (Int32 × Int32 × Int32 × (Nat → Int32) × (Nat → Int32))) : Nat → Int32 → Int32 → Int32 → (Nat → Int32) → (Nat → Int32) → Int32 → (Nat → Int32) → Int32 → (Nat → Int32) → Int32 → Int32 → Int32 → Option (Int32 × Int32 × Int32 × (Nat → Int32) × (Nat → Int32))
  | 0, _, _, _, _, _, _, _, _, _, _, _, _ => none
  | n + 1, v_gone, v_may, v_must, v_ends, v_beg, d_n, d_road, n_calls, n_cl, x4, x6, x7 => if d_n ≤ x7 then (f_X10_countInCrowd_140 N k_52 v_gone v_may v_must v_ends v_beg d_n d_road n_calls n_cl x4 x6) else (if (8 : Int32) ≤ x7 then (f_X10_countInCrowd_140 N k_52 v_gone v_may v_must v_ends v_beg d_n d_road n_calls n_cl x4 x6) else (ob1 (f_X2_near N d_n d_road x7) fun r115 => ob1 (f_X4_callLand N n_calls n_cl x6) fun r128 => ob1 (f_X10_comeTo N v_ends v_beg x7 (r115 ||| ((1 : Int32) <<< (x7 &&& 31))) x6 r128) fun v_ends_131 => (f_X10_countInCrowd_93 N k_52 n) v_gone v_may v_must v_ends_131 v_beg d_n d_road n_calls n_cl x4 x6 (x7 + (1 : Int32))))
def f_X10_countInCrowd_52 (N : Nat) : Nat → Int32 → Int32 → Int32 → (Nat → Int32) → (Nat → Int32) → Int32 → (Nat → Int32) → Int32 → (Nat → Int32) → Int32 → Int32 → Option (Int32 × Int32 × Int32 × (Nat → Int32) × (Nat → Int32))
  | 0, _, _, _, _, _, _, _, _, _, _, _ => none
  | n + 1, v_gone, v_may, v_must, v_ends, v_beg, d_n, d_road, n_calls, n_cl, x4, x6 => if n_calls ≤ x6 then (f_X10_countInCrowd_146 N v_gone v_may v_must v_ends v_beg d_n d_road n_calls n_cl x4) else (if (5 : Int32) ≤ x6 then (f_X10_countInCrowd_146 N v_gone v_may v_must v_ends v_beg d_n d_road n_calls n_cl x4) else (cpI v_ends 256 v_beg 256 (0 : Int32) (0 : Int32) (256 : Int32) fun v_beg_80 => ob1 (f_X10_clear N v_ends) fun v_ends_87 => f_X10_countInCrowd_93 N (f_X10_countInCrowd_52 N n) N v_gone v_may v_must v_ends_87 v_beg_80 d_n d_road n_calls n_cl x4 x6 (0 : Int32)))
def f_X10_countInCrowd_49 (N : Nat) (v_gone : Int32) (v_may : Int32) (v_must : Int32) (v_ends : Nat → Int32) (v_beg : Nat → Int32) (d_n : Int32) (d_road : Nat → Int32) (n_calls : Int32) (n_cl : Nat → Int32) (x4 : Int32) : Option (Int32 × Int32 × Int32 × (Nat → Int32) × (Nat → Int32)) := f_X10_countInCrowd_52 N N v_gone v_may v_must v_ends v_beg d_n d_road n_calls n_cl x4 (1 : Int32)
def f_X10_countInCrowd_25 (N : Nat) (v_gone : Int32) (v_may : Int32) (v_must : Int32) (v_ends : Nat → Int32) (v_beg : Nat → Int32) (d_n : Int32) (d_road : Nat → Int32) (n_calls : Int32) (n_cl : Nat → Int32) (x4 : Int32) (s0 : Int32) (s1 : Int32) : Option (Int32 × Int32 × Int32 × (Nat → Int32) × (Nat → Int32)) := if (s0 + s1) < 0 then (f_X10_countInCrowd_49 N v_gone v_may v_must v_ends v_beg d_n d_road n_calls n_cl x4) else (if (256 : Int32) ≤ (s0 + s1) then (f_X10_countInCrowd_49 N v_gone v_may v_must v_ends v_beg d_n d_road n_calls n_cl x4) else (sA v_ends 256 (s0 + s1) (1 : Int32) fun v_ends_48 => f_X10_countInCrowd_49 N v_gone v_may v_must v_ends_48 v_beg d_n d_road n_calls n_cl x4))
def f_X10_countInCrowd (N : Nat) (v_gone : Int32) (v_may : Int32) (v_must : Int32) (v_ends : Nat → Int32) (v_beg : Nat → Int32) (d_n : Int32) (d_road : Nat → Int32) (n_calls : Int32) (n_cl : Nat → Int32) (p3 : Int32) (p4 : Int32) : Option (Int32 × Int32 × Int32 × (Nat → Int32) × (Nat → Int32)) := ob1 (f_X10_clear N v_ends) fun v_ends_4 => ob1 (f_X4_callLand N n_calls n_cl (0 : Int32)) fun r13 => if r13 = p3 then (f_X10_countInCrowd_25 N v_gone v_may v_must v_ends_4 v_beg d_n d_road n_calls n_cl p4 (p3 * (32 : Int32)) (1 : Int32)) else (f_X10_countInCrowd_25 N v_gone v_may v_must v_ends_4 v_beg d_n d_road n_calls n_cl p4 (p3 * (32 : Int32)) (0 : Int32))
set_option maxHeartbeats 4000000 in
set_option maxRecDepth 100000 in
theorem k_X10_countInCrowd (l : Launch) (N : Nat) (D : va_G) (cI cJ cZ cB cT : ClassId) (qv0 : Nat) (qv4 : Nat) (qv5 : Nat) (qd0 : Nat) (qd2 : Nat) (qn0 : Nat) (qn1 : Nat) (qv1 : Nat) (qv2 : Nat) (qv3 : Nat) (qd1 : Nat) (qn2 : Nat) (qn3 : Nat) (qn4 : Nat) (qn5 : Nat) (qn6 : Nat) (v_up : Int32) (v_low : Int32) (v_gone : Int32) (v_may : Int32) (v_must : Int32) (v_ends : Nat → Int32) (v_beg : Nat → Int32) (d_n : Int32) (d_road : Nat → Int32) (n_calls : Int32) (n_bord : Int32) (n_rep : Int32) (n_unl : Int32) (n_pay : Int32) (n_cl : Nat → Int32) (p3 : Int32) (p4 : Int32) (o_v_gone : Int32) (o_v_may : Int32) (o_v_must : Int32) (o_v_ends : Nat → Int32) (o_v_beg : Nat → Int32) (hf : f_X10_countInCrowd N v_gone v_may v_must v_ends v_beg d_n d_road n_calls n_cl p3 p4 = some (o_v_gone, o_v_may, o_v_must, o_v_ends, o_v_beg)) : ∀ sz, Met l yX10_countInCrowd (mw yX10_countInCrowd cX10_countInCrowd 8 none) ({ frames := 2, cells := 0, slots := 0, locals := 60 } : Room) (mPre D (mT cI cJ cZ cB cT) (W_WYLN_0_4t6_8t10 qv0 qv4 qv5 qd0 qd2 qn0 qn1 qv1 qv2 qv3 qd1 qn2 qn3 qn4 qn5 qn6 cI cJ cZ cB cT v_up v_low v_gone v_may v_must v_ends v_beg d_n d_road n_calls n_bord n_rep n_unl n_pay n_cl) sz [.ref qv0, .ref qd0, .ref qn0, .int p3, .int p4]) ((mQv D (W_WYLN_0_4t6_8t10 qv0 qv4 qv5 qd0 qd2 qn0 qn1 qv1 qv2 qv3 qd1 qn2 qn3 qn4 qn5 qn6 cI cJ cZ cB cT v_up v_low o_v_gone o_v_may o_v_must o_v_ends o_v_beg d_n d_road n_calls n_bord n_rep n_unl n_pay n_cl)) (va_A (W_WYLN_0_4t6_8t10 qv0 qv4 qv5 qd0 qd2 qn0 qn1 qv1 qv2 qv3 qd1 qn2 qn3 qn4 qn5 qn6 cI cJ cZ cB cT v_up v_low v_gone v_may v_must v_ends v_beg d_n d_road n_calls n_bord n_rep n_unl n_pay n_cl) sz)) 0 0 (va_A (W_WYLN_0_4t6_8t10 qv0 qv4 qv5 qd0 qd2 qn0 qn1 qv1 qv2 qv3 qd1 qn2 qn3 qn4 qn5 qn6 cI cJ cZ cB cT v_up v_low v_gone v_may v_must v_ends v_beg d_n d_road n_calls n_bord n_rep n_unl n_pay n_cl) sz) := by
  refine mMet (Qc := (mQv D (W_WYLN_0_4t6_8t10 qv0 qv4 qv5 qd0 qd2 qn0 qn1 qv1 qv2 qv3 qd1 qn2 qn3 qn4 qn5 qn6 cI cJ cZ cB cT v_up v_low o_v_gone o_v_may o_v_must o_v_ends o_v_beg d_n d_road n_calls n_bord n_rep n_unl n_pay n_cl))) (by decide) (Nat.le_of_ble_eq_true rfl) (fun p e s m below meth c A ls hx hb hr hml hts hown hlocks hK hA hP hD hl => ?_)
  have hown : s.vm.findClass RX10 = some m.cls := hown
  have hl : lv_has ls 8 [(0, .ref qv0), (1, .ref qd0), (2, .ref qn0), (3, .int p3), (4, .int p4)] := hl
  have hS : va_S A s.heap s.heap [] := va_S.rf
  have b146 : ∀ (v_gone : Int32) (v_may : Int32) (v_must : Int32) (v_ends : Nat → Int32) (v_beg : Nat → Int32) (x4 : Int32) (H : Heap) (locs : List Loc) (ls : Array Slot), f_X10_countInCrowd_146 N v_gone v_may v_must v_ends v_beg d_n d_road n_calls n_cl x4 = some (o_v_gone, o_v_may, o_v_must, o_v_ends, o_v_beg) → va_P D vwCl (W_WYLN_0_4t6_8t10 qv0 qv4 qv5 qd0 qd2 qn0 qn1 qv1 qv2 qv3 qd1 qn2 qn3 qn4 qn5 qn6 cI cJ cZ cB cT v_up v_low v_gone v_may v_must v_ends v_beg d_n d_road n_calls n_bord n_rep n_unl n_pay n_cl) H → va_D A (W_WYLN_0_4t6_8t10 qv0 qv4 qv5 qd0 qd2 qn0 qn1 qv1 qv2 qv3 qd1 qn2 qn3 qn4 qn5 qn6 cI cJ cZ cB cT v_up v_low v_gone v_may v_must v_ends v_beg d_n d_road n_calls n_bord n_rep n_unl n_pay n_cl) → va_S A s.heap H locs → lv_has ls 8 [(0, .ref qv0), (4, .int x4)] → W p l e ({ frames := 2, cells := 0, slots := 0, locals := 60 } : Room) s m ([.ref qv0, .ref qd0, .ref qn0, .int p3, .int p4] : List Value).toArray below meth c H locs 0 0 (MQ below ((mQv D (W_WYLN_0_4t6_8t10 qv0 qv4 qv5 qd0 qd2 qn0 qn1 qv1 qv2 qv3 qd1 qn2 qn3 qn4 qn5 qn6 cI cJ cZ cB cT v_up v_low o_v_gone o_v_may o_v_must o_v_ends o_v_beg d_n d_road n_calls n_bord n_rep n_unl n_pay n_cl)) A) ([.ref qv0, .ref qd0, .ref qn0, .int p3, .int p4] : List Value).toArray s 0 0 A) (F0 m 146 ls []) := by
    intro v_gone v_may v_must v_ends v_beg x4 H locs ls hf hP hD hS hl
    unfold f_X10_countInCrowd_146 at hf
    refine lv_aload_n hx hb dX10_countInCrowd_146 rfl (lv_at hl 0 rfl) ?_
    refine lv_iload hx hb dX10_countInCrowd_147 (lv_at hl 1 rfl) ?_
    obtain ⟨v_gone_149, v_may_149, v_must_149, hg149, hf⟩ := ob3_some hf
    refine mcV_v (wr := [(qv5, .inl (cI, 256, .inl v_beg)), (qd0, .inr (2, [.int d_n, .ref qd1, .ref qd2])), (qd2, .inl (cI, 8, .inl d_road)), (qn0, .inr (4, [.int n_calls, .int n_bord, .int n_rep, .int n_unl, .int n_pay, .ref qn1, .ref qn2, .ref qn3, .ref qn4, .ref qn5, .ref qn6])), (qn1, .inl (cI, 5, .inl n_cl))]) (As := [.int x4]) (rest := []) hx hb hml hown hts hK hP hD hS hA (k_X10_sumUp l N D cI cJ cZ cB cT qv0 qv4 qv1 qv2 qv3 qv5 v_up v_low v_gone v_may v_must v_ends x4 v_gone_149 v_may_149 v_must_149 hg149) (kwX10_118 hts rfl rfl ⟨Nat.le_of_ble_eq_true rfl, Nat.le_of_ble_eq_true rfl⟩) [0, 1] [2, 3, 4, 5, 6] rfl rfl rfl (by decide) rfl 0 rfl rfl rfl rfl hl.1 rfl (Nat.le_of_ble_eq_true rfl) dX10_countInCrowd_149 ⟨Nat.zero_le _, Nat.zero_le _⟩ (fun H locs hP hD hS => ?_)
    have hP := mP_sub (wc := (W_WYLN_0_4t6_8t10 qv0 qv4 qv5 qd0 qd2 qn0 qn1 qv1 qv2 qv3 qd1 qn2 qn3 qn4 qn5 qn6 cI cJ cZ cB cT v_up v_low v_gone_149 v_may_149 v_must_149 v_ends v_beg d_n d_road n_calls n_bord n_rep n_unl n_pay n_cl)) hP [5, 6, 0, 1, 2, 3, 4] rfl
    have hD := hD.sub (ws' := (W_WYLN_0_4t6_8t10 qv0 qv4 qv5 qd0 qd2 qn0 qn1 qv1 qv2 qv3 qd1 qn2 qn3 qn4 qn5 qn6 cI cJ cZ cB cT v_up v_low v_gone_149 v_may_149 v_must_149 v_ends v_beg d_n d_road n_calls n_bord n_rep n_unl n_pay n_cl)) [5, 6, 0, 1, 2, 3, 4] rfl rfl
    cases hf
    exact mret_v hx hb hr hlocks hP hD hS dX10_countInCrowd_152
  have b52 : ∀ n52 : Nat, ∀ (v_gone : Int32) (v_may : Int32) (v_must : Int32) (v_ends : Nat → Int32) (v_beg : Nat → Int32) (x4 : Int32) (x6 : Int32) (H : Heap) (locs : List Loc) (ls : Array Slot), f_X10_countInCrowd_52 N n52 v_gone v_may v_must v_ends v_beg d_n d_road n_calls n_cl x4 x6 = some (o_v_gone, o_v_may, o_v_must, o_v_ends, o_v_beg) → va_P D vwCl (W_WYLN_0_4t6_8t10 qv0 qv4 qv5 qd0 qd2 qn0 qn1 qv1 qv2 qv3 qd1 qn2 qn3 qn4 qn5 qn6 cI cJ cZ cB cT v_up v_low v_gone v_may v_must v_ends v_beg d_n d_road n_calls n_bord n_rep n_unl n_pay n_cl) H → va_D A (W_WYLN_0_4t6_8t10 qv0 qv4 qv5 qd0 qd2 qn0 qn1 qv1 qv2 qv3 qd1 qn2 qn3 qn4 qn5 qn6 cI cJ cZ cB cT v_up v_low v_gone v_may v_must v_ends v_beg d_n d_road n_calls n_bord n_rep n_unl n_pay n_cl) → va_S A s.heap H locs → lv_has ls 8 [(0, .ref qv0), (1, .ref qd0), (2, .ref qn0), (4, .int x4), (6, .int x6)] → W p l e ({ frames := 2, cells := 0, slots := 0, locals := 60 } : Room) s m ([.ref qv0, .ref qd0, .ref qn0, .int p3, .int p4] : List Value).toArray below meth c H locs 0 0 (MQ below ((mQv D (W_WYLN_0_4t6_8t10 qv0 qv4 qv5 qd0 qd2 qn0 qn1 qv1 qv2 qv3 qd1 qn2 qn3 qn4 qn5 qn6 cI cJ cZ cB cT v_up v_low o_v_gone o_v_may o_v_must o_v_ends o_v_beg d_n d_road n_calls n_bord n_rep n_unl n_pay n_cl)) A) ([.ref qv0, .ref qd0, .ref qn0, .int p3, .int p4] : List Value).toArray s 0 0 A) (F0 m 52 ls []) := by
    intro n52
    induction n52 with
    | zero =>
      intro v_gone v_may v_must v_ends v_beg x4 x6 H locs ls hf hP hD hS hl
      simp [f_X10_countInCrowd_52] at hf
    | succ n52 ih52 =>
      have b140 : ∀ (v_gone : Int32) (v_may : Int32) (v_must : Int32) (v_ends : Nat → Int32) (v_beg : Nat → Int32) (x4 : Int32) (x6 : Int32) (H : Heap) (locs : List Loc) (ls : Array Slot), f_X10_countInCrowd_140 N (f_X10_countInCrowd_52 N n52) v_gone v_may v_must v_ends v_beg d_n d_road n_calls n_cl x4 x6 = some (o_v_gone, o_v_may, o_v_must, o_v_ends, o_v_beg) → va_P D vwCl (W_WYLN_0_4t6_8t10 qv0 qv4 qv5 qd0 qd2 qn0 qn1 qv1 qv2 qv3 qd1 qn2 qn3 qn4 qn5 qn6 cI cJ cZ cB cT v_up v_low v_gone v_may v_must v_ends v_beg d_n d_road n_calls n_bord n_rep n_unl n_pay n_cl) H → va_D A (W_WYLN_0_4t6_8t10 qv0 qv4 qv5 qd0 qd2 qn0 qn1 qv1 qv2 qv3 qd1 qn2 qn3 qn4 qn5 qn6 cI cJ cZ cB cT v_up v_low v_gone v_may v_must v_ends v_beg d_n d_road n_calls n_bord n_rep n_unl n_pay n_cl) → va_S A s.heap H locs → lv_has ls 8 [(0, .ref qv0), (1, .ref qd0), (2, .ref qn0), (4, .int x4), (6, .int x6)] → W p l e ({ frames := 2, cells := 0, slots := 0, locals := 60 } : Room) s m ([.ref qv0, .ref qd0, .ref qn0, .int p3, .int p4] : List Value).toArray below meth c H locs 0 0 (MQ below ((mQv D (W_WYLN_0_4t6_8t10 qv0 qv4 qv5 qd0 qd2 qn0 qn1 qv1 qv2 qv3 qd1 qn2 qn3 qn4 qn5 qn6 cI cJ cZ cB cT v_up v_low o_v_gone o_v_may o_v_must o_v_ends o_v_beg d_n d_road n_calls n_bord n_rep n_unl n_pay n_cl)) A) ([.ref qv0, .ref qd0, .ref qn0, .int p3, .int p4] : List Value).toArray s 0 0 A) (F0 m 140 ls []) := by
        intro v_gone v_may v_must v_ends v_beg x4 x6 H locs ls hf hP hD hS hl
        unfold f_X10_countInCrowd_140 at hf
        refine lv_iinc (v := (x6 + (1 : Int32))) (lv' := [(6, .int (x6 + (1 : Int32))), (0, .ref qv0), (1, .ref qd0), (2, .ref qn0), (4, .int x4)]) hx hb dX10_countInCrowd_140 hl (k := 4) rfl rfl (by decide) rfl (fun ls hl => ?_)
        refine lv_goto (tgt := 52) hx hb dX10_countInCrowd_143 (by decide) ?_
        exact ih52 v_gone v_may v_must v_ends v_beg x4 (x6 + (1 : Int32)) _ _ _ hf hP hD hS (lv_sub hl [1, 2, 3, 4, 0] rfl)
      have b93 : ∀ n93 : Nat, ∀ (v_gone : Int32) (v_may : Int32) (v_must : Int32) (v_ends : Nat → Int32) (v_beg : Nat → Int32) (x4 : Int32) (x6 : Int32) (x7 : Int32) (H : Heap) (locs : List Loc) (ls : Array Slot), f_X10_countInCrowd_93 N (f_X10_countInCrowd_52 N n52) n93 v_gone v_may v_must v_ends v_beg d_n d_road n_calls n_cl x4 x6 x7 = some (o_v_gone, o_v_may, o_v_must, o_v_ends, o_v_beg) → va_P D vwCl (W_WYLN_0_4t6_8t10 qv0 qv4 qv5 qd0 qd2 qn0 qn1 qv1 qv2 qv3 qd1 qn2 qn3 qn4 qn5 qn6 cI cJ cZ cB cT v_up v_low v_gone v_may v_must v_ends v_beg d_n d_road n_calls n_bord n_rep n_unl n_pay n_cl) H → va_D A (W_WYLN_0_4t6_8t10 qv0 qv4 qv5 qd0 qd2 qn0 qn1 qv1 qv2 qv3 qd1 qn2 qn3 qn4 qn5 qn6 cI cJ cZ cB cT v_up v_low v_gone v_may v_must v_ends v_beg d_n d_road n_calls n_bord n_rep n_unl n_pay n_cl) → va_S A s.heap H locs → lv_has ls 8 [(0, .ref qv0), (1, .ref qd0), (2, .ref qn0), (4, .int x4), (6, .int x6), (7, .int x7)] → W p l e ({ frames := 2, cells := 0, slots := 0, locals := 60 } : Room) s m ([.ref qv0, .ref qd0, .ref qn0, .int p3, .int p4] : List Value).toArray below meth c H locs 0 0 (MQ below ((mQv D (W_WYLN_0_4t6_8t10 qv0 qv4 qv5 qd0 qd2 qn0 qn1 qv1 qv2 qv3 qd1 qn2 qn3 qn4 qn5 qn6 cI cJ cZ cB cT v_up v_low o_v_gone o_v_may o_v_must o_v_ends o_v_beg d_n d_road n_calls n_bord n_rep n_unl n_pay n_cl)) A) ([.ref qv0, .ref qd0, .ref qn0, .int p3, .int p4] : List Value).toArray s 0 0 A) (F0 m 93 ls []) := by
        intro n93
        induction n93 with
        | zero =>
          intro v_gone v_may v_must v_ends v_beg x4 x6 x7 H locs ls hf hP hD hS hl
          simp [f_X10_countInCrowd_93] at hf
        | succ n93 ih93 =>
          intro v_gone v_may v_must v_ends v_beg x4 x6 x7 H locs ls hf hP hD hS hl
          rw [f_X10_countInCrowd_93.eq_2] at hf
          refine lv_iload hx hb dX10_countInCrowd_93 (lv_at hl 5 rfl) ?_
          refine lv_aload_n hx hb dX10_countInCrowd_95 rfl (lv_at hl 1 rfl) ?_
          refine gfX10_51 hx hb hts hown hK hP 3 rfl rfl dX10_countInCrowd_96 ?_
          refine xicmp_ge hx hb 140 dX10_countInCrowd_99 (by decide) hf (fun hf => ?_) (fun hf => ?_)
          · exact b140 v_gone v_may v_must v_ends v_beg x4 x6 _ _ _ hf hP hD hS (lv_sub hl [0, 1, 2, 3, 4] rfl)
          · refine lv_iload hx hb dX10_countInCrowd_102 (lv_at hl 5 rfl) ?_
            refine lv_bipush (v := (8 : Int32)) hx hb dX10_countInCrowd_104 (by decide) ?_
            refine xicmp_ge hx hb 140 dX10_countInCrowd_106 (by decide) hf (fun hf => ?_) (fun hf => ?_)
            · exact b140 v_gone v_may v_must v_ends v_beg x4 x6 _ _ _ hf hP hD hS (lv_sub hl [0, 1, 2, 3, 4] rfl)
            · refine lv_aload_n hx hb dX10_countInCrowd_109 rfl (lv_at hl 0 rfl) ?_
              refine lv_iload hx hb dX10_countInCrowd_110 (lv_at hl 5 rfl) ?_
              refine lv_aload_n hx hb dX10_countInCrowd_112 rfl (lv_at hl 1 rfl) ?_
              refine lv_iload hx hb dX10_countInCrowd_113 (lv_at hl 5 rfl) ?_
              obtain ⟨r115, hg115, hf⟩ := ob1_some hf
              refine mcV_i (wr := [(qv0, .inr (10, [.int v_up, .int v_low, .int v_gone, .int v_may, .int v_must, .ref qv1, .ref qv2, .ref qv3, .ref qv4, .ref qv5])), (qv4, .inl (cI, 256, .inl v_ends)), (qv5, .inl (cI, 256, .inl v_beg)), (qn0, .inr (4, [.int n_calls, .int n_bord, .int n_rep, .int n_unl, .int n_pay, .ref qn1, .ref qn2, .ref qn3, .ref qn4, .ref qn5, .ref qn6])), (qn1, .inl (cI, 5, .inl n_cl))]) (As := [.int x7]) (rest := [.int x7, .ref qv0]) hx hb hml hown hts hK hP hD hS hA (k_X2_near l N D cI cJ cZ cB cT qd0 qd2 qd1 d_n d_road x7 r115 hg115) (kwX10_86 hts rfl rfl ⟨Nat.le_of_ble_eq_true rfl, Nat.le_of_ble_eq_true rfl⟩) [3, 4] [0, 1, 2, 5, 6] rfl rfl rfl (by decide) rfl 0 rfl rfl rfl rfl hl.1 rfl (Nat.le_of_ble_eq_true rfl) dX10_countInCrowd_115 ⟨Nat.zero_le _, Nat.zero_le _⟩ (fun hB115 H locs hP hD hS => ?_)
              have hP := mP_sub (wc := (W_WYLN_0_4t6_8t10 qv0 qv4 qv5 qd0 qd2 qn0 qn1 qv1 qv2 qv3 qd1 qn2 qn3 qn4 qn5 qn6 cI cJ cZ cB cT v_up v_low v_gone v_may v_must v_ends v_beg d_n d_road n_calls n_bord n_rep n_unl n_pay n_cl)) hP [0, 1, 2, 5, 6, 3, 4] rfl
              have hD := hD.sub (ws' := (W_WYLN_0_4t6_8t10 qv0 qv4 qv5 qd0 qd2 qn0 qn1 qv1 qv2 qv3 qd1 qn2 qn3 qn4 qn5 qn6 cI cJ cZ cB cT v_up v_low v_gone v_may v_must v_ends v_beg d_n d_road n_calls n_bord n_rep n_unl n_pay n_cl)) [0, 1, 2, 5, 6, 3, 4] rfl rfl
              refine lv_iconst (v := (1 : Int32)) hx hb dX10_countInCrowd_118 (by decide) ?_
              refine lv_iload hx hb dX10_countInCrowd_119 (lv_at hl 5 rfl) ?_
              refine lv_ishl hx hb dX10_countInCrowd_121 ?_
              refine lv_ior hx hb dX10_countInCrowd_122 ?_
              refine lv_iload hx hb dX10_countInCrowd_123 (lv_at hl 4 rfl) ?_
              refine lv_aload_n hx hb dX10_countInCrowd_125 rfl (lv_at hl 2 rfl) ?_
              refine lv_iload hx hb dX10_countInCrowd_126 (lv_at hl 4 rfl) ?_
              obtain ⟨r128, hg128, hf⟩ := ob1_some hf
              refine mcV_i (wr := [(qv0, .inr (10, [.int v_up, .int v_low, .int v_gone, .int v_may, .int v_must, .ref qv1, .ref qv2, .ref qv3, .ref qv4, .ref qv5])), (qv4, .inl (cI, 256, .inl v_ends)), (qv5, .inl (cI, 256, .inl v_beg)), (qd0, .inr (2, [.int d_n, .ref qd1, .ref qd2])), (qd2, .inl (cI, 8, .inl d_road))]) (As := [.int x6]) (rest := [.int x6, .int (r115 ||| ((1 : Int32) <<< (x7 &&& 31))), .int x7, .ref qv0]) hx hb hml hown hts hK hP hD hS hA (k_X4_callLand l N D cI cJ cZ cB cT qn0 qn1 qn2 qn3 qn4 qn5 qn6 n_calls n_bord n_rep n_unl n_pay n_cl x6 r128 hg128) (kwX10_102 hts rfl rfl ⟨Nat.le_of_ble_eq_true rfl, Nat.le_of_ble_eq_true rfl⟩) [5, 6] [0, 1, 2, 3, 4] rfl rfl rfl (by decide) rfl 0 rfl rfl rfl rfl hl.1 rfl (Nat.le_of_ble_eq_true rfl) dX10_countInCrowd_128 ⟨Nat.zero_le _, Nat.zero_le _⟩ (fun hB128 H locs hP hD hS => ?_)
              have hP := mP_sub (wc := (W_WYLN_0_4t6_8t10 qv0 qv4 qv5 qd0 qd2 qn0 qn1 qv1 qv2 qv3 qd1 qn2 qn3 qn4 qn5 qn6 cI cJ cZ cB cT v_up v_low v_gone v_may v_must v_ends v_beg d_n d_road n_calls n_bord n_rep n_unl n_pay n_cl)) hP [0, 1, 2, 3, 4, 5, 6] rfl
              have hD := hD.sub (ws' := (W_WYLN_0_4t6_8t10 qv0 qv4 qv5 qd0 qd2 qn0 qn1 qv1 qv2 qv3 qd1 qn2 qn3 qn4 qn5 qn6 cI cJ cZ cB cT v_up v_low v_gone v_may v_must v_ends v_beg d_n d_road n_calls n_bord n_rep n_unl n_pay n_cl)) [0, 1, 2, 3, 4, 5, 6] rfl rfl
              obtain ⟨v_ends_131, hg131, hf⟩ := ob1_some hf
              refine mcV_v (wr := [(qd0, .inr (2, [.int d_n, .ref qd1, .ref qd2])), (qd2, .inl (cI, 8, .inl d_road)), (qn0, .inr (4, [.int n_calls, .int n_bord, .int n_rep, .int n_unl, .int n_pay, .ref qn1, .ref qn2, .ref qn3, .ref qn4, .ref qn5, .ref qn6])), (qn1, .inl (cI, 5, .inl n_cl))]) (As := [.int x7, .int (r115 ||| ((1 : Int32) <<< (x7 &&& 31))), .int x6, .int r128]) (rest := []) hx hb hml hown hts hK hP hD hS hA (k_X10_comeTo l N D cI cJ cZ cB cT qv0 qv4 qv5 qv1 qv2 qv3 v_up v_low v_gone v_may v_must v_ends v_beg x7 (r115 ||| ((1 : Int32) <<< (x7 &&& 31))) x6 r128 v_ends_131 hg131) (kwX10_114 hts rfl rfl ⟨Nat.le_of_ble_eq_true rfl, Nat.le_of_ble_eq_true rfl⟩) [0, 1, 2] [3, 4, 5, 6] rfl rfl rfl (by decide) rfl 0 rfl rfl rfl rfl hl.1 rfl (Nat.le_of_ble_eq_true rfl) dX10_countInCrowd_131 ⟨Nat.zero_le _, Nat.zero_le _⟩ (fun H locs hP hD hS => ?_)
              have hP := mP_sub (wc := (W_WYLN_0_4t6_8t10 qv0 qv4 qv5 qd0 qd2 qn0 qn1 qv1 qv2 qv3 qd1 qn2 qn3 qn4 qn5 qn6 cI cJ cZ cB cT v_up v_low v_gone v_may v_must v_ends_131 v_beg d_n d_road n_calls n_bord n_rep n_unl n_pay n_cl)) hP [4, 5, 6, 0, 1, 2, 3] rfl
              have hD := hD.sub (ws' := (W_WYLN_0_4t6_8t10 qv0 qv4 qv5 qd0 qd2 qn0 qn1 qv1 qv2 qv3 qd1 qn2 qn3 qn4 qn5 qn6 cI cJ cZ cB cT v_up v_low v_gone v_may v_must v_ends_131 v_beg d_n d_road n_calls n_bord n_rep n_unl n_pay n_cl)) [4, 5, 6, 0, 1, 2, 3] rfl rfl
              refine lv_iinc (v := (x7 + (1 : Int32))) (lv' := [(7, .int (x7 + (1 : Int32))), (0, .ref qv0), (1, .ref qd0), (2, .ref qn0), (4, .int x4), (6, .int x6)]) hx hb dX10_countInCrowd_134 hl (k := 5) rfl rfl (by decide) rfl (fun ls hl => ?_)
              refine lv_goto (tgt := 93) hx hb dX10_countInCrowd_137 (by decide) ?_
              exact ih93 v_gone v_may v_must v_ends_131 v_beg x4 x6 (x7 + (1 : Int32)) _ _ _ hf hP hD hS (lv_sub hl [1, 2, 3, 4, 5, 0] rfl)
      intro v_gone v_may v_must v_ends v_beg x4 x6 H locs ls hf hP hD hS hl
      rw [f_X10_countInCrowd_52.eq_2] at hf
      refine lv_iload hx hb dX10_countInCrowd_52 (lv_at hl 4 rfl) ?_
      refine lv_aload_n hx hb dX10_countInCrowd_54 rfl (lv_at hl 2 rfl) ?_
      refine gfX10_105 hx hb hts hown hK hP 5 rfl rfl dX10_countInCrowd_55 ?_
      refine xicmp_ge hx hb 146 dX10_countInCrowd_58 (by decide) hf (fun hf => ?_) (fun hf => ?_)
      · exact b146 v_gone v_may v_must v_ends v_beg x4 _ _ _ hf hP hD hS (lv_sub hl [0, 3] rfl)
      · refine lv_iload hx hb dX10_countInCrowd_61 (lv_at hl 4 rfl) ?_
        refine lv_iconst (v := (5 : Int32)) hx hb dX10_countInCrowd_63 (by decide) ?_
        refine xicmp_ge hx hb 146 dX10_countInCrowd_64 (by decide) hf (fun hf => ?_) (fun hf => ?_)
        · exact b146 v_gone v_may v_must v_ends v_beg x4 _ _ _ hf hP hD hS (lv_sub hl [0, 3] rfl)
        · refine lv_aload_n hx hb dX10_countInCrowd_67 rfl (lv_at hl 0 rfl) ?_
          refine gfX10_39 hx hb hts hown hK hP 0 rfl rfl dX10_countInCrowd_68 ?_
          refine lv_iconst (v := (0 : Int32)) hx hb dX10_countInCrowd_71 (by decide) ?_
          refine lv_aload_n hx hb dX10_countInCrowd_72 rfl (lv_at hl 0 rfl) ?_
          refine gfX10_42 hx hb hts hown hK hP 0 rfl rfl dX10_countInCrowd_73 ?_
          refine lv_iconst (v := (0 : Int32)) hx hb dX10_countInCrowd_76 (by decide) ?_
          refine lv_sipush (v := (256 : Int32)) hx hb dX10_countInCrowd_77 (by decide) ?_
          refine xcopy hx hb hml hl.1 hown hts cpwX10_108 hK hP hD hS 1 2 0 0 rfl rfl rfl rfl (Nat.le_of_ble_eq_true rfl) (by decide) dX10_countInCrowd_80 hf (fun v_beg_80 hf H locs hP hD hS => ?_)
          have hP : va_P D vwCl (W_WYLN_0_4t6_8t10 qv0 qv4 qv5 qd0 qd2 qn0 qn1 qv1 qv2 qv3 qd1 qn2 qn3 qn4 qn5 qn6 cI cJ cZ cB cT v_up v_low v_gone v_may v_must v_ends v_beg_80 d_n d_road n_calls n_bord n_rep n_unl n_pay n_cl) H := hP
          have hD : va_D A (W_WYLN_0_4t6_8t10 qv0 qv4 qv5 qd0 qd2 qn0 qn1 qv1 qv2 qv3 qd1 qn2 qn3 qn4 qn5 qn6 cI cJ cZ cB cT v_up v_low v_gone v_may v_must v_ends v_beg_80 d_n d_road n_calls n_bord n_rep n_unl n_pay n_cl) := hD
          refine lv_aload_n hx hb dX10_countInCrowd_83 rfl (lv_at hl 0 rfl) ?_
          refine gfX10_39 hx hb hts hown hK hP 0 rfl rfl dX10_countInCrowd_84 ?_
          obtain ⟨v_ends_87, hg87, hf⟩ := ob1_some hf
          refine mcS_v (wr := [(qv0, .inr (10, [.int v_up, .int v_low, .int v_gone, .int v_may, .int v_must, .ref qv1, .ref qv2, .ref qv3, .ref qv4, .ref qv5])), (qv5, .inl (cI, 256, .inl v_beg_80)), (qd0, .inr (2, [.int d_n, .ref qd1, .ref qd2])), (qd2, .inl (cI, 8, .inl d_road)), (qn0, .inr (4, [.int n_calls, .int n_bord, .int n_rep, .int n_unl, .int n_pay, .ref qn1, .ref qn2, .ref qn3, .ref qn4, .ref qn5, .ref qn6])), (qn1, .inl (cI, 5, .inl n_cl))]) (As := [.ref qv4]) (rest := []) hx hb hml hown hts hK hP hD hS hA (k_X10_clear l N D cI cJ cZ cB cT qv4 v_ends v_ends_87 hg87) (kwX10_98 hts rfl rfl ⟨Nat.le_of_ble_eq_true rfl, Nat.le_of_ble_eq_true rfl⟩) [1] [0, 2, 3, 4, 5, 6] rfl rfl rfl (by decide) rfl rfl hl.1 rfl (Nat.le_of_ble_eq_true rfl) dX10_countInCrowd_87 ⟨Nat.zero_le _, Nat.zero_le _⟩ (fun H locs hP hD hS => ?_)
          have hP := mP_sub (wc := (W_WYLN_0_4t6_8t10 qv0 qv4 qv5 qd0 qd2 qn0 qn1 qv1 qv2 qv3 qd1 qn2 qn3 qn4 qn5 qn6 cI cJ cZ cB cT v_up v_low v_gone v_may v_must v_ends_87 v_beg_80 d_n d_road n_calls n_bord n_rep n_unl n_pay n_cl)) hP [0, 6, 1, 2, 3, 4, 5] rfl
          have hD := hD.sub (ws' := (W_WYLN_0_4t6_8t10 qv0 qv4 qv5 qd0 qd2 qn0 qn1 qv1 qv2 qv3 qd1 qn2 qn3 qn4 qn5 qn6 cI cJ cZ cB cT v_up v_low v_gone v_may v_must v_ends_87 v_beg_80 d_n d_road n_calls n_bord n_rep n_unl n_pay n_cl)) [0, 6, 1, 2, 3, 4, 5] rfl rfl
          refine lv_iconst (v := (0 : Int32)) hx hb dX10_countInCrowd_90 (by decide) ?_
          refine lv_istore (lv' := [(7, .int (0 : Int32)), (0, .ref qv0), (1, .ref qd0), (2, .ref qn0), (4, .int x4), (6, .int x6)]) hx hb dX10_countInCrowd_91 hl (by decide) rfl (fun ls hl => ?_)
          exact b93 N v_gone v_may v_must v_ends_87 v_beg_80 x4 x6 (0 : Int32) _ _ _ hf hP hD hS (lv_sub hl [1, 2, 3, 4, 5, 0] rfl)
  have b49 : ∀ (v_gone : Int32) (v_may : Int32) (v_must : Int32) (v_ends : Nat → Int32) (v_beg : Nat → Int32) (x4 : Int32) (H : Heap) (locs : List Loc) (ls : Array Slot), f_X10_countInCrowd_49 N v_gone v_may v_must v_ends v_beg d_n d_road n_calls n_cl x4 = some (o_v_gone, o_v_may, o_v_must, o_v_ends, o_v_beg) → va_P D vwCl (W_WYLN_0_4t6_8t10 qv0 qv4 qv5 qd0 qd2 qn0 qn1 qv1 qv2 qv3 qd1 qn2 qn3 qn4 qn5 qn6 cI cJ cZ cB cT v_up v_low v_gone v_may v_must v_ends v_beg d_n d_road n_calls n_bord n_rep n_unl n_pay n_cl) H → va_D A (W_WYLN_0_4t6_8t10 qv0 qv4 qv5 qd0 qd2 qn0 qn1 qv1 qv2 qv3 qd1 qn2 qn3 qn4 qn5 qn6 cI cJ cZ cB cT v_up v_low v_gone v_may v_must v_ends v_beg d_n d_road n_calls n_bord n_rep n_unl n_pay n_cl) → va_S A s.heap H locs → lv_has ls 8 [(0, .ref qv0), (1, .ref qd0), (2, .ref qn0), (4, .int x4)] → W p l e ({ frames := 2, cells := 0, slots := 0, locals := 60 } : Room) s m ([.ref qv0, .ref qd0, .ref qn0, .int p3, .int p4] : List Value).toArray below meth c H locs 0 0 (MQ below ((mQv D (W_WYLN_0_4t6_8t10 qv0 qv4 qv5 qd0 qd2 qn0 qn1 qv1 qv2 qv3 qd1 qn2 qn3 qn4 qn5 qn6 cI cJ cZ cB cT v_up v_low o_v_gone o_v_may o_v_must o_v_ends o_v_beg d_n d_road n_calls n_bord n_rep n_unl n_pay n_cl)) A) ([.ref qv0, .ref qd0, .ref qn0, .int p3, .int p4] : List Value).toArray s 0 0 A) (F0 m 49 ls []) := by
    intro v_gone v_may v_must v_ends v_beg x4 H locs ls hf hP hD hS hl
    unfold f_X10_countInCrowd_49 at hf
    refine lv_iconst (v := (1 : Int32)) hx hb dX10_countInCrowd_49 (by decide) ?_
    refine lv_istore (lv' := [(6, .int (1 : Int32)), (0, .ref qv0), (1, .ref qd0), (2, .ref qn0), (4, .int x4)]) hx hb dX10_countInCrowd_50 hl (by decide) rfl (fun ls hl => ?_)
    exact b52 N v_gone v_may v_must v_ends v_beg x4 (1 : Int32) _ _ _ hf hP hD hS (lv_sub hl [1, 2, 3, 4, 0] rfl)
  have b25 : ∀ (v_gone : Int32) (v_may : Int32) (v_must : Int32) (v_ends : Nat → Int32) (v_beg : Nat → Int32) (x4 : Int32) (s0 : Int32) (s1 : Int32) (H : Heap) (locs : List Loc) (ls : Array Slot), f_X10_countInCrowd_25 N v_gone v_may v_must v_ends v_beg d_n d_road n_calls n_cl x4 s0 s1 = some (o_v_gone, o_v_may, o_v_must, o_v_ends, o_v_beg) → va_P D vwCl (W_WYLN_0_4t6_8t10 qv0 qv4 qv5 qd0 qd2 qn0 qn1 qv1 qv2 qv3 qd1 qn2 qn3 qn4 qn5 qn6 cI cJ cZ cB cT v_up v_low v_gone v_may v_must v_ends v_beg d_n d_road n_calls n_bord n_rep n_unl n_pay n_cl) H → va_D A (W_WYLN_0_4t6_8t10 qv0 qv4 qv5 qd0 qd2 qn0 qn1 qv1 qv2 qv3 qd1 qn2 qn3 qn4 qn5 qn6 cI cJ cZ cB cT v_up v_low v_gone v_may v_must v_ends v_beg d_n d_road n_calls n_bord n_rep n_unl n_pay n_cl) → va_S A s.heap H locs → lv_has ls 8 [(0, .ref qv0), (1, .ref qd0), (2, .ref qn0), (4, .int x4)] → W p l e ({ frames := 2, cells := 0, slots := 0, locals := 60 } : Room) s m ([.ref qv0, .ref qd0, .ref qn0, .int p3, .int p4] : List Value).toArray below meth c H locs 0 0 (MQ below ((mQv D (W_WYLN_0_4t6_8t10 qv0 qv4 qv5 qd0 qd2 qn0 qn1 qv1 qv2 qv3 qd1 qn2 qn3 qn4 qn5 qn6 cI cJ cZ cB cT v_up v_low o_v_gone o_v_may o_v_must o_v_ends o_v_beg d_n d_road n_calls n_bord n_rep n_unl n_pay n_cl)) A) ([.ref qv0, .ref qd0, .ref qn0, .int p3, .int p4] : List Value).toArray s 0 0 A) (F0 m 25 ls [.int s1, .int s0]) := by
    intro v_gone v_may v_must v_ends v_beg x4 s0 s1 H locs ls hf hP hD hS hl
    unfold f_X10_countInCrowd_25 at hf
    refine lv_iadd hx hb dX10_countInCrowd_25 ?_
    refine lv_istore (lv' := [(5, .int (s0 + s1)), (0, .ref qv0), (1, .ref qd0), (2, .ref qn0), (4, .int x4)]) hx hb dX10_countInCrowd_26 hl (by decide) rfl (fun ls hl => ?_)
    refine lv_iload hx hb dX10_countInCrowd_28 (lv_at hl 0 rfl) ?_
    refine xif_lt hx hb 49 dX10_countInCrowd_30 (by decide) hf (fun hf => ?_) (fun hf => ?_)
    · exact b49 v_gone v_may v_must v_ends v_beg x4 _ _ _ hf hP hD hS (lv_sub hl [1, 2, 3, 4] rfl)
    · refine lv_iload hx hb dX10_countInCrowd_33 (lv_at hl 0 rfl) ?_
      refine lv_sipush (v := (256 : Int32)) hx hb dX10_countInCrowd_35 (by decide) ?_
      refine xicmp_ge hx hb 49 dX10_countInCrowd_38 (by decide) hf (fun hf => ?_) (fun hf => ?_)
      · exact b49 v_gone v_may v_must v_ends v_beg x4 _ _ _ hf hP hD hS (lv_sub hl [1, 2, 3, 4] rfl)
      · refine lv_aload_n hx hb dX10_countInCrowd_41 rfl (lv_at hl 1 rfl) ?_
        refine gfX10_39 hx hb hts hown hK hP 0 rfl rfl dX10_countInCrowd_42 ?_
        refine lv_iload hx hb dX10_countInCrowd_45 (lv_at hl 0 rfl) ?_
        refine lv_iconst (v := (1 : Int32)) hx hb dX10_countInCrowd_47 (by decide) ?_
        refine xiast hx hb hK hP hD hS 1 0 rfl rfl dX10_countInCrowd_48 hf (fun v_ends_48 hf H locs hP hD hS => ?_)
        have hP : va_P D vwCl (W_WYLN_0_4t6_8t10 qv0 qv4 qv5 qd0 qd2 qn0 qn1 qv1 qv2 qv3 qd1 qn2 qn3 qn4 qn5 qn6 cI cJ cZ cB cT v_up v_low v_gone v_may v_must v_ends_48 v_beg d_n d_road n_calls n_bord n_rep n_unl n_pay n_cl) H := hP
        have hD : va_D A (W_WYLN_0_4t6_8t10 qv0 qv4 qv5 qd0 qd2 qn0 qn1 qv1 qv2 qv3 qd1 qn2 qn3 qn4 qn5 qn6 cI cJ cZ cB cT v_up v_low v_gone v_may v_must v_ends_48 v_beg d_n d_road n_calls n_bord n_rep n_unl n_pay n_cl) := hD
        exact b49 v_gone v_may v_must v_ends_48 v_beg x4 _ _ _ hf hP hD hS (lv_sub hl [1, 2, 3, 4] rfl)
  unfold f_X10_countInCrowd at hf
  refine lv_aload_n hx hb dX10_countInCrowd_0 rfl (lv_at hl 0 rfl) ?_
  refine gfX10_39 hx hb hts hown hK hP 0 rfl rfl dX10_countInCrowd_1 ?_
  obtain ⟨v_ends_4, hg4, hf⟩ := ob1_some hf
  refine mcS_v (wr := [(qv0, .inr (10, [.int v_up, .int v_low, .int v_gone, .int v_may, .int v_must, .ref qv1, .ref qv2, .ref qv3, .ref qv4, .ref qv5])), (qv5, .inl (cI, 256, .inl v_beg)), (qd0, .inr (2, [.int d_n, .ref qd1, .ref qd2])), (qd2, .inl (cI, 8, .inl d_road)), (qn0, .inr (4, [.int n_calls, .int n_bord, .int n_rep, .int n_unl, .int n_pay, .ref qn1, .ref qn2, .ref qn3, .ref qn4, .ref qn5, .ref qn6])), (qn1, .inl (cI, 5, .inl n_cl))]) (As := [.ref qv4]) (rest := []) hx hb hml hown hts hK hP hD hS hA (k_X10_clear l N D cI cJ cZ cB cT qv4 v_ends v_ends_4 hg4) (kwX10_98 hts rfl rfl ⟨Nat.le_of_ble_eq_true rfl, Nat.le_of_ble_eq_true rfl⟩) [1] [0, 2, 3, 4, 5, 6] rfl rfl rfl (by decide) rfl rfl hl.1 rfl (Nat.le_of_ble_eq_true rfl) dX10_countInCrowd_4 ⟨Nat.zero_le _, Nat.zero_le _⟩ (fun H locs hP hD hS => ?_)
  have hP := mP_sub (wc := (W_WYLN_0_4t6_8t10 qv0 qv4 qv5 qd0 qd2 qn0 qn1 qv1 qv2 qv3 qd1 qn2 qn3 qn4 qn5 qn6 cI cJ cZ cB cT v_up v_low v_gone v_may v_must v_ends_4 v_beg d_n d_road n_calls n_bord n_rep n_unl n_pay n_cl)) hP [0, 6, 1, 2, 3, 4, 5] rfl
  have hD := hD.sub (ws' := (W_WYLN_0_4t6_8t10 qv0 qv4 qv5 qd0 qd2 qn0 qn1 qv1 qv2 qv3 qd1 qn2 qn3 qn4 qn5 qn6 cI cJ cZ cB cT v_up v_low v_gone v_may v_must v_ends_4 v_beg d_n d_road n_calls n_bord n_rep n_unl n_pay n_cl)) [0, 6, 1, 2, 3, 4, 5] rfl rfl
  refine lv_iload_n hx hb dX10_countInCrowd_7 rfl (lv_at hl 3 rfl) ?_
  refine lv_bipush (v := (32 : Int32)) hx hb dX10_countInCrowd_8 (by decide) ?_
  refine lv_imul hx hb dX10_countInCrowd_10 ?_
  refine lv_aload_n hx hb dX10_countInCrowd_11 rfl (lv_at hl 2 rfl) ?_
  refine lv_iconst (v := (0 : Int32)) hx hb dX10_countInCrowd_12 (by decide) ?_
  obtain ⟨r13, hg13, hf⟩ := ob1_some hf
  refine mcV_i (wr := [(qv0, .inr (10, [.int v_up, .int v_low, .int v_gone, .int v_may, .int v_must, .ref qv1, .ref qv2, .ref qv3, .ref qv4, .ref qv5])), (qv4, .inl (cI, 256, .inl v_ends_4)), (qv5, .inl (cI, 256, .inl v_beg)), (qd0, .inr (2, [.int d_n, .ref qd1, .ref qd2])), (qd2, .inl (cI, 8, .inl d_road))]) (As := [.int (0 : Int32)]) (rest := [.int (p3 * (32 : Int32))]) hx hb hml hown hts hK hP hD hS hA (k_X4_callLand l N D cI cJ cZ cB cT qn0 qn1 qn2 qn3 qn4 qn5 qn6 n_calls n_bord n_rep n_unl n_pay n_cl (0 : Int32) r13 hg13) (kwX10_102 hts rfl rfl ⟨Nat.le_of_ble_eq_true rfl, Nat.le_of_ble_eq_true rfl⟩) [5, 6] [0, 1, 2, 3, 4] rfl rfl rfl (by decide) rfl 0 rfl rfl rfl rfl hl.1 rfl (Nat.le_of_ble_eq_true rfl) dX10_countInCrowd_13 ⟨Nat.zero_le _, Nat.zero_le _⟩ (fun hB13 H locs hP hD hS => ?_)
  have hP := mP_sub (wc := (W_WYLN_0_4t6_8t10 qv0 qv4 qv5 qd0 qd2 qn0 qn1 qv1 qv2 qv3 qd1 qn2 qn3 qn4 qn5 qn6 cI cJ cZ cB cT v_up v_low v_gone v_may v_must v_ends_4 v_beg d_n d_road n_calls n_bord n_rep n_unl n_pay n_cl)) hP [0, 1, 2, 3, 4, 5, 6] rfl
  have hD := hD.sub (ws' := (W_WYLN_0_4t6_8t10 qv0 qv4 qv5 qd0 qd2 qn0 qn1 qv1 qv2 qv3 qd1 qn2 qn3 qn4 qn5 qn6 cI cJ cZ cB cT v_up v_low v_gone v_may v_must v_ends_4 v_beg d_n d_road n_calls n_bord n_rep n_unl n_pay n_cl)) [0, 1, 2, 3, 4, 5, 6] rfl rfl
  refine lv_iload_n hx hb dX10_countInCrowd_16 rfl (lv_at hl 3 rfl) ?_
  refine xicmp_ne hx hb 24 dX10_countInCrowd_17 (by decide) hf (fun hf => ?_) (fun hf => ?_)
  · refine lv_iconst (v := (1 : Int32)) hx hb dX10_countInCrowd_20 (by decide) ?_
    refine lv_goto (tgt := 25) hx hb dX10_countInCrowd_21 (by decide) ?_
    exact b25 v_gone v_may v_must v_ends_4 v_beg p4 (p3 * (32 : Int32)) (1 : Int32) _ _ _ hf hP hD hS (lv_sub hl [0, 1, 2, 4] rfl)
  · refine lv_iconst (v := (0 : Int32)) hx hb dX10_countInCrowd_24 (by decide) ?_
    exact b25 v_gone v_may v_must v_ends_4 v_beg p4 (p3 * (32 : Int32)) (0 : Int32) _ _ _ hf hP hD hS (lv_sub hl [0, 1, 2, 4] rfl)
