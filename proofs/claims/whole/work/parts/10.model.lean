theorem dX12_copy_0 : decode cX12_copy 0 = .ok (.iconst 0, 1) := by decide +kernel
theorem dX12_copy_1 : decode cX12_copy 1 = .ok (.istore_n 2, 1) := by decide +kernel
theorem dX12_copy_2 : decode cX12_copy 2 = .ok (.iload_n 2, 1) := by decide +kernel
theorem dX12_copy_3 : decode cX12_copy 3 = .ok (.sipush 8762, 3) := by decide +kernel
theorem dX12_copy_6 : decode cX12_copy 6 = .ok (.if_icmp .ge 15, 3) := by decide +kernel
theorem dX12_copy_9 : decode cX12_copy 9 = .ok (.aload_n 1, 1) := by decide +kernel
theorem dX12_copy_10 : decode cX12_copy 10 = .ok (.iload_n 2, 1) := by decide +kernel
theorem dX12_copy_11 : decode cX12_copy 11 = .ok (.aload_n 0, 1) := by decide +kernel
theorem dX12_copy_12 : decode cX12_copy 12 = .ok (.iload_n 2, 1) := by decide +kernel
theorem dX12_copy_13 : decode cX12_copy 13 = .ok (.iaload, 1) := by decide +kernel
theorem dX12_copy_14 : decode cX12_copy 14 = .ok (.iastore, 1) := by decide +kernel
theorem dX12_copy_15 : decode cX12_copy 15 = .ok (.iinc 2 1, 3) := by decide +kernel
theorem dX12_copy_18 : decode cX12_copy 18 = .ok (.goto (-16), 3) := by decide +kernel
theorem dX12_copy_21 : decode cX12_copy 21 = .ok (.return_, 1) := by decide +kernel
def f_X12_copy_2 (N : Nat) : Nat → (Nat → Int32) → (Nat → Int32) → Int32 → Option ((Nat → Int32))
  | 0, _, _, _ => none
  | n + 1, fr, to, x2 => if (8762 : Int32) ≤ x2 then (some to) else (gA fr 8762 x2 fun v13 => sA to 8762 x2 v13 fun to_14 => (f_X12_copy_2 N n) fr to_14 (x2 + (1 : Int32)))
def f_X12_copy (N : Nat) (fr : Nat → Int32) (to : Nat → Int32) : Option ((Nat → Int32)) := f_X12_copy_2 N N fr to (0 : Int32)
set_option maxHeartbeats 4000000 in
set_option maxRecDepth 100000 in
theorem k_X12_copy (l : Launch) (N : Nat) (D : va_G) (cI cJ cZ cB cT : ClassId) (qa : Nat) (qb : Nat) (fr : Nat → Int32) (to : Nat → Int32) (o_to : Nat → Int32) (hf : f_X12_copy N fr to = some o_to) : ∀ sz, Met l yX12_copy (mw yX12_copy cX12_copy 3 none) ({ frames := 0, cells := 0, slots := 0, locals := 0 } : Room) (mPre D (mT cI cJ cZ cB cT) (WC2 qa qb cI fr to) sz [.ref qa, .ref qb]) ((mQv D (WC2 qa qb cI fr o_to)) (va_A (WC2 qa qb cI fr to) sz)) 0 0 (va_A (WC2 qa qb cI fr to) sz) := by
  refine mMet (Qc := (mQv D (WC2 qa qb cI fr o_to))) (by decide) (Nat.le_of_ble_eq_true rfl) (fun p e s m below meth c A ls hx hb hr hml hts hown hlocks hK hA hP hD hl => ?_)
  have hown : s.vm.findClass RX12 = some m.cls := hown
  have hl : lv_has ls 3 [(0, .ref qa), (1, .ref qb)] := hl
  have hS : va_S A s.heap s.heap [] := va_S.rf
  have b2 : ∀ n2 : Nat, ∀ (to : Nat → Int32) (x2 : Int32) (H : Heap) (locs : List Loc) (ls : Array Slot), f_X12_copy_2 N n2 fr to x2 = some o_to → va_P D vwCl (WC2 qa qb cI fr to) H → va_D A (WC2 qa qb cI fr to) → va_S A s.heap H locs → lv_has ls 3 [(0, .ref qa), (1, .ref qb), (2, .int x2)] → W p l e ({ frames := 0, cells := 0, slots := 0, locals := 0 } : Room) s m ([.ref qa, .ref qb] : List Value).toArray below meth c H locs 0 0 (MQ below ((mQv D (WC2 qa qb cI fr o_to)) A) ([.ref qa, .ref qb] : List Value).toArray s 0 0 A) (F0 m 2 ls []) := by
    intro n2
    induction n2 with
    | zero =>
      intro to x2 H locs ls hf hP hD hS hl
      simp [f_X12_copy_2] at hf
    | succ n2 ih2 =>
      intro to x2 H locs ls hf hP hD hS hl
      rw [f_X12_copy_2.eq_2] at hf
      refine lv_iload_n hx hb dX12_copy_2 rfl (lv_at hl 2 rfl) ?_
      refine lv_sipush (v := (8762 : Int32)) hx hb dX12_copy_3 (by decide) ?_
      refine xicmp_ge hx hb 21 dX12_copy_6 (by decide) hf (fun hf => ?_) (fun hf => ?_)
      · cases hf
        exact mret_v hx hb hr hlocks hP hD hS dX12_copy_21
      · refine lv_aload_n hx hb dX12_copy_9 rfl (lv_at hl 1 rfl) ?_
        refine lv_iload_n hx hb dX12_copy_10 rfl (lv_at hl 2 rfl) ?_
        refine lv_aload_n hx hb dX12_copy_11 rfl (lv_at hl 0 rfl) ?_
        refine lv_iload_n hx hb dX12_copy_12 rfl (lv_at hl 2 rfl) ?_
        refine xiald hx hb hK hP 0 0 rfl rfl dX12_copy_13 hf (fun v13 hf => ?_)
        refine xiast hx hb hK hP hD hS 1 0 rfl rfl dX12_copy_14 hf (fun to_14 hf H locs hP hD hS => ?_)
        have hP : va_P D vwCl (WC2 qa qb cI fr to_14) H := hP
        have hD : va_D A (WC2 qa qb cI fr to_14) := hD
        refine lv_iinc (v := (x2 + (1 : Int32))) (lv' := [(2, .int (x2 + (1 : Int32))), (0, .ref qa), (1, .ref qb)]) hx hb dX12_copy_15 hl (k := 2) rfl rfl (by decide) rfl (fun ls hl => ?_)
        refine lv_goto (tgt := 2) hx hb dX12_copy_18 (by decide) ?_
        exact ih2 to_14 (x2 + (1 : Int32)) _ _ _ hf hP hD hS (lv_sub hl [1, 2, 0] rfl)
  unfold f_X12_copy at hf
  refine lv_iconst (v := (0 : Int32)) hx hb dX12_copy_0 (by decide) ?_
  refine lv_istore_n (lv' := [(2, .int (0 : Int32)), (0, .ref qa), (1, .ref qb)]) hx hb dX12_copy_1 rfl hl (by decide) rfl (fun ls hl => ?_)
  exact b2 N to (0 : Int32) _ _ _ hf hP hD hS (lv_sub hl [1, 2, 0] rfl)
theorem dX12_isIn_0 : decode cX12_isIn 0 = .ok (.iload_n 0, 1) := by decide +kernel
theorem dX12_isIn_1 : decode cX12_isIn 1 = .ok (.iload_n 1, 1) := by decide +kernel
theorem dX12_isIn_2 : decode cX12_isIn 2 = .ok (.if_icmp .lt 12, 3) := by decide +kernel
theorem dX12_isIn_5 : decode cX12_isIn 5 = .ok (.iload_n 0, 1) := by decide +kernel
theorem dX12_isIn_6 : decode cX12_isIn 6 = .ok (.iload_n 2, 1) := by decide +kernel
theorem dX12_isIn_7 : decode cX12_isIn 7 = .ok (.if_icmp .gt 7, 3) := by decide +kernel
theorem dX12_isIn_10 : decode cX12_isIn 10 = .ok (.iconst 1, 1) := by decide +kernel
theorem dX12_isIn_11 : decode cX12_isIn 11 = .ok (.goto 4, 3) := by decide +kernel
theorem dX12_isIn_14 : decode cX12_isIn 14 = .ok (.iconst 0, 1) := by decide +kernel
theorem dX12_isIn_15 : decode cX12_isIn 15 = .ok (.ireturn, 1) := by decide +kernel
def f_X12_isIn (N : Nat) (p0 : Int32) (p1 : Int32) (p2 : Int32) : Option (Int32) := if p0 < p1 then (some (0 : Int32)) else (if p2 < p0 then (some (0 : Int32)) else (some (1 : Int32)))
set_option maxHeartbeats 4000000 in
set_option maxRecDepth 100000 in
theorem k_X12_isIn (l : Launch) (N : Nat) (D : va_G) (cI cJ cZ cB cT : ClassId) (p0 : Int32) (p1 : Int32) (p2 : Int32) (o_r : Int32) (hf : f_X12_isIn N p0 p1 p2 = some o_r) : ∀ sz, Met l yX12_isIn (mw yX12_isIn cX12_isIn 3 (some .boolean)) ({ frames := 0, cells := 0, slots := 0, locals := 0 } : Room) (mPre D (mT cI cJ cZ cB cT) [] sz [.int p0, .int p1, .int p2]) ((mQi D [] o_r (mB o_r)) (va_A [] sz)) 0 0 (va_A [] sz) := by
  refine mMet (Qc := (mQi D [] o_r (mB o_r))) (by decide) (Nat.le_of_ble_eq_true rfl) (fun p e s m below meth c A ls hx hb hr hml hts hown hlocks hK hA hP hD hl => ?_)
  have hown : s.vm.findClass RX12 = some m.cls := hown
  have hl : lv_has ls 3 [(0, .int p0), (1, .int p1), (2, .int p2)] := hl
  have hS : va_S A s.heap s.heap [] := va_S.rf
  unfold f_X12_isIn at hf
  refine lv_iload_n hx hb dX12_isIn_0 rfl (lv_at hl 0 rfl) ?_
  refine lv_iload_n hx hb dX12_isIn_1 rfl (lv_at hl 1 rfl) ?_
  refine xicmp_lt hx hb 14 dX12_isIn_2 (by decide) hf (fun hf => ?_) (fun hf => ?_)
  · refine lv_iconst (v := (0 : Int32)) hx hb dX12_isIn_14 (by decide) ?_
    cases hf
    exact mret_z hx hb hr hlocks hP hD hS dX12_isIn_15 rfl rfl
  · refine lv_iload_n hx hb dX12_isIn_5 rfl (lv_at hl 0 rfl) ?_
    refine lv_iload_n hx hb dX12_isIn_6 rfl (lv_at hl 2 rfl) ?_
    refine xicmp_gt hx hb 14 dX12_isIn_7 (by decide) hf (fun hf => ?_) (fun hf => ?_)
    · refine lv_iconst (v := (0 : Int32)) hx hb dX12_isIn_14 (by decide) ?_
      cases hf
      exact mret_z hx hb hr hlocks hP hD hS dX12_isIn_15 rfl rfl
    · refine lv_iconst (v := (1 : Int32)) hx hb dX12_isIn_10 (by decide) ?_
      refine lv_goto (tgt := 15) hx hb dX12_isIn_11 (by decide) ?_
      cases hf
      exact mret_z hx hb hr hlocks hP hD hS dX12_isIn_15 rfl rfl
theorem dX12_cut_0 : decode cX12_cut 0 = .ok (.lload_n 0, 1) := by decide +kernel
theorem dX12_cut_1 : decode cX12_cut 1 = .ok (.iload_n 2, 1) := by decide +kernel
theorem dX12_cut_2 : decode cX12_cut 2 = .ok (.i2l, 1) := by decide +kernel
theorem dX12_cut_3 : decode cX12_cut 3 = .ok (.lcmp, 1) := by decide +kernel
theorem dX12_cut_4 : decode cX12_cut 4 = .ok (.ifCond .ge 7, 3) := by decide +kernel
theorem dX12_cut_7 : decode cX12_cut 7 = .ok (.iload_n 2, 1) := by decide +kernel
theorem dX12_cut_8 : decode cX12_cut 8 = .ok (.goto 16, 3) := by decide +kernel
theorem dX12_cut_11 : decode cX12_cut 11 = .ok (.lload_n 0, 1) := by decide +kernel
theorem dX12_cut_12 : decode cX12_cut 12 = .ok (.iload_n 3, 1) := by decide +kernel
theorem dX12_cut_13 : decode cX12_cut 13 = .ok (.i2l, 1) := by decide +kernel
theorem dX12_cut_14 : decode cX12_cut 14 = .ok (.lcmp, 1) := by decide +kernel
theorem dX12_cut_15 : decode cX12_cut 15 = .ok (.ifCond .le 7, 3) := by decide +kernel
theorem dX12_cut_18 : decode cX12_cut 18 = .ok (.iload_n 3, 1) := by decide +kernel
theorem dX12_cut_19 : decode cX12_cut 19 = .ok (.goto 5, 3) := by decide +kernel
theorem dX12_cut_22 : decode cX12_cut 22 = .ok (.lload_n 0, 1) := by decide +kernel
theorem dX12_cut_23 : decode cX12_cut 23 = .ok (.l2i, 1) := by decide +kernel
theorem dX12_cut_24 : decode cX12_cut 24 = .ok (.ireturn, 1) := by decide +kernel
def f_X12_cut (N : Nat) (p0 : Int64) (p2 : Int32) (p3 : Int32) : Option (Int32) := if 0 ≤ (lg_cmp p0 p2.toInt64) then (if (lg_cmp p0 p3.toInt64) ≤ 0 then (some p0.toInt32) else (some p3)) else (some p2)
set_option maxHeartbeats 4000000 in
set_option maxRecDepth 100000 in
theorem k_X12_cut (l : Launch) (N : Nat) (D : va_G) (cI cJ cZ cB cT : ClassId) (p0 : Int64) (p2 : Int32) (p3 : Int32) (o_r : Int32) (hf : f_X12_cut N p0 p2 p3 = some o_r) : ∀ sz, Met l yX12_cut (mw yX12_cut cX12_cut 4 (some .int)) ({ frames := 0, cells := 0, slots := 0, locals := 0 } : Room) (mPre D (mT cI cJ cZ cB cT) [] sz [.long p0, .int p2, .int p3]) ((mQi D [] o_r True) (va_A [] sz)) 0 0 (va_A [] sz) := by
  refine mMet (Qc := (mQi D [] o_r True)) (by decide) (Nat.le_of_ble_eq_true rfl) (fun p e s m below meth c A ls hx hb hr hml hts hown hlocks hK hA hP hD hl => ?_)
  have hown : s.vm.findClass RX12 = some m.cls := hown
  have hl : lv_has ls 4 [(0, .long p0), (2, .int p2), (3, .int p3)] := hl
  have hS : va_S A s.heap s.heap [] := va_S.rf
  unfold f_X12_cut at hf
  refine lv_lload_n hx hb dX12_cut_0 rfl (lv_at hl 0 rfl) ?_
  refine lv_iload_n hx hb dX12_cut_1 rfl (lv_at hl 1 rfl) ?_
  refine lv_i2l hx hb dX12_cut_2 rfl ?_
  refine W.lcmp hx hb dX12_cut_3 ?_
  refine xif_ge hx hb 11 dX12_cut_4 (by decide) hf (fun hf => ?_) (fun hf => ?_)
  · refine lv_lload_n hx hb dX12_cut_11 rfl (lv_at hl 0 rfl) ?_
    refine lv_iload_n hx hb dX12_cut_12 rfl (lv_at hl 2 rfl) ?_
    refine lv_i2l hx hb dX12_cut_13 rfl ?_
    refine W.lcmp hx hb dX12_cut_14 ?_
    refine xif_le hx hb 22 dX12_cut_15 (by decide) hf (fun hf => ?_) (fun hf => ?_)
    · refine lv_lload_n hx hb dX12_cut_22 rfl (lv_at hl 0 rfl) ?_
      refine lv_l2i hx hb dX12_cut_23 rfl ?_
      cases hf
      exact mret_i hx hb hr hlocks hP hD hS dX12_cut_24 rfl trivial
    · refine lv_iload_n hx hb dX12_cut_18 rfl (lv_at hl 2 rfl) ?_
      refine lv_goto (tgt := 24) hx hb dX12_cut_19 (by decide) ?_
      cases hf
      exact mret_i hx hb hr hlocks hP hD hS dX12_cut_24 rfl trivial
  · refine lv_iload_n hx hb dX12_cut_7 rfl (lv_at hl 1 rfl) ?_
    refine lv_goto (tgt := 24) hx hb dX12_cut_8 (by decide) ?_
    cases hf
    exact mret_i hx hb hr hlocks hP hD hS dX12_cut_24 rfl trivial
theorem dX12_isWith_0 : decode cX12_isWith 0 = .ok (.iload_n 0, 1) := by decide +kernel
theorem dX12_isWith_1 : decode cX12_isWith 1 = .ok (.iload_n 1, 1) := by decide +kernel
theorem dX12_isWith_2 : decode cX12_isWith 2 = .ok (.ishr, 1) := by decide +kernel
theorem dX12_isWith_3 : decode cX12_isWith 3 = .ok (.iconst 1, 1) := by decide +kernel
theorem dX12_isWith_4 : decode cX12_isWith 4 = .ok (.iand, 1) := by decide +kernel
theorem dX12_isWith_5 : decode cX12_isWith 5 = .ok (.iconst 1, 1) := by decide +kernel
theorem dX12_isWith_6 : decode cX12_isWith 6 = .ok (.if_icmp .ne 7, 3) := by decide +kernel
theorem dX12_isWith_9 : decode cX12_isWith 9 = .ok (.iconst 1, 1) := by decide +kernel
theorem dX12_isWith_10 : decode cX12_isWith 10 = .ok (.goto 4, 3) := by decide +kernel
theorem dX12_isWith_13 : decode cX12_isWith 13 = .ok (.iconst 0, 1) := by decide +kernel
theorem dX12_isWith_14 : decode cX12_isWith 14 = .ok (.ireturn, 1) := by decide +kernel
def f_X12_isWith (N : Nat) (p0 : Int32) (p1 : Int32) : Option (Int32) := if ((p0 >>> (p1 &&& 31)) &&& (1 : Int32)) = (1 : Int32) then (some (1 : Int32)) else (some (0 : Int32))
set_option maxHeartbeats 4000000 in
set_option maxRecDepth 100000 in
theorem k_X12_isWith (l : Launch) (N : Nat) (D : va_G) (cI cJ cZ cB cT : ClassId) (p0 : Int32) (p1 : Int32) (o_r : Int32) (hf : f_X12_isWith N p0 p1 = some o_r) : ∀ sz, Met l yX12_isWith (mw yX12_isWith cX12_isWith 2 (some .boolean)) ({ frames := 0, cells := 0, slots := 0, locals := 0 } : Room) (mPre D (mT cI cJ cZ cB cT) [] sz [.int p0, .int p1]) ((mQi D [] o_r (mB o_r)) (va_A [] sz)) 0 0 (va_A [] sz) := by
  refine mMet (Qc := (mQi D [] o_r (mB o_r))) (by decide) (Nat.le_of_ble_eq_true rfl) (fun p e s m below meth c A ls hx hb hr hml hts hown hlocks hK hA hP hD hl => ?_)
  have hown : s.vm.findClass RX12 = some m.cls := hown
  have hl : lv_has ls 2 [(0, .int p0), (1, .int p1)] := hl
  have hS : va_S A s.heap s.heap [] := va_S.rf
  unfold f_X12_isWith at hf
  refine lv_iload_n hx hb dX12_isWith_0 rfl (lv_at hl 0 rfl) ?_
  refine lv_iload_n hx hb dX12_isWith_1 rfl (lv_at hl 1 rfl) ?_
  refine lv_ishr hx hb dX12_isWith_2 ?_
  refine lv_iconst (v := (1 : Int32)) hx hb dX12_isWith_3 (by decide) ?_
  refine lv_iand hx hb dX12_isWith_4 ?_
  refine lv_iconst (v := (1 : Int32)) hx hb dX12_isWith_5 (by decide) ?_
  refine xicmp_ne hx hb 13 dX12_isWith_6 (by decide) hf (fun hf => ?_) (fun hf => ?_)
  · refine lv_iconst (v := (1 : Int32)) hx hb dX12_isWith_9 (by decide) ?_
    refine lv_goto (tgt := 14) hx hb dX12_isWith_10 (by decide) ?_
    cases hf
    exact mret_z hx hb hr hlocks hP hD hS dX12_isWith_14 rfl rfl
  · refine lv_iconst (v := (0 : Int32)) hx hb dX12_isWith_13 (by decide) ?_
    cases hf
    exact mret_z hx hb hr hlocks hP hD hS dX12_isWith_14 rfl rfl
theorem dX12_bits_0 : decode cX12_bits 0 = .ok (.iconst 0, 1) := by decide +kernel
theorem dX12_bits_1 : decode cX12_bits 1 = .ok (.istore_n 2, 1) := by decide +kernel
theorem dX12_bits_2 : decode cX12_bits 2 = .ok (.lload_n 0, 1) := by decide +kernel
theorem dX12_bits_3 : decode cX12_bits 3 = .ok (.lstore_n 3, 1) := by decide +kernel
theorem dX12_bits_4 : decode cX12_bits 4 = .ok (.lload_n 3, 1) := by decide +kernel
theorem dX12_bits_5 : decode cX12_bits 5 = .ok (.lconst 0, 1) := by decide +kernel
theorem dX12_bits_6 : decode cX12_bits 6 = .ok (.lcmp, 1) := by decide +kernel
theorem dX12_bits_7 : decode cX12_bits 7 = .ok (.ifCond .eq 15, 3) := by decide +kernel
theorem dX12_bits_10 : decode cX12_bits 10 = .ok (.iinc 2 1, 3) := by decide +kernel
theorem dX12_bits_13 : decode cX12_bits 13 = .ok (.lload_n 3, 1) := by decide +kernel
theorem dX12_bits_14 : decode cX12_bits 14 = .ok (.lload_n 3, 1) := by decide +kernel
theorem dX12_bits_15 : decode cX12_bits 15 = .ok (.lconst 1, 1) := by decide +kernel
theorem dX12_bits_16 : decode cX12_bits 16 = .ok (.lsub, 1) := by decide +kernel
theorem dX12_bits_17 : decode cX12_bits 17 = .ok (.land, 1) := by decide +kernel
theorem dX12_bits_18 : decode cX12_bits 18 = .ok (.lstore_n 3, 1) := by decide +kernel
theorem dX12_bits_19 : decode cX12_bits 19 = .ok (.goto (-15), 3) := by decide +kernel
theorem dX12_bits_22 : decode cX12_bits 22 = .ok (.iload_n 2, 1) := by decide +kernel
theorem dX12_bits_23 : decode cX12_bits 23 = .ok (.ireturn, 1) := by decide +kernel
def f_X12_bits_4 (N : Nat) : Nat → Int32 → Int64 → Option (Int32)
  | 0, _, _ => none
  | n + 1, x2, x3 => if (lg_cmp x3 (0 : Int64)) = 0 then (some x2) else ((f_X12_bits_4 N n) (x2 + (1 : Int32)) (x3 &&& (x3 - (1 : Int64))))
def f_X12_bits (N : Nat) (p0 : Int64) : Option (Int32) := f_X12_bits_4 N N (0 : Int32) p0
set_option maxHeartbeats 4000000 in
set_option maxRecDepth 100000 in
theorem k_X12_bits (l : Launch) (N : Nat) (D : va_G) (cI cJ cZ cB cT : ClassId) (p0 : Int64) (o_r : Int32) (hf : f_X12_bits N p0 = some o_r) : ∀ sz, Met l yX12_bits (mw yX12_bits cX12_bits 5 (some .int)) ({ frames := 0, cells := 0, slots := 0, locals := 0 } : Room) (mPre D (mT cI cJ cZ cB cT) [] sz [.long p0]) ((mQi D [] o_r True) (va_A [] sz)) 0 0 (va_A [] sz) := by
  refine mMet (Qc := (mQi D [] o_r True)) (by decide) (Nat.le_of_ble_eq_true rfl) (fun p e s m below meth c A ls hx hb hr hml hts hown hlocks hK hA hP hD hl => ?_)
  have hown : s.vm.findClass RX12 = some m.cls := hown
  have hl : lv_has ls 5 [(0, .long p0)] := hl
  have hS : va_S A s.heap s.heap [] := va_S.rf
  have b4 : ∀ n4 : Nat, ∀ (x2 : Int32) (x3 : Int64) (H : Heap) (locs : List Loc) (ls : Array Slot), f_X12_bits_4 N n4 x2 x3 = some o_r → va_P D vwCl [] H → va_D A [] → va_S A s.heap H locs → lv_has ls 5 [(2, .int x2), (3, .long x3)] → W p l e ({ frames := 0, cells := 0, slots := 0, locals := 0 } : Room) s m ([.long p0] : List Value).toArray below meth c H locs 0 0 (MQ below ((mQi D [] o_r True) A) ([.long p0] : List Value).toArray s 0 0 A) (F0 m 4 ls []) := by
    intro n4
    induction n4 with
    | zero =>
      intro x2 x3 H locs ls hf hP hD hS hl
      simp [f_X12_bits_4] at hf
    | succ n4 ih4 =>
      intro x2 x3 H locs ls hf hP hD hS hl
      rw [f_X12_bits_4.eq_2] at hf
      refine lv_lload_n hx hb dX12_bits_4 rfl (lv_at hl 1 rfl) ?_
      refine lv_lconst (v := (0 : Int64)) hx hb dX12_bits_5 (by decide) ?_
      refine W.lcmp hx hb dX12_bits_6 ?_
      refine xif_eq hx hb 22 dX12_bits_7 (by decide) hf (fun hf => ?_) (fun hf => ?_)
      · refine lv_iload_n hx hb dX12_bits_22 rfl (lv_at hl 0 rfl) ?_
        cases hf
        exact mret_i hx hb hr hlocks hP hD hS dX12_bits_23 rfl trivial
      · refine lv_iinc (v := (x2 + (1 : Int32))) (lv' := [(2, .int (x2 + (1 : Int32))), (3, .long x3)]) hx hb dX12_bits_10 hl (k := 0) rfl rfl (by decide) rfl (fun ls hl => ?_)
        refine lv_lload_n hx hb dX12_bits_13 rfl (lv_at hl 1 rfl) ?_
        refine lv_lload_n hx hb dX12_bits_14 rfl (lv_at hl 1 rfl) ?_
        refine lv_lconst (v := (1 : Int64)) hx hb dX12_bits_15 (by decide) ?_
        refine lv_lsub hx hb dX12_bits_16 ?_
        refine lv_land hx hb dX12_bits_17 ?_
        refine lv_lstore_n (lv' := [(3, .long (x3 &&& (x3 - (1 : Int64)))), (2, .int (x2 + (1 : Int32)))]) hx hb dX12_bits_18 rfl hl (by decide) rfl (fun ls hl => ?_)
        refine lv_goto (tgt := 4) hx hb dX12_bits_19 (by decide) ?_
        exact ih4 (x2 + (1 : Int32)) (x3 &&& (x3 - (1 : Int64))) _ _ _ hf hP hD hS (lv_sub hl [1, 0] rfl)
  unfold f_X12_bits at hf
  refine lv_iconst (v := (0 : Int32)) hx hb dX12_bits_0 (by decide) ?_
  refine lv_istore_n (lv' := [(2, .int (0 : Int32)), (0, .long p0)]) hx hb dX12_bits_1 rfl hl (by decide) rfl (fun ls hl => ?_)
  refine lv_lload_n hx hb dX12_bits_2 rfl (lv_at hl 1 rfl) ?_
  refine lv_lstore_n (lv' := [(3, .long p0), (2, .int (0 : Int32)), (0, .long p0)]) hx hb dX12_bits_3 rfl hl (by decide) rfl (fun ls hl => ?_)
  exact b4 N (0 : Int32) p0 _ _ _ hf hP hD hS (lv_sub hl [1, 0] rfl)
theorem dX12_isLand_0 : decode cX12_isLand 0 = .ok (.iload_n 1, 1) := by decide +kernel
theorem dX12_isLand_1 : decode cX12_isLand 1 = .ok (.iconst 0, 1) := by decide +kernel
theorem dX12_isLand_2 : decode cX12_isLand 2 = .ok (.aload_n 0, 1) := by decide +kernel
theorem dX12_isLand_3 : decode cX12_isLand 3 = .ok (.getfield 7, 3) := by decide +kernel
theorem dX12_isLand_6 : decode cX12_isLand 6 = .ok (.iconst 0, 1) := by decide +kernel
theorem dX12_isLand_7 : decode cX12_isLand 7 = .ok (.iaload, 1) := by decide +kernel
theorem dX12_isLand_8 : decode cX12_isLand 8 = .ok (.iconst 1, 1) := by decide +kernel
theorem dX12_isLand_9 : decode cX12_isLand 9 = .ok (.isub, 1) := by decide +kernel
theorem dX12_isLand_10 : decode cX12_isLand 10 = .ok (.invokestatic 63, 3) := by decide +kernel
theorem dX12_isLand_13 : decode cX12_isLand 13 = .ok (.ireturn, 1) := by decide +kernel
def f_X12_isLand (N : Nat) (v_a : Nat → Int32) (p1 : Int32) : Option (Int32) := gA v_a 8762 (0 : Int32) fun v7 => ob1 (f_X12_isIn N p1 (0 : Int32) (v7 - (1 : Int32))) fun r10 => some r10
set_option maxHeartbeats 4000000 in
set_option maxRecDepth 100000 in
theorem k_X12_isLand (l : Launch) (N : Nat) (D : va_G) (cI cJ cZ cB cT : ClassId) (h : Nat) (q : Nat → Nat) (v_a : Nat → Int32) (v_image : Nat → Int32) (v_texts : Nat → Int32) (v_tape : Nat → Int32) (v_taped : Int32) (v_fault : Int32) (v_faultPlace : Int32) (v_at : Int32) (v_place : Int32) (v_token : Int32) (v_number : Int32) (v_word : Int64) (v_text0 : Int32) (v_written : Int32) (v_sort0 : Int32) (v_pile : Nat → Int32) (v_piled : Int32) (v_opens : Int32) (v_isWhole : Int32) (v_once : Int32) (v_named : Nat → Int32) (v_values : Nat → Int64) (v_truth : Nat → Int32) (v_isWritten : Int32) (v_died : Int32) (v_aside : Nat → Int32) (v_likely : Nat → Int32) (v_safe : Nat → Int32) (v_headOf : Nat → Int32) (p1 : Int32) (o_r : Int32) (hf : f_X12_isLand N v_a p1 = some o_r) : ∀ sz, Met l yX12_isLand (mw yX12_isLand cX12_isLand 2 (some .boolean)) ({ frames := 1, cells := 0, slots := 0, locals := 22 } : Room) (mPre D (mT cI cJ cZ cB cT) (WM h q cI cJ cZ v_a v_image v_texts v_tape v_taped v_fault v_faultPlace v_at v_place v_token v_number v_word v_text0 v_written v_sort0 v_pile v_piled v_opens v_isWhole v_once v_named v_values v_truth v_isWritten v_died v_aside v_likely v_safe v_headOf) sz [.ref h, .int p1]) ((mQi D (WM h q cI cJ cZ v_a v_image v_texts v_tape v_taped v_fault v_faultPlace v_at v_place v_token v_number v_word v_text0 v_written v_sort0 v_pile v_piled v_opens v_isWhole v_once v_named v_values v_truth v_isWritten v_died v_aside v_likely v_safe v_headOf) o_r (mB o_r)) (va_A (WM h q cI cJ cZ v_a v_image v_texts v_tape v_taped v_fault v_faultPlace v_at v_place v_token v_number v_word v_text0 v_written v_sort0 v_pile v_piled v_opens v_isWhole v_once v_named v_values v_truth v_isWritten v_died v_aside v_likely v_safe v_headOf) sz)) 0 0 (va_A (WM h q cI cJ cZ v_a v_image v_texts v_tape v_taped v_fault v_faultPlace v_at v_place v_token v_number v_word v_text0 v_written v_sort0 v_pile v_piled v_opens v_isWhole v_once v_named v_values v_truth v_isWritten v_died v_aside v_likely v_safe v_headOf) sz) := by
  refine mMet (Qc := (mQi D (WM h q cI cJ cZ v_a v_image v_texts v_tape v_taped v_fault v_faultPlace v_at v_place v_token v_number v_word v_text0 v_written v_sort0 v_pile v_piled v_opens v_isWhole v_once v_named v_values v_truth v_isWritten v_died v_aside v_likely v_safe v_headOf) o_r (mB o_r))) (by decide) (Nat.le_of_ble_eq_true rfl) (fun p e s m below meth c A ls hx hb hr hml hts hown hlocks hK hA hP hD hl => ?_)
  have hown : s.vm.findClass RX12 = some m.cls := hown
  have hl : lv_has ls 2 [(0, .ref h), (1, .int p1)] := hl
  have hS : va_S A s.heap s.heap [] := va_S.rf
  unfold f_X12_isLand at hf
  refine lv_iload_n hx hb dX12_isLand_0 rfl (lv_at hl 1 rfl) ?_
  refine lv_iconst (v := (0 : Int32)) hx hb dX12_isLand_1 (by decide) ?_
  refine lv_aload_n hx hb dX12_isLand_2 rfl (lv_at hl 0 rfl) ?_
  refine gfX12_7 hx hb hts hown hK hP 0 rfl rfl dX12_isLand_3 ?_
  refine lv_iconst (v := (0 : Int32)) hx hb dX12_isLand_6 (by decide) ?_
  refine xiald hx hb hK hP 1 0 rfl rfl dX12_isLand_7 hf (fun v7 hf => ?_)
  refine lv_iconst (v := (1 : Int32)) hx hb dX12_isLand_8 (by decide) ?_
  refine lv_isub hx hb dX12_isLand_9 ?_
  obtain ⟨r10, hg10, hf⟩ := ob1_some hf
  refine mcS0_i (As := [.int p1, .int (0 : Int32), .int (v7 - (1 : Int32))]) (rest := []) hx hb hml hown hts hK hP hD hS hA (k_X12_isIn l N D cI cJ cZ cB cT p1 (0 : Int32) (v7 - (1 : Int32)) r10 hg10) (kwX12_63 hts rfl rfl ⟨Nat.le_of_ble_eq_true rfl, Nat.le_of_ble_eq_true rfl⟩) rfl hl.1 rfl (Nat.le_of_ble_eq_true rfl) dX12_isLand_10 ⟨Nat.zero_le _, Nat.zero_le _⟩ (fun hB10 H locs hP hD hS => ?_)
  cases hf
  exact mret_z hx hb hr hlocks hP hD hS dX12_isLand_13 rfl hB10
theorem dX12_isPerson_0 : decode cX12_isPerson 0 = .ok (.iload_n 1, 1) := by decide +kernel
theorem dX12_isPerson_1 : decode cX12_isPerson 1 = .ok (.iconst 0, 1) := by decide +kernel
theorem dX12_isPerson_2 : decode cX12_isPerson 2 = .ok (.aload_n 0, 1) := by decide +kernel
theorem dX12_isPerson_3 : decode cX12_isPerson 3 = .ok (.getfield 7, 3) := by decide +kernel
theorem dX12_isPerson_6 : decode cX12_isPerson 6 = .ok (.iconst 1, 1) := by decide +kernel
theorem dX12_isPerson_7 : decode cX12_isPerson 7 = .ok (.iaload, 1) := by decide +kernel
theorem dX12_isPerson_8 : decode cX12_isPerson 8 = .ok (.iconst 1, 1) := by decide +kernel
theorem dX12_isPerson_9 : decode cX12_isPerson 9 = .ok (.isub, 1) := by decide +kernel
theorem dX12_isPerson_10 : decode cX12_isPerson 10 = .ok (.invokestatic 63, 3) := by decide +kernel
theorem dX12_isPerson_13 : decode cX12_isPerson 13 = .ok (.ireturn, 1) := by decide +kernel
def f_X12_isPerson (N : Nat) (v_a : Nat → Int32) (p1 : Int32) : Option (Int32) := gA v_a 8762 (1 : Int32) fun v7 => ob1 (f_X12_isIn N p1 (0 : Int32) (v7 - (1 : Int32))) fun r10 => some r10
set_option maxHeartbeats 4000000 in
set_option maxRecDepth 100000 in
theorem k_X12_isPerson (l : Launch) (N : Nat) (D : va_G) (cI cJ cZ cB cT : ClassId) (h : Nat) (q : Nat → Nat) (v_a : Nat → Int32) (v_image : Nat → Int32) (v_texts : Nat → Int32) (v_tape : Nat → Int32) (v_taped : Int32) (v_fault : Int32) (v_faultPlace : Int32) (v_at : Int32) (v_place : Int32) (v_token : Int32) (v_number : Int32) (v_word : Int64) (v_text0 : Int32) (v_written : Int32) (v_sort0 : Int32) (v_pile : Nat → Int32) (v_piled : Int32) (v_opens : Int32) (v_isWhole : Int32) (v_once : Int32) (v_named : Nat → Int32) (v_values : Nat → Int64) (v_truth : Nat → Int32) (v_isWritten : Int32) (v_died : Int32) (v_aside : Nat → Int32) (v_likely : Nat → Int32) (v_safe : Nat → Int32) (v_headOf : Nat → Int32) (p1 : Int32) (o_r : Int32) (hf : f_X12_isPerson N v_a p1 = some o_r) : ∀ sz, Met l yX12_isPerson (mw yX12_isPerson cX12_isPerson 2 (some .boolean)) ({ frames := 1, cells := 0, slots := 0, locals := 22 } : Room) (mPre D (mT cI cJ cZ cB cT) (WM h q cI cJ cZ v_a v_image v_texts v_tape v_taped v_fault v_faultPlace v_at v_place v_token v_number v_word v_text0 v_written v_sort0 v_pile v_piled v_opens v_isWhole v_once v_named v_values v_truth v_isWritten v_died v_aside v_likely v_safe v_headOf) sz [.ref h, .int p1]) ((mQi D (WM h q cI cJ cZ v_a v_image v_texts v_tape v_taped v_fault v_faultPlace v_at v_place v_token v_number v_word v_text0 v_written v_sort0 v_pile v_piled v_opens v_isWhole v_once v_named v_values v_truth v_isWritten v_died v_aside v_likely v_safe v_headOf) o_r (mB o_r)) (va_A (WM h q cI cJ cZ v_a v_image v_texts v_tape v_taped v_fault v_faultPlace v_at v_place v_token v_number v_word v_text0 v_written v_sort0 v_pile v_piled v_opens v_isWhole v_once v_named v_values v_truth v_isWritten v_died v_aside v_likely v_safe v_headOf) sz)) 0 0 (va_A (WM h q cI cJ cZ v_a v_image v_texts v_tape v_taped v_fault v_faultPlace v_at v_place v_token v_number v_word v_text0 v_written v_sort0 v_pile v_piled v_opens v_isWhole v_once v_named v_values v_truth v_isWritten v_died v_aside v_likely v_safe v_headOf) sz) := by
  refine mMet (Qc := (mQi D (WM h q cI cJ cZ v_a v_image v_texts v_tape v_taped v_fault v_faultPlace v_at v_place v_token v_number v_word v_text0 v_written v_sort0 v_pile v_piled v_opens v_isWhole v_once v_named v_values v_truth v_isWritten v_died v_aside v_likely v_safe v_headOf) o_r (mB o_r))) (by decide) (Nat.le_of_ble_eq_true rfl) (fun p e s m below meth c A ls hx hb hr hml hts hown hlocks hK hA hP hD hl => ?_)
  have hown : s.vm.findClass RX12 = some m.cls := hown
  have hl : lv_has ls 2 [(0, .ref h), (1, .int p1)] := hl
  have hS : va_S A s.heap s.heap [] := va_S.rf
  unfold f_X12_isPerson at hf
  refine lv_iload_n hx hb dX12_isPerson_0 rfl (lv_at hl 1 rfl) ?_
  refine lv_iconst (v := (0 : Int32)) hx hb dX12_isPerson_1 (by decide) ?_
  refine lv_aload_n hx hb dX12_isPerson_2 rfl (lv_at hl 0 rfl) ?_
  refine gfX12_7 hx hb hts hown hK hP 0 rfl rfl dX12_isPerson_3 ?_
  refine lv_iconst (v := (1 : Int32)) hx hb dX12_isPerson_6 (by decide) ?_
  refine xiald hx hb hK hP 1 0 rfl rfl dX12_isPerson_7 hf (fun v7 hf => ?_)
  refine lv_iconst (v := (1 : Int32)) hx hb dX12_isPerson_8 (by decide) ?_
  refine lv_isub hx hb dX12_isPerson_9 ?_
  obtain ⟨r10, hg10, hf⟩ := ob1_some hf
  refine mcS0_i (As := [.int p1, .int (0 : Int32), .int (v7 - (1 : Int32))]) (rest := []) hx hb hml hown hts hK hP hD hS hA (k_X12_isIn l N D cI cJ cZ cB cT p1 (0 : Int32) (v7 - (1 : Int32)) r10 hg10) (kwX12_63 hts rfl rfl ⟨Nat.le_of_ble_eq_true rfl, Nat.le_of_ble_eq_true rfl⟩) rfl hl.1 rfl (Nat.le_of_ble_eq_true rfl) dX12_isPerson_10 ⟨Nat.zero_le _, Nat.zero_le _⟩ (fun hB10 H locs hP hD hS => ?_)
  cases hf
  exact mret_z hx hb hr hlocks hP hD hS dX12_isPerson_13 rfl hB10
theorem dX12_get_0 : decode cX12_get 0 = .ok (.aload_n 0, 1) := by decide +kernel
theorem dX12_get_1 : decode cX12_get 1 = .ok (.getfield 7, 3) := by decide +kernel
theorem dX12_get_4 : decode cX12_get 4 = .ok (.bipush 14, 2) := by decide +kernel
theorem dX12_get_6 : decode cX12_get 6 = .ok (.bipush 11, 2) := by decide +kernel
theorem dX12_get_8 : decode cX12_get 8 = .ok (.iload_n 1, 1) := by decide +kernel
theorem dX12_get_9 : decode cX12_get 9 = .ok (.imul, 1) := by decide +kernel
theorem dX12_get_10 : decode cX12_get 10 = .ok (.iadd, 1) := by decide +kernel
theorem dX12_get_11 : decode cX12_get 11 = .ok (.iload_n 2, 1) := by decide +kernel
theorem dX12_get_12 : decode cX12_get 12 = .ok (.iadd, 1) := by decide +kernel
theorem dX12_get_13 : decode cX12_get 13 = .ok (.iaload, 1) := by decide +kernel
theorem dX12_get_14 : decode cX12_get 14 = .ok (.ireturn, 1) := by decide +kernel
def f_X12_get (N : Nat) (v_a : Nat → Int32) (p1 : Int32) (p2 : Int32) : Option (Int32) := gA v_a 8762 (((14 : Int32) + ((11 : Int32) * p1)) + p2) fun v13 => some v13
set_option maxHeartbeats 4000000 in
set_option maxRecDepth 100000 in
theorem k_X12_get (l : Launch) (N : Nat) (D : va_G) (cI cJ cZ cB cT : ClassId) (h : Nat) (q : Nat → Nat) (v_a : Nat → Int32) (v_image : Nat → Int32) (v_texts : Nat → Int32) (v_tape : Nat → Int32) (v_taped : Int32) (v_fault : Int32) (v_faultPlace : Int32) (v_at : Int32) (v_place : Int32) (v_token : Int32) (v_number : Int32) (v_word : Int64) (v_text0 : Int32) (v_written : Int32) (v_sort0 : Int32) (v_pile : Nat → Int32) (v_piled : Int32) (v_opens : Int32) (v_isWhole : Int32) (v_once : Int32) (v_named : Nat → Int32) (v_values : Nat → Int64) (v_truth : Nat → Int32) (v_isWritten : Int32) (v_died : Int32) (v_aside : Nat → Int32) (v_likely : Nat → Int32) (v_safe : Nat → Int32) (v_headOf : Nat → Int32) (p1 : Int32) (p2 : Int32) (o_r : Int32) (hf : f_X12_get N v_a p1 p2 = some o_r) : ∀ sz, Met l yX12_get (mw yX12_get cX12_get 3 (some .int)) ({ frames := 0, cells := 0, slots := 0, locals := 0 } : Room) (mPre D (mT cI cJ cZ cB cT) (WM h q cI cJ cZ v_a v_image v_texts v_tape v_taped v_fault v_faultPlace v_at v_place v_token v_number v_word v_text0 v_written v_sort0 v_pile v_piled v_opens v_isWhole v_once v_named v_values v_truth v_isWritten v_died v_aside v_likely v_safe v_headOf) sz [.ref h, .int p1, .int p2]) ((mQi D (WM h q cI cJ cZ v_a v_image v_texts v_tape v_taped v_fault v_faultPlace v_at v_place v_token v_number v_word v_text0 v_written v_sort0 v_pile v_piled v_opens v_isWhole v_once v_named v_values v_truth v_isWritten v_died v_aside v_likely v_safe v_headOf) o_r True) (va_A (WM h q cI cJ cZ v_a v_image v_texts v_tape v_taped v_fault v_faultPlace v_at v_place v_token v_number v_word v_text0 v_written v_sort0 v_pile v_piled v_opens v_isWhole v_once v_named v_values v_truth v_isWritten v_died v_aside v_likely v_safe v_headOf) sz)) 0 0 (va_A (WM h q cI cJ cZ v_a v_image v_texts v_tape v_taped v_fault v_faultPlace v_at v_place v_token v_number v_word v_text0 v_written v_sort0 v_pile v_piled v_opens v_isWhole v_once v_named v_values v_truth v_isWritten v_died v_aside v_likely v_safe v_headOf) sz) := by
  refine mMet (Qc := (mQi D (WM h q cI cJ cZ v_a v_image v_texts v_tape v_taped v_fault v_faultPlace v_at v_place v_token v_number v_word v_text0 v_written v_sort0 v_pile v_piled v_opens v_isWhole v_once v_named v_values v_truth v_isWritten v_died v_aside v_likely v_safe v_headOf) o_r True)) (by decide) (Nat.le_of_ble_eq_true rfl) (fun p e s m below meth c A ls hx hb hr hml hts hown hlocks hK hA hP hD hl => ?_)
  have hown : s.vm.findClass RX12 = some m.cls := hown
  have hl : lv_has ls 3 [(0, .ref h), (1, .int p1), (2, .int p2)] := hl
  have hS : va_S A s.heap s.heap [] := va_S.rf
  unfold f_X12_get at hf
  refine lv_aload_n hx hb dX12_get_0 rfl (lv_at hl 0 rfl) ?_
  refine gfX12_7 hx hb hts hown hK hP 0 rfl rfl dX12_get_1 ?_
  refine lv_bipush (v := (14 : Int32)) hx hb dX12_get_4 (by decide) ?_
  refine lv_bipush (v := (11 : Int32)) hx hb dX12_get_6 (by decide) ?_
  refine lv_iload_n hx hb dX12_get_8 rfl (lv_at hl 1 rfl) ?_
  refine lv_imul hx hb dX12_get_9 ?_
  refine lv_iadd hx hb dX12_get_10 ?_
  refine lv_iload_n hx hb dX12_get_11 rfl (lv_at hl 2 rfl) ?_
  refine lv_iadd hx hb dX12_get_12 ?_
  refine xiald hx hb hK hP 1 0 rfl rfl dX12_get_13 hf (fun v13 hf => ?_)
  cases hf
  exact mret_i hx hb hr hlocks hP hD hS dX12_get_14 rfl trivial
theorem dX12_put_0 : decode cX12_put 0 = .ok (.aload_n 0, 1) := by decide +kernel
theorem dX12_put_1 : decode cX12_put 1 = .ok (.getfield 7, 3) := by decide +kernel
theorem dX12_put_4 : decode cX12_put 4 = .ok (.bipush 14, 2) := by decide +kernel
theorem dX12_put_6 : decode cX12_put 6 = .ok (.bipush 11, 2) := by decide +kernel
theorem dX12_put_8 : decode cX12_put 8 = .ok (.iload_n 1, 1) := by decide +kernel
theorem dX12_put_9 : decode cX12_put 9 = .ok (.imul, 1) := by decide +kernel
theorem dX12_put_10 : decode cX12_put 10 = .ok (.iadd, 1) := by decide +kernel
theorem dX12_put_11 : decode cX12_put 11 = .ok (.iload_n 2, 1) := by decide +kernel
theorem dX12_put_12 : decode cX12_put 12 = .ok (.iadd, 1) := by decide +kernel
theorem dX12_put_13 : decode cX12_put 13 = .ok (.iload_n 3, 1) := by decide +kernel
theorem dX12_put_14 : decode cX12_put 14 = .ok (.iastore, 1) := by decide +kernel
theorem dX12_put_15 : decode cX12_put 15 = .ok (.return_, 1) := by decide +kernel
def f_X12_put (N : Nat) (v_a : Nat → Int32) (p1 : Int32) (p2 : Int32) (p3 : Int32) : Option ((Nat → Int32)) := sA v_a 8762 (((14 : Int32) + ((11 : Int32) * p1)) + p2) p3 fun v_a_14 => some v_a_14
set_option maxHeartbeats 4000000 in
set_option maxRecDepth 100000 in
theorem k_X12_put (l : Launch) (N : Nat) (D : va_G) (cI cJ cZ cB cT : ClassId) (h : Nat) (q : Nat → Nat) (v_a : Nat → Int32) (v_image : Nat → Int32) (v_texts : Nat → Int32) (v_tape : Nat → Int32) (v_taped : Int32) (v_fault : Int32) (v_faultPlace : Int32) (v_at : Int32) (v_place : Int32) (v_token : Int32) (v_number : Int32) (v_word : Int64) (v_text0 : Int32) (v_written : Int32) (v_sort0 : Int32) (v_pile : Nat → Int32) (v_piled : Int32) (v_opens : Int32) (v_isWhole : Int32) (v_once : Int32) (v_named : Nat → Int32) (v_values : Nat → Int64) (v_truth : Nat → Int32) (v_isWritten : Int32) (v_died : Int32) (v_aside : Nat → Int32) (v_likely : Nat → Int32) (v_safe : Nat → Int32) (v_headOf : Nat → Int32) (p1 : Int32) (p2 : Int32) (p3 : Int32) (o_v_a : Nat → Int32) (hf : f_X12_put N v_a p1 p2 p3 = some o_v_a) : ∀ sz, Met l yX12_put (mw yX12_put cX12_put 4 none) ({ frames := 0, cells := 0, slots := 0, locals := 0 } : Room) (mPre D (mT cI cJ cZ cB cT) (WM h q cI cJ cZ v_a v_image v_texts v_tape v_taped v_fault v_faultPlace v_at v_place v_token v_number v_word v_text0 v_written v_sort0 v_pile v_piled v_opens v_isWhole v_once v_named v_values v_truth v_isWritten v_died v_aside v_likely v_safe v_headOf) sz [.ref h, .int p1, .int p2, .int p3]) ((mQv D (WM h q cI cJ cZ o_v_a v_image v_texts v_tape v_taped v_fault v_faultPlace v_at v_place v_token v_number v_word v_text0 v_written v_sort0 v_pile v_piled v_opens v_isWhole v_once v_named v_values v_truth v_isWritten v_died v_aside v_likely v_safe v_headOf)) (va_A (WM h q cI cJ cZ v_a v_image v_texts v_tape v_taped v_fault v_faultPlace v_at v_place v_token v_number v_word v_text0 v_written v_sort0 v_pile v_piled v_opens v_isWhole v_once v_named v_values v_truth v_isWritten v_died v_aside v_likely v_safe v_headOf) sz)) 0 0 (va_A (WM h q cI cJ cZ v_a v_image v_texts v_tape v_taped v_fault v_faultPlace v_at v_place v_token v_number v_word v_text0 v_written v_sort0 v_pile v_piled v_opens v_isWhole v_once v_named v_values v_truth v_isWritten v_died v_aside v_likely v_safe v_headOf) sz) := by
  refine mMet (Qc := (mQv D (WM h q cI cJ cZ o_v_a v_image v_texts v_tape v_taped v_fault v_faultPlace v_at v_place v_token v_number v_word v_text0 v_written v_sort0 v_pile v_piled v_opens v_isWhole v_once v_named v_values v_truth v_isWritten v_died v_aside v_likely v_safe v_headOf))) (by decide) (Nat.le_of_ble_eq_true rfl) (fun p e s m below meth c A ls hx hb hr hml hts hown hlocks hK hA hP hD hl => ?_)
  have hown : s.vm.findClass RX12 = some m.cls := hown
  have hl : lv_has ls 4 [(0, .ref h), (1, .int p1), (2, .int p2), (3, .int p3)] := hl
  have hS : va_S A s.heap s.heap [] := va_S.rf
  unfold f_X12_put at hf
  refine lv_aload_n hx hb dX12_put_0 rfl (lv_at hl 0 rfl) ?_
  refine gfX12_7 hx hb hts hown hK hP 0 rfl rfl dX12_put_1 ?_
  refine lv_bipush (v := (14 : Int32)) hx hb dX12_put_4 (by decide) ?_
  refine lv_bipush (v := (11 : Int32)) hx hb dX12_put_6 (by decide) ?_
  refine lv_iload_n hx hb dX12_put_8 rfl (lv_at hl 1 rfl) ?_
  refine lv_imul hx hb dX12_put_9 ?_
  refine lv_iadd hx hb dX12_put_10 ?_
  refine lv_iload_n hx hb dX12_put_11 rfl (lv_at hl 2 rfl) ?_
  refine lv_iadd hx hb dX12_put_12 ?_
  refine lv_iload_n hx hb dX12_put_13 rfl (lv_at hl 3 rfl) ?_
  refine xiast hx hb hK hP hD hS 1 0 rfl rfl dX12_put_14 hf (fun v_a_14 hf H locs hP hD hS => ?_)
  have hP : va_P D vwCl (WM h q cI cJ cZ v_a_14 v_image v_texts v_tape v_taped v_fault v_faultPlace v_at v_place v_token v_number v_word v_text0 v_written v_sort0 v_pile v_piled v_opens v_isWhole v_once v_named v_values v_truth v_isWritten v_died v_aside v_likely v_safe v_headOf) H := hP
  have hD : va_D A (WM h q cI cJ cZ v_a_14 v_image v_texts v_tape v_taped v_fault v_faultPlace v_at v_place v_token v_number v_word v_text0 v_written v_sort0 v_pile v_piled v_opens v_isWhole v_once v_named v_values v_truth v_isWritten v_died v_aside v_likely v_safe v_headOf) := hD
  cases hf
  exact mret_v hx hb hr hlocks hP hD hS dX12_put_15
theorem dX12_isOutlaw_0 : decode cX12_isOutlaw 0 = .ok (.aload_n 0, 1) := by decide +kernel
theorem dX12_isOutlaw_1 : decode cX12_isOutlaw 1 = .ok (.iload_n 1, 1) := by decide +kernel
theorem dX12_isOutlaw_2 : decode cX12_isOutlaw 2 = .ok (.invokevirtual 67, 3) := by decide +kernel
theorem dX12_isOutlaw_5 : decode cX12_isOutlaw 5 = .ok (.ifCond .eq 18, 3) := by decide +kernel
theorem dX12_isOutlaw_8 : decode cX12_isOutlaw 8 = .ok (.aload_n 0, 1) := by decide +kernel
theorem dX12_isOutlaw_9 : decode cX12_isOutlaw 9 = .ok (.iload_n 1, 1) := by decide +kernel
theorem dX12_isOutlaw_10 : decode cX12_isOutlaw 10 = .ok (.bipush 6, 2) := by decide +kernel
theorem dX12_isOutlaw_12 : decode cX12_isOutlaw 12 = .ok (.invokevirtual 71, 3) := by decide +kernel
theorem dX12_isOutlaw_15 : decode cX12_isOutlaw 15 = .ok (.iconst 1, 1) := by decide +kernel
theorem dX12_isOutlaw_16 : decode cX12_isOutlaw 16 = .ok (.if_icmp .ne 7, 3) := by decide +kernel
theorem dX12_isOutlaw_19 : decode cX12_isOutlaw 19 = .ok (.iconst 1, 1) := by decide +kernel
theorem dX12_isOutlaw_20 : decode cX12_isOutlaw 20 = .ok (.goto 4, 3) := by decide +kernel
theorem dX12_isOutlaw_23 : decode cX12_isOutlaw 23 = .ok (.iconst 0, 1) := by decide +kernel
theorem dX12_isOutlaw_24 : decode cX12_isOutlaw 24 = .ok (.ireturn, 1) := by decide +kernel
def f_X12_isOutlaw (N : Nat) (v_a : Nat → Int32) (p1 : Int32) : Option (Int32) := ob1 (f_X12_isPerson N v_a p1) fun r2 => if r2 = 0 then (some (0 : Int32)) else (ob1 (f_X12_get N v_a p1 (6 : Int32)) fun r12 => if r12 = (1 : Int32) then (some (1 : Int32)) else (some (0 : Int32)))
set_option maxHeartbeats 4000000 in
set_option maxRecDepth 100000 in
theorem k_X12_isOutlaw (l : Launch) (N : Nat) (D : va_G) (cI cJ cZ cB cT : ClassId) (h : Nat) (q : Nat → Nat) (v_a : Nat → Int32) (v_image : Nat → Int32) (v_texts : Nat → Int32) (v_tape : Nat → Int32) (v_taped : Int32) (v_fault : Int32) (v_faultPlace : Int32) (v_at : Int32) (v_place : Int32) (v_token : Int32) (v_number : Int32) (v_word : Int64) (v_text0 : Int32) (v_written : Int32) (v_sort0 : Int32) (v_pile : Nat → Int32) (v_piled : Int32) (v_opens : Int32) (v_isWhole : Int32) (v_once : Int32) (v_named : Nat → Int32) (v_values : Nat → Int64) (v_truth : Nat → Int32) (v_isWritten : Int32) (v_died : Int32) (v_aside : Nat → Int32) (v_likely : Nat → Int32) (v_safe : Nat → Int32) (v_headOf : Nat → Int32) (p1 : Int32) (o_r : Int32) (hf : f_X12_isOutlaw N v_a p1 = some o_r) : ∀ sz, Met l yX12_isOutlaw (mw yX12_isOutlaw cX12_isOutlaw 2 (some .boolean)) ({ frames := 2, cells := 0, slots := 0, locals := 43 } : Room) (mPre D (mT cI cJ cZ cB cT) (WM h q cI cJ cZ v_a v_image v_texts v_tape v_taped v_fault v_faultPlace v_at v_place v_token v_number v_word v_text0 v_written v_sort0 v_pile v_piled v_opens v_isWhole v_once v_named v_values v_truth v_isWritten v_died v_aside v_likely v_safe v_headOf) sz [.ref h, .int p1]) ((mQi D (WM h q cI cJ cZ v_a v_image v_texts v_tape v_taped v_fault v_faultPlace v_at v_place v_token v_number v_word v_text0 v_written v_sort0 v_pile v_piled v_opens v_isWhole v_once v_named v_values v_truth v_isWritten v_died v_aside v_likely v_safe v_headOf) o_r (mB o_r)) (va_A (WM h q cI cJ cZ v_a v_image v_texts v_tape v_taped v_fault v_faultPlace v_at v_place v_token v_number v_word v_text0 v_written v_sort0 v_pile v_piled v_opens v_isWhole v_once v_named v_values v_truth v_isWritten v_died v_aside v_likely v_safe v_headOf) sz)) 0 0 (va_A (WM h q cI cJ cZ v_a v_image v_texts v_tape v_taped v_fault v_faultPlace v_at v_place v_token v_number v_word v_text0 v_written v_sort0 v_pile v_piled v_opens v_isWhole v_once v_named v_values v_truth v_isWritten v_died v_aside v_likely v_safe v_headOf) sz) := by
  refine mMet (Qc := (mQi D (WM h q cI cJ cZ v_a v_image v_texts v_tape v_taped v_fault v_faultPlace v_at v_place v_token v_number v_word v_text0 v_written v_sort0 v_pile v_piled v_opens v_isWhole v_once v_named v_values v_truth v_isWritten v_died v_aside v_likely v_safe v_headOf) o_r (mB o_r))) (by decide) (Nat.le_of_ble_eq_true rfl) (fun p e s m below meth c A ls hx hb hr hml hts hown hlocks hK hA hP hD hl => ?_)
  have hown : s.vm.findClass RX12 = some m.cls := hown
  have hl : lv_has ls 2 [(0, .ref h), (1, .int p1)] := hl
  have hS : va_S A s.heap s.heap [] := va_S.rf
  unfold f_X12_isOutlaw at hf
  refine lv_aload_n hx hb dX12_isOutlaw_0 rfl (lv_at hl 0 rfl) ?_
  refine lv_iload_n hx hb dX12_isOutlaw_1 rfl (lv_at hl 1 rfl) ?_
  obtain ⟨r2, hg2, hf⟩ := ob1_some hf
  refine mcV1_i (As := [.int p1]) (rest := []) hx hb hml hown hts hK hP hD hS hA (k_X12_isPerson l N D cI cJ cZ cB cT h q v_a v_image v_texts v_tape v_taped v_fault v_faultPlace v_at v_place v_token v_number v_word v_text0 v_written v_sort0 v_pile v_piled v_opens v_isWhole v_once v_named v_values v_truth v_isWritten v_died v_aside v_likely v_safe v_headOf p1 r2 hg2) (kwX12_67 hts rfl rfl ⟨Nat.le_of_ble_eq_true rfl, Nat.le_of_ble_eq_true rfl⟩) 0 rfl rfl rfl rfl hl.1 rfl (Nat.le_of_ble_eq_true rfl) dX12_isOutlaw_2 ⟨Nat.zero_le _, Nat.zero_le _⟩ (fun hB2 H locs hP hD hS => ?_)
  have hP : va_P D vwCl (WM h q cI cJ cZ v_a v_image v_texts v_tape v_taped v_fault v_faultPlace v_at v_place v_token v_number v_word v_text0 v_written v_sort0 v_pile v_piled v_opens v_isWhole v_once v_named v_values v_truth v_isWritten v_died v_aside v_likely v_safe v_headOf) H := hP
  have hD : va_D A (WM h q cI cJ cZ v_a v_image v_texts v_tape v_taped v_fault v_faultPlace v_at v_place v_token v_number v_word v_text0 v_written v_sort0 v_pile v_piled v_opens v_isWhole v_once v_named v_values v_truth v_isWritten v_died v_aside v_likely v_safe v_headOf) := hD
  refine xif_eq hx hb 23 dX12_isOutlaw_5 (by decide) hf (fun hf => ?_) (fun hf => ?_)
  · refine lv_iconst (v := (0 : Int32)) hx hb dX12_isOutlaw_23 (by decide) ?_
    cases hf
    exact mret_z hx hb hr hlocks hP hD hS dX12_isOutlaw_24 rfl rfl
  · refine lv_aload_n hx hb dX12_isOutlaw_8 rfl (lv_at hl 0 rfl) ?_
    refine lv_iload_n hx hb dX12_isOutlaw_9 rfl (lv_at hl 1 rfl) ?_
    refine lv_bipush (v := (6 : Int32)) hx hb dX12_isOutlaw_10 (by decide) ?_
    obtain ⟨r12, hg12, hf⟩ := ob1_some hf
    refine mcV1_i (As := [.int p1, .int (6 : Int32)]) (rest := []) hx hb hml hown hts hK hP hD hS hA (k_X12_get l N D cI cJ cZ cB cT h q v_a v_image v_texts v_tape v_taped v_fault v_faultPlace v_at v_place v_token v_number v_word v_text0 v_written v_sort0 v_pile v_piled v_opens v_isWhole v_once v_named v_values v_truth v_isWritten v_died v_aside v_likely v_safe v_headOf p1 (6 : Int32) r12 hg12) (kwX12_71 hts rfl rfl ⟨Nat.le_of_ble_eq_true rfl, Nat.le_of_ble_eq_true rfl⟩) 0 rfl rfl rfl rfl hl.1 rfl (Nat.le_of_ble_eq_true rfl) dX12_isOutlaw_12 ⟨Nat.zero_le _, Nat.zero_le _⟩ (fun hB12 H locs hP hD hS => ?_)
    have hP : va_P D vwCl (WM h q cI cJ cZ v_a v_image v_texts v_tape v_taped v_fault v_faultPlace v_at v_place v_token v_number v_word v_text0 v_written v_sort0 v_pile v_piled v_opens v_isWhole v_once v_named v_values v_truth v_isWritten v_died v_aside v_likely v_safe v_headOf) H := hP
    have hD : va_D A (WM h q cI cJ cZ v_a v_image v_texts v_tape v_taped v_fault v_faultPlace v_at v_place v_token v_number v_word v_text0 v_written v_sort0 v_pile v_piled v_opens v_isWhole v_once v_named v_values v_truth v_isWritten v_died v_aside v_likely v_safe v_headOf) := hD
    refine lv_iconst (v := (1 : Int32)) hx hb dX12_isOutlaw_15 (by decide) ?_
    refine xicmp_ne hx hb 23 dX12_isOutlaw_16 (by decide) hf (fun hf => ?_) (fun hf => ?_)
    · refine lv_iconst (v := (1 : Int32)) hx hb dX12_isOutlaw_19 (by decide) ?_
      refine lv_goto (tgt := 24) hx hb dX12_isOutlaw_20 (by decide) ?_
      cases hf
      exact mret_z hx hb hr hlocks hP hD hS dX12_isOutlaw_24 rfl rfl
    · refine lv_iconst (v := (0 : Int32)) hx hb dX12_isOutlaw_23 (by decide) ?_
      cases hf
      exact mret_z hx hb hr hlocks hP hD hS dX12_isOutlaw_24 rfl rfl
theorem dX12_isAlive_0 : decode cX12_isAlive 0 = .ok (.aload_n 0, 1) := by decide +kernel
theorem dX12_isAlive_1 : decode cX12_isAlive 1 = .ok (.iload_n 1, 1) := by decide +kernel
theorem dX12_isAlive_2 : decode cX12_isAlive 2 = .ok (.invokevirtual 67, 3) := by decide +kernel
theorem dX12_isAlive_5 : decode cX12_isAlive 5 = .ok (.ifCond .eq 18, 3) := by decide +kernel
theorem dX12_isAlive_8 : decode cX12_isAlive 8 = .ok (.aload_n 0, 1) := by decide +kernel
theorem dX12_isAlive_9 : decode cX12_isAlive 9 = .ok (.iload_n 1, 1) := by decide +kernel
theorem dX12_isAlive_10 : decode cX12_isAlive 10 = .ok (.bipush 6, 2) := by decide +kernel
theorem dX12_isAlive_12 : decode cX12_isAlive 12 = .ok (.invokevirtual 71, 3) := by decide +kernel
theorem dX12_isAlive_15 : decode cX12_isAlive 15 = .ok (.iconst 3, 1) := by decide +kernel
theorem dX12_isAlive_16 : decode cX12_isAlive 16 = .ok (.if_icmp .eq 7, 3) := by decide +kernel
theorem dX12_isAlive_19 : decode cX12_isAlive 19 = .ok (.iconst 1, 1) := by decide +kernel
theorem dX12_isAlive_20 : decode cX12_isAlive 20 = .ok (.goto 4, 3) := by decide +kernel
theorem dX12_isAlive_23 : decode cX12_isAlive 23 = .ok (.iconst 0, 1) := by decide +kernel
theorem dX12_isAlive_24 : decode cX12_isAlive 24 = .ok (.ireturn, 1) := by decide +kernel
def f_X12_isAlive (N : Nat) (v_a : Nat → Int32) (p1 : Int32) : Option (Int32) := ob1 (f_X12_isPerson N v_a p1) fun r2 => if r2 = 0 then (some (0 : Int32)) else (ob1 (f_X12_get N v_a p1 (6 : Int32)) fun r12 => if r12 = (3 : Int32) then (some (0 : Int32)) else (some (1 : Int32)))
set_option maxHeartbeats 4000000 in
set_option maxRecDepth 100000 in
theorem k_X12_isAlive (l : Launch) (N : Nat) (D : va_G) (cI cJ cZ cB cT : ClassId) (h : Nat) (q : Nat → Nat) (v_a : Nat → Int32) (v_image : Nat → Int32) (v_texts : Nat → Int32) (v_tape : Nat → Int32) (v_taped : Int32) (v_fault : Int32) (v_faultPlace : Int32) (v_at : Int32) (v_place : Int32) (v_token : Int32) (v_number : Int32) (v_word : Int64) (v_text0 : Int32) (v_written : Int32) (v_sort0 : Int32) (v_pile : Nat → Int32) (v_piled : Int32) (v_opens : Int32) (v_isWhole : Int32) (v_once : Int32) (v_named : Nat → Int32) (v_values : Nat → Int64) (v_truth : Nat → Int32) (v_isWritten : Int32) (v_died : Int32) (v_aside : Nat → Int32) (v_likely : Nat → Int32) (v_safe : Nat → Int32) (v_headOf : Nat → Int32) (p1 : Int32) (o_r : Int32) (hf : f_X12_isAlive N v_a p1 = some o_r) : ∀ sz, Met l yX12_isAlive (mw yX12_isAlive cX12_isAlive 2 (some .boolean)) ({ frames := 2, cells := 0, slots := 0, locals := 43 } : Room) (mPre D (mT cI cJ cZ cB cT) (WM h q cI cJ cZ v_a v_image v_texts v_tape v_taped v_fault v_faultPlace v_at v_place v_token v_number v_word v_text0 v_written v_sort0 v_pile v_piled v_opens v_isWhole v_once v_named v_values v_truth v_isWritten v_died v_aside v_likely v_safe v_headOf) sz [.ref h, .int p1]) ((mQi D (WM h q cI cJ cZ v_a v_image v_texts v_tape v_taped v_fault v_faultPlace v_at v_place v_token v_number v_word v_text0 v_written v_sort0 v_pile v_piled v_opens v_isWhole v_once v_named v_values v_truth v_isWritten v_died v_aside v_likely v_safe v_headOf) o_r (mB o_r)) (va_A (WM h q cI cJ cZ v_a v_image v_texts v_tape v_taped v_fault v_faultPlace v_at v_place v_token v_number v_word v_text0 v_written v_sort0 v_pile v_piled v_opens v_isWhole v_once v_named v_values v_truth v_isWritten v_died v_aside v_likely v_safe v_headOf) sz)) 0 0 (va_A (WM h q cI cJ cZ v_a v_image v_texts v_tape v_taped v_fault v_faultPlace v_at v_place v_token v_number v_word v_text0 v_written v_sort0 v_pile v_piled v_opens v_isWhole v_once v_named v_values v_truth v_isWritten v_died v_aside v_likely v_safe v_headOf) sz) := by
  refine mMet (Qc := (mQi D (WM h q cI cJ cZ v_a v_image v_texts v_tape v_taped v_fault v_faultPlace v_at v_place v_token v_number v_word v_text0 v_written v_sort0 v_pile v_piled v_opens v_isWhole v_once v_named v_values v_truth v_isWritten v_died v_aside v_likely v_safe v_headOf) o_r (mB o_r))) (by decide) (Nat.le_of_ble_eq_true rfl) (fun p e s m below meth c A ls hx hb hr hml hts hown hlocks hK hA hP hD hl => ?_)
  have hown : s.vm.findClass RX12 = some m.cls := hown
  have hl : lv_has ls 2 [(0, .ref h), (1, .int p1)] := hl
  have hS : va_S A s.heap s.heap [] := va_S.rf
  unfold f_X12_isAlive at hf
  refine lv_aload_n hx hb dX12_isAlive_0 rfl (lv_at hl 0 rfl) ?_
  refine lv_iload_n hx hb dX12_isAlive_1 rfl (lv_at hl 1 rfl) ?_
  obtain ⟨r2, hg2, hf⟩ := ob1_some hf
  refine mcV1_i (As := [.int p1]) (rest := []) hx hb hml hown hts hK hP hD hS hA (k_X12_isPerson l N D cI cJ cZ cB cT h q v_a v_image v_texts v_tape v_taped v_fault v_faultPlace v_at v_place v_token v_number v_word v_text0 v_written v_sort0 v_pile v_piled v_opens v_isWhole v_once v_named v_values v_truth v_isWritten v_died v_aside v_likely v_safe v_headOf p1 r2 hg2) (kwX12_67 hts rfl rfl ⟨Nat.le_of_ble_eq_true rfl, Nat.le_of_ble_eq_true rfl⟩) 0 rfl rfl rfl rfl hl.1 rfl (Nat.le_of_ble_eq_true rfl) dX12_isAlive_2 ⟨Nat.zero_le _, Nat.zero_le _⟩ (fun hB2 H locs hP hD hS => ?_)
  have hP : va_P D vwCl (WM h q cI cJ cZ v_a v_image v_texts v_tape v_taped v_fault v_faultPlace v_at v_place v_token v_number v_word v_text0 v_written v_sort0 v_pile v_piled v_opens v_isWhole v_once v_named v_values v_truth v_isWritten v_died v_aside v_likely v_safe v_headOf) H := hP
  have hD : va_D A (WM h q cI cJ cZ v_a v_image v_texts v_tape v_taped v_fault v_faultPlace v_at v_place v_token v_number v_word v_text0 v_written v_sort0 v_pile v_piled v_opens v_isWhole v_once v_named v_values v_truth v_isWritten v_died v_aside v_likely v_safe v_headOf) := hD
  refine xif_eq hx hb 23 dX12_isAlive_5 (by decide) hf (fun hf => ?_) (fun hf => ?_)
  · refine lv_iconst (v := (0 : Int32)) hx hb dX12_isAlive_23 (by decide) ?_
    cases hf
    exact mret_z hx hb hr hlocks hP hD hS dX12_isAlive_24 rfl rfl
  · refine lv_aload_n hx hb dX12_isAlive_8 rfl (lv_at hl 0 rfl) ?_
    refine lv_iload_n hx hb dX12_isAlive_9 rfl (lv_at hl 1 rfl) ?_
    refine lv_bipush (v := (6 : Int32)) hx hb dX12_isAlive_10 (by decide) ?_
    obtain ⟨r12, hg12, hf⟩ := ob1_some hf
    refine mcV1_i (As := [.int p1, .int (6 : Int32)]) (rest := []) hx hb hml hown hts hK hP hD hS hA (k_X12_get l N D cI cJ cZ cB cT h q v_a v_image v_texts v_tape v_taped v_fault v_faultPlace v_at v_place v_token v_number v_word v_text0 v_written v_sort0 v_pile v_piled v_opens v_isWhole v_once v_named v_values v_truth v_isWritten v_died v_aside v_likely v_safe v_headOf p1 (6 : Int32) r12 hg12) (kwX12_71 hts rfl rfl ⟨Nat.le_of_ble_eq_true rfl, Nat.le_of_ble_eq_true rfl⟩) 0 rfl rfl rfl rfl hl.1 rfl (Nat.le_of_ble_eq_true rfl) dX12_isAlive_12 ⟨Nat.zero_le _, Nat.zero_le _⟩ (fun hB12 H locs hP hD hS => ?_)
    have hP : va_P D vwCl (WM h q cI cJ cZ v_a v_image v_texts v_tape v_taped v_fault v_faultPlace v_at v_place v_token v_number v_word v_text0 v_written v_sort0 v_pile v_piled v_opens v_isWhole v_once v_named v_values v_truth v_isWritten v_died v_aside v_likely v_safe v_headOf) H := hP
    have hD : va_D A (WM h q cI cJ cZ v_a v_image v_texts v_tape v_taped v_fault v_faultPlace v_at v_place v_token v_number v_word v_text0 v_written v_sort0 v_pile v_piled v_opens v_isWhole v_once v_named v_values v_truth v_isWritten v_died v_aside v_likely v_safe v_headOf) := hD
    refine lv_iconst (v := (3 : Int32)) hx hb dX12_isAlive_15 (by decide) ?_
    refine xicmp_eq hx hb 23 dX12_isAlive_16 (by decide) hf (fun hf => ?_) (fun hf => ?_)
    · refine lv_iconst (v := (0 : Int32)) hx hb dX12_isAlive_23 (by decide) ?_
      cases hf
      exact mret_z hx hb hr hlocks hP hD hS dX12_isAlive_24 rfl rfl
    · refine lv_iconst (v := (1 : Int32)) hx hb dX12_isAlive_19 (by decide) ?_
      refine lv_goto (tgt := 24) hx hb dX12_isAlive_20 (by decide) ?_
      cases hf
      exact mret_z hx hb hr hlocks hP hD hS dX12_isAlive_24 rfl rfl
theorem dX12_land_0 : decode cX12_land 0 = .ok (.iload_n 1, 1) := by decide +kernel
theorem dX12_land_1 : decode cX12_land 1 = .ok (.iconst 0, 1) := by decide +kernel
theorem dX12_land_2 : decode cX12_land 2 = .ok (.bipush 9, 2) := by decide +kernel
theorem dX12_land_4 : decode cX12_land 4 = .ok (.invokestatic 63, 3) := by decide +kernel
theorem dX12_land_7 : decode cX12_land 7 = .ok (.ifCond .eq 14, 3) := by decide +kernel
theorem dX12_land_10 : decode cX12_land 10 = .ok (.aload_n 0, 1) := by decide +kernel
theorem dX12_land_11 : decode cX12_land 11 = .ok (.getfield 7, 3) := by decide +kernel
theorem dX12_land_14 : decode cX12_land 14 = .ok (.iconst 0, 1) := by decide +kernel
theorem dX12_land_15 : decode cX12_land 15 = .ok (.iaload, 1) := by decide +kernel
theorem dX12_land_16 : decode cX12_land 16 = .ok (.bipush 8, 2) := by decide +kernel
theorem dX12_land_18 : decode cX12_land 18 = .ok (.if_icmp .ne 5, 3) := by decide +kernel
theorem dX12_land_21 : decode cX12_land 21 = .ok (.iconst (-1), 1) := by decide +kernel
theorem dX12_land_22 : decode cX12_land 22 = .ok (.ireturn, 1) := by decide +kernel
theorem dX12_land_23 : decode cX12_land 23 = .ok (.aload_n 0, 1) := by decide +kernel
theorem dX12_land_24 : decode cX12_land 24 = .ok (.getfield 7, 3) := by decide +kernel
theorem dX12_land_27 : decode cX12_land 27 = .ok (.bipush 80, 2) := by decide +kernel
theorem dX12_land_29 : decode cX12_land 29 = .ok (.aload_n 0, 1) := by decide +kernel
theorem dX12_land_30 : decode cX12_land 30 = .ok (.getfield 7, 3) := by decide +kernel
theorem dX12_land_33 : decode cX12_land 33 = .ok (.iconst 0, 1) := by decide +kernel
theorem dX12_land_34 : decode cX12_land 34 = .ok (.iaload, 1) := by decide +kernel
theorem dX12_land_35 : decode cX12_land 35 = .ok (.iadd, 1) := by decide +kernel
theorem dX12_land_36 : decode cX12_land 36 = .ok (.iload_n 1, 1) := by decide +kernel
theorem dX12_land_37 : decode cX12_land 37 = .ok (.iastore, 1) := by decide +kernel
theorem dX12_land_38 : decode cX12_land 38 = .ok (.aload_n 0, 1) := by decide +kernel
theorem dX12_land_39 : decode cX12_land 39 = .ok (.getfield 7, 3) := by decide +kernel
theorem dX12_land_42 : decode cX12_land 42 = .ok (.bipush 88, 2) := by decide +kernel
theorem dX12_land_44 : decode cX12_land 44 = .ok (.aload_n 0, 1) := by decide +kernel
theorem dX12_land_45 : decode cX12_land 45 = .ok (.getfield 7, 3) := by decide +kernel
theorem dX12_land_48 : decode cX12_land 48 = .ok (.iconst 0, 1) := by decide +kernel
theorem dX12_land_49 : decode cX12_land 49 = .ok (.iaload, 1) := by decide +kernel
theorem dX12_land_50 : decode cX12_land 50 = .ok (.iadd, 1) := by decide +kernel
theorem dX12_land_51 : decode cX12_land 51 = .ok (.iconst 0, 1) := by decide +kernel
theorem dX12_land_52 : decode cX12_land 52 = .ok (.iastore, 1) := by decide +kernel
theorem dX12_land_53 : decode cX12_land 53 = .ok (.aload_n 0, 1) := by decide +kernel
theorem dX12_land_54 : decode cX12_land 54 = .ok (.getfield 7, 3) := by decide +kernel
theorem dX12_land_57 : decode cX12_land 57 = .ok (.iconst 0, 1) := by decide +kernel
theorem dX12_land_58 : decode cX12_land 58 = .ok (.dup2, 1) := by decide +kernel
theorem dX12_land_59 : decode cX12_land 59 = .ok (.iaload, 1) := by decide +kernel
theorem dX12_land_60 : decode cX12_land 60 = .ok (.iconst 1, 1) := by decide +kernel
theorem dX12_land_61 : decode cX12_land 61 = .ok (.iadd, 1) := by decide +kernel
theorem dX12_land_62 : decode cX12_land 62 = .ok (.iastore, 1) := by decide +kernel
theorem dX12_land_63 : decode cX12_land 63 = .ok (.aload_n 0, 1) := by decide +kernel
theorem dX12_land_64 : decode cX12_land 64 = .ok (.getfield 7, 3) := by decide +kernel
theorem dX12_land_67 : decode cX12_land 67 = .ok (.iconst 0, 1) := by decide +kernel
theorem dX12_land_68 : decode cX12_land 68 = .ok (.iaload, 1) := by decide +kernel
theorem dX12_land_69 : decode cX12_land 69 = .ok (.iconst 1, 1) := by decide +kernel
theorem dX12_land_70 : decode cX12_land 70 = .ok (.isub, 1) := by decide +kernel
theorem dX12_land_71 : decode cX12_land 71 = .ok (.ireturn, 1) := by decide +kernel
def f_X12_land (N : Nat) (v_a : Nat → Int32) (p1 : Int32) : Option (Int32 × (Nat → Int32)) := ob1 (f_X12_isIn N p1 (0 : Int32) (9 : Int32)) fun r4 => if r4 = 0 then (some ((-1 : Int32), v_a)) else (gA v_a 8762 (0 : Int32) fun v15 => if v15 = (8 : Int32) then (some ((-1 : Int32), v_a)) else (gA v_a 8762 (0 : Int32) fun v34 => sA v_a 8762 ((80 : Int32) + v34) p1 fun v_a_37 => gA v_a_37 8762 (0 : Int32) fun v49 => sA v_a_37 8762 ((88 : Int32) + v49) (0 : Int32) fun v_a_52 => gA v_a_52 8762 (0 : Int32) fun v59 => sA v_a_52 8762 (0 : Int32) (v59 + (1 : Int32)) fun v_a_62 => gA v_a_62 8762 (0 : Int32) fun v68 => some ((v68 - (1 : Int32)), v_a_62)))
set_option maxHeartbeats 4000000 in
set_option maxRecDepth 100000 in
theorem k_X12_land (l : Launch) (N : Nat) (D : va_G) (cI cJ cZ cB cT : ClassId) (h : Nat) (q : Nat → Nat) (v_a : Nat → Int32) (v_image : Nat → Int32) (v_texts : Nat → Int32) (v_tape : Nat → Int32) (v_taped : Int32) (v_fault : Int32) (v_faultPlace : Int32) (v_at : Int32) (v_place : Int32) (v_token : Int32) (v_number : Int32) (v_word : Int64) (v_text0 : Int32) (v_written : Int32) (v_sort0 : Int32) (v_pile : Nat → Int32) (v_piled : Int32) (v_opens : Int32) (v_isWhole : Int32) (v_once : Int32) (v_named : Nat → Int32) (v_values : Nat → Int64) (v_truth : Nat → Int32) (v_isWritten : Int32) (v_died : Int32) (v_aside : Nat → Int32) (v_likely : Nat → Int32) (v_safe : Nat → Int32) (v_headOf : Nat → Int32) (p1 : Int32) (o_r : Int32) (o_v_a : Nat → Int32) (hf : f_X12_land N v_a p1 = some (o_r, o_v_a)) : ∀ sz, Met l yX12_land (mw yX12_land cX12_land 2 (some .int)) ({ frames := 1, cells := 0, slots := 0, locals := 22 } : Room) (mPre D (mT cI cJ cZ cB cT) (WM h q cI cJ cZ v_a v_image v_texts v_tape v_taped v_fault v_faultPlace v_at v_place v_token v_number v_word v_text0 v_written v_sort0 v_pile v_piled v_opens v_isWhole v_once v_named v_values v_truth v_isWritten v_died v_aside v_likely v_safe v_headOf) sz [.ref h, .int p1]) ((mQi D (WM h q cI cJ cZ o_v_a v_image v_texts v_tape v_taped v_fault v_faultPlace v_at v_place v_token v_number v_word v_text0 v_written v_sort0 v_pile v_piled v_opens v_isWhole v_once v_named v_values v_truth v_isWritten v_died v_aside v_likely v_safe v_headOf) o_r True) (va_A (WM h q cI cJ cZ v_a v_image v_texts v_tape v_taped v_fault v_faultPlace v_at v_place v_token v_number v_word v_text0 v_written v_sort0 v_pile v_piled v_opens v_isWhole v_once v_named v_values v_truth v_isWritten v_died v_aside v_likely v_safe v_headOf) sz)) 0 0 (va_A (WM h q cI cJ cZ v_a v_image v_texts v_tape v_taped v_fault v_faultPlace v_at v_place v_token v_number v_word v_text0 v_written v_sort0 v_pile v_piled v_opens v_isWhole v_once v_named v_values v_truth v_isWritten v_died v_aside v_likely v_safe v_headOf) sz) := by
  refine mMet (Qc := (mQi D (WM h q cI cJ cZ o_v_a v_image v_texts v_tape v_taped v_fault v_faultPlace v_at v_place v_token v_number v_word v_text0 v_written v_sort0 v_pile v_piled v_opens v_isWhole v_once v_named v_values v_truth v_isWritten v_died v_aside v_likely v_safe v_headOf) o_r True)) (by decide) (Nat.le_of_ble_eq_true rfl) (fun p e s m below meth c A ls hx hb hr hml hts hown hlocks hK hA hP hD hl => ?_)
  have hown : s.vm.findClass RX12 = some m.cls := hown
  have hl : lv_has ls 2 [(0, .ref h), (1, .int p1)] := hl
  have hS : va_S A s.heap s.heap [] := va_S.rf
  unfold f_X12_land at hf
  refine lv_iload_n hx hb dX12_land_0 rfl (lv_at hl 1 rfl) ?_
  refine lv_iconst (v := (0 : Int32)) hx hb dX12_land_1 (by decide) ?_
  refine lv_bipush (v := (9 : Int32)) hx hb dX12_land_2 (by decide) ?_
  obtain ⟨r4, hg4, hf⟩ := ob1_some hf
  refine mcS0_i (As := [.int p1, .int (0 : Int32), .int (9 : Int32)]) (rest := []) hx hb hml hown hts hK hP hD hS hA (k_X12_isIn l N D cI cJ cZ cB cT p1 (0 : Int32) (9 : Int32) r4 hg4) (kwX12_63 hts rfl rfl ⟨Nat.le_of_ble_eq_true rfl, Nat.le_of_ble_eq_true rfl⟩) rfl hl.1 rfl (Nat.le_of_ble_eq_true rfl) dX12_land_4 ⟨Nat.zero_le _, Nat.zero_le _⟩ (fun hB4 H locs hP hD hS => ?_)
  refine xif_eq hx hb 21 dX12_land_7 (by decide) hf (fun hf => ?_) (fun hf => ?_)
  · refine lv_iconst (v := (-1 : Int32)) hx hb dX12_land_21 (by decide) ?_
    cases hf
    exact mret_i hx hb hr hlocks hP hD hS dX12_land_22 rfl trivial
  · refine lv_aload_n hx hb dX12_land_10 rfl (lv_at hl 0 rfl) ?_
    refine gfX12_7 hx hb hts hown hK hP 0 rfl rfl dX12_land_11 ?_
    refine lv_iconst (v := (0 : Int32)) hx hb dX12_land_14 (by decide) ?_
    refine xiald hx hb hK hP 1 0 rfl rfl dX12_land_15 hf (fun v15 hf => ?_)
    refine lv_bipush (v := (8 : Int32)) hx hb dX12_land_16 (by decide) ?_
    refine xicmp_ne hx hb 23 dX12_land_18 (by decide) hf (fun hf => ?_) (fun hf => ?_)
    · refine lv_iconst (v := (-1 : Int32)) hx hb dX12_land_21 (by decide) ?_
      cases hf
      exact mret_i hx hb hr hlocks hP hD hS dX12_land_22 rfl trivial
    · refine lv_aload_n hx hb dX12_land_23 rfl (lv_at hl 0 rfl) ?_
      refine gfX12_7 hx hb hts hown hK hP 0 rfl rfl dX12_land_24 ?_
      refine lv_bipush (v := (80 : Int32)) hx hb dX12_land_27 (by decide) ?_
      refine lv_aload_n hx hb dX12_land_29 rfl (lv_at hl 0 rfl) ?_
      refine gfX12_7 hx hb hts hown hK hP 0 rfl rfl dX12_land_30 ?_
      refine lv_iconst (v := (0 : Int32)) hx hb dX12_land_33 (by decide) ?_
      refine xiald hx hb hK hP 1 0 rfl rfl dX12_land_34 hf (fun v34 hf => ?_)
      refine lv_iadd hx hb dX12_land_35 ?_
      refine lv_iload_n hx hb dX12_land_36 rfl (lv_at hl 1 rfl) ?_
      refine xiast hx hb hK hP hD hS 1 0 rfl rfl dX12_land_37 hf (fun v_a_37 hf H locs hP hD hS => ?_)
      have hP : va_P D vwCl (WM h q cI cJ cZ v_a_37 v_image v_texts v_tape v_taped v_fault v_faultPlace v_at v_place v_token v_number v_word v_text0 v_written v_sort0 v_pile v_piled v_opens v_isWhole v_once v_named v_values v_truth v_isWritten v_died v_aside v_likely v_safe v_headOf) H := hP
      have hD : va_D A (WM h q cI cJ cZ v_a_37 v_image v_texts v_tape v_taped v_fault v_faultPlace v_at v_place v_token v_number v_word v_text0 v_written v_sort0 v_pile v_piled v_opens v_isWhole v_once v_named v_values v_truth v_isWritten v_died v_aside v_likely v_safe v_headOf) := hD
      refine lv_aload_n hx hb dX12_land_38 rfl (lv_at hl 0 rfl) ?_
      refine gfX12_7 hx hb hts hown hK hP 0 rfl rfl dX12_land_39 ?_
      refine lv_bipush (v := (88 : Int32)) hx hb dX12_land_42 (by decide) ?_
      refine lv_aload_n hx hb dX12_land_44 rfl (lv_at hl 0 rfl) ?_
      refine gfX12_7 hx hb hts hown hK hP 0 rfl rfl dX12_land_45 ?_
      refine lv_iconst (v := (0 : Int32)) hx hb dX12_land_48 (by decide) ?_
      refine xiald hx hb hK hP 1 0 rfl rfl dX12_land_49 hf (fun v49 hf => ?_)
      refine lv_iadd hx hb dX12_land_50 ?_
      refine lv_iconst (v := (0 : Int32)) hx hb dX12_land_51 (by decide) ?_
      refine xiast hx hb hK hP hD hS 1 0 rfl rfl dX12_land_52 hf (fun v_a_52 hf H locs hP hD hS => ?_)
      have hP : va_P D vwCl (WM h q cI cJ cZ v_a_52 v_image v_texts v_tape v_taped v_fault v_faultPlace v_at v_place v_token v_number v_word v_text0 v_written v_sort0 v_pile v_piled v_opens v_isWhole v_once v_named v_values v_truth v_isWritten v_died v_aside v_likely v_safe v_headOf) H := hP
      have hD : va_D A (WM h q cI cJ cZ v_a_52 v_image v_texts v_tape v_taped v_fault v_faultPlace v_at v_place v_token v_number v_word v_text0 v_written v_sort0 v_pile v_piled v_opens v_isWhole v_once v_named v_values v_truth v_isWritten v_died v_aside v_likely v_safe v_headOf) := hD
      refine lv_aload_n hx hb dX12_land_53 rfl (lv_at hl 0 rfl) ?_
      refine gfX12_7 hx hb hts hown hK hP 0 rfl rfl dX12_land_54 ?_
      refine lv_iconst (v := (0 : Int32)) hx hb dX12_land_57 (by decide) ?_
      refine lv_dup2_11 hx hb dX12_land_58 rfl rfl ?_
      refine xiald hx hb hK hP 1 0 rfl rfl dX12_land_59 hf (fun v59 hf => ?_)
      refine lv_iconst (v := (1 : Int32)) hx hb dX12_land_60 (by decide) ?_
      refine lv_iadd hx hb dX12_land_61 ?_
      refine xiast hx hb hK hP hD hS 1 0 rfl rfl dX12_land_62 hf (fun v_a_62 hf H locs hP hD hS => ?_)
      have hP : va_P D vwCl (WM h q cI cJ cZ v_a_62 v_image v_texts v_tape v_taped v_fault v_faultPlace v_at v_place v_token v_number v_word v_text0 v_written v_sort0 v_pile v_piled v_opens v_isWhole v_once v_named v_values v_truth v_isWritten v_died v_aside v_likely v_safe v_headOf) H := hP
      have hD : va_D A (WM h q cI cJ cZ v_a_62 v_image v_texts v_tape v_taped v_fault v_faultPlace v_at v_place v_token v_number v_word v_text0 v_written v_sort0 v_pile v_piled v_opens v_isWhole v_once v_named v_values v_truth v_isWritten v_died v_aside v_likely v_safe v_headOf) := hD
      refine lv_aload_n hx hb dX12_land_63 rfl (lv_at hl 0 rfl) ?_
      refine gfX12_7 hx hb hts hown hK hP 0 rfl rfl dX12_land_64 ?_
      refine lv_iconst (v := (0 : Int32)) hx hb dX12_land_67 (by decide) ?_
      refine xiald hx hb hK hP 1 0 rfl rfl dX12_land_68 hf (fun v68 hf => ?_)
      refine lv_iconst (v := (1 : Int32)) hx hb dX12_land_69 (by decide) ?_
      refine lv_isub hx hb dX12_land_70 ?_
      cases hf
      exact mret_i hx hb hr hlocks hP hD hS dX12_land_71 rfl trivial
theorem dX12_road_0 : decode cX12_road 0 = .ok (.aload_n 0, 1) := by decide +kernel
theorem dX12_road_1 : decode cX12_road 1 = .ok (.iload_n 1, 1) := by decide +kernel
theorem dX12_road_2 : decode cX12_road 2 = .ok (.invokevirtual 75, 3) := by decide +kernel
theorem dX12_road_5 : decode cX12_road 5 = .ok (.ifCond .eq 32, 3) := by decide +kernel
theorem dX12_road_8 : decode cX12_road 8 = .ok (.aload_n 0, 1) := by decide +kernel
theorem dX12_road_9 : decode cX12_road 9 = .ok (.iload_n 2, 1) := by decide +kernel
theorem dX12_road_10 : decode cX12_road 10 = .ok (.invokevirtual 75, 3) := by decide +kernel
theorem dX12_road_13 : decode cX12_road 13 = .ok (.ifCond .eq 24, 3) := by decide +kernel
theorem dX12_road_16 : decode cX12_road 16 = .ok (.iload_n 1, 1) := by decide +kernel
theorem dX12_road_17 : decode cX12_road 17 = .ok (.iload_n 2, 1) := by decide +kernel
theorem dX12_road_18 : decode cX12_road 18 = .ok (.if_icmp .eq 19, 3) := by decide +kernel
theorem dX12_road_21 : decode cX12_road 21 = .ok (.aload_n 0, 1) := by decide +kernel
theorem dX12_road_22 : decode cX12_road 22 = .ok (.getfield 7, 3) := by decide +kernel
theorem dX12_road_25 : decode cX12_road 25 = .ok (.bipush 88, 2) := by decide +kernel
theorem dX12_road_27 : decode cX12_road 27 = .ok (.iload_n 1, 1) := by decide +kernel
theorem dX12_road_28 : decode cX12_road 28 = .ok (.iadd, 1) := by decide +kernel
theorem dX12_road_29 : decode cX12_road 29 = .ok (.iaload, 1) := by decide +kernel
theorem dX12_road_30 : decode cX12_road 30 = .ok (.iload_n 2, 1) := by decide +kernel
theorem dX12_road_31 : decode cX12_road 31 = .ok (.invokestatic 78, 3) := by decide +kernel
theorem dX12_road_34 : decode cX12_road 34 = .ok (.ifCond .eq 5, 3) := by decide +kernel
theorem dX12_road_37 : decode cX12_road 37 = .ok (.iconst 0, 1) := by decide +kernel
theorem dX12_road_38 : decode cX12_road 38 = .ok (.ireturn, 1) := by decide +kernel
theorem dX12_road_39 : decode cX12_road 39 = .ok (.aload_n 0, 1) := by decide +kernel
theorem dX12_road_40 : decode cX12_road 40 = .ok (.getfield 7, 3) := by decide +kernel
theorem dX12_road_43 : decode cX12_road 43 = .ok (.bipush 88, 2) := by decide +kernel
theorem dX12_road_45 : decode cX12_road 45 = .ok (.iload_n 1, 1) := by decide +kernel
theorem dX12_road_46 : decode cX12_road 46 = .ok (.iadd, 1) := by decide +kernel
theorem dX12_road_47 : decode cX12_road 47 = .ok (.dup2, 1) := by decide +kernel
theorem dX12_road_48 : decode cX12_road 48 = .ok (.iaload, 1) := by decide +kernel
theorem dX12_road_49 : decode cX12_road 49 = .ok (.iconst 1, 1) := by decide +kernel
theorem dX12_road_50 : decode cX12_road 50 = .ok (.iload_n 2, 1) := by decide +kernel
theorem dX12_road_51 : decode cX12_road 51 = .ok (.ishl, 1) := by decide +kernel
theorem dX12_road_52 : decode cX12_road 52 = .ok (.ior, 1) := by decide +kernel
theorem dX12_road_53 : decode cX12_road 53 = .ok (.iastore, 1) := by decide +kernel
theorem dX12_road_54 : decode cX12_road 54 = .ok (.aload_n 0, 1) := by decide +kernel
theorem dX12_road_55 : decode cX12_road 55 = .ok (.getfield 7, 3) := by decide +kernel
theorem dX12_road_58 : decode cX12_road 58 = .ok (.bipush 88, 2) := by decide +kernel
theorem dX12_road_60 : decode cX12_road 60 = .ok (.iload_n 2, 1) := by decide +kernel
theorem dX12_road_61 : decode cX12_road 61 = .ok (.iadd, 1) := by decide +kernel
theorem dX12_road_62 : decode cX12_road 62 = .ok (.dup2, 1) := by decide +kernel
theorem dX12_road_63 : decode cX12_road 63 = .ok (.iaload, 1) := by decide +kernel
theorem dX12_road_64 : decode cX12_road 64 = .ok (.iconst 1, 1) := by decide +kernel
theorem dX12_road_65 : decode cX12_road 65 = .ok (.iload_n 1, 1) := by decide +kernel
theorem dX12_road_66 : decode cX12_road 66 = .ok (.ishl, 1) := by decide +kernel
theorem dX12_road_67 : decode cX12_road 67 = .ok (.ior, 1) := by decide +kernel
theorem dX12_road_68 : decode cX12_road 68 = .ok (.iastore, 1) := by decide +kernel
theorem dX12_road_69 : decode cX12_road 69 = .ok (.iconst 1, 1) := by decide +kernel
theorem dX12_road_70 : decode cX12_road 70 = .ok (.ireturn, 1) := by decide +kernel
def f_X12_road (N : Nat) (v_a : Nat → Int32) (p1 : Int32) (p2 : Int32) : Option (Int32 × (Nat → Int32)) := ob1 (f_X12_isLand N v_a p1) fun r2 => if r2 = 0 then (some ((0 : Int32), v_a)) else (ob1 (f_X12_isLand N v_a p2) fun r10 => if r10 = 0 then (some ((0 : Int32), v_a)) else (if p1 = p2 then (some ((0 : Int32), v_a)) else (gA v_a 8762 ((88 : Int32) + p1) fun v29 => ob1 (f_X12_isWith N v29 p2) fun r31 => if r31 = 0 then (gA v_a 8762 ((88 : Int32) + p1) fun v48 => sA v_a 8762 ((88 : Int32) + p1) (v48 ||| ((1 : Int32) <<< (p2 &&& 31))) fun v_a_53 => gA v_a_53 8762 ((88 : Int32) + p2) fun v63 => sA v_a_53 8762 ((88 : Int32) + p2) (v63 ||| ((1 : Int32) <<< (p1 &&& 31))) fun v_a_68 => some ((1 : Int32), v_a_68)) else (some ((0 : Int32), v_a)))))
set_option maxHeartbeats 4000000 in
set_option maxRecDepth 100000 in
theorem k_X12_road (l : Launch) (N : Nat) (D : va_G) (cI cJ cZ cB cT : ClassId) (h : Nat) (q : Nat → Nat) (v_a : Nat → Int32) (v_image : Nat → Int32) (v_texts : Nat → Int32) (v_tape : Nat → Int32) (v_taped : Int32) (v_fault : Int32) (v_faultPlace : Int32) (v_at : Int32) (v_place : Int32) (v_token : Int32) (v_number : Int32) (v_word : Int64) (v_text0 : Int32) (v_written : Int32) (v_sort0 : Int32) (v_pile : Nat → Int32) (v_piled : Int32) (v_opens : Int32) (v_isWhole : Int32) (v_once : Int32) (v_named : Nat → Int32) (v_values : Nat → Int64) (v_truth : Nat → Int32) (v_isWritten : Int32) (v_died : Int32) (v_aside : Nat → Int32) (v_likely : Nat → Int32) (v_safe : Nat → Int32) (v_headOf : Nat → Int32) (p1 : Int32) (p2 : Int32) (o_r : Int32) (o_v_a : Nat → Int32) (hf : f_X12_road N v_a p1 p2 = some (o_r, o_v_a)) : ∀ sz, Met l yX12_road (mw yX12_road cX12_road 3 (some .boolean)) ({ frames := 2, cells := 0, slots := 0, locals := 43 } : Room) (mPre D (mT cI cJ cZ cB cT) (WM h q cI cJ cZ v_a v_image v_texts v_tape v_taped v_fault v_faultPlace v_at v_place v_token v_number v_word v_text0 v_written v_sort0 v_pile v_piled v_opens v_isWhole v_once v_named v_values v_truth v_isWritten v_died v_aside v_likely v_safe v_headOf) sz [.ref h, .int p1, .int p2]) ((mQi D (WM h q cI cJ cZ o_v_a v_image v_texts v_tape v_taped v_fault v_faultPlace v_at v_place v_token v_number v_word v_text0 v_written v_sort0 v_pile v_piled v_opens v_isWhole v_once v_named v_values v_truth v_isWritten v_died v_aside v_likely v_safe v_headOf) o_r (mB o_r)) (va_A (WM h q cI cJ cZ v_a v_image v_texts v_tape v_taped v_fault v_faultPlace v_at v_place v_token v_number v_word v_text0 v_written v_sort0 v_pile v_piled v_opens v_isWhole v_once v_named v_values v_truth v_isWritten v_died v_aside v_likely v_safe v_headOf) sz)) 0 0 (va_A (WM h q cI cJ cZ v_a v_image v_texts v_tape v_taped v_fault v_faultPlace v_at v_place v_token v_number v_word v_text0 v_written v_sort0 v_pile v_piled v_opens v_isWhole v_once v_named v_values v_truth v_isWritten v_died v_aside v_likely v_safe v_headOf) sz) := by
  refine mMet (Qc := (mQi D (WM h q cI cJ cZ o_v_a v_image v_texts v_tape v_taped v_fault v_faultPlace v_at v_place v_token v_number v_word v_text0 v_written v_sort0 v_pile v_piled v_opens v_isWhole v_once v_named v_values v_truth v_isWritten v_died v_aside v_likely v_safe v_headOf) o_r (mB o_r))) (by decide) (Nat.le_of_ble_eq_true rfl) (fun p e s m below meth c A ls hx hb hr hml hts hown hlocks hK hA hP hD hl => ?_)
  have hown : s.vm.findClass RX12 = some m.cls := hown
  have hl : lv_has ls 3 [(0, .ref h), (1, .int p1), (2, .int p2)] := hl
  have hS : va_S A s.heap s.heap [] := va_S.rf
  unfold f_X12_road at hf
  refine lv_aload_n hx hb dX12_road_0 rfl (lv_at hl 0 rfl) ?_
  refine lv_iload_n hx hb dX12_road_1 rfl (lv_at hl 1 rfl) ?_
  obtain ⟨r2, hg2, hf⟩ := ob1_some hf
  refine mcV1_i (As := [.int p1]) (rest := []) hx hb hml hown hts hK hP hD hS hA (k_X12_isLand l N D cI cJ cZ cB cT h q v_a v_image v_texts v_tape v_taped v_fault v_faultPlace v_at v_place v_token v_number v_word v_text0 v_written v_sort0 v_pile v_piled v_opens v_isWhole v_once v_named v_values v_truth v_isWritten v_died v_aside v_likely v_safe v_headOf p1 r2 hg2) (kwX12_75 hts rfl rfl ⟨Nat.le_of_ble_eq_true rfl, Nat.le_of_ble_eq_true rfl⟩) 0 rfl rfl rfl rfl hl.1 rfl (Nat.le_of_ble_eq_true rfl) dX12_road_2 ⟨Nat.zero_le _, Nat.zero_le _⟩ (fun hB2 H locs hP hD hS => ?_)
  have hP : va_P D vwCl (WM h q cI cJ cZ v_a v_image v_texts v_tape v_taped v_fault v_faultPlace v_at v_place v_token v_number v_word v_text0 v_written v_sort0 v_pile v_piled v_opens v_isWhole v_once v_named v_values v_truth v_isWritten v_died v_aside v_likely v_safe v_headOf) H := hP
  have hD : va_D A (WM h q cI cJ cZ v_a v_image v_texts v_tape v_taped v_fault v_faultPlace v_at v_place v_token v_number v_word v_text0 v_written v_sort0 v_pile v_piled v_opens v_isWhole v_once v_named v_values v_truth v_isWritten v_died v_aside v_likely v_safe v_headOf) := hD
  refine xif_eq hx hb 37 dX12_road_5 (by decide) hf (fun hf => ?_) (fun hf => ?_)
  · refine lv_iconst (v := (0 : Int32)) hx hb dX12_road_37 (by decide) ?_
    cases hf
    exact mret_z hx hb hr hlocks hP hD hS dX12_road_38 rfl rfl
  · refine lv_aload_n hx hb dX12_road_8 rfl (lv_at hl 0 rfl) ?_
    refine lv_iload_n hx hb dX12_road_9 rfl (lv_at hl 2 rfl) ?_
    obtain ⟨r10, hg10, hf⟩ := ob1_some hf
    refine mcV1_i (As := [.int p2]) (rest := []) hx hb hml hown hts hK hP hD hS hA (k_X12_isLand l N D cI cJ cZ cB cT h q v_a v_image v_texts v_tape v_taped v_fault v_faultPlace v_at v_place v_token v_number v_word v_text0 v_written v_sort0 v_pile v_piled v_opens v_isWhole v_once v_named v_values v_truth v_isWritten v_died v_aside v_likely v_safe v_headOf p2 r10 hg10) (kwX12_75 hts rfl rfl ⟨Nat.le_of_ble_eq_true rfl, Nat.le_of_ble_eq_true rfl⟩) 0 rfl rfl rfl rfl hl.1 rfl (Nat.le_of_ble_eq_true rfl) dX12_road_10 ⟨Nat.zero_le _, Nat.zero_le _⟩ (fun hB10 H locs hP hD hS => ?_)
    have hP : va_P D vwCl (WM h q cI cJ cZ v_a v_image v_texts v_tape v_taped v_fault v_faultPlace v_at v_place v_token v_number v_word v_text0 v_written v_sort0 v_pile v_piled v_opens v_isWhole v_once v_named v_values v_truth v_isWritten v_died v_aside v_likely v_safe v_headOf) H := hP
    have hD : va_D A (WM h q cI cJ cZ v_a v_image v_texts v_tape v_taped v_fault v_faultPlace v_at v_place v_token v_number v_word v_text0 v_written v_sort0 v_pile v_piled v_opens v_isWhole v_once v_named v_values v_truth v_isWritten v_died v_aside v_likely v_safe v_headOf) := hD
    refine xif_eq hx hb 37 dX12_road_13 (by decide) hf (fun hf => ?_) (fun hf => ?_)
    · refine lv_iconst (v := (0 : Int32)) hx hb dX12_road_37 (by decide) ?_
      cases hf
      exact mret_z hx hb hr hlocks hP hD hS dX12_road_38 rfl rfl
    · refine lv_iload_n hx hb dX12_road_16 rfl (lv_at hl 1 rfl) ?_
      refine lv_iload_n hx hb dX12_road_17 rfl (lv_at hl 2 rfl) ?_
      refine xicmp_eq hx hb 37 dX12_road_18 (by decide) hf (fun hf => ?_) (fun hf => ?_)
      · refine lv_iconst (v := (0 : Int32)) hx hb dX12_road_37 (by decide) ?_
        cases hf
        exact mret_z hx hb hr hlocks hP hD hS dX12_road_38 rfl rfl
      · refine lv_aload_n hx hb dX12_road_21 rfl (lv_at hl 0 rfl) ?_
        refine gfX12_7 hx hb hts hown hK hP 0 rfl rfl dX12_road_22 ?_
        refine lv_bipush (v := (88 : Int32)) hx hb dX12_road_25 (by decide) ?_
        refine lv_iload_n hx hb dX12_road_27 rfl (lv_at hl 1 rfl) ?_
        refine lv_iadd hx hb dX12_road_28 ?_
        refine xiald hx hb hK hP 1 0 rfl rfl dX12_road_29 hf (fun v29 hf => ?_)
        refine lv_iload_n hx hb dX12_road_30 rfl (lv_at hl 2 rfl) ?_
        obtain ⟨r31, hg31, hf⟩ := ob1_some hf
        refine mcS0_i (As := [.int v29, .int p2]) (rest := []) hx hb hml hown hts hK hP hD hS hA (k_X12_isWith l N D cI cJ cZ cB cT v29 p2 r31 hg31) (kwX12_78 hts rfl rfl ⟨Nat.le_of_ble_eq_true rfl, Nat.le_of_ble_eq_true rfl⟩) rfl hl.1 rfl (Nat.le_of_ble_eq_true rfl) dX12_road_31 ⟨Nat.zero_le _, Nat.zero_le _⟩ (fun hB31 H locs hP hD hS => ?_)
        refine xif_eq hx hb 39 dX12_road_34 (by decide) hf (fun hf => ?_) (fun hf => ?_)
        · refine lv_aload_n hx hb dX12_road_39 rfl (lv_at hl 0 rfl) ?_
          refine gfX12_7 hx hb hts hown hK hP 0 rfl rfl dX12_road_40 ?_
          refine lv_bipush (v := (88 : Int32)) hx hb dX12_road_43 (by decide) ?_
          refine lv_iload_n hx hb dX12_road_45 rfl (lv_at hl 1 rfl) ?_
          refine lv_iadd hx hb dX12_road_46 ?_
          refine lv_dup2_11 hx hb dX12_road_47 rfl rfl ?_
          refine xiald hx hb hK hP 1 0 rfl rfl dX12_road_48 hf (fun v48 hf => ?_)
          refine lv_iconst (v := (1 : Int32)) hx hb dX12_road_49 (by decide) ?_
          refine lv_iload_n hx hb dX12_road_50 rfl (lv_at hl 2 rfl) ?_
          refine lv_ishl hx hb dX12_road_51 ?_
          refine lv_ior hx hb dX12_road_52 ?_
          refine xiast hx hb hK hP hD hS 1 0 rfl rfl dX12_road_53 hf (fun v_a_53 hf H locs hP hD hS => ?_)
          have hP : va_P D vwCl (WM h q cI cJ cZ v_a_53 v_image v_texts v_tape v_taped v_fault v_faultPlace v_at v_place v_token v_number v_word v_text0 v_written v_sort0 v_pile v_piled v_opens v_isWhole v_once v_named v_values v_truth v_isWritten v_died v_aside v_likely v_safe v_headOf) H := hP
          have hD : va_D A (WM h q cI cJ cZ v_a_53 v_image v_texts v_tape v_taped v_fault v_faultPlace v_at v_place v_token v_number v_word v_text0 v_written v_sort0 v_pile v_piled v_opens v_isWhole v_once v_named v_values v_truth v_isWritten v_died v_aside v_likely v_safe v_headOf) := hD
          refine lv_aload_n hx hb dX12_road_54 rfl (lv_at hl 0 rfl) ?_
          refine gfX12_7 hx hb hts hown hK hP 0 rfl rfl dX12_road_55 ?_
          refine lv_bipush (v := (88 : Int32)) hx hb dX12_road_58 (by decide) ?_
          refine lv_iload_n hx hb dX12_road_60 rfl (lv_at hl 2 rfl) ?_
          refine lv_iadd hx hb dX12_road_61 ?_
          refine lv_dup2_11 hx hb dX12_road_62 rfl rfl ?_
          refine xiald hx hb hK hP 1 0 rfl rfl dX12_road_63 hf (fun v63 hf => ?_)
          refine lv_iconst (v := (1 : Int32)) hx hb dX12_road_64 (by decide) ?_
          refine lv_iload_n hx hb dX12_road_65 rfl (lv_at hl 1 rfl) ?_
          refine lv_ishl hx hb dX12_road_66 ?_
          refine lv_ior hx hb dX12_road_67 ?_
          refine xiast hx hb hK hP hD hS 1 0 rfl rfl dX12_road_68 hf (fun v_a_68 hf H locs hP hD hS => ?_)
          have hP : va_P D vwCl (WM h q cI cJ cZ v_a_68 v_image v_texts v_tape v_taped v_fault v_faultPlace v_at v_place v_token v_number v_word v_text0 v_written v_sort0 v_pile v_piled v_opens v_isWhole v_once v_named v_values v_truth v_isWritten v_died v_aside v_likely v_safe v_headOf) H := hP
          have hD : va_D A (WM h q cI cJ cZ v_a_68 v_image v_texts v_tape v_taped v_fault v_faultPlace v_at v_place v_token v_number v_word v_text0 v_written v_sort0 v_pile v_piled v_opens v_isWhole v_once v_named v_values v_truth v_isWritten v_died v_aside v_likely v_safe v_headOf) := hD
          refine lv_iconst (v := (1 : Int32)) hx hb dX12_road_69 (by decide) ?_
          cases hf
          exact mret_z hx hb hr hlocks hP hD hS dX12_road_70 rfl rfl
        · refine lv_iconst (v := (0 : Int32)) hx hb dX12_road_37 (by decide) ?_
          cases hf
          exact mret_z hx hb hr hlocks hP hD hS dX12_road_38 rfl rfl
theorem dX12_begin_0 : decode cX12_begin 0 = .ok (.iconst 0, 1) := by decide +kernel
theorem dX12_begin_1 : decode cX12_begin 1 = .ok (.istore_n 2, 1) := by decide +kernel
theorem dX12_begin_2 : decode cX12_begin 2 = .ok (.iload_n 2, 1) := by decide +kernel
theorem dX12_begin_3 : decode cX12_begin 3 = .ok (.iconst 3, 1) := by decide +kernel
theorem dX12_begin_4 : decode cX12_begin 4 = .ok (.if_icmp .ge 24, 3) := by decide +kernel
theorem dX12_begin_7 : decode cX12_begin 7 = .ok (.aload_n 0, 1) := by decide +kernel
theorem dX12_begin_8 : decode cX12_begin 8 = .ok (.iload_n 1, 1) := by decide +kernel
theorem dX12_begin_9 : decode cX12_begin 9 = .ok (.iload_n 2, 1) := by decide +kernel
theorem dX12_begin_10 : decode cX12_begin 10 = .ok (.aload_n 0, 1) := by decide +kernel
theorem dX12_begin_11 : decode cX12_begin 11 = .ok (.iload_n 1, 1) := by decide +kernel
theorem dX12_begin_12 : decode cX12_begin 12 = .ok (.bipush 8, 2) := by decide +kernel
theorem dX12_begin_14 : decode cX12_begin 14 = .ok (.iload_n 2, 1) := by decide +kernel
theorem dX12_begin_15 : decode cX12_begin 15 = .ok (.iadd, 1) := by decide +kernel
theorem dX12_begin_16 : decode cX12_begin 16 = .ok (.invokevirtual 71, 3) := by decide +kernel
theorem dX12_begin_19 : decode cX12_begin 19 = .ok (.invokevirtual 82, 3) := by decide +kernel
theorem dX12_begin_22 : decode cX12_begin 22 = .ok (.iinc 2 1, 3) := by decide +kernel
theorem dX12_begin_25 : decode cX12_begin 25 = .ok (.goto (-23), 3) := by decide +kernel
theorem dX12_begin_28 : decode cX12_begin 28 = .ok (.iconst 3, 1) := by decide +kernel
theorem dX12_begin_29 : decode cX12_begin 29 = .ok (.istore_n 2, 1) := by decide +kernel
theorem dX12_begin_30 : decode cX12_begin 30 = .ok (.iload_n 2, 1) := by decide +kernel
theorem dX12_begin_31 : decode cX12_begin 31 = .ok (.bipush 6, 2) := by decide +kernel
theorem dX12_begin_33 : decode cX12_begin 33 = .ok (.if_icmp .gt 16, 3) := by decide +kernel
theorem dX12_begin_36 : decode cX12_begin 36 = .ok (.aload_n 0, 1) := by decide +kernel
theorem dX12_begin_37 : decode cX12_begin 37 = .ok (.iload_n 1, 1) := by decide +kernel
theorem dX12_begin_38 : decode cX12_begin 38 = .ok (.iload_n 2, 1) := by decide +kernel
theorem dX12_begin_39 : decode cX12_begin 39 = .ok (.iconst 0, 1) := by decide +kernel
theorem dX12_begin_40 : decode cX12_begin 40 = .ok (.invokevirtual 82, 3) := by decide +kernel
theorem dX12_begin_43 : decode cX12_begin 43 = .ok (.iinc 2 1, 3) := by decide +kernel
theorem dX12_begin_46 : decode cX12_begin 46 = .ok (.goto (-16), 3) := by decide +kernel
theorem dX12_begin_49 : decode cX12_begin 49 = .ok (.return_, 1) := by decide +kernel
def f_X12_begin_30 (N : Nat) : Nat → (Nat → Int32) → Int32 → Int32 → Option ((Nat → Int32))
  | 0, _, _, _ => none
  | n + 1, v_a, x1, x2 => if (6 : Int32) < x2 then (some v_a) else (ob1 (f_X12_put N v_a x1 x2 (0 : Int32)) fun v_a_40 => (f_X12_begin_30 N n) v_a_40 x1 (x2 + (1 : Int32)))
def f_X12_begin_2 (N : Nat) : Nat → (Nat → Int32) → Int32 → Int32 → Option ((Nat → Int32))
  | 0, _, _, _ => none
  | n + 1, v_a, x1, x2 => if (3 : Int32) ≤ x2 then (f_X12_begin_30 N N v_a x1 (3 : Int32)) else (ob1 (f_X12_get N v_a x1 ((8 : Int32) + x2)) fun r16 => ob1 (f_X12_put N v_a x1 x2 r16) fun v_a_19 => (f_X12_begin_2 N n) v_a_19 x1 (x2 + (1 : Int32)))
def f_X12_begin (N : Nat) (v_a : Nat → Int32) (p1 : Int32) : Option ((Nat → Int32)) := f_X12_begin_2 N N v_a p1 (0 : Int32)
set_option maxHeartbeats 4000000 in
set_option maxRecDepth 100000 in
theorem k_X12_begin (l : Launch) (N : Nat) (D : va_G) (cI cJ cZ cB cT : ClassId) (h : Nat) (q : Nat → Nat) (v_a : Nat → Int32) (v_image : Nat → Int32) (v_texts : Nat → Int32) (v_tape : Nat → Int32) (v_taped : Int32) (v_fault : Int32) (v_faultPlace : Int32) (v_at : Int32) (v_place : Int32) (v_token : Int32) (v_number : Int32) (v_word : Int64) (v_text0 : Int32) (v_written : Int32) (v_sort0 : Int32) (v_pile : Nat → Int32) (v_piled : Int32) (v_opens : Int32) (v_isWhole : Int32) (v_once : Int32) (v_named : Nat → Int32) (v_values : Nat → Int64) (v_truth : Nat → Int32) (v_isWritten : Int32) (v_died : Int32) (v_aside : Nat → Int32) (v_likely : Nat → Int32) (v_safe : Nat → Int32) (v_headOf : Nat → Int32) (p1 : Int32) (o_v_a : Nat → Int32) (hf : f_X12_begin N v_a p1 = some o_v_a) : ∀ sz, Met l yX12_begin (mw yX12_begin cX12_begin 3 none) ({ frames := 1, cells := 0, slots := 0, locals := 23 } : Room) (mPre D (mT cI cJ cZ cB cT) (WM h q cI cJ cZ v_a v_image v_texts v_tape v_taped v_fault v_faultPlace v_at v_place v_token v_number v_word v_text0 v_written v_sort0 v_pile v_piled v_opens v_isWhole v_once v_named v_values v_truth v_isWritten v_died v_aside v_likely v_safe v_headOf) sz [.ref h, .int p1]) ((mQv D (WM h q cI cJ cZ o_v_a v_image v_texts v_tape v_taped v_fault v_faultPlace v_at v_place v_token v_number v_word v_text0 v_written v_sort0 v_pile v_piled v_opens v_isWhole v_once v_named v_values v_truth v_isWritten v_died v_aside v_likely v_safe v_headOf)) (va_A (WM h q cI cJ cZ v_a v_image v_texts v_tape v_taped v_fault v_faultPlace v_at v_place v_token v_number v_word v_text0 v_written v_sort0 v_pile v_piled v_opens v_isWhole v_once v_named v_values v_truth v_isWritten v_died v_aside v_likely v_safe v_headOf) sz)) 0 0 (va_A (WM h q cI cJ cZ v_a v_image v_texts v_tape v_taped v_fault v_faultPlace v_at v_place v_token v_number v_word v_text0 v_written v_sort0 v_pile v_piled v_opens v_isWhole v_once v_named v_values v_truth v_isWritten v_died v_aside v_likely v_safe v_headOf) sz) := by
  refine mMet (Qc := (mQv D (WM h q cI cJ cZ o_v_a v_image v_texts v_tape v_taped v_fault v_faultPlace v_at v_place v_token v_number v_word v_text0 v_written v_sort0 v_pile v_piled v_opens v_isWhole v_once v_named v_values v_truth v_isWritten v_died v_aside v_likely v_safe v_headOf))) (by decide) (Nat.le_of_ble_eq_true rfl) (fun p e s m below meth c A ls hx hb hr hml hts hown hlocks hK hA hP hD hl => ?_)
  have hown : s.vm.findClass RX12 = some m.cls := hown
  have hl : lv_has ls 3 [(0, .ref h), (1, .int p1)] := hl
  have hS : va_S A s.heap s.heap [] := va_S.rf
  have b30 : ∀ n30 : Nat, ∀ (v_a : Nat → Int32) (x1 : Int32) (x2 : Int32) (H : Heap) (locs : List Loc) (ls : Array Slot), f_X12_begin_30 N n30 v_a x1 x2 = some o_v_a → va_P D vwCl (WM h q cI cJ cZ v_a v_image v_texts v_tape v_taped v_fault v_faultPlace v_at v_place v_token v_number v_word v_text0 v_written v_sort0 v_pile v_piled v_opens v_isWhole v_once v_named v_values v_truth v_isWritten v_died v_aside v_likely v_safe v_headOf) H → va_D A (WM h q cI cJ cZ v_a v_image v_texts v_tape v_taped v_fault v_faultPlace v_at v_place v_token v_number v_word v_text0 v_written v_sort0 v_pile v_piled v_opens v_isWhole v_once v_named v_values v_truth v_isWritten v_died v_aside v_likely v_safe v_headOf) → va_S A s.heap H locs → lv_has ls 3 [(0, .ref h), (1, .int x1), (2, .int x2)] → W p l e ({ frames := 1, cells := 0, slots := 0, locals := 23 } : Room) s m ([.ref h, .int p1] : List Value).toArray below meth c H locs 0 0 (MQ below ((mQv D (WM h q cI cJ cZ o_v_a v_image v_texts v_tape v_taped v_fault v_faultPlace v_at v_place v_token v_number v_word v_text0 v_written v_sort0 v_pile v_piled v_opens v_isWhole v_once v_named v_values v_truth v_isWritten v_died v_aside v_likely v_safe v_headOf)) A) ([.ref h, .int p1] : List Value).toArray s 0 0 A) (F0 m 30 ls []) := by
    intro n30
    induction n30 with
    | zero =>
      intro v_a x1 x2 H locs ls hf hP hD hS hl
      simp [f_X12_begin_30] at hf
    | succ n30 ih30 =>
      intro v_a x1 x2 H locs ls hf hP hD hS hl
      rw [f_X12_begin_30.eq_2] at hf
      refine lv_iload_n hx hb dX12_begin_30 rfl (lv_at hl 2 rfl) ?_
      refine lv_bipush (v := (6 : Int32)) hx hb dX12_begin_31 (by decide) ?_
      refine xicmp_gt hx hb 49 dX12_begin_33 (by decide) hf (fun hf => ?_) (fun hf => ?_)
      · cases hf
        exact mret_v hx hb hr hlocks hP hD hS dX12_begin_49
      · refine lv_aload_n hx hb dX12_begin_36 rfl (lv_at hl 0 rfl) ?_
        refine lv_iload_n hx hb dX12_begin_37 rfl (lv_at hl 1 rfl) ?_
        refine lv_iload_n hx hb dX12_begin_38 rfl (lv_at hl 2 rfl) ?_
        refine lv_iconst (v := (0 : Int32)) hx hb dX12_begin_39 (by decide) ?_
        obtain ⟨v_a_40, hg40, hf⟩ := ob1_some hf
        refine mcV1_v (As := [.int x1, .int x2, .int (0 : Int32)]) (rest := []) hx hb hml hown hts hK hP hD hS hA (k_X12_put l N D cI cJ cZ cB cT h q v_a v_image v_texts v_tape v_taped v_fault v_faultPlace v_at v_place v_token v_number v_word v_text0 v_written v_sort0 v_pile v_piled v_opens v_isWhole v_once v_named v_values v_truth v_isWritten v_died v_aside v_likely v_safe v_headOf x1 x2 (0 : Int32) v_a_40 hg40) (kwX12_82 hts rfl rfl ⟨Nat.le_of_ble_eq_true rfl, Nat.le_of_ble_eq_true rfl⟩) 0 rfl rfl rfl rfl hl.1 rfl (Nat.le_of_ble_eq_true rfl) dX12_begin_40 ⟨Nat.zero_le _, Nat.zero_le _⟩ (fun H locs hP hD hS => ?_)
        have hP : va_P D vwCl (WM h q cI cJ cZ v_a_40 v_image v_texts v_tape v_taped v_fault v_faultPlace v_at v_place v_token v_number v_word v_text0 v_written v_sort0 v_pile v_piled v_opens v_isWhole v_once v_named v_values v_truth v_isWritten v_died v_aside v_likely v_safe v_headOf) H := hP
        have hD : va_D A (WM h q cI cJ cZ v_a_40 v_image v_texts v_tape v_taped v_fault v_faultPlace v_at v_place v_token v_number v_word v_text0 v_written v_sort0 v_pile v_piled v_opens v_isWhole v_once v_named v_values v_truth v_isWritten v_died v_aside v_likely v_safe v_headOf) := hD
        refine lv_iinc (v := (x2 + (1 : Int32))) (lv' := [(2, .int (x2 + (1 : Int32))), (0, .ref h), (1, .int x1)]) hx hb dX12_begin_43 hl (k := 2) rfl rfl (by decide) rfl (fun ls hl => ?_)
        refine lv_goto (tgt := 30) hx hb dX12_begin_46 (by decide) ?_
        exact ih30 v_a_40 x1 (x2 + (1 : Int32)) _ _ _ hf hP hD hS (lv_sub hl [1, 2, 0] rfl)
  have b2 : ∀ n2 : Nat, ∀ (v_a : Nat → Int32) (x1 : Int32) (x2 : Int32) (H : Heap) (locs : List Loc) (ls : Array Slot), f_X12_begin_2 N n2 v_a x1 x2 = some o_v_a → va_P D vwCl (WM h q cI cJ cZ v_a v_image v_texts v_tape v_taped v_fault v_faultPlace v_at v_place v_token v_number v_word v_text0 v_written v_sort0 v_pile v_piled v_opens v_isWhole v_once v_named v_values v_truth v_isWritten v_died v_aside v_likely v_safe v_headOf) H → va_D A (WM h q cI cJ cZ v_a v_image v_texts v_tape v_taped v_fault v_faultPlace v_at v_place v_token v_number v_word v_text0 v_written v_sort0 v_pile v_piled v_opens v_isWhole v_once v_named v_values v_truth v_isWritten v_died v_aside v_likely v_safe v_headOf) → va_S A s.heap H locs → lv_has ls 3 [(0, .ref h), (1, .int x1), (2, .int x2)] → W p l e ({ frames := 1, cells := 0, slots := 0, locals := 23 } : Room) s m ([.ref h, .int p1] : List Value).toArray below meth c H locs 0 0 (MQ below ((mQv D (WM h q cI cJ cZ o_v_a v_image v_texts v_tape v_taped v_fault v_faultPlace v_at v_place v_token v_number v_word v_text0 v_written v_sort0 v_pile v_piled v_opens v_isWhole v_once v_named v_values v_truth v_isWritten v_died v_aside v_likely v_safe v_headOf)) A) ([.ref h, .int p1] : List Value).toArray s 0 0 A) (F0 m 2 ls []) := by
    intro n2
    induction n2 with
    | zero =>
      intro v_a x1 x2 H locs ls hf hP hD hS hl
      simp [f_X12_begin_2] at hf
    | succ n2 ih2 =>
      intro v_a x1 x2 H locs ls hf hP hD hS hl
      rw [f_X12_begin_2.eq_2] at hf
      refine lv_iload_n hx hb dX12_begin_2 rfl (lv_at hl 2 rfl) ?_
      refine lv_iconst (v := (3 : Int32)) hx hb dX12_begin_3 (by decide) ?_
      refine xicmp_ge hx hb 28 dX12_begin_4 (by decide) hf (fun hf => ?_) (fun hf => ?_)
      · refine lv_iconst (v := (3 : Int32)) hx hb dX12_begin_28 (by decide) ?_
        refine lv_istore_n (lv' := [(2, .int (3 : Int32)), (0, .ref h), (1, .int x1)]) hx hb dX12_begin_29 rfl hl (by decide) rfl (fun ls hl => ?_)
        exact b30 N v_a x1 (3 : Int32) _ _ _ hf hP hD hS (lv_sub hl [1, 2, 0] rfl)
      · refine lv_aload_n hx hb dX12_begin_7 rfl (lv_at hl 0 rfl) ?_
        refine lv_iload_n hx hb dX12_begin_8 rfl (lv_at hl 1 rfl) ?_
        refine lv_iload_n hx hb dX12_begin_9 rfl (lv_at hl 2 rfl) ?_
        refine lv_aload_n hx hb dX12_begin_10 rfl (lv_at hl 0 rfl) ?_
        refine lv_iload_n hx hb dX12_begin_11 rfl (lv_at hl 1 rfl) ?_
        refine lv_bipush (v := (8 : Int32)) hx hb dX12_begin_12 (by decide) ?_
        refine lv_iload_n hx hb dX12_begin_14 rfl (lv_at hl 2 rfl) ?_
        refine lv_iadd hx hb dX12_begin_15 ?_
        obtain ⟨r16, hg16, hf⟩ := ob1_some hf
        refine mcV1_i (As := [.int x1, .int ((8 : Int32) + x2)]) (rest := [.int x2, .int x1, .ref h]) hx hb hml hown hts hK hP hD hS hA (k_X12_get l N D cI cJ cZ cB cT h q v_a v_image v_texts v_tape v_taped v_fault v_faultPlace v_at v_place v_token v_number v_word v_text0 v_written v_sort0 v_pile v_piled v_opens v_isWhole v_once v_named v_values v_truth v_isWritten v_died v_aside v_likely v_safe v_headOf x1 ((8 : Int32) + x2) r16 hg16) (kwX12_71 hts rfl rfl ⟨Nat.le_of_ble_eq_true rfl, Nat.le_of_ble_eq_true rfl⟩) 0 rfl rfl rfl rfl hl.1 rfl (Nat.le_of_ble_eq_true rfl) dX12_begin_16 ⟨Nat.zero_le _, Nat.zero_le _⟩ (fun hB16 H locs hP hD hS => ?_)
        have hP : va_P D vwCl (WM h q cI cJ cZ v_a v_image v_texts v_tape v_taped v_fault v_faultPlace v_at v_place v_token v_number v_word v_text0 v_written v_sort0 v_pile v_piled v_opens v_isWhole v_once v_named v_values v_truth v_isWritten v_died v_aside v_likely v_safe v_headOf) H := hP
        have hD : va_D A (WM h q cI cJ cZ v_a v_image v_texts v_tape v_taped v_fault v_faultPlace v_at v_place v_token v_number v_word v_text0 v_written v_sort0 v_pile v_piled v_opens v_isWhole v_once v_named v_values v_truth v_isWritten v_died v_aside v_likely v_safe v_headOf) := hD
        obtain ⟨v_a_19, hg19, hf⟩ := ob1_some hf
        refine mcV1_v (As := [.int x1, .int x2, .int r16]) (rest := []) hx hb hml hown hts hK hP hD hS hA (k_X12_put l N D cI cJ cZ cB cT h q v_a v_image v_texts v_tape v_taped v_fault v_faultPlace v_at v_place v_token v_number v_word v_text0 v_written v_sort0 v_pile v_piled v_opens v_isWhole v_once v_named v_values v_truth v_isWritten v_died v_aside v_likely v_safe v_headOf x1 x2 r16 v_a_19 hg19) (kwX12_82 hts rfl rfl ⟨Nat.le_of_ble_eq_true rfl, Nat.le_of_ble_eq_true rfl⟩) 0 rfl rfl rfl rfl hl.1 rfl (Nat.le_of_ble_eq_true rfl) dX12_begin_19 ⟨Nat.zero_le _, Nat.zero_le _⟩ (fun H locs hP hD hS => ?_)
        have hP : va_P D vwCl (WM h q cI cJ cZ v_a_19 v_image v_texts v_tape v_taped v_fault v_faultPlace v_at v_place v_token v_number v_word v_text0 v_written v_sort0 v_pile v_piled v_opens v_isWhole v_once v_named v_values v_truth v_isWritten v_died v_aside v_likely v_safe v_headOf) H := hP
        have hD : va_D A (WM h q cI cJ cZ v_a_19 v_image v_texts v_tape v_taped v_fault v_faultPlace v_at v_place v_token v_number v_word v_text0 v_written v_sort0 v_pile v_piled v_opens v_isWhole v_once v_named v_values v_truth v_isWritten v_died v_aside v_likely v_safe v_headOf) := hD
        refine lv_iinc (v := (x2 + (1 : Int32))) (lv' := [(2, .int (x2 + (1 : Int32))), (0, .ref h), (1, .int x1)]) hx hb dX12_begin_22 hl (k := 2) rfl rfl (by decide) rfl (fun ls hl => ?_)
        refine lv_goto (tgt := 2) hx hb dX12_begin_25 (by decide) ?_
        exact ih2 v_a_19 x1 (x2 + (1 : Int32)) _ _ _ hf hP hD hS (lv_sub hl [1, 2, 0] rfl)
  unfold f_X12_begin at hf
  refine lv_iconst (v := (0 : Int32)) hx hb dX12_begin_0 (by decide) ?_
  refine lv_istore_n (lv' := [(2, .int (0 : Int32)), (0, .ref h), (1, .int p1)]) hx hb dX12_begin_1 rfl hl (by decide) rfl (fun ls hl => ?_)
  exact b2 N v_a p1 (0 : Int32) _ _ _ hf hP hD hS (lv_sub hl [1, 2, 0] rfl)
theorem dX12_person_0 : decode cX12_person 0 = .ok (.aload_n 0, 1) := by decide +kernel
theorem dX12_person_1 : decode cX12_person 1 = .ok (.iload_n 1, 1) := by decide +kernel
theorem dX12_person_2 : decode cX12_person 2 = .ok (.invokevirtual 75, 3) := by decide +kernel
theorem dX12_person_5 : decode cX12_person 5 = .ok (.ifCond .eq 47, 3) := by decide +kernel
theorem dX12_person_8 : decode cX12_person 8 = .ok (.iload_n 2, 1) := by decide +kernel
theorem dX12_person_9 : decode cX12_person 9 = .ok (.iconst 0, 1) := by decide +kernel
theorem dX12_person_10 : decode cX12_person 10 = .ok (.bipush 9, 2) := by decide +kernel
theorem dX12_person_12 : decode cX12_person 12 = .ok (.invokestatic 63, 3) := by decide +kernel
theorem dX12_person_15 : decode cX12_person 15 = .ok (.ifCond .eq 37, 3) := by decide +kernel
theorem dX12_person_18 : decode cX12_person 18 = .ok (.iload_n 3, 1) := by decide +kernel
theorem dX12_person_19 : decode cX12_person 19 = .ok (.iconst 0, 1) := by decide +kernel
theorem dX12_person_20 : decode cX12_person 20 = .ok (.sipush 9999, 3) := by decide +kernel
theorem dX12_person_23 : decode cX12_person 23 = .ok (.invokestatic 63, 3) := by decide +kernel
theorem dX12_person_26 : decode cX12_person 26 = .ok (.ifCond .eq 26, 3) := by decide +kernel
theorem dX12_person_29 : decode cX12_person 29 = .ok (.iload 4, 2) := by decide +kernel
theorem dX12_person_31 : decode cX12_person 31 = .ok (.iconst 0, 1) := by decide +kernel
theorem dX12_person_32 : decode cX12_person 32 = .ok (.sipush 9999, 3) := by decide +kernel
theorem dX12_person_35 : decode cX12_person 35 = .ok (.invokestatic 63, 3) := by decide +kernel
theorem dX12_person_38 : decode cX12_person 38 = .ok (.ifCond .eq 14, 3) := by decide +kernel
theorem dX12_person_41 : decode cX12_person 41 = .ok (.aload_n 0, 1) := by decide +kernel
theorem dX12_person_42 : decode cX12_person 42 = .ok (.getfield 7, 3) := by decide +kernel
theorem dX12_person_45 : decode cX12_person 45 = .ok (.iconst 1, 1) := by decide +kernel
theorem dX12_person_46 : decode cX12_person 46 = .ok (.iaload, 1) := by decide +kernel
theorem dX12_person_47 : decode cX12_person 47 = .ok (.bipush 6, 2) := by decide +kernel
theorem dX12_person_49 : decode cX12_person 49 = .ok (.if_icmp .ne 5, 3) := by decide +kernel
theorem dX12_person_52 : decode cX12_person 52 = .ok (.iconst (-1), 1) := by decide +kernel
theorem dX12_person_53 : decode cX12_person 53 = .ok (.ireturn, 1) := by decide +kernel
theorem dX12_person_54 : decode cX12_person 54 = .ok (.aload_n 0, 1) := by decide +kernel
theorem dX12_person_55 : decode cX12_person 55 = .ok (.getfield 7, 3) := by decide +kernel
theorem dX12_person_58 : decode cX12_person 58 = .ok (.iconst 1, 1) := by decide +kernel
theorem dX12_person_59 : decode cX12_person 59 = .ok (.iaload, 1) := by decide +kernel
theorem dX12_person_60 : decode cX12_person 60 = .ok (.istore 5, 2) := by decide +kernel
theorem dX12_person_62 : decode cX12_person 62 = .ok (.aload_n 0, 1) := by decide +kernel
theorem dX12_person_63 : decode cX12_person 63 = .ok (.iload 5, 2) := by decide +kernel
theorem dX12_person_65 : decode cX12_person 65 = .ok (.bipush 7, 2) := by decide +kernel
theorem dX12_person_67 : decode cX12_person 67 = .ok (.iload_n 2, 1) := by decide +kernel
theorem dX12_person_68 : decode cX12_person 68 = .ok (.invokevirtual 82, 3) := by decide +kernel
theorem dX12_person_71 : decode cX12_person 71 = .ok (.aload_n 0, 1) := by decide +kernel
theorem dX12_person_72 : decode cX12_person 72 = .ok (.iload 5, 2) := by decide +kernel
theorem dX12_person_74 : decode cX12_person 74 = .ok (.bipush 8, 2) := by decide +kernel
theorem dX12_person_76 : decode cX12_person 76 = .ok (.iload_n 1, 1) := by decide +kernel
theorem dX12_person_77 : decode cX12_person 77 = .ok (.invokevirtual 82, 3) := by decide +kernel
theorem dX12_person_80 : decode cX12_person 80 = .ok (.aload_n 0, 1) := by decide +kernel
theorem dX12_person_81 : decode cX12_person 81 = .ok (.iload 5, 2) := by decide +kernel
theorem dX12_person_83 : decode cX12_person 83 = .ok (.bipush 9, 2) := by decide +kernel
theorem dX12_person_85 : decode cX12_person 85 = .ok (.iload_n 3, 1) := by decide +kernel
theorem dX12_person_86 : decode cX12_person 86 = .ok (.invokevirtual 82, 3) := by decide +kernel
theorem dX12_person_89 : decode cX12_person 89 = .ok (.aload_n 0, 1) := by decide +kernel
theorem dX12_person_90 : decode cX12_person 90 = .ok (.iload 5, 2) := by decide +kernel
theorem dX12_person_92 : decode cX12_person 92 = .ok (.bipush 10, 2) := by decide +kernel
theorem dX12_person_94 : decode cX12_person 94 = .ok (.iload 4, 2) := by decide +kernel
theorem dX12_person_96 : decode cX12_person 96 = .ok (.invokevirtual 82, 3) := by decide +kernel
theorem dX12_person_99 : decode cX12_person 99 = .ok (.aload_n 0, 1) := by decide +kernel
theorem dX12_person_100 : decode cX12_person 100 = .ok (.iload 5, 2) := by decide +kernel
theorem dX12_person_102 : decode cX12_person 102 = .ok (.invokevirtual 86, 3) := by decide +kernel
theorem dX12_person_105 : decode cX12_person 105 = .ok (.aload_n 0, 1) := by decide +kernel
theorem dX12_person_106 : decode cX12_person 106 = .ok (.getfield 7, 3) := by decide +kernel
theorem dX12_person_109 : decode cX12_person 109 = .ok (.iconst 1, 1) := by decide +kernel
theorem dX12_person_110 : decode cX12_person 110 = .ok (.dup2, 1) := by decide +kernel
theorem dX12_person_111 : decode cX12_person 111 = .ok (.iaload, 1) := by decide +kernel
theorem dX12_person_112 : decode cX12_person 112 = .ok (.iconst 1, 1) := by decide +kernel
theorem dX12_person_113 : decode cX12_person 113 = .ok (.iadd, 1) := by decide +kernel
theorem dX12_person_114 : decode cX12_person 114 = .ok (.iastore, 1) := by decide +kernel
theorem dX12_person_115 : decode cX12_person 115 = .ok (.iload 5, 2) := by decide +kernel
theorem dX12_person_117 : decode cX12_person 117 = .ok (.ireturn, 1) := by decide +kernel
def f_X12_person (N : Nat) (v_a : Nat → Int32) (p1 : Int32) (p2 : Int32) (p3 : Int32) (p4 : Int32) : Option (Int32 × (Nat → Int32)) := ob1 (f_X12_isLand N v_a p1) fun r2 => if r2 = 0 then (some ((-1 : Int32), v_a)) else (ob1 (f_X12_isIn N p2 (0 : Int32) (9 : Int32)) fun r12 => if r12 = 0 then (some ((-1 : Int32), v_a)) else (ob1 (f_X12_isIn N p3 (0 : Int32) (9999 : Int32)) fun r23 => if r23 = 0 then (some ((-1 : Int32), v_a)) else (ob1 (f_X12_isIn N p4 (0 : Int32) (9999 : Int32)) fun r35 => if r35 = 0 then (some ((-1 : Int32), v_a)) else (gA v_a 8762 (1 : Int32) fun v46 => if v46 = (6 : Int32) then (some ((-1 : Int32), v_a)) else (gA v_a 8762 (1 : Int32) fun v59 => ob1 (f_X12_put N v_a v59 (7 : Int32) p2) fun v_a_68 => ob1 (f_X12_put N v_a_68 v59 (8 : Int32) p1) fun v_a_77 => ob1 (f_X12_put N v_a_77 v59 (9 : Int32) p3) fun v_a_86 => ob1 (f_X12_put N v_a_86 v59 (10 : Int32) p4) fun v_a_96 => ob1 (f_X12_begin N v_a_96 v59) fun v_a_102 => gA v_a_102 8762 (1 : Int32) fun v111 => sA v_a_102 8762 (1 : Int32) (v111 + (1 : Int32)) fun v_a_114 => some (v59, v_a_114))))))
set_option maxHeartbeats 4000000 in
set_option maxRecDepth 100000 in
theorem k_X12_person (l : Launch) (N : Nat) (D : va_G) (cI cJ cZ cB cT : ClassId) (h : Nat) (q : Nat → Nat) (v_a : Nat → Int32) (v_image : Nat → Int32) (v_texts : Nat → Int32) (v_tape : Nat → Int32) (v_taped : Int32) (v_fault : Int32) (v_faultPlace : Int32) (v_at : Int32) (v_place : Int32) (v_token : Int32) (v_number : Int32) (v_word : Int64) (v_text0 : Int32) (v_written : Int32) (v_sort0 : Int32) (v_pile : Nat → Int32) (v_piled : Int32) (v_opens : Int32) (v_isWhole : Int32) (v_once : Int32) (v_named : Nat → Int32) (v_values : Nat → Int64) (v_truth : Nat → Int32) (v_isWritten : Int32) (v_died : Int32) (v_aside : Nat → Int32) (v_likely : Nat → Int32) (v_safe : Nat → Int32) (v_headOf : Nat → Int32) (p1 : Int32) (p2 : Int32) (p3 : Int32) (p4 : Int32) (o_r : Int32) (o_v_a : Nat → Int32) (hf : f_X12_person N v_a p1 p2 p3 p4 = some (o_r, o_v_a)) : ∀ sz, Met l yX12_person (mw yX12_person cX12_person 6 (some .int)) ({ frames := 2, cells := 0, slots := 0, locals := 45 } : Room) (mPre D (mT cI cJ cZ cB cT) (WM h q cI cJ cZ v_a v_image v_texts v_tape v_taped v_fault v_faultPlace v_at v_place v_token v_number v_word v_text0 v_written v_sort0 v_pile v_piled v_opens v_isWhole v_once v_named v_values v_truth v_isWritten v_died v_aside v_likely v_safe v_headOf) sz [.ref h, .int p1, .int p2, .int p3, .int p4]) ((mQi D (WM h q cI cJ cZ o_v_a v_image v_texts v_tape v_taped v_fault v_faultPlace v_at v_place v_token v_number v_word v_text0 v_written v_sort0 v_pile v_piled v_opens v_isWhole v_once v_named v_values v_truth v_isWritten v_died v_aside v_likely v_safe v_headOf) o_r True) (va_A (WM h q cI cJ cZ v_a v_image v_texts v_tape v_taped v_fault v_faultPlace v_at v_place v_token v_number v_word v_text0 v_written v_sort0 v_pile v_piled v_opens v_isWhole v_once v_named v_values v_truth v_isWritten v_died v_aside v_likely v_safe v_headOf) sz)) 0 0 (va_A (WM h q cI cJ cZ v_a v_image v_texts v_tape v_taped v_fault v_faultPlace v_at v_place v_token v_number v_word v_text0 v_written v_sort0 v_pile v_piled v_opens v_isWhole v_once v_named v_values v_truth v_isWritten v_died v_aside v_likely v_safe v_headOf) sz) := by
  refine mMet (Qc := (mQi D (WM h q cI cJ cZ o_v_a v_image v_texts v_tape v_taped v_fault v_faultPlace v_at v_place v_token v_number v_word v_text0 v_written v_sort0 v_pile v_piled v_opens v_isWhole v_once v_named v_values v_truth v_isWritten v_died v_aside v_likely v_safe v_headOf) o_r True)) (by decide) (Nat.le_of_ble_eq_true rfl) (fun p e s m below meth c A ls hx hb hr hml hts hown hlocks hK hA hP hD hl => ?_)
  have hown : s.vm.findClass RX12 = some m.cls := hown
  have hl : lv_has ls 6 [(0, .ref h), (1, .int p1), (2, .int p2), (3, .int p3), (4, .int p4)] := hl
  have hS : va_S A s.heap s.heap [] := va_S.rf
  unfold f_X12_person at hf
  refine lv_aload_n hx hb dX12_person_0 rfl (lv_at hl 0 rfl) ?_
  refine lv_iload_n hx hb dX12_person_1 rfl (lv_at hl 1 rfl) ?_
  obtain ⟨r2, hg2, hf⟩ := ob1_some hf
  refine mcV1_i (As := [.int p1]) (rest := []) hx hb hml hown hts hK hP hD hS hA (k_X12_isLand l N D cI cJ cZ cB cT h q v_a v_image v_texts v_tape v_taped v_fault v_faultPlace v_at v_place v_token v_number v_word v_text0 v_written v_sort0 v_pile v_piled v_opens v_isWhole v_once v_named v_values v_truth v_isWritten v_died v_aside v_likely v_safe v_headOf p1 r2 hg2) (kwX12_75 hts rfl rfl ⟨Nat.le_of_ble_eq_true rfl, Nat.le_of_ble_eq_true rfl⟩) 0 rfl rfl rfl rfl hl.1 rfl (Nat.le_of_ble_eq_true rfl) dX12_person_2 ⟨Nat.zero_le _, Nat.zero_le _⟩ (fun hB2 H locs hP hD hS => ?_)
  have hP : va_P D vwCl (WM h q cI cJ cZ v_a v_image v_texts v_tape v_taped v_fault v_faultPlace v_at v_place v_token v_number v_word v_text0 v_written v_sort0 v_pile v_piled v_opens v_isWhole v_once v_named v_values v_truth v_isWritten v_died v_aside v_likely v_safe v_headOf) H := hP
  have hD : va_D A (WM h q cI cJ cZ v_a v_image v_texts v_tape v_taped v_fault v_faultPlace v_at v_place v_token v_number v_word v_text0 v_written v_sort0 v_pile v_piled v_opens v_isWhole v_once v_named v_values v_truth v_isWritten v_died v_aside v_likely v_safe v_headOf) := hD
  refine xif_eq hx hb 52 dX12_person_5 (by decide) hf (fun hf => ?_) (fun hf => ?_)
  · refine lv_iconst (v := (-1 : Int32)) hx hb dX12_person_52 (by decide) ?_
    cases hf
    exact mret_i hx hb hr hlocks hP hD hS dX12_person_53 rfl trivial
  · refine lv_iload_n hx hb dX12_person_8 rfl (lv_at hl 2 rfl) ?_
    refine lv_iconst (v := (0 : Int32)) hx hb dX12_person_9 (by decide) ?_
    refine lv_bipush (v := (9 : Int32)) hx hb dX12_person_10 (by decide) ?_
    obtain ⟨r12, hg12, hf⟩ := ob1_some hf
    refine mcS0_i (As := [.int p2, .int (0 : Int32), .int (9 : Int32)]) (rest := []) hx hb hml hown hts hK hP hD hS hA (k_X12_isIn l N D cI cJ cZ cB cT p2 (0 : Int32) (9 : Int32) r12 hg12) (kwX12_63 hts rfl rfl ⟨Nat.le_of_ble_eq_true rfl, Nat.le_of_ble_eq_true rfl⟩) rfl hl.1 rfl (Nat.le_of_ble_eq_true rfl) dX12_person_12 ⟨Nat.zero_le _, Nat.zero_le _⟩ (fun hB12 H locs hP hD hS => ?_)
    refine xif_eq hx hb 52 dX12_person_15 (by decide) hf (fun hf => ?_) (fun hf => ?_)
    · refine lv_iconst (v := (-1 : Int32)) hx hb dX12_person_52 (by decide) ?_
      cases hf
      exact mret_i hx hb hr hlocks hP hD hS dX12_person_53 rfl trivial
    · refine lv_iload_n hx hb dX12_person_18 rfl (lv_at hl 3 rfl) ?_
      refine lv_iconst (v := (0 : Int32)) hx hb dX12_person_19 (by decide) ?_
      refine lv_sipush (v := (9999 : Int32)) hx hb dX12_person_20 (by decide) ?_
      obtain ⟨r23, hg23, hf⟩ := ob1_some hf
      refine mcS0_i (As := [.int p3, .int (0 : Int32), .int (9999 : Int32)]) (rest := []) hx hb hml hown hts hK hP hD hS hA (k_X12_isIn l N D cI cJ cZ cB cT p3 (0 : Int32) (9999 : Int32) r23 hg23) (kwX12_63 hts rfl rfl ⟨Nat.le_of_ble_eq_true rfl, Nat.le_of_ble_eq_true rfl⟩) rfl hl.1 rfl (Nat.le_of_ble_eq_true rfl) dX12_person_23 ⟨Nat.zero_le _, Nat.zero_le _⟩ (fun hB23 H locs hP hD hS => ?_)
      refine xif_eq hx hb 52 dX12_person_26 (by decide) hf (fun hf => ?_) (fun hf => ?_)
      · refine lv_iconst (v := (-1 : Int32)) hx hb dX12_person_52 (by decide) ?_
        cases hf
        exact mret_i hx hb hr hlocks hP hD hS dX12_person_53 rfl trivial
      · refine lv_iload hx hb dX12_person_29 (lv_at hl 4 rfl) ?_
        refine lv_iconst (v := (0 : Int32)) hx hb dX12_person_31 (by decide) ?_
        refine lv_sipush (v := (9999 : Int32)) hx hb dX12_person_32 (by decide) ?_
        obtain ⟨r35, hg35, hf⟩ := ob1_some hf
        refine mcS0_i (As := [.int p4, .int (0 : Int32), .int (9999 : Int32)]) (rest := []) hx hb hml hown hts hK hP hD hS hA (k_X12_isIn l N D cI cJ cZ cB cT p4 (0 : Int32) (9999 : Int32) r35 hg35) (kwX12_63 hts rfl rfl ⟨Nat.le_of_ble_eq_true rfl, Nat.le_of_ble_eq_true rfl⟩) rfl hl.1 rfl (Nat.le_of_ble_eq_true rfl) dX12_person_35 ⟨Nat.zero_le _, Nat.zero_le _⟩ (fun hB35 H locs hP hD hS => ?_)
        refine xif_eq hx hb 52 dX12_person_38 (by decide) hf (fun hf => ?_) (fun hf => ?_)
        · refine lv_iconst (v := (-1 : Int32)) hx hb dX12_person_52 (by decide) ?_
          cases hf
          exact mret_i hx hb hr hlocks hP hD hS dX12_person_53 rfl trivial
        · refine lv_aload_n hx hb dX12_person_41 rfl (lv_at hl 0 rfl) ?_
          refine gfX12_7 hx hb hts hown hK hP 0 rfl rfl dX12_person_42 ?_
          refine lv_iconst (v := (1 : Int32)) hx hb dX12_person_45 (by decide) ?_
          refine xiald hx hb hK hP 1 0 rfl rfl dX12_person_46 hf (fun v46 hf => ?_)
          refine lv_bipush (v := (6 : Int32)) hx hb dX12_person_47 (by decide) ?_
          refine xicmp_ne hx hb 54 dX12_person_49 (by decide) hf (fun hf => ?_) (fun hf => ?_)
          · refine lv_iconst (v := (-1 : Int32)) hx hb dX12_person_52 (by decide) ?_
            cases hf
            exact mret_i hx hb hr hlocks hP hD hS dX12_person_53 rfl trivial
          · refine lv_aload_n hx hb dX12_person_54 rfl (lv_at hl 0 rfl) ?_
            refine gfX12_7 hx hb hts hown hK hP 0 rfl rfl dX12_person_55 ?_
            refine lv_iconst (v := (1 : Int32)) hx hb dX12_person_58 (by decide) ?_
            refine xiald hx hb hK hP 1 0 rfl rfl dX12_person_59 hf (fun v59 hf => ?_)
            refine lv_istore (lv' := [(5, .int v59), (0, .ref h), (1, .int p1), (2, .int p2), (3, .int p3), (4, .int p4)]) hx hb dX12_person_60 hl (by decide) rfl (fun ls hl => ?_)
            refine lv_aload_n hx hb dX12_person_62 rfl (lv_at hl 1 rfl) ?_
            refine lv_iload hx hb dX12_person_63 (lv_at hl 0 rfl) ?_
            refine lv_bipush (v := (7 : Int32)) hx hb dX12_person_65 (by decide) ?_
            refine lv_iload_n hx hb dX12_person_67 rfl (lv_at hl 3 rfl) ?_
            obtain ⟨v_a_68, hg68, hf⟩ := ob1_some hf
            refine mcV1_v (As := [.int v59, .int (7 : Int32), .int p2]) (rest := []) hx hb hml hown hts hK hP hD hS hA (k_X12_put l N D cI cJ cZ cB cT h q v_a v_image v_texts v_tape v_taped v_fault v_faultPlace v_at v_place v_token v_number v_word v_text0 v_written v_sort0 v_pile v_piled v_opens v_isWhole v_once v_named v_values v_truth v_isWritten v_died v_aside v_likely v_safe v_headOf v59 (7 : Int32) p2 v_a_68 hg68) (kwX12_82 hts rfl rfl ⟨Nat.le_of_ble_eq_true rfl, Nat.le_of_ble_eq_true rfl⟩) 0 rfl rfl rfl rfl hl.1 rfl (Nat.le_of_ble_eq_true rfl) dX12_person_68 ⟨Nat.zero_le _, Nat.zero_le _⟩ (fun H locs hP hD hS => ?_)
            have hP : va_P D vwCl (WM h q cI cJ cZ v_a_68 v_image v_texts v_tape v_taped v_fault v_faultPlace v_at v_place v_token v_number v_word v_text0 v_written v_sort0 v_pile v_piled v_opens v_isWhole v_once v_named v_values v_truth v_isWritten v_died v_aside v_likely v_safe v_headOf) H := hP
            have hD : va_D A (WM h q cI cJ cZ v_a_68 v_image v_texts v_tape v_taped v_fault v_faultPlace v_at v_place v_token v_number v_word v_text0 v_written v_sort0 v_pile v_piled v_opens v_isWhole v_once v_named v_values v_truth v_isWritten v_died v_aside v_likely v_safe v_headOf) := hD
            refine lv_aload_n hx hb dX12_person_71 rfl (lv_at hl 1 rfl) ?_
            refine lv_iload hx hb dX12_person_72 (lv_at hl 0 rfl) ?_
            refine lv_bipush (v := (8 : Int32)) hx hb dX12_person_74 (by decide) ?_
            refine lv_iload_n hx hb dX12_person_76 rfl (lv_at hl 2 rfl) ?_
            obtain ⟨v_a_77, hg77, hf⟩ := ob1_some hf
            refine mcV1_v (As := [.int v59, .int (8 : Int32), .int p1]) (rest := []) hx hb hml hown hts hK hP hD hS hA (k_X12_put l N D cI cJ cZ cB cT h q v_a_68 v_image v_texts v_tape v_taped v_fault v_faultPlace v_at v_place v_token v_number v_word v_text0 v_written v_sort0 v_pile v_piled v_opens v_isWhole v_once v_named v_values v_truth v_isWritten v_died v_aside v_likely v_safe v_headOf v59 (8 : Int32) p1 v_a_77 hg77) (kwX12_82 hts rfl rfl ⟨Nat.le_of_ble_eq_true rfl, Nat.le_of_ble_eq_true rfl⟩) 0 rfl rfl rfl rfl hl.1 rfl (Nat.le_of_ble_eq_true rfl) dX12_person_77 ⟨Nat.zero_le _, Nat.zero_le _⟩ (fun H locs hP hD hS => ?_)
            have hP : va_P D vwCl (WM h q cI cJ cZ v_a_77 v_image v_texts v_tape v_taped v_fault v_faultPlace v_at v_place v_token v_number v_word v_text0 v_written v_sort0 v_pile v_piled v_opens v_isWhole v_once v_named v_values v_truth v_isWritten v_died v_aside v_likely v_safe v_headOf) H := hP
            have hD : va_D A (WM h q cI cJ cZ v_a_77 v_image v_texts v_tape v_taped v_fault v_faultPlace v_at v_place v_token v_number v_word v_text0 v_written v_sort0 v_pile v_piled v_opens v_isWhole v_once v_named v_values v_truth v_isWritten v_died v_aside v_likely v_safe v_headOf) := hD
            refine lv_aload_n hx hb dX12_person_80 rfl (lv_at hl 1 rfl) ?_
            refine lv_iload hx hb dX12_person_81 (lv_at hl 0 rfl) ?_
            refine lv_bipush (v := (9 : Int32)) hx hb dX12_person_83 (by decide) ?_
            refine lv_iload_n hx hb dX12_person_85 rfl (lv_at hl 4 rfl) ?_
            obtain ⟨v_a_86, hg86, hf⟩ := ob1_some hf
            refine mcV1_v (As := [.int v59, .int (9 : Int32), .int p3]) (rest := []) hx hb hml hown hts hK hP hD hS hA (k_X12_put l N D cI cJ cZ cB cT h q v_a_77 v_image v_texts v_tape v_taped v_fault v_faultPlace v_at v_place v_token v_number v_word v_text0 v_written v_sort0 v_pile v_piled v_opens v_isWhole v_once v_named v_values v_truth v_isWritten v_died v_aside v_likely v_safe v_headOf v59 (9 : Int32) p3 v_a_86 hg86) (kwX12_82 hts rfl rfl ⟨Nat.le_of_ble_eq_true rfl, Nat.le_of_ble_eq_true rfl⟩) 0 rfl rfl rfl rfl hl.1 rfl (Nat.le_of_ble_eq_true rfl) dX12_person_86 ⟨Nat.zero_le _, Nat.zero_le _⟩ (fun H locs hP hD hS => ?_)
            have hP : va_P D vwCl (WM h q cI cJ cZ v_a_86 v_image v_texts v_tape v_taped v_fault v_faultPlace v_at v_place v_token v_number v_word v_text0 v_written v_sort0 v_pile v_piled v_opens v_isWhole v_once v_named v_values v_truth v_isWritten v_died v_aside v_likely v_safe v_headOf) H := hP
            have hD : va_D A (WM h q cI cJ cZ v_a_86 v_image v_texts v_tape v_taped v_fault v_faultPlace v_at v_place v_token v_number v_word v_text0 v_written v_sort0 v_pile v_piled v_opens v_isWhole v_once v_named v_values v_truth v_isWritten v_died v_aside v_likely v_safe v_headOf) := hD
            refine lv_aload_n hx hb dX12_person_89 rfl (lv_at hl 1 rfl) ?_
            refine lv_iload hx hb dX12_person_90 (lv_at hl 0 rfl) ?_
            refine lv_bipush (v := (10 : Int32)) hx hb dX12_person_92 (by decide) ?_
            refine lv_iload hx hb dX12_person_94 (lv_at hl 5 rfl) ?_
            obtain ⟨v_a_96, hg96, hf⟩ := ob1_some hf
            refine mcV1_v (As := [.int v59, .int (10 : Int32), .int p4]) (rest := []) hx hb hml hown hts hK hP hD hS hA (k_X12_put l N D cI cJ cZ cB cT h q v_a_86 v_image v_texts v_tape v_taped v_fault v_faultPlace v_at v_place v_token v_number v_word v_text0 v_written v_sort0 v_pile v_piled v_opens v_isWhole v_once v_named v_values v_truth v_isWritten v_died v_aside v_likely v_safe v_headOf v59 (10 : Int32) p4 v_a_96 hg96) (kwX12_82 hts rfl rfl ⟨Nat.le_of_ble_eq_true rfl, Nat.le_of_ble_eq_true rfl⟩) 0 rfl rfl rfl rfl hl.1 rfl (Nat.le_of_ble_eq_true rfl) dX12_person_96 ⟨Nat.zero_le _, Nat.zero_le _⟩ (fun H locs hP hD hS => ?_)
            have hP : va_P D vwCl (WM h q cI cJ cZ v_a_96 v_image v_texts v_tape v_taped v_fault v_faultPlace v_at v_place v_token v_number v_word v_text0 v_written v_sort0 v_pile v_piled v_opens v_isWhole v_once v_named v_values v_truth v_isWritten v_died v_aside v_likely v_safe v_headOf) H := hP
            have hD : va_D A (WM h q cI cJ cZ v_a_96 v_image v_texts v_tape v_taped v_fault v_faultPlace v_at v_place v_token v_number v_word v_text0 v_written v_sort0 v_pile v_piled v_opens v_isWhole v_once v_named v_values v_truth v_isWritten v_died v_aside v_likely v_safe v_headOf) := hD
            refine lv_aload_n hx hb dX12_person_99 rfl (lv_at hl 1 rfl) ?_
            refine lv_iload hx hb dX12_person_100 (lv_at hl 0 rfl) ?_
            obtain ⟨v_a_102, hg102, hf⟩ := ob1_some hf
            refine mcV1_v (As := [.int v59]) (rest := []) hx hb hml hown hts hK hP hD hS hA (k_X12_begin l N D cI cJ cZ cB cT h q v_a_96 v_image v_texts v_tape v_taped v_fault v_faultPlace v_at v_place v_token v_number v_word v_text0 v_written v_sort0 v_pile v_piled v_opens v_isWhole v_once v_named v_values v_truth v_isWritten v_died v_aside v_likely v_safe v_headOf v59 v_a_102 hg102) (kwX12_86 hts rfl rfl ⟨Nat.le_of_ble_eq_true rfl, Nat.le_of_ble_eq_true rfl⟩) 0 rfl rfl rfl rfl hl.1 rfl (Nat.le_of_ble_eq_true rfl) dX12_person_102 ⟨Nat.zero_le _, Nat.zero_le _⟩ (fun H locs hP hD hS => ?_)
            have hP : va_P D vwCl (WM h q cI cJ cZ v_a_102 v_image v_texts v_tape v_taped v_fault v_faultPlace v_at v_place v_token v_number v_word v_text0 v_written v_sort0 v_pile v_piled v_opens v_isWhole v_once v_named v_values v_truth v_isWritten v_died v_aside v_likely v_safe v_headOf) H := hP
            have hD : va_D A (WM h q cI cJ cZ v_a_102 v_image v_texts v_tape v_taped v_fault v_faultPlace v_at v_place v_token v_number v_word v_text0 v_written v_sort0 v_pile v_piled v_opens v_isWhole v_once v_named v_values v_truth v_isWritten v_died v_aside v_likely v_safe v_headOf) := hD
            refine lv_aload_n hx hb dX12_person_105 rfl (lv_at hl 1 rfl) ?_
            refine gfX12_7 hx hb hts hown hK hP 0 rfl rfl dX12_person_106 ?_
            refine lv_iconst (v := (1 : Int32)) hx hb dX12_person_109 (by decide) ?_
            refine lv_dup2_11 hx hb dX12_person_110 rfl rfl ?_
            refine xiald hx hb hK hP 1 0 rfl rfl dX12_person_111 hf (fun v111 hf => ?_)
            refine lv_iconst (v := (1 : Int32)) hx hb dX12_person_112 (by decide) ?_
            refine lv_iadd hx hb dX12_person_113 ?_
            refine xiast hx hb hK hP hD hS 1 0 rfl rfl dX12_person_114 hf (fun v_a_114 hf H locs hP hD hS => ?_)
            have hP : va_P D vwCl (WM h q cI cJ cZ v_a_114 v_image v_texts v_tape v_taped v_fault v_faultPlace v_at v_place v_token v_number v_word v_text0 v_written v_sort0 v_pile v_piled v_opens v_isWhole v_once v_named v_values v_truth v_isWritten v_died v_aside v_likely v_safe v_headOf) H := hP
            have hD : va_D A (WM h q cI cJ cZ v_a_114 v_image v_texts v_tape v_taped v_fault v_faultPlace v_at v_place v_token v_number v_word v_text0 v_written v_sort0 v_pile v_piled v_opens v_isWhole v_once v_named v_values v_truth v_isWritten v_died v_aside v_likely v_safe v_headOf) := hD
            refine lv_iload hx hb dX12_person_115 (lv_at hl 0 rfl) ?_
            cases hf
            exact mret_i hx hb hr hlocks hP hD hS dX12_person_117 rfl trivial
theorem dX12_four_0 : decode cX12_four 0 = .ok (.bipush 24, 2) := by decide +kernel
theorem dX12_four_2 : decode cX12_four 2 = .ok (.istore_n 2, 1) := by decide +kernel
theorem dX12_four_3 : decode cX12_four 3 = .ok (.iload_n 2, 1) := by decide +kernel
theorem dX12_four_4 : decode cX12_four 4 = .ok (.ifCond .lt 35, 3) := by decide +kernel
theorem dX12_four_7 : decode cX12_four 7 = .ok (.aload_n 0, 1) := by decide +kernel
theorem dX12_four_8 : decode cX12_four 8 = .ok (.getfield 19, 3) := by decide +kernel
theorem dX12_four_11 : decode cX12_four 11 = .ok (.aload_n 0, 1) := by decide +kernel
theorem dX12_four_12 : decode cX12_four 12 = .ok (.getfield 90, 3) := by decide +kernel
theorem dX12_four_15 : decode cX12_four 15 = .ok (.iload_n 1, 1) := by decide +kernel
theorem dX12_four_16 : decode cX12_four 16 = .ok (.iload_n 2, 1) := by decide +kernel
theorem dX12_four_17 : decode cX12_four 17 = .ok (.ishr, 1) := by decide +kernel
theorem dX12_four_18 : decode cX12_four 18 = .ok (.sipush 255, 3) := by decide +kernel
theorem dX12_four_21 : decode cX12_four 21 = .ok (.iand, 1) := by decide +kernel
theorem dX12_four_22 : decode cX12_four 22 = .ok (.iastore, 1) := by decide +kernel
theorem dX12_four_23 : decode cX12_four 23 = .ok (.aload_n 0, 1) := by decide +kernel
theorem dX12_four_24 : decode cX12_four 24 = .ok (.dup, 1) := by decide +kernel
theorem dX12_four_25 : decode cX12_four 25 = .ok (.getfield 90, 3) := by decide +kernel
theorem dX12_four_28 : decode cX12_four 28 = .ok (.iconst 1, 1) := by decide +kernel
theorem dX12_four_29 : decode cX12_four 29 = .ok (.iadd, 1) := by decide +kernel
theorem dX12_four_30 : decode cX12_four 30 = .ok (.putfield 90, 3) := by decide +kernel
theorem dX12_four_33 : decode cX12_four 33 = .ok (.iinc 2 (-8), 3) := by decide +kernel
theorem dX12_four_36 : decode cX12_four 36 = .ok (.goto (-33), 3) := by decide +kernel
theorem dX12_four_39 : decode cX12_four 39 = .ok (.return_, 1) := by decide +kernel
def f_X12_four_3 (N : Nat) : Nat → (Nat → Int32) → Int32 → Int32 → Int32 → Option ((Nat → Int32) × Int32)
  | 0, _, _, _, _ => none
  | n + 1, v_tape, v_taped, x1, x2 => if x2 < 0 then (some (v_tape, v_taped)) else (sA v_tape 300 v_taped ((x1 >>> (x2 &&& 31)) &&& (255 : Int32)) fun v_tape_22 => (f_X12_four_3 N n) v_tape_22 (v_taped + (1 : Int32)) x1 (x2 + (-8 : Int32)))
def f_X12_four (N : Nat) (v_tape : Nat → Int32) (v_taped : Int32) (p1 : Int32) : Option ((Nat → Int32) × Int32) := f_X12_four_3 N N v_tape v_taped p1 (24 : Int32)
set_option maxHeartbeats 4000000 in
set_option maxRecDepth 100000 in
theorem k_X12_four (l : Launch) (N : Nat) (D : va_G) (cI cJ cZ cB cT : ClassId) (h : Nat) (q : Nat → Nat) (v_a : Nat → Int32) (v_image : Nat → Int32) (v_texts : Nat → Int32) (v_tape : Nat → Int32) (v_taped : Int32) (v_fault : Int32) (v_faultPlace : Int32) (v_at : Int32) (v_place : Int32) (v_token : Int32) (v_number : Int32) (v_word : Int64) (v_text0 : Int32) (v_written : Int32) (v_sort0 : Int32) (v_pile : Nat → Int32) (v_piled : Int32) (v_opens : Int32) (v_isWhole : Int32) (v_once : Int32) (v_named : Nat → Int32) (v_values : Nat → Int64) (v_truth : Nat → Int32) (v_isWritten : Int32) (v_died : Int32) (v_aside : Nat → Int32) (v_likely : Nat → Int32) (v_safe : Nat → Int32) (v_headOf : Nat → Int32) (p1 : Int32) (o_v_tape : Nat → Int32) (o_v_taped : Int32) (hf : f_X12_four N v_tape v_taped p1 = some (o_v_tape, o_v_taped)) : ∀ sz, Met l yX12_four (mw yX12_four cX12_four 3 none) ({ frames := 0, cells := 0, slots := 0, locals := 0 } : Room) (mPre D (mT cI cJ cZ cB cT) (WM h q cI cJ cZ v_a v_image v_texts v_tape v_taped v_fault v_faultPlace v_at v_place v_token v_number v_word v_text0 v_written v_sort0 v_pile v_piled v_opens v_isWhole v_once v_named v_values v_truth v_isWritten v_died v_aside v_likely v_safe v_headOf) sz [.ref h, .int p1]) ((mQv D (WM h q cI cJ cZ v_a v_image v_texts o_v_tape o_v_taped v_fault v_faultPlace v_at v_place v_token v_number v_word v_text0 v_written v_sort0 v_pile v_piled v_opens v_isWhole v_once v_named v_values v_truth v_isWritten v_died v_aside v_likely v_safe v_headOf)) (va_A (WM h q cI cJ cZ v_a v_image v_texts v_tape v_taped v_fault v_faultPlace v_at v_place v_token v_number v_word v_text0 v_written v_sort0 v_pile v_piled v_opens v_isWhole v_once v_named v_values v_truth v_isWritten v_died v_aside v_likely v_safe v_headOf) sz)) 0 0 (va_A (WM h q cI cJ cZ v_a v_image v_texts v_tape v_taped v_fault v_faultPlace v_at v_place v_token v_number v_word v_text0 v_written v_sort0 v_pile v_piled v_opens v_isWhole v_once v_named v_values v_truth v_isWritten v_died v_aside v_likely v_safe v_headOf) sz) := by
  refine mMet (Qc := (mQv D (WM h q cI cJ cZ v_a v_image v_texts o_v_tape o_v_taped v_fault v_faultPlace v_at v_place v_token v_number v_word v_text0 v_written v_sort0 v_pile v_piled v_opens v_isWhole v_once v_named v_values v_truth v_isWritten v_died v_aside v_likely v_safe v_headOf))) (by decide) (Nat.le_of_ble_eq_true rfl) (fun p e s m below meth c A ls hx hb hr hml hts hown hlocks hK hA hP hD hl => ?_)
  have hown : s.vm.findClass RX12 = some m.cls := hown
  have hl : lv_has ls 3 [(0, .ref h), (1, .int p1)] := hl
  have hS : va_S A s.heap s.heap [] := va_S.rf
  have b3 : ∀ n3 : Nat, ∀ (v_tape : Nat → Int32) (v_taped : Int32) (x1 : Int32) (x2 : Int32) (H : Heap) (locs : List Loc) (ls : Array Slot), f_X12_four_3 N n3 v_tape v_taped x1 x2 = some (o_v_tape, o_v_taped) → va_P D vwCl (WM h q cI cJ cZ v_a v_image v_texts v_tape v_taped v_fault v_faultPlace v_at v_place v_token v_number v_word v_text0 v_written v_sort0 v_pile v_piled v_opens v_isWhole v_once v_named v_values v_truth v_isWritten v_died v_aside v_likely v_safe v_headOf) H → va_D A (WM h q cI cJ cZ v_a v_image v_texts v_tape v_taped v_fault v_faultPlace v_at v_place v_token v_number v_word v_text0 v_written v_sort0 v_pile v_piled v_opens v_isWhole v_once v_named v_values v_truth v_isWritten v_died v_aside v_likely v_safe v_headOf) → va_S A s.heap H locs → lv_has ls 3 [(0, .ref h), (1, .int x1), (2, .int x2)] → W p l e ({ frames := 0, cells := 0, slots := 0, locals := 0 } : Room) s m ([.ref h, .int p1] : List Value).toArray below meth c H locs 0 0 (MQ below ((mQv D (WM h q cI cJ cZ v_a v_image v_texts o_v_tape o_v_taped v_fault v_faultPlace v_at v_place v_token v_number v_word v_text0 v_written v_sort0 v_pile v_piled v_opens v_isWhole v_once v_named v_values v_truth v_isWritten v_died v_aside v_likely v_safe v_headOf)) A) ([.ref h, .int p1] : List Value).toArray s 0 0 A) (F0 m 3 ls []) := by
    intro n3
    induction n3 with
    | zero =>
      intro v_tape v_taped x1 x2 H locs ls hf hP hD hS hl
      simp [f_X12_four_3] at hf
    | succ n3 ih3 =>
      intro v_tape v_taped x1 x2 H locs ls hf hP hD hS hl
      rw [f_X12_four_3.eq_2] at hf
      refine lv_iload_n hx hb dX12_four_3 rfl (lv_at hl 2 rfl) ?_
      refine xif_lt hx hb 39 dX12_four_4 (by decide) hf (fun hf => ?_) (fun hf => ?_)
      · cases hf
        exact mret_v hx hb hr hlocks hP hD hS dX12_four_39
      · refine lv_aload_n hx hb dX12_four_7 rfl (lv_at hl 0 rfl) ?_
        refine gfX12_19 hx hb hts hown hK hP 0 rfl rfl dX12_four_8 ?_
        refine lv_aload_n hx hb dX12_four_11 rfl (lv_at hl 0 rfl) ?_
        refine gfX12_90 hx hb hts hown hK hP 0 rfl rfl dX12_four_12 ?_
        refine lv_iload_n hx hb dX12_four_15 rfl (lv_at hl 1 rfl) ?_
        refine lv_iload_n hx hb dX12_four_16 rfl (lv_at hl 2 rfl) ?_
        refine lv_ishr hx hb dX12_four_17 ?_
        refine lv_sipush (v := (255 : Int32)) hx hb dX12_four_18 (by decide) ?_
        refine lv_iand hx hb dX12_four_21 ?_
        refine xiast hx hb hK hP hD hS 4 0 rfl rfl dX12_four_22 hf (fun v_tape_22 hf H locs hP hD hS => ?_)
        have hP : va_P D vwCl (WM h q cI cJ cZ v_a v_image v_texts v_tape_22 v_taped v_fault v_faultPlace v_at v_place v_token v_number v_word v_text0 v_written v_sort0 v_pile v_piled v_opens v_isWhole v_once v_named v_values v_truth v_isWritten v_died v_aside v_likely v_safe v_headOf) H := hP
        have hD : va_D A (WM h q cI cJ cZ v_a v_image v_texts v_tape_22 v_taped v_fault v_faultPlace v_at v_place v_token v_number v_word v_text0 v_written v_sort0 v_pile v_piled v_opens v_isWhole v_once v_named v_values v_truth v_isWritten v_died v_aside v_likely v_safe v_headOf) := hD
        refine lv_aload_n hx hb dX12_four_23 rfl (lv_at hl 0 rfl) ?_
        refine lv_dup hx hb dX12_four_24 rfl ?_
        refine gfX12_90 hx hb hts hown hK hP 0 rfl rfl dX12_four_25 ?_
        refine lv_iconst (v := (1 : Int32)) hx hb dX12_four_28 (by decide) ?_
        refine lv_iadd hx hb dX12_four_29 ?_
        refine pfX12_90 hx hb hts hown hK hP hD hS 0 rfl (Nat.le_of_ble_eq_true rfl) dX12_four_30 (fun H locs hP hD hS => ?_)
        have hP : va_P D vwCl (WM h q cI cJ cZ v_a v_image v_texts v_tape_22 (v_taped + (1 : Int32)) v_fault v_faultPlace v_at v_place v_token v_number v_word v_text0 v_written v_sort0 v_pile v_piled v_opens v_isWhole v_once v_named v_values v_truth v_isWritten v_died v_aside v_likely v_safe v_headOf) H := hP
        have hD : va_D A (WM h q cI cJ cZ v_a v_image v_texts v_tape_22 (v_taped + (1 : Int32)) v_fault v_faultPlace v_at v_place v_token v_number v_word v_text0 v_written v_sort0 v_pile v_piled v_opens v_isWhole v_once v_named v_values v_truth v_isWritten v_died v_aside v_likely v_safe v_headOf) := hD
        refine lv_iinc (v := (x2 + (-8 : Int32))) (lv' := [(2, .int (x2 + (-8 : Int32))), (0, .ref h), (1, .int x1)]) hx hb dX12_four_33 hl (k := 2) rfl rfl (by decide) rfl (fun ls hl => ?_)
        refine lv_goto (tgt := 3) hx hb dX12_four_36 (by decide) ?_
        exact ih3 v_tape_22 (v_taped + (1 : Int32)) x1 (x2 + (-8 : Int32)) _ _ _ hf hP hD hS (lv_sub hl [1, 2, 0] rfl)
  unfold f_X12_four at hf
  refine lv_bipush (v := (24 : Int32)) hx hb dX12_four_0 (by decide) ?_
  refine lv_istore_n (lv' := [(2, .int (24 : Int32)), (0, .ref h), (1, .int p1)]) hx hb dX12_four_2 rfl hl (by decide) rfl (fun ls hl => ?_)
  exact b3 N v_tape v_taped p1 (24 : Int32) _ _ _ hf hP hD hS (lv_sub hl [1, 2, 0] rfl)
theorem dX12_feed_0 : decode cX12_feed 0 = .ok (.aload_n 0, 1) := by decide +kernel
theorem dX12_feed_1 : decode cX12_feed 1 = .ok (.getfield 90, 3) := by decide +kernel
theorem dX12_feed_4 : decode cX12_feed 4 = .ok (.bipush 20, 2) := by decide +kernel
theorem dX12_feed_6 : decode cX12_feed 6 = .ok (.iadd, 1) := by decide +kernel
theorem dX12_feed_7 : decode cX12_feed 7 = .ok (.sipush 300, 3) := by decide +kernel
theorem dX12_feed_10 : decode cX12_feed 10 = .ok (.if_icmp .le 5, 3) := by decide +kernel
theorem dX12_feed_13 : decode cX12_feed 13 = .ok (.iconst (-1), 1) := by decide +kernel
theorem dX12_feed_14 : decode cX12_feed 14 = .ok (.ireturn, 1) := by decide +kernel
theorem dX12_feed_15 : decode cX12_feed 15 = .ok (.aload_n 0, 1) := by decide +kernel
theorem dX12_feed_16 : decode cX12_feed 16 = .ok (.iload_n 1, 1) := by decide +kernel
theorem dX12_feed_17 : decode cX12_feed 17 = .ok (.invokevirtual 93, 3) := by decide +kernel
theorem dX12_feed_20 : decode cX12_feed 20 = .ok (.aload_n 0, 1) := by decide +kernel
theorem dX12_feed_21 : decode cX12_feed 21 = .ok (.iload_n 2, 1) := by decide +kernel
theorem dX12_feed_22 : decode cX12_feed 22 = .ok (.invokevirtual 93, 3) := by decide +kernel
theorem dX12_feed_25 : decode cX12_feed 25 = .ok (.aload_n 0, 1) := by decide +kernel
theorem dX12_feed_26 : decode cX12_feed 26 = .ok (.iload_n 3, 1) := by decide +kernel
theorem dX12_feed_27 : decode cX12_feed 27 = .ok (.invokevirtual 93, 3) := by decide +kernel
theorem dX12_feed_30 : decode cX12_feed 30 = .ok (.aload_n 0, 1) := by decide +kernel
theorem dX12_feed_31 : decode cX12_feed 31 = .ok (.iload 4, 2) := by decide +kernel
theorem dX12_feed_33 : decode cX12_feed 33 = .ok (.invokevirtual 93, 3) := by decide +kernel
theorem dX12_feed_36 : decode cX12_feed 36 = .ok (.aload_n 0, 1) := by decide +kernel
theorem dX12_feed_37 : decode cX12_feed 37 = .ok (.iload 5, 2) := by decide +kernel
theorem dX12_feed_39 : decode cX12_feed 39 = .ok (.invokevirtual 93, 3) := by decide +kernel
theorem dX12_feed_42 : decode cX12_feed 42 = .ok (.aload_n 0, 1) := by decide +kernel
theorem dX12_feed_43 : decode cX12_feed 43 = .ok (.getfield 90, 3) := by decide +kernel
theorem dX12_feed_46 : decode cX12_feed 46 = .ok (.ireturn, 1) := by decide +kernel
def f_X12_feed (N : Nat) (v_tape : Nat → Int32) (v_taped : Int32) (p1 : Int32) (p2 : Int32) (p3 : Int32) (p4 : Int32) (p5 : Int32) : Option (Int32 × (Nat → Int32) × Int32) := if (v_taped + (20 : Int32)) ≤ (300 : Int32) then (ob2 (f_X12_four N v_tape v_taped p1) fun v_tape_17 v_taped_17 => ob2 (f_X12_four N v_tape_17 v_taped_17 p2) fun v_tape_22 v_taped_22 => ob2 (f_X12_four N v_tape_22 v_taped_22 p3) fun v_tape_27 v_taped_27 => ob2 (f_X12_four N v_tape_27 v_taped_27 p4) fun v_tape_33 v_taped_33 => ob2 (f_X12_four N v_tape_33 v_taped_33 p5) fun v_tape_39 v_taped_39 => some (v_taped_39, v_tape_39, v_taped_39)) else (some ((-1 : Int32), v_tape, v_taped))
set_option maxHeartbeats 4000000 in
set_option maxRecDepth 100000 in
theorem k_X12_feed (l : Launch) (N : Nat) (D : va_G) (cI cJ cZ cB cT : ClassId) (h : Nat) (q : Nat → Nat) (v_a : Nat → Int32) (v_image : Nat → Int32) (v_texts : Nat → Int32) (v_tape : Nat → Int32) (v_taped : Int32) (v_fault : Int32) (v_faultPlace : Int32) (v_at : Int32) (v_place : Int32) (v_token : Int32) (v_number : Int32) (v_word : Int64) (v_text0 : Int32) (v_written : Int32) (v_sort0 : Int32) (v_pile : Nat → Int32) (v_piled : Int32) (v_opens : Int32) (v_isWhole : Int32) (v_once : Int32) (v_named : Nat → Int32) (v_values : Nat → Int64) (v_truth : Nat → Int32) (v_isWritten : Int32) (v_died : Int32) (v_aside : Nat → Int32) (v_likely : Nat → Int32) (v_safe : Nat → Int32) (v_headOf : Nat → Int32) (p1 : Int32) (p2 : Int32) (p3 : Int32) (p4 : Int32) (p5 : Int32) (o_r : Int32) (o_v_tape : Nat → Int32) (o_v_taped : Int32) (hf : f_X12_feed N v_tape v_taped p1 p2 p3 p4 p5 = some (o_r, o_v_tape, o_v_taped)) : ∀ sz, Met l yX12_feed (mw yX12_feed cX12_feed 6 (some .int)) ({ frames := 1, cells := 0, slots := 0, locals := 22 } : Room) (mPre D (mT cI cJ cZ cB cT) (WM h q cI cJ cZ v_a v_image v_texts v_tape v_taped v_fault v_faultPlace v_at v_place v_token v_number v_word v_text0 v_written v_sort0 v_pile v_piled v_opens v_isWhole v_once v_named v_values v_truth v_isWritten v_died v_aside v_likely v_safe v_headOf) sz [.ref h, .int p1, .int p2, .int p3, .int p4, .int p5]) ((mQi D (WM h q cI cJ cZ v_a v_image v_texts o_v_tape o_v_taped v_fault v_faultPlace v_at v_place v_token v_number v_word v_text0 v_written v_sort0 v_pile v_piled v_opens v_isWhole v_once v_named v_values v_truth v_isWritten v_died v_aside v_likely v_safe v_headOf) o_r True) (va_A (WM h q cI cJ cZ v_a v_image v_texts v_tape v_taped v_fault v_faultPlace v_at v_place v_token v_number v_word v_text0 v_written v_sort0 v_pile v_piled v_opens v_isWhole v_once v_named v_values v_truth v_isWritten v_died v_aside v_likely v_safe v_headOf) sz)) 0 0 (va_A (WM h q cI cJ cZ v_a v_image v_texts v_tape v_taped v_fault v_faultPlace v_at v_place v_token v_number v_word v_text0 v_written v_sort0 v_pile v_piled v_opens v_isWhole v_once v_named v_values v_truth v_isWritten v_died v_aside v_likely v_safe v_headOf) sz) := by
  refine mMet (Qc := (mQi D (WM h q cI cJ cZ v_a v_image v_texts o_v_tape o_v_taped v_fault v_faultPlace v_at v_place v_token v_number v_word v_text0 v_written v_sort0 v_pile v_piled v_opens v_isWhole v_once v_named v_values v_truth v_isWritten v_died v_aside v_likely v_safe v_headOf) o_r True)) (by decide) (Nat.le_of_ble_eq_true rfl) (fun p e s m below meth c A ls hx hb hr hml hts hown hlocks hK hA hP hD hl => ?_)
  have hown : s.vm.findClass RX12 = some m.cls := hown
  have hl : lv_has ls 6 [(0, .ref h), (1, .int p1), (2, .int p2), (3, .int p3), (4, .int p4), (5, .int p5)] := hl
  have hS : va_S A s.heap s.heap [] := va_S.rf
  unfold f_X12_feed at hf
  refine lv_aload_n hx hb dX12_feed_0 rfl (lv_at hl 0 rfl) ?_
  refine gfX12_90 hx hb hts hown hK hP 0 rfl rfl dX12_feed_1 ?_
  refine lv_bipush (v := (20 : Int32)) hx hb dX12_feed_4 (by decide) ?_
  refine lv_iadd hx hb dX12_feed_6 ?_
  refine lv_sipush (v := (300 : Int32)) hx hb dX12_feed_7 (by decide) ?_
  refine xicmp_le hx hb 15 dX12_feed_10 (by decide) hf (fun hf => ?_) (fun hf => ?_)
  · refine lv_aload_n hx hb dX12_feed_15 rfl (lv_at hl 0 rfl) ?_
    refine lv_iload_n hx hb dX12_feed_16 rfl (lv_at hl 1 rfl) ?_
    obtain ⟨v_tape_17, v_taped_17, hg17, hf⟩ := ob2_some hf
    refine mcV1_v (As := [.int p1]) (rest := []) hx hb hml hown hts hK hP hD hS hA (k_X12_four l N D cI cJ cZ cB cT h q v_a v_image v_texts v_tape v_taped v_fault v_faultPlace v_at v_place v_token v_number v_word v_text0 v_written v_sort0 v_pile v_piled v_opens v_isWhole v_once v_named v_values v_truth v_isWritten v_died v_aside v_likely v_safe v_headOf p1 v_tape_17 v_taped_17 hg17) (kwX12_93 hts rfl rfl ⟨Nat.le_of_ble_eq_true rfl, Nat.le_of_ble_eq_true rfl⟩) 0 rfl rfl rfl rfl hl.1 rfl (Nat.le_of_ble_eq_true rfl) dX12_feed_17 ⟨Nat.zero_le _, Nat.zero_le _⟩ (fun H locs hP hD hS => ?_)
    have hP : va_P D vwCl (WM h q cI cJ cZ v_a v_image v_texts v_tape_17 v_taped_17 v_fault v_faultPlace v_at v_place v_token v_number v_word v_text0 v_written v_sort0 v_pile v_piled v_opens v_isWhole v_once v_named v_values v_truth v_isWritten v_died v_aside v_likely v_safe v_headOf) H := hP
    have hD : va_D A (WM h q cI cJ cZ v_a v_image v_texts v_tape_17 v_taped_17 v_fault v_faultPlace v_at v_place v_token v_number v_word v_text0 v_written v_sort0 v_pile v_piled v_opens v_isWhole v_once v_named v_values v_truth v_isWritten v_died v_aside v_likely v_safe v_headOf) := hD
    refine lv_aload_n hx hb dX12_feed_20 rfl (lv_at hl 0 rfl) ?_
    refine lv_iload_n hx hb dX12_feed_21 rfl (lv_at hl 2 rfl) ?_
    obtain ⟨v_tape_22, v_taped_22, hg22, hf⟩ := ob2_some hf
    refine mcV1_v (As := [.int p2]) (rest := []) hx hb hml hown hts hK hP hD hS hA (k_X12_four l N D cI cJ cZ cB cT h q v_a v_image v_texts v_tape_17 v_taped_17 v_fault v_faultPlace v_at v_place v_token v_number v_word v_text0 v_written v_sort0 v_pile v_piled v_opens v_isWhole v_once v_named v_values v_truth v_isWritten v_died v_aside v_likely v_safe v_headOf p2 v_tape_22 v_taped_22 hg22) (kwX12_93 hts rfl rfl ⟨Nat.le_of_ble_eq_true rfl, Nat.le_of_ble_eq_true rfl⟩) 0 rfl rfl rfl rfl hl.1 rfl (Nat.le_of_ble_eq_true rfl) dX12_feed_22 ⟨Nat.zero_le _, Nat.zero_le _⟩ (fun H locs hP hD hS => ?_)
    have hP : va_P D vwCl (WM h q cI cJ cZ v_a v_image v_texts v_tape_22 v_taped_22 v_fault v_faultPlace v_at v_place v_token v_number v_word v_text0 v_written v_sort0 v_pile v_piled v_opens v_isWhole v_once v_named v_values v_truth v_isWritten v_died v_aside v_likely v_safe v_headOf) H := hP
    have hD : va_D A (WM h q cI cJ cZ v_a v_image v_texts v_tape_22 v_taped_22 v_fault v_faultPlace v_at v_place v_token v_number v_word v_text0 v_written v_sort0 v_pile v_piled v_opens v_isWhole v_once v_named v_values v_truth v_isWritten v_died v_aside v_likely v_safe v_headOf) := hD
    refine lv_aload_n hx hb dX12_feed_25 rfl (lv_at hl 0 rfl) ?_
    refine lv_iload_n hx hb dX12_feed_26 rfl (lv_at hl 3 rfl) ?_
    obtain ⟨v_tape_27, v_taped_27, hg27, hf⟩ := ob2_some hf
    refine mcV1_v (As := [.int p3]) (rest := []) hx hb hml hown hts hK hP hD hS hA (k_X12_four l N D cI cJ cZ cB cT h q v_a v_image v_texts v_tape_22 v_taped_22 v_fault v_faultPlace v_at v_place v_token v_number v_word v_text0 v_written v_sort0 v_pile v_piled v_opens v_isWhole v_once v_named v_values v_truth v_isWritten v_died v_aside v_likely v_safe v_headOf p3 v_tape_27 v_taped_27 hg27) (kwX12_93 hts rfl rfl ⟨Nat.le_of_ble_eq_true rfl, Nat.le_of_ble_eq_true rfl⟩) 0 rfl rfl rfl rfl hl.1 rfl (Nat.le_of_ble_eq_true rfl) dX12_feed_27 ⟨Nat.zero_le _, Nat.zero_le _⟩ (fun H locs hP hD hS => ?_)
    have hP : va_P D vwCl (WM h q cI cJ cZ v_a v_image v_texts v_tape_27 v_taped_27 v_fault v_faultPlace v_at v_place v_token v_number v_word v_text0 v_written v_sort0 v_pile v_piled v_opens v_isWhole v_once v_named v_values v_truth v_isWritten v_died v_aside v_likely v_safe v_headOf) H := hP
    have hD : va_D A (WM h q cI cJ cZ v_a v_image v_texts v_tape_27 v_taped_27 v_fault v_faultPlace v_at v_place v_token v_number v_word v_text0 v_written v_sort0 v_pile v_piled v_opens v_isWhole v_once v_named v_values v_truth v_isWritten v_died v_aside v_likely v_safe v_headOf) := hD
    refine lv_aload_n hx hb dX12_feed_30 rfl (lv_at hl 0 rfl) ?_
    refine lv_iload hx hb dX12_feed_31 (lv_at hl 4 rfl) ?_
    obtain ⟨v_tape_33, v_taped_33, hg33, hf⟩ := ob2_some hf
    refine mcV1_v (As := [.int p4]) (rest := []) hx hb hml hown hts hK hP hD hS hA (k_X12_four l N D cI cJ cZ cB cT h q v_a v_image v_texts v_tape_27 v_taped_27 v_fault v_faultPlace v_at v_place v_token v_number v_word v_text0 v_written v_sort0 v_pile v_piled v_opens v_isWhole v_once v_named v_values v_truth v_isWritten v_died v_aside v_likely v_safe v_headOf p4 v_tape_33 v_taped_33 hg33) (kwX12_93 hts rfl rfl ⟨Nat.le_of_ble_eq_true rfl, Nat.le_of_ble_eq_true rfl⟩) 0 rfl rfl rfl rfl hl.1 rfl (Nat.le_of_ble_eq_true rfl) dX12_feed_33 ⟨Nat.zero_le _, Nat.zero_le _⟩ (fun H locs hP hD hS => ?_)
    have hP : va_P D vwCl (WM h q cI cJ cZ v_a v_image v_texts v_tape_33 v_taped_33 v_fault v_faultPlace v_at v_place v_token v_number v_word v_text0 v_written v_sort0 v_pile v_piled v_opens v_isWhole v_once v_named v_values v_truth v_isWritten v_died v_aside v_likely v_safe v_headOf) H := hP
    have hD : va_D A (WM h q cI cJ cZ v_a v_image v_texts v_tape_33 v_taped_33 v_fault v_faultPlace v_at v_place v_token v_number v_word v_text0 v_written v_sort0 v_pile v_piled v_opens v_isWhole v_once v_named v_values v_truth v_isWritten v_died v_aside v_likely v_safe v_headOf) := hD
    refine lv_aload_n hx hb dX12_feed_36 rfl (lv_at hl 0 rfl) ?_
    refine lv_iload hx hb dX12_feed_37 (lv_at hl 5 rfl) ?_
    obtain ⟨v_tape_39, v_taped_39, hg39, hf⟩ := ob2_some hf
    refine mcV1_v (As := [.int p5]) (rest := []) hx hb hml hown hts hK hP hD hS hA (k_X12_four l N D cI cJ cZ cB cT h q v_a v_image v_texts v_tape_33 v_taped_33 v_fault v_faultPlace v_at v_place v_token v_number v_word v_text0 v_written v_sort0 v_pile v_piled v_opens v_isWhole v_once v_named v_values v_truth v_isWritten v_died v_aside v_likely v_safe v_headOf p5 v_tape_39 v_taped_39 hg39) (kwX12_93 hts rfl rfl ⟨Nat.le_of_ble_eq_true rfl, Nat.le_of_ble_eq_true rfl⟩) 0 rfl rfl rfl rfl hl.1 rfl (Nat.le_of_ble_eq_true rfl) dX12_feed_39 ⟨Nat.zero_le _, Nat.zero_le _⟩ (fun H locs hP hD hS => ?_)
    have hP : va_P D vwCl (WM h q cI cJ cZ v_a v_image v_texts v_tape_39 v_taped_39 v_fault v_faultPlace v_at v_place v_token v_number v_word v_text0 v_written v_sort0 v_pile v_piled v_opens v_isWhole v_once v_named v_values v_truth v_isWritten v_died v_aside v_likely v_safe v_headOf) H := hP
    have hD : va_D A (WM h q cI cJ cZ v_a v_image v_texts v_tape_39 v_taped_39 v_fault v_faultPlace v_at v_place v_token v_number v_word v_text0 v_written v_sort0 v_pile v_piled v_opens v_isWhole v_once v_named v_values v_truth v_isWritten v_died v_aside v_likely v_safe v_headOf) := hD
    refine lv_aload_n hx hb dX12_feed_42 rfl (lv_at hl 0 rfl) ?_
    refine gfX12_90 hx hb hts hown hK hP 0 rfl rfl dX12_feed_43 ?_
    cases hf
    exact mret_i hx hb hr hlocks hP hD hS dX12_feed_46 rfl trivial
  · refine lv_iconst (v := (-1 : Int32)) hx hb dX12_feed_13 (by decide) ?_
    cases hf
    exact mret_i hx hb hr hlocks hP hD hS dX12_feed_14 rfl trivial
theorem dX12_end_0 : decode cX12_end 0 = .ok (.iload_n 1, 1) := by decide +kernel
theorem dX12_end_1 : decode cX12_end 1 = .ok (.iconst 0, 1) := by decide +kernel
theorem dX12_end_2 : decode cX12_end 2 = .ok (.aload_n 0, 1) := by decide +kernel
theorem dX12_end_3 : decode cX12_end 3 = .ok (.getfield 90, 3) := by decide +kernel
theorem dX12_end_6 : decode cX12_end 6 = .ok (.invokestatic 63, 3) := by decide +kernel
theorem dX12_end_9 : decode cX12_end 9 = .ok (.ifCond .ne 5, 3) := by decide +kernel
theorem dX12_end_12 : decode cX12_end 12 = .ok (.iconst (-1), 1) := by decide +kernel
theorem dX12_end_13 : decode cX12_end 13 = .ok (.ireturn, 1) := by decide +kernel
theorem dX12_end_14 : decode cX12_end 14 = .ok (.aload_n 0, 1) := by decide +kernel
theorem dX12_end_15 : decode cX12_end 15 = .ok (.iload_n 1, 1) := by decide +kernel
theorem dX12_end_16 : decode cX12_end 16 = .ok (.putfield 90, 3) := by decide +kernel
theorem dX12_end_19 : decode cX12_end 19 = .ok (.iload_n 1, 1) := by decide +kernel
theorem dX12_end_20 : decode cX12_end 20 = .ok (.ireturn, 1) := by decide +kernel
def f_X12_end (N : Nat) (v_taped : Int32) (p1 : Int32) : Option (Int32 × Int32) := ob1 (f_X12_isIn N p1 (0 : Int32) v_taped) fun r6 => if r6 = 0 then (some ((-1 : Int32), v_taped)) else (some (p1, p1))
set_option maxHeartbeats 4000000 in
set_option maxRecDepth 100000 in
theorem k_X12_end (l : Launch) (N : Nat) (D : va_G) (cI cJ cZ cB cT : ClassId) (h : Nat) (q : Nat → Nat) (v_a : Nat → Int32) (v_image : Nat → Int32) (v_texts : Nat → Int32) (v_tape : Nat → Int32) (v_taped : Int32) (v_fault : Int32) (v_faultPlace : Int32) (v_at : Int32) (v_place : Int32) (v_token : Int32) (v_number : Int32) (v_word : Int64) (v_text0 : Int32) (v_written : Int32) (v_sort0 : Int32) (v_pile : Nat → Int32) (v_piled : Int32) (v_opens : Int32) (v_isWhole : Int32) (v_once : Int32) (v_named : Nat → Int32) (v_values : Nat → Int64) (v_truth : Nat → Int32) (v_isWritten : Int32) (v_died : Int32) (v_aside : Nat → Int32) (v_likely : Nat → Int32) (v_safe : Nat → Int32) (v_headOf : Nat → Int32) (p1 : Int32) (o_r : Int32) (o_v_taped : Int32) (hf : f_X12_end N v_taped p1 = some (o_r, o_v_taped)) : ∀ sz, Met l yX12_end (mw yX12_end cX12_end 2 (some .int)) ({ frames := 1, cells := 0, slots := 0, locals := 22 } : Room) (mPre D (mT cI cJ cZ cB cT) (WM h q cI cJ cZ v_a v_image v_texts v_tape v_taped v_fault v_faultPlace v_at v_place v_token v_number v_word v_text0 v_written v_sort0 v_pile v_piled v_opens v_isWhole v_once v_named v_values v_truth v_isWritten v_died v_aside v_likely v_safe v_headOf) sz [.ref h, .int p1]) ((mQi D (WM h q cI cJ cZ v_a v_image v_texts v_tape o_v_taped v_fault v_faultPlace v_at v_place v_token v_number v_word v_text0 v_written v_sort0 v_pile v_piled v_opens v_isWhole v_once v_named v_values v_truth v_isWritten v_died v_aside v_likely v_safe v_headOf) o_r True) (va_A (WM h q cI cJ cZ v_a v_image v_texts v_tape v_taped v_fault v_faultPlace v_at v_place v_token v_number v_word v_text0 v_written v_sort0 v_pile v_piled v_opens v_isWhole v_once v_named v_values v_truth v_isWritten v_died v_aside v_likely v_safe v_headOf) sz)) 0 0 (va_A (WM h q cI cJ cZ v_a v_image v_texts v_tape v_taped v_fault v_faultPlace v_at v_place v_token v_number v_word v_text0 v_written v_sort0 v_pile v_piled v_opens v_isWhole v_once v_named v_values v_truth v_isWritten v_died v_aside v_likely v_safe v_headOf) sz) := by
  refine mMet (Qc := (mQi D (WM h q cI cJ cZ v_a v_image v_texts v_tape o_v_taped v_fault v_faultPlace v_at v_place v_token v_number v_word v_text0 v_written v_sort0 v_pile v_piled v_opens v_isWhole v_once v_named v_values v_truth v_isWritten v_died v_aside v_likely v_safe v_headOf) o_r True)) (by decide) (Nat.le_of_ble_eq_true rfl) (fun p e s m below meth c A ls hx hb hr hml hts hown hlocks hK hA hP hD hl => ?_)
  have hown : s.vm.findClass RX12 = some m.cls := hown
  have hl : lv_has ls 2 [(0, .ref h), (1, .int p1)] := hl
  have hS : va_S A s.heap s.heap [] := va_S.rf
  unfold f_X12_end at hf
  refine lv_iload_n hx hb dX12_end_0 rfl (lv_at hl 1 rfl) ?_
  refine lv_iconst (v := (0 : Int32)) hx hb dX12_end_1 (by decide) ?_
  refine lv_aload_n hx hb dX12_end_2 rfl (lv_at hl 0 rfl) ?_
  refine gfX12_90 hx hb hts hown hK hP 0 rfl rfl dX12_end_3 ?_
  obtain ⟨r6, hg6, hf⟩ := ob1_some hf
  refine mcS0_i (As := [.int p1, .int (0 : Int32), .int v_taped]) (rest := []) hx hb hml hown hts hK hP hD hS hA (k_X12_isIn l N D cI cJ cZ cB cT p1 (0 : Int32) v_taped r6 hg6) (kwX12_63 hts rfl rfl ⟨Nat.le_of_ble_eq_true rfl, Nat.le_of_ble_eq_true rfl⟩) rfl hl.1 rfl (Nat.le_of_ble_eq_true rfl) dX12_end_6 ⟨Nat.zero_le _, Nat.zero_le _⟩ (fun hB6 H locs hP hD hS => ?_)
  refine xif_ne hx hb 14 dX12_end_9 (by decide) hf (fun hf => ?_) (fun hf => ?_)
  · refine lv_iconst (v := (-1 : Int32)) hx hb dX12_end_12 (by decide) ?_
    cases hf
    exact mret_i hx hb hr hlocks hP hD hS dX12_end_13 rfl trivial
  · refine lv_aload_n hx hb dX12_end_14 rfl (lv_at hl 0 rfl) ?_
    refine lv_iload_n hx hb dX12_end_15 rfl (lv_at hl 1 rfl) ?_
    refine pfX12_90 hx hb hts hown hK hP hD hS 0 rfl (Nat.le_of_ble_eq_true rfl) dX12_end_16 (fun H locs hP hD hS => ?_)
    have hP : va_P D vwCl (WM h q cI cJ cZ v_a v_image v_texts v_tape p1 v_fault v_faultPlace v_at v_place v_token v_number v_word v_text0 v_written v_sort0 v_pile v_piled v_opens v_isWhole v_once v_named v_values v_truth v_isWritten v_died v_aside v_likely v_safe v_headOf) H := hP
    have hD : va_D A (WM h q cI cJ cZ v_a v_image v_texts v_tape p1 v_fault v_faultPlace v_at v_place v_token v_number v_word v_text0 v_written v_sort0 v_pile v_piled v_opens v_isWhole v_once v_named v_values v_truth v_isWritten v_died v_aside v_likely v_safe v_headOf) := hD
    refine lv_iload_n hx hb dX12_end_19 rfl (lv_at hl 1 rfl) ?_
    cases hf
    exact mret_i hx hb hr hlocks hP hD hS dX12_end_20 rfl trivial
theorem dX12_byteAt_0 : decode cX12_byteAt 0 = .ok (.iload_n 1, 1) := by decide +kernel
theorem dX12_byteAt_1 : decode cX12_byteAt 1 = .ok (.aload_n 0, 1) := by decide +kernel
theorem dX12_byteAt_2 : decode cX12_byteAt 2 = .ok (.getfield 90, 3) := by decide +kernel
theorem dX12_byteAt_5 : decode cX12_byteAt 5 = .ok (.if_icmp .ge 12, 3) := by decide +kernel
theorem dX12_byteAt_8 : decode cX12_byteAt 8 = .ok (.aload_n 0, 1) := by decide +kernel
theorem dX12_byteAt_9 : decode cX12_byteAt 9 = .ok (.getfield 19, 3) := by decide +kernel
theorem dX12_byteAt_12 : decode cX12_byteAt 12 = .ok (.iload_n 1, 1) := by decide +kernel
theorem dX12_byteAt_13 : decode cX12_byteAt 13 = .ok (.iaload, 1) := by decide +kernel
theorem dX12_byteAt_14 : decode cX12_byteAt 14 = .ok (.goto 4, 3) := by decide +kernel
theorem dX12_byteAt_17 : decode cX12_byteAt 17 = .ok (.iconst (-1), 1) := by decide +kernel
theorem dX12_byteAt_18 : decode cX12_byteAt 18 = .ok (.ireturn, 1) := by decide +kernel
def f_X12_byteAt (N : Nat) (v_tape : Nat → Int32) (v_taped : Int32) (p1 : Int32) : Option (Int32) := if v_taped ≤ p1 then (some (-1 : Int32)) else (gA v_tape 300 p1 fun v13 => some v13)
set_option maxHeartbeats 4000000 in
set_option maxRecDepth 100000 in
theorem k_X12_byteAt (l : Launch) (N : Nat) (D : va_G) (cI cJ cZ cB cT : ClassId) (h : Nat) (q : Nat → Nat) (v_a : Nat → Int32) (v_image : Nat → Int32) (v_texts : Nat → Int32) (v_tape : Nat → Int32) (v_taped : Int32) (v_fault : Int32) (v_faultPlace : Int32) (v_at : Int32) (v_place : Int32) (v_token : Int32) (v_number : Int32) (v_word : Int64) (v_text0 : Int32) (v_written : Int32) (v_sort0 : Int32) (v_pile : Nat → Int32) (v_piled : Int32) (v_opens : Int32) (v_isWhole : Int32) (v_once : Int32) (v_named : Nat → Int32) (v_values : Nat → Int64) (v_truth : Nat → Int32) (v_isWritten : Int32) (v_died : Int32) (v_aside : Nat → Int32) (v_likely : Nat → Int32) (v_safe : Nat → Int32) (v_headOf : Nat → Int32) (p1 : Int32) (o_r : Int32) (hf : f_X12_byteAt N v_tape v_taped p1 = some o_r) : ∀ sz, Met l yX12_byteAt (mw yX12_byteAt cX12_byteAt 2 (some .int)) ({ frames := 0, cells := 0, slots := 0, locals := 0 } : Room) (mPre D (mT cI cJ cZ cB cT) (WM h q cI cJ cZ v_a v_image v_texts v_tape v_taped v_fault v_faultPlace v_at v_place v_token v_number v_word v_text0 v_written v_sort0 v_pile v_piled v_opens v_isWhole v_once v_named v_values v_truth v_isWritten v_died v_aside v_likely v_safe v_headOf) sz [.ref h, .int p1]) ((mQi D (WM h q cI cJ cZ v_a v_image v_texts v_tape v_taped v_fault v_faultPlace v_at v_place v_token v_number v_word v_text0 v_written v_sort0 v_pile v_piled v_opens v_isWhole v_once v_named v_values v_truth v_isWritten v_died v_aside v_likely v_safe v_headOf) o_r True) (va_A (WM h q cI cJ cZ v_a v_image v_texts v_tape v_taped v_fault v_faultPlace v_at v_place v_token v_number v_word v_text0 v_written v_sort0 v_pile v_piled v_opens v_isWhole v_once v_named v_values v_truth v_isWritten v_died v_aside v_likely v_safe v_headOf) sz)) 0 0 (va_A (WM h q cI cJ cZ v_a v_image v_texts v_tape v_taped v_fault v_faultPlace v_at v_place v_token v_number v_word v_text0 v_written v_sort0 v_pile v_piled v_opens v_isWhole v_once v_named v_values v_truth v_isWritten v_died v_aside v_likely v_safe v_headOf) sz) := by
  refine mMet (Qc := (mQi D (WM h q cI cJ cZ v_a v_image v_texts v_tape v_taped v_fault v_faultPlace v_at v_place v_token v_number v_word v_text0 v_written v_sort0 v_pile v_piled v_opens v_isWhole v_once v_named v_values v_truth v_isWritten v_died v_aside v_likely v_safe v_headOf) o_r True)) (by decide) (Nat.le_of_ble_eq_true rfl) (fun p e s m below meth c A ls hx hb hr hml hts hown hlocks hK hA hP hD hl => ?_)
  have hown : s.vm.findClass RX12 = some m.cls := hown
  have hl : lv_has ls 2 [(0, .ref h), (1, .int p1)] := hl
  have hS : va_S A s.heap s.heap [] := va_S.rf
  unfold f_X12_byteAt at hf
  refine lv_iload_n hx hb dX12_byteAt_0 rfl (lv_at hl 1 rfl) ?_
  refine lv_aload_n hx hb dX12_byteAt_1 rfl (lv_at hl 0 rfl) ?_
  refine gfX12_90 hx hb hts hown hK hP 0 rfl rfl dX12_byteAt_2 ?_
  refine xicmp_ge hx hb 17 dX12_byteAt_5 (by decide) hf (fun hf => ?_) (fun hf => ?_)
  · refine lv_iconst (v := (-1 : Int32)) hx hb dX12_byteAt_17 (by decide) ?_
    cases hf
    exact mret_i hx hb hr hlocks hP hD hS dX12_byteAt_18 rfl trivial
  · refine lv_aload_n hx hb dX12_byteAt_8 rfl (lv_at hl 0 rfl) ?_
    refine gfX12_19 hx hb hts hown hK hP 0 rfl rfl dX12_byteAt_9 ?_
    refine lv_iload_n hx hb dX12_byteAt_12 rfl (lv_at hl 1 rfl) ?_
    refine xiald hx hb hK hP 4 0 rfl rfl dX12_byteAt_13 hf (fun v13 hf => ?_)
    refine lv_goto (tgt := 18) hx hb dX12_byteAt_14 (by decide) ?_
    cases hf
    exact mret_i hx hb hr hlocks hP hD hS dX12_byteAt_18 rfl trivial
theorem dX12_isLetterByte_0 : decode cX12_isLetterByte 0 = .ok (.iload_n 0, 1) := by decide +kernel
theorem dX12_isLetterByte_1 : decode cX12_isLetterByte 1 = .ok (.bipush 97, 2) := by decide +kernel
theorem dX12_isLetterByte_3 : decode cX12_isLetterByte 3 = .ok (.if_icmp .lt 9, 3) := by decide +kernel
theorem dX12_isLetterByte_6 : decode cX12_isLetterByte 6 = .ok (.iload_n 0, 1) := by decide +kernel
theorem dX12_isLetterByte_7 : decode cX12_isLetterByte 7 = .ok (.bipush 122, 2) := by decide +kernel
theorem dX12_isLetterByte_9 : decode cX12_isLetterByte 9 = .ok (.if_icmp .le 15, 3) := by decide +kernel
theorem dX12_isLetterByte_12 : decode cX12_isLetterByte 12 = .ok (.iload_n 0, 1) := by decide +kernel
theorem dX12_isLetterByte_13 : decode cX12_isLetterByte 13 = .ok (.bipush 65, 2) := by decide +kernel
theorem dX12_isLetterByte_15 : decode cX12_isLetterByte 15 = .ok (.if_icmp .lt 13, 3) := by decide +kernel
theorem dX12_isLetterByte_18 : decode cX12_isLetterByte 18 = .ok (.iload_n 0, 1) := by decide +kernel
theorem dX12_isLetterByte_19 : decode cX12_isLetterByte 19 = .ok (.bipush 90, 2) := by decide +kernel
theorem dX12_isLetterByte_21 : decode cX12_isLetterByte 21 = .ok (.if_icmp .gt 7, 3) := by decide +kernel
theorem dX12_isLetterByte_24 : decode cX12_isLetterByte 24 = .ok (.iconst 1, 1) := by decide +kernel
theorem dX12_isLetterByte_25 : decode cX12_isLetterByte 25 = .ok (.goto 4, 3) := by decide +kernel
theorem dX12_isLetterByte_28 : decode cX12_isLetterByte 28 = .ok (.iconst 0, 1) := by decide +kernel
theorem dX12_isLetterByte_29 : decode cX12_isLetterByte 29 = .ok (.ireturn, 1) := by decide +kernel
def f_X12_isLetterByte_24 (N : Nat) : Option (Int32) := some (1 : Int32)
def f_X12_isLetterByte_12 (N : Nat) (x0 : Int32) : Option (Int32) := if x0 < (65 : Int32) then (some (0 : Int32)) else (if (90 : Int32) < x0 then (some (0 : Int32)) else (f_X12_isLetterByte_24 N))
def f_X12_isLetterByte (N : Nat) (p0 : Int32) : Option (Int32) := if p0 < (97 : Int32) then (f_X12_isLetterByte_12 N p0) else (if p0 ≤ (122 : Int32) then (f_X12_isLetterByte_24 N) else (f_X12_isLetterByte_12 N p0))
set_option maxHeartbeats 4000000 in
set_option maxRecDepth 100000 in
theorem k_X12_isLetterByte (l : Launch) (N : Nat) (D : va_G) (cI cJ cZ cB cT : ClassId) (p0 : Int32) (o_r : Int32) (hf : f_X12_isLetterByte N p0 = some o_r) : ∀ sz, Met l yX12_isLetterByte (mw yX12_isLetterByte cX12_isLetterByte 1 (some .boolean)) ({ frames := 0, cells := 0, slots := 0, locals := 0 } : Room) (mPre D (mT cI cJ cZ cB cT) [] sz [.int p0]) ((mQi D [] o_r (mB o_r)) (va_A [] sz)) 0 0 (va_A [] sz) := by
  refine mMet (Qc := (mQi D [] o_r (mB o_r))) (by decide) (Nat.le_of_ble_eq_true rfl) (fun p e s m below meth c A ls hx hb hr hml hts hown hlocks hK hA hP hD hl => ?_)
  have hown : s.vm.findClass RX12 = some m.cls := hown
  have hl : lv_has ls 1 [(0, .int p0)] := hl
  have hS : va_S A s.heap s.heap [] := va_S.rf
  have b24 : ∀ (H : Heap) (locs : List Loc) (ls : Array Slot), f_X12_isLetterByte_24 N = some o_r → va_P D vwCl [] H → va_D A [] → va_S A s.heap H locs → lv_has ls 1 [] → W p l e ({ frames := 0, cells := 0, slots := 0, locals := 0 } : Room) s m ([.int p0] : List Value).toArray below meth c H locs 0 0 (MQ below ((mQi D [] o_r (mB o_r)) A) ([.int p0] : List Value).toArray s 0 0 A) (F0 m 24 ls []) := by
    intro H locs ls hf hP hD hS hl
    unfold f_X12_isLetterByte_24 at hf
    refine lv_iconst (v := (1 : Int32)) hx hb dX12_isLetterByte_24 (by decide) ?_
    refine lv_goto (tgt := 29) hx hb dX12_isLetterByte_25 (by decide) ?_
    cases hf
    exact mret_z hx hb hr hlocks hP hD hS dX12_isLetterByte_29 rfl rfl
  have b12 : ∀ (x0 : Int32) (H : Heap) (locs : List Loc) (ls : Array Slot), f_X12_isLetterByte_12 N x0 = some o_r → va_P D vwCl [] H → va_D A [] → va_S A s.heap H locs → lv_has ls 1 [(0, .int x0)] → W p l e ({ frames := 0, cells := 0, slots := 0, locals := 0 } : Room) s m ([.int p0] : List Value).toArray below meth c H locs 0 0 (MQ below ((mQi D [] o_r (mB o_r)) A) ([.int p0] : List Value).toArray s 0 0 A) (F0 m 12 ls []) := by
    intro x0 H locs ls hf hP hD hS hl
    unfold f_X12_isLetterByte_12 at hf
    refine lv_iload_n hx hb dX12_isLetterByte_12 rfl (lv_at hl 0 rfl) ?_
    refine lv_bipush (v := (65 : Int32)) hx hb dX12_isLetterByte_13 (by decide) ?_
    refine xicmp_lt hx hb 28 dX12_isLetterByte_15 (by decide) hf (fun hf => ?_) (fun hf => ?_)
    · refine lv_iconst (v := (0 : Int32)) hx hb dX12_isLetterByte_28 (by decide) ?_
      cases hf
      exact mret_z hx hb hr hlocks hP hD hS dX12_isLetterByte_29 rfl rfl
    · refine lv_iload_n hx hb dX12_isLetterByte_18 rfl (lv_at hl 0 rfl) ?_
      refine lv_bipush (v := (90 : Int32)) hx hb dX12_isLetterByte_19 (by decide) ?_
      refine xicmp_gt hx hb 28 dX12_isLetterByte_21 (by decide) hf (fun hf => ?_) (fun hf => ?_)
      · refine lv_iconst (v := (0 : Int32)) hx hb dX12_isLetterByte_28 (by decide) ?_
        cases hf
        exact mret_z hx hb hr hlocks hP hD hS dX12_isLetterByte_29 rfl rfl
      · exact b24 _ _ _ hf hP hD hS (lv_sub hl [] rfl)
  unfold f_X12_isLetterByte at hf
  refine lv_iload_n hx hb dX12_isLetterByte_0 rfl (lv_at hl 0 rfl) ?_
  refine lv_bipush (v := (97 : Int32)) hx hb dX12_isLetterByte_1 (by decide) ?_
  refine xicmp_lt hx hb 12 dX12_isLetterByte_3 (by decide) hf (fun hf => ?_) (fun hf => ?_)
  · exact b12 p0 _ _ _ hf hP hD hS (lv_sub hl [0] rfl)
  · refine lv_iload_n hx hb dX12_isLetterByte_6 rfl (lv_at hl 0 rfl) ?_
    refine lv_bipush (v := (122 : Int32)) hx hb dX12_isLetterByte_7 (by decide) ?_
    refine xicmp_le hx hb 24 dX12_isLetterByte_9 (by decide) hf (fun hf => ?_) (fun hf => ?_)
    · exact b24 _ _ _ hf hP hD hS (lv_sub hl [] rfl)
    · exact b12 p0 _ _ _ hf hP hD hS (lv_sub hl [0] rfl)
theorem dX12_isFigure_0 : decode cX12_isFigure 0 = .ok (.iload_n 0, 1) := by decide +kernel
theorem dX12_isFigure_1 : decode cX12_isFigure 1 = .ok (.bipush 48, 2) := by decide +kernel
theorem dX12_isFigure_3 : decode cX12_isFigure 3 = .ok (.if_icmp .lt 13, 3) := by decide +kernel
theorem dX12_isFigure_6 : decode cX12_isFigure 6 = .ok (.iload_n 0, 1) := by decide +kernel
theorem dX12_isFigure_7 : decode cX12_isFigure 7 = .ok (.bipush 57, 2) := by decide +kernel
theorem dX12_isFigure_9 : decode cX12_isFigure 9 = .ok (.if_icmp .gt 7, 3) := by decide +kernel
theorem dX12_isFigure_12 : decode cX12_isFigure 12 = .ok (.iconst 1, 1) := by decide +kernel
theorem dX12_isFigure_13 : decode cX12_isFigure 13 = .ok (.goto 4, 3) := by decide +kernel
theorem dX12_isFigure_16 : decode cX12_isFigure 16 = .ok (.iconst 0, 1) := by decide +kernel
theorem dX12_isFigure_17 : decode cX12_isFigure 17 = .ok (.ireturn, 1) := by decide +kernel
def f_X12_isFigure (N : Nat) (p0 : Int32) : Option (Int32) := if p0 < (48 : Int32) then (some (0 : Int32)) else (if (57 : Int32) < p0 then (some (0 : Int32)) else (some (1 : Int32)))
set_option maxHeartbeats 4000000 in
set_option maxRecDepth 100000 in
theorem k_X12_isFigure (l : Launch) (N : Nat) (D : va_G) (cI cJ cZ cB cT : ClassId) (p0 : Int32) (o_r : Int32) (hf : f_X12_isFigure N p0 = some o_r) : ∀ sz, Met l yX12_isFigure (mw yX12_isFigure cX12_isFigure 1 (some .boolean)) ({ frames := 0, cells := 0, slots := 0, locals := 0 } : Room) (mPre D (mT cI cJ cZ cB cT) [] sz [.int p0]) ((mQi D [] o_r (mB o_r)) (va_A [] sz)) 0 0 (va_A [] sz) := by
  refine mMet (Qc := (mQi D [] o_r (mB o_r))) (by decide) (Nat.le_of_ble_eq_true rfl) (fun p e s m below meth c A ls hx hb hr hml hts hown hlocks hK hA hP hD hl => ?_)
  have hown : s.vm.findClass RX12 = some m.cls := hown
  have hl : lv_has ls 1 [(0, .int p0)] := hl
  have hS : va_S A s.heap s.heap [] := va_S.rf
  unfold f_X12_isFigure at hf
  refine lv_iload_n hx hb dX12_isFigure_0 rfl (lv_at hl 0 rfl) ?_
  refine lv_bipush (v := (48 : Int32)) hx hb dX12_isFigure_1 (by decide) ?_
  refine xicmp_lt hx hb 16 dX12_isFigure_3 (by decide) hf (fun hf => ?_) (fun hf => ?_)
  · refine lv_iconst (v := (0 : Int32)) hx hb dX12_isFigure_16 (by decide) ?_
    cases hf
    exact mret_z hx hb hr hlocks hP hD hS dX12_isFigure_17 rfl rfl
  · refine lv_iload_n hx hb dX12_isFigure_6 rfl (lv_at hl 0 rfl) ?_
    refine lv_bipush (v := (57 : Int32)) hx hb dX12_isFigure_7 (by decide) ?_
    refine xicmp_gt hx hb 16 dX12_isFigure_9 (by decide) hf (fun hf => ?_) (fun hf => ?_)
    · refine lv_iconst (v := (0 : Int32)) hx hb dX12_isFigure_16 (by decide) ?_
      cases hf
      exact mret_z hx hb hr hlocks hP hD hS dX12_isFigure_17 rfl rfl
    · refine lv_iconst (v := (1 : Int32)) hx hb dX12_isFigure_12 (by decide) ?_
      refine lv_goto (tgt := 17) hx hb dX12_isFigure_13 (by decide) ?_
      cases hf
      exact mret_z hx hb hr hlocks hP hD hS dX12_isFigure_17 rfl rfl
theorem dX12_isSign_0 : decode cX12_isSign 0 = .ok (.iload_n 0, 1) := by decide +kernel
theorem dX12_isSign_1 : decode cX12_isSign 1 = .ok (.tableswitch 129 35 62 #[127, 129, 129, 129, 129, 127, 127, 127, 127, 129, 127, 129, 127, 129, 129, 129, 129, 129, 129, 129, 129, 129, 129, 127, 127, 127, 127, 127], 127) := by decide +kernel
theorem dX12_isSign_128 : decode cX12_isSign 128 = .ok (.iconst 1, 1) := by decide +kernel
theorem dX12_isSign_129 : decode cX12_isSign 129 = .ok (.ireturn, 1) := by decide +kernel
theorem dX12_isSign_130 : decode cX12_isSign 130 = .ok (.iconst 0, 1) := by decide +kernel
theorem dX12_isSign_131 : decode cX12_isSign 131 = .ok (.ireturn, 1) := by decide +kernel
def f_X12_isSign (N : Nat) (p0 : Int32) : Option (Int32) := if p0 = (35 : Int32) then (some (1 : Int32)) else if p0 = (40 : Int32) then (some (1 : Int32)) else if p0 = (41 : Int32) then (some (1 : Int32)) else if p0 = (42 : Int32) then (some (1 : Int32)) else if p0 = (43 : Int32) then (some (1 : Int32)) else if p0 = (45 : Int32) then (some (1 : Int32)) else if p0 = (47 : Int32) then (some (1 : Int32)) else if p0 = (58 : Int32) then (some (1 : Int32)) else if p0 = (59 : Int32) then (some (1 : Int32)) else if p0 = (60 : Int32) then (some (1 : Int32)) else if p0 = (61 : Int32) then (some (1 : Int32)) else if p0 = (62 : Int32) then (some (1 : Int32)) else (some (0 : Int32))
set_option maxHeartbeats 4000000 in
set_option maxRecDepth 100000 in
theorem k_X12_isSign (l : Launch) (N : Nat) (D : va_G) (cI cJ cZ cB cT : ClassId) (p0 : Int32) (o_r : Int32) (hf : f_X12_isSign N p0 = some o_r) : ∀ sz, Met l yX12_isSign (mw yX12_isSign cX12_isSign 1 (some .boolean)) ({ frames := 0, cells := 0, slots := 0, locals := 0 } : Room) (mPre D (mT cI cJ cZ cB cT) [] sz [.int p0]) ((mQi D [] o_r (mB o_r)) (va_A [] sz)) 0 0 (va_A [] sz) := by
  refine mMet (Qc := (mQi D [] o_r (mB o_r))) (by decide) (Nat.le_of_ble_eq_true rfl) (fun p e s m below meth c A ls hx hb hr hml hts hown hlocks hK hA hP hD hl => ?_)
  have hown : s.vm.findClass RX12 = some m.cls := hown
  have hl : lv_has ls 1 [(0, .int p0)] := hl
  have hS : va_S A s.heap s.heap [] := va_S.rf
  unfold f_X12_isSign at hf
  refine lv_iload_n hx hb dX12_isSign_0 rfl (lv_at hl 0 rfl) ?_
  by_cases e1_35 : p0 = (35 : Int32)
  · replace hf := (if_pos e1_35).symm.trans hf
    refine lv_tableIn (off := 127) (tgt := 128) hx hb dX12_isSign_1 (by rw [e1_35]; decide) (by rw [e1_35]; decide) (by rw [e1_35]; rfl) (by decide) ?_
    refine lv_iconst (v := (1 : Int32)) hx hb dX12_isSign_128 (by decide) ?_
    cases hf
    exact mret_z hx hb hr hlocks hP hD hS dX12_isSign_129 rfl rfl
  replace hf := (if_neg e1_35).symm.trans hf
  by_cases e1_40 : p0 = (40 : Int32)
  · replace hf := (if_pos e1_40).symm.trans hf
    refine lv_tableIn (off := 127) (tgt := 128) hx hb dX12_isSign_1 (by rw [e1_40]; decide) (by rw [e1_40]; decide) (by rw [e1_40]; rfl) (by decide) ?_
    refine lv_iconst (v := (1 : Int32)) hx hb dX12_isSign_128 (by decide) ?_
    cases hf
    exact mret_z hx hb hr hlocks hP hD hS dX12_isSign_129 rfl rfl
  replace hf := (if_neg e1_40).symm.trans hf
  by_cases e1_41 : p0 = (41 : Int32)
  · replace hf := (if_pos e1_41).symm.trans hf
    refine lv_tableIn (off := 127) (tgt := 128) hx hb dX12_isSign_1 (by rw [e1_41]; decide) (by rw [e1_41]; decide) (by rw [e1_41]; rfl) (by decide) ?_
    refine lv_iconst (v := (1 : Int32)) hx hb dX12_isSign_128 (by decide) ?_
    cases hf
    exact mret_z hx hb hr hlocks hP hD hS dX12_isSign_129 rfl rfl
  replace hf := (if_neg e1_41).symm.trans hf
  by_cases e1_42 : p0 = (42 : Int32)
  · replace hf := (if_pos e1_42).symm.trans hf
    refine lv_tableIn (off := 127) (tgt := 128) hx hb dX12_isSign_1 (by rw [e1_42]; decide) (by rw [e1_42]; decide) (by rw [e1_42]; rfl) (by decide) ?_
    refine lv_iconst (v := (1 : Int32)) hx hb dX12_isSign_128 (by decide) ?_
    cases hf
    exact mret_z hx hb hr hlocks hP hD hS dX12_isSign_129 rfl rfl
  replace hf := (if_neg e1_42).symm.trans hf
  by_cases e1_43 : p0 = (43 : Int32)
  · replace hf := (if_pos e1_43).symm.trans hf
    refine lv_tableIn (off := 127) (tgt := 128) hx hb dX12_isSign_1 (by rw [e1_43]; decide) (by rw [e1_43]; decide) (by rw [e1_43]; rfl) (by decide) ?_
    refine lv_iconst (v := (1 : Int32)) hx hb dX12_isSign_128 (by decide) ?_
    cases hf
    exact mret_z hx hb hr hlocks hP hD hS dX12_isSign_129 rfl rfl
  replace hf := (if_neg e1_43).symm.trans hf
  by_cases e1_45 : p0 = (45 : Int32)
  · replace hf := (if_pos e1_45).symm.trans hf
    refine lv_tableIn (off := 127) (tgt := 128) hx hb dX12_isSign_1 (by rw [e1_45]; decide) (by rw [e1_45]; decide) (by rw [e1_45]; rfl) (by decide) ?_
    refine lv_iconst (v := (1 : Int32)) hx hb dX12_isSign_128 (by decide) ?_
    cases hf
    exact mret_z hx hb hr hlocks hP hD hS dX12_isSign_129 rfl rfl
  replace hf := (if_neg e1_45).symm.trans hf
  by_cases e1_47 : p0 = (47 : Int32)
  · replace hf := (if_pos e1_47).symm.trans hf
    refine lv_tableIn (off := 127) (tgt := 128) hx hb dX12_isSign_1 (by rw [e1_47]; decide) (by rw [e1_47]; decide) (by rw [e1_47]; rfl) (by decide) ?_
    refine lv_iconst (v := (1 : Int32)) hx hb dX12_isSign_128 (by decide) ?_
    cases hf
    exact mret_z hx hb hr hlocks hP hD hS dX12_isSign_129 rfl rfl
  replace hf := (if_neg e1_47).symm.trans hf
  by_cases e1_58 : p0 = (58 : Int32)
  · replace hf := (if_pos e1_58).symm.trans hf
    refine lv_tableIn (off := 127) (tgt := 128) hx hb dX12_isSign_1 (by rw [e1_58]; decide) (by rw [e1_58]; decide) (by rw [e1_58]; rfl) (by decide) ?_
    refine lv_iconst (v := (1 : Int32)) hx hb dX12_isSign_128 (by decide) ?_
    cases hf
    exact mret_z hx hb hr hlocks hP hD hS dX12_isSign_129 rfl rfl
  replace hf := (if_neg e1_58).symm.trans hf
  by_cases e1_59 : p0 = (59 : Int32)
  · replace hf := (if_pos e1_59).symm.trans hf
    refine lv_tableIn (off := 127) (tgt := 128) hx hb dX12_isSign_1 (by rw [e1_59]; decide) (by rw [e1_59]; decide) (by rw [e1_59]; rfl) (by decide) ?_
    refine lv_iconst (v := (1 : Int32)) hx hb dX12_isSign_128 (by decide) ?_
    cases hf
    exact mret_z hx hb hr hlocks hP hD hS dX12_isSign_129 rfl rfl
  replace hf := (if_neg e1_59).symm.trans hf
  by_cases e1_60 : p0 = (60 : Int32)
  · replace hf := (if_pos e1_60).symm.trans hf
    refine lv_tableIn (off := 127) (tgt := 128) hx hb dX12_isSign_1 (by rw [e1_60]; decide) (by rw [e1_60]; decide) (by rw [e1_60]; rfl) (by decide) ?_
    refine lv_iconst (v := (1 : Int32)) hx hb dX12_isSign_128 (by decide) ?_
    cases hf
    exact mret_z hx hb hr hlocks hP hD hS dX12_isSign_129 rfl rfl
  replace hf := (if_neg e1_60).symm.trans hf
  by_cases e1_61 : p0 = (61 : Int32)
  · replace hf := (if_pos e1_61).symm.trans hf
    refine lv_tableIn (off := 127) (tgt := 128) hx hb dX12_isSign_1 (by rw [e1_61]; decide) (by rw [e1_61]; decide) (by rw [e1_61]; rfl) (by decide) ?_
    refine lv_iconst (v := (1 : Int32)) hx hb dX12_isSign_128 (by decide) ?_
    cases hf
    exact mret_z hx hb hr hlocks hP hD hS dX12_isSign_129 rfl rfl
  replace hf := (if_neg e1_61).symm.trans hf
  by_cases e1_62 : p0 = (62 : Int32)
  · replace hf := (if_pos e1_62).symm.trans hf
    refine lv_tableIn (off := 127) (tgt := 128) hx hb dX12_isSign_1 (by rw [e1_62]; decide) (by rw [e1_62]; decide) (by rw [e1_62]; rfl) (by decide) ?_
    refine lv_iconst (v := (1 : Int32)) hx hb dX12_isSign_128 (by decide) ?_
    cases hf
    exact mret_z hx hb hr hlocks hP hD hS dX12_isSign_129 rfl rfl
  replace hf := (if_neg e1_62).symm.trans hf
  by_cases e1_36 : p0 = (36 : Int32)
  · refine lv_tableIn (off := 129) (tgt := 130) hx hb dX12_isSign_1 (by rw [e1_36]; decide) (by rw [e1_36]; decide) (by rw [e1_36]; rfl) (by decide) ?_
    refine lv_iconst (v := (0 : Int32)) hx hb dX12_isSign_130 (by decide) ?_
    cases hf
    exact mret_z hx hb hr hlocks hP hD hS dX12_isSign_131 rfl rfl
  by_cases e1_37 : p0 = (37 : Int32)
  · refine lv_tableIn (off := 129) (tgt := 130) hx hb dX12_isSign_1 (by rw [e1_37]; decide) (by rw [e1_37]; decide) (by rw [e1_37]; rfl) (by decide) ?_
    refine lv_iconst (v := (0 : Int32)) hx hb dX12_isSign_130 (by decide) ?_
    cases hf
    exact mret_z hx hb hr hlocks hP hD hS dX12_isSign_131 rfl rfl
  by_cases e1_38 : p0 = (38 : Int32)
  · refine lv_tableIn (off := 129) (tgt := 130) hx hb dX12_isSign_1 (by rw [e1_38]; decide) (by rw [e1_38]; decide) (by rw [e1_38]; rfl) (by decide) ?_
    refine lv_iconst (v := (0 : Int32)) hx hb dX12_isSign_130 (by decide) ?_
    cases hf
    exact mret_z hx hb hr hlocks hP hD hS dX12_isSign_131 rfl rfl
  by_cases e1_39 : p0 = (39 : Int32)
  · refine lv_tableIn (off := 129) (tgt := 130) hx hb dX12_isSign_1 (by rw [e1_39]; decide) (by rw [e1_39]; decide) (by rw [e1_39]; rfl) (by decide) ?_
    refine lv_iconst (v := (0 : Int32)) hx hb dX12_isSign_130 (by decide) ?_
    cases hf
    exact mret_z hx hb hr hlocks hP hD hS dX12_isSign_131 rfl rfl
  by_cases e1_44 : p0 = (44 : Int32)
  · refine lv_tableIn (off := 129) (tgt := 130) hx hb dX12_isSign_1 (by rw [e1_44]; decide) (by rw [e1_44]; decide) (by rw [e1_44]; rfl) (by decide) ?_
    refine lv_iconst (v := (0 : Int32)) hx hb dX12_isSign_130 (by decide) ?_
    cases hf
    exact mret_z hx hb hr hlocks hP hD hS dX12_isSign_131 rfl rfl
  by_cases e1_46 : p0 = (46 : Int32)
  · refine lv_tableIn (off := 129) (tgt := 130) hx hb dX12_isSign_1 (by rw [e1_46]; decide) (by rw [e1_46]; decide) (by rw [e1_46]; rfl) (by decide) ?_
    refine lv_iconst (v := (0 : Int32)) hx hb dX12_isSign_130 (by decide) ?_
    cases hf
    exact mret_z hx hb hr hlocks hP hD hS dX12_isSign_131 rfl rfl
  by_cases e1_48 : p0 = (48 : Int32)
  · refine lv_tableIn (off := 129) (tgt := 130) hx hb dX12_isSign_1 (by rw [e1_48]; decide) (by rw [e1_48]; decide) (by rw [e1_48]; rfl) (by decide) ?_
    refine lv_iconst (v := (0 : Int32)) hx hb dX12_isSign_130 (by decide) ?_
    cases hf
    exact mret_z hx hb hr hlocks hP hD hS dX12_isSign_131 rfl rfl
  by_cases e1_49 : p0 = (49 : Int32)
  · refine lv_tableIn (off := 129) (tgt := 130) hx hb dX12_isSign_1 (by rw [e1_49]; decide) (by rw [e1_49]; decide) (by rw [e1_49]; rfl) (by decide) ?_
    refine lv_iconst (v := (0 : Int32)) hx hb dX12_isSign_130 (by decide) ?_
    cases hf
    exact mret_z hx hb hr hlocks hP hD hS dX12_isSign_131 rfl rfl
  by_cases e1_50 : p0 = (50 : Int32)
  · refine lv_tableIn (off := 129) (tgt := 130) hx hb dX12_isSign_1 (by rw [e1_50]; decide) (by rw [e1_50]; decide) (by rw [e1_50]; rfl) (by decide) ?_
    refine lv_iconst (v := (0 : Int32)) hx hb dX12_isSign_130 (by decide) ?_
    cases hf
    exact mret_z hx hb hr hlocks hP hD hS dX12_isSign_131 rfl rfl
  by_cases e1_51 : p0 = (51 : Int32)
  · refine lv_tableIn (off := 129) (tgt := 130) hx hb dX12_isSign_1 (by rw [e1_51]; decide) (by rw [e1_51]; decide) (by rw [e1_51]; rfl) (by decide) ?_
    refine lv_iconst (v := (0 : Int32)) hx hb dX12_isSign_130 (by decide) ?_
    cases hf
    exact mret_z hx hb hr hlocks hP hD hS dX12_isSign_131 rfl rfl
  by_cases e1_52 : p0 = (52 : Int32)
  · refine lv_tableIn (off := 129) (tgt := 130) hx hb dX12_isSign_1 (by rw [e1_52]; decide) (by rw [e1_52]; decide) (by rw [e1_52]; rfl) (by decide) ?_
    refine lv_iconst (v := (0 : Int32)) hx hb dX12_isSign_130 (by decide) ?_
    cases hf
    exact mret_z hx hb hr hlocks hP hD hS dX12_isSign_131 rfl rfl
  by_cases e1_53 : p0 = (53 : Int32)
  · refine lv_tableIn (off := 129) (tgt := 130) hx hb dX12_isSign_1 (by rw [e1_53]; decide) (by rw [e1_53]; decide) (by rw [e1_53]; rfl) (by decide) ?_
    refine lv_iconst (v := (0 : Int32)) hx hb dX12_isSign_130 (by decide) ?_
    cases hf
    exact mret_z hx hb hr hlocks hP hD hS dX12_isSign_131 rfl rfl
  by_cases e1_54 : p0 = (54 : Int32)
  · refine lv_tableIn (off := 129) (tgt := 130) hx hb dX12_isSign_1 (by rw [e1_54]; decide) (by rw [e1_54]; decide) (by rw [e1_54]; rfl) (by decide) ?_
    refine lv_iconst (v := (0 : Int32)) hx hb dX12_isSign_130 (by decide) ?_
    cases hf
    exact mret_z hx hb hr hlocks hP hD hS dX12_isSign_131 rfl rfl
  by_cases e1_55 : p0 = (55 : Int32)
  · refine lv_tableIn (off := 129) (tgt := 130) hx hb dX12_isSign_1 (by rw [e1_55]; decide) (by rw [e1_55]; decide) (by rw [e1_55]; rfl) (by decide) ?_
    refine lv_iconst (v := (0 : Int32)) hx hb dX12_isSign_130 (by decide) ?_
    cases hf
    exact mret_z hx hb hr hlocks hP hD hS dX12_isSign_131 rfl rfl
  by_cases e1_56 : p0 = (56 : Int32)
  · refine lv_tableIn (off := 129) (tgt := 130) hx hb dX12_isSign_1 (by rw [e1_56]; decide) (by rw [e1_56]; decide) (by rw [e1_56]; rfl) (by decide) ?_
    refine lv_iconst (v := (0 : Int32)) hx hb dX12_isSign_130 (by decide) ?_
    cases hf
    exact mret_z hx hb hr hlocks hP hD hS dX12_isSign_131 rfl rfl
  by_cases e1_57 : p0 = (57 : Int32)
  · refine lv_tableIn (off := 129) (tgt := 130) hx hb dX12_isSign_1 (by rw [e1_57]; decide) (by rw [e1_57]; decide) (by rw [e1_57]; rfl) (by decide) ?_
    refine lv_iconst (v := (0 : Int32)) hx hb dX12_isSign_130 (by decide) ?_
    cases hf
    exact mret_z hx hb hr hlocks hP hD hS dX12_isSign_131 rfl rfl
  have ne1_35 : p0.toInt ≠ (35 : Int) := sw_ne e1_35
  have ne1_36 : p0.toInt ≠ (36 : Int) := sw_ne e1_36
  have ne1_37 : p0.toInt ≠ (37 : Int) := sw_ne e1_37
  have ne1_38 : p0.toInt ≠ (38 : Int) := sw_ne e1_38
  have ne1_39 : p0.toInt ≠ (39 : Int) := sw_ne e1_39
  have ne1_40 : p0.toInt ≠ (40 : Int) := sw_ne e1_40
  have ne1_41 : p0.toInt ≠ (41 : Int) := sw_ne e1_41
  have ne1_42 : p0.toInt ≠ (42 : Int) := sw_ne e1_42
  have ne1_43 : p0.toInt ≠ (43 : Int) := sw_ne e1_43
  have ne1_44 : p0.toInt ≠ (44 : Int) := sw_ne e1_44
  have ne1_45 : p0.toInt ≠ (45 : Int) := sw_ne e1_45
  have ne1_46 : p0.toInt ≠ (46 : Int) := sw_ne e1_46
  have ne1_47 : p0.toInt ≠ (47 : Int) := sw_ne e1_47
  have ne1_48 : p0.toInt ≠ (48 : Int) := sw_ne e1_48
  have ne1_49 : p0.toInt ≠ (49 : Int) := sw_ne e1_49
  have ne1_50 : p0.toInt ≠ (50 : Int) := sw_ne e1_50
  have ne1_51 : p0.toInt ≠ (51 : Int) := sw_ne e1_51
  have ne1_52 : p0.toInt ≠ (52 : Int) := sw_ne e1_52
  have ne1_53 : p0.toInt ≠ (53 : Int) := sw_ne e1_53
  have ne1_54 : p0.toInt ≠ (54 : Int) := sw_ne e1_54
  have ne1_55 : p0.toInt ≠ (55 : Int) := sw_ne e1_55
  have ne1_56 : p0.toInt ≠ (56 : Int) := sw_ne e1_56
  have ne1_57 : p0.toInt ≠ (57 : Int) := sw_ne e1_57
  have ne1_58 : p0.toInt ≠ (58 : Int) := sw_ne e1_58
  have ne1_59 : p0.toInt ≠ (59 : Int) := sw_ne e1_59
  have ne1_60 : p0.toInt ≠ (60 : Int) := sw_ne e1_60
  have ne1_61 : p0.toInt ≠ (61 : Int) := sw_ne e1_61
  have ne1_62 : p0.toInt ≠ (62 : Int) := sw_ne e1_62
  refine lv_tableOut (tgt := 130) hx hb dX12_isSign_1 (by omega) (by decide) ?_
  refine lv_iconst (v := (0 : Int32)) hx hb dX12_isSign_130 (by decide) ?_
  cases hf
  exact mret_z hx hb hr hlocks hP hD hS dX12_isSign_131 rfl rfl
theorem dX12_nextToken_0 : decode cX12_nextToken 0 = .ok (.aload_n 0, 1) := by decide +kernel
theorem dX12_nextToken_1 : decode cX12_nextToken 1 = .ok (.aload_n 0, 1) := by decide +kernel
theorem dX12_nextToken_2 : decode cX12_nextToken 2 = .ok (.getfield 96, 3) := by decide +kernel
theorem dX12_nextToken_5 : decode cX12_nextToken 5 = .ok (.invokevirtual 99, 3) := by decide +kernel
theorem dX12_nextToken_8 : decode cX12_nextToken 8 = .ok (.bipush 32, 2) := by decide +kernel
theorem dX12_nextToken_10 : decode cX12_nextToken 10 = .ok (.if_icmp .eq 16, 3) := by decide +kernel
theorem dX12_nextToken_13 : decode cX12_nextToken 13 = .ok (.aload_n 0, 1) := by decide +kernel
theorem dX12_nextToken_14 : decode cX12_nextToken 14 = .ok (.aload_n 0, 1) := by decide +kernel
theorem dX12_nextToken_15 : decode cX12_nextToken 15 = .ok (.getfield 96, 3) := by decide +kernel
theorem dX12_nextToken_18 : decode cX12_nextToken 18 = .ok (.invokevirtual 99, 3) := by decide +kernel
theorem dX12_nextToken_21 : decode cX12_nextToken 21 = .ok (.bipush 10, 2) := by decide +kernel
theorem dX12_nextToken_23 : decode cX12_nextToken 23 = .ok (.if_icmp .ne 16, 3) := by decide +kernel
theorem dX12_nextToken_26 : decode cX12_nextToken 26 = .ok (.aload_n 0, 1) := by decide +kernel
theorem dX12_nextToken_27 : decode cX12_nextToken 27 = .ok (.dup, 1) := by decide +kernel
theorem dX12_nextToken_28 : decode cX12_nextToken 28 = .ok (.getfield 96, 3) := by decide +kernel
theorem dX12_nextToken_31 : decode cX12_nextToken 31 = .ok (.iconst 1, 1) := by decide +kernel
theorem dX12_nextToken_32 : decode cX12_nextToken 32 = .ok (.iadd, 1) := by decide +kernel
theorem dX12_nextToken_33 : decode cX12_nextToken 33 = .ok (.putfield 96, 3) := by decide +kernel
theorem dX12_nextToken_36 : decode cX12_nextToken 36 = .ok (.goto (-36), 3) := by decide +kernel
theorem dX12_nextToken_39 : decode cX12_nextToken 39 = .ok (.aload_n 0, 1) := by decide +kernel
theorem dX12_nextToken_40 : decode cX12_nextToken 40 = .ok (.aload_n 0, 1) := by decide +kernel
theorem dX12_nextToken_41 : decode cX12_nextToken 41 = .ok (.getfield 96, 3) := by decide +kernel
theorem dX12_nextToken_44 : decode cX12_nextToken 44 = .ok (.putfield 103, 3) := by decide +kernel
theorem dX12_nextToken_47 : decode cX12_nextToken 47 = .ok (.aload_n 0, 1) := by decide +kernel
theorem dX12_nextToken_48 : decode cX12_nextToken 48 = .ok (.aload_n 0, 1) := by decide +kernel
theorem dX12_nextToken_49 : decode cX12_nextToken 49 = .ok (.getfield 96, 3) := by decide +kernel
theorem dX12_nextToken_52 : decode cX12_nextToken 52 = .ok (.invokevirtual 99, 3) := by decide +kernel
theorem dX12_nextToken_55 : decode cX12_nextToken 55 = .ok (.istore_n 1, 1) := by decide +kernel
theorem dX12_nextToken_56 : decode cX12_nextToken 56 = .ok (.iload_n 1, 1) := by decide +kernel
theorem dX12_nextToken_57 : decode cX12_nextToken 57 = .ok (.ifCond .ge 11, 3) := by decide +kernel
theorem dX12_nextToken_60 : decode cX12_nextToken 60 = .ok (.aload_n 0, 1) := by decide +kernel
theorem dX12_nextToken_61 : decode cX12_nextToken 61 = .ok (.iconst 0, 1) := by decide +kernel
theorem dX12_nextToken_62 : decode cX12_nextToken 62 = .ok (.putfield 106, 3) := by decide +kernel
theorem dX12_nextToken_65 : decode cX12_nextToken 65 = .ok (.goto 245, 3) := by decide +kernel
theorem dX12_nextToken_68 : decode cX12_nextToken 68 = .ok (.iload_n 1, 1) := by decide +kernel
theorem dX12_nextToken_69 : decode cX12_nextToken 69 = .ok (.invokestatic 109, 3) := by decide +kernel
theorem dX12_nextToken_72 : decode cX12_nextToken 72 = .ok (.ifCond .eq 79, 3) := by decide +kernel
theorem dX12_nextToken_75 : decode cX12_nextToken 75 = .ok (.aload_n 0, 1) := by decide +kernel
theorem dX12_nextToken_76 : decode cX12_nextToken 76 = .ok (.iconst 1, 1) := by decide +kernel
theorem dX12_nextToken_77 : decode cX12_nextToken 77 = .ok (.putfield 106, 3) := by decide +kernel
theorem dX12_nextToken_80 : decode cX12_nextToken 80 = .ok (.aload_n 0, 1) := by decide +kernel
theorem dX12_nextToken_81 : decode cX12_nextToken 81 = .ok (.iconst 0, 1) := by decide +kernel
theorem dX12_nextToken_82 : decode cX12_nextToken 82 = .ok (.putfield 112, 3) := by decide +kernel
theorem dX12_nextToken_85 : decode cX12_nextToken 85 = .ok (.aload_n 0, 1) := by decide +kernel
theorem dX12_nextToken_86 : decode cX12_nextToken 86 = .ok (.aload_n 0, 1) := by decide +kernel
theorem dX12_nextToken_87 : decode cX12_nextToken 87 = .ok (.getfield 96, 3) := by decide +kernel
theorem dX12_nextToken_90 : decode cX12_nextToken 90 = .ok (.invokevirtual 99, 3) := by decide +kernel
theorem dX12_nextToken_93 : decode cX12_nextToken 93 = .ok (.invokestatic 109, 3) := by decide +kernel
theorem dX12_nextToken_96 : decode cX12_nextToken 96 = .ok (.ifCond .eq 214, 3) := by decide +kernel
theorem dX12_nextToken_99 : decode cX12_nextToken 99 = .ok (.aload_n 0, 1) := by decide +kernel
theorem dX12_nextToken_100 : decode cX12_nextToken 100 = .ok (.aload_n 0, 1) := by decide +kernel
theorem dX12_nextToken_101 : decode cX12_nextToken 101 = .ok (.getfield 112, 3) := by decide +kernel
theorem dX12_nextToken_104 : decode cX12_nextToken 104 = .ok (.ldc 115, 2) := by decide +kernel
theorem dX12_nextToken_106 : decode cX12_nextToken 106 = .ok (.if_icmp .le 10, 3) := by decide +kernel
theorem dX12_nextToken_109 : decode cX12_nextToken 109 = .ok (.aload_n 0, 1) := by decide +kernel
theorem dX12_nextToken_110 : decode cX12_nextToken 110 = .ok (.getfield 112, 3) := by decide +kernel
theorem dX12_nextToken_113 : decode cX12_nextToken 113 = .ok (.goto 22, 3) := by decide +kernel
theorem dX12_nextToken_116 : decode cX12_nextToken 116 = .ok (.bipush 10, 2) := by decide +kernel
theorem dX12_nextToken_118 : decode cX12_nextToken 118 = .ok (.aload_n 0, 1) := by decide +kernel
theorem dX12_nextToken_119 : decode cX12_nextToken 119 = .ok (.getfield 112, 3) := by decide +kernel
theorem dX12_nextToken_122 : decode cX12_nextToken 122 = .ok (.imul, 1) := by decide +kernel
theorem dX12_nextToken_123 : decode cX12_nextToken 123 = .ok (.aload_n 0, 1) := by decide +kernel
theorem dX12_nextToken_124 : decode cX12_nextToken 124 = .ok (.aload_n 0, 1) := by decide +kernel
theorem dX12_nextToken_125 : decode cX12_nextToken 125 = .ok (.getfield 96, 3) := by decide +kernel
theorem dX12_nextToken_128 : decode cX12_nextToken 128 = .ok (.invokevirtual 99, 3) := by decide +kernel
theorem dX12_nextToken_131 : decode cX12_nextToken 131 = .ok (.iadd, 1) := by decide +kernel
theorem dX12_nextToken_132 : decode cX12_nextToken 132 = .ok (.bipush 48, 2) := by decide +kernel
theorem dX12_nextToken_134 : decode cX12_nextToken 134 = .ok (.isub, 1) := by decide +kernel
theorem dX12_nextToken_135 : decode cX12_nextToken 135 = .ok (.putfield 112, 3) := by decide +kernel
theorem dX12_nextToken_138 : decode cX12_nextToken 138 = .ok (.aload_n 0, 1) := by decide +kernel
theorem dX12_nextToken_139 : decode cX12_nextToken 139 = .ok (.dup, 1) := by decide +kernel
theorem dX12_nextToken_140 : decode cX12_nextToken 140 = .ok (.getfield 96, 3) := by decide +kernel
theorem dX12_nextToken_143 : decode cX12_nextToken 143 = .ok (.iconst 1, 1) := by decide +kernel
theorem dX12_nextToken_144 : decode cX12_nextToken 144 = .ok (.iadd, 1) := by decide +kernel
theorem dX12_nextToken_145 : decode cX12_nextToken 145 = .ok (.putfield 96, 3) := by decide +kernel
theorem dX12_nextToken_148 : decode cX12_nextToken 148 = .ok (.goto (-63), 3) := by decide +kernel
theorem dX12_nextToken_151 : decode cX12_nextToken 151 = .ok (.iload_n 1, 1) := by decide +kernel
theorem dX12_nextToken_152 : decode cX12_nextToken 152 = .ok (.invokestatic 116, 3) := by decide +kernel
theorem dX12_nextToken_155 : decode cX12_nextToken 155 = .ok (.ifCond .eq 79, 3) := by decide +kernel
theorem dX12_nextToken_158 : decode cX12_nextToken 158 = .ok (.aload_n 0, 1) := by decide +kernel
theorem dX12_nextToken_159 : decode cX12_nextToken 159 = .ok (.iconst 2, 1) := by decide +kernel
theorem dX12_nextToken_160 : decode cX12_nextToken 160 = .ok (.putfield 106, 3) := by decide +kernel
theorem dX12_nextToken_163 : decode cX12_nextToken 163 = .ok (.aload_n 0, 1) := by decide +kernel
theorem dX12_nextToken_164 : decode cX12_nextToken 164 = .ok (.lconst 0, 1) := by decide +kernel
theorem dX12_nextToken_165 : decode cX12_nextToken 165 = .ok (.putfield 119, 3) := by decide +kernel
theorem dX12_nextToken_168 : decode cX12_nextToken 168 = .ok (.aload_n 0, 1) := by decide +kernel
theorem dX12_nextToken_169 : decode cX12_nextToken 169 = .ok (.aload_n 0, 1) := by decide +kernel
theorem dX12_nextToken_170 : decode cX12_nextToken 170 = .ok (.getfield 96, 3) := by decide +kernel
theorem dX12_nextToken_173 : decode cX12_nextToken 173 = .ok (.invokevirtual 99, 3) := by decide +kernel
theorem dX12_nextToken_176 : decode cX12_nextToken 176 = .ok (.invokestatic 116, 3) := by decide +kernel
theorem dX12_nextToken_179 : decode cX12_nextToken 179 = .ok (.ifCond .eq 131, 3) := by decide +kernel
theorem dX12_nextToken_182 : decode cX12_nextToken 182 = .ok (.aload_n 0, 1) := by decide +kernel
theorem dX12_nextToken_183 : decode cX12_nextToken 183 = .ok (.aload_n 0, 1) := by decide +kernel
theorem dX12_nextToken_184 : decode cX12_nextToken 184 = .ok (.getfield 119, 3) := by decide +kernel
theorem dX12_nextToken_187 : decode cX12_nextToken 187 = .ok (.bipush 48, 2) := by decide +kernel
theorem dX12_nextToken_189 : decode cX12_nextToken 189 = .ok (.lshr, 1) := by decide +kernel
theorem dX12_nextToken_190 : decode cX12_nextToken 190 = .ok (.lconst 0, 1) := by decide +kernel
theorem dX12_nextToken_191 : decode cX12_nextToken 191 = .ok (.lcmp, 1) := by decide +kernel
theorem dX12_nextToken_192 : decode cX12_nextToken 192 = .ok (.ifCond .eq 9, 3) := by decide +kernel
theorem dX12_nextToken_195 : decode cX12_nextToken 195 = .ok (.ldc2_w 123, 3) := by decide +kernel
theorem dX12_nextToken_198 : decode cX12_nextToken 198 = .ok (.goto 20, 3) := by decide +kernel
theorem dX12_nextToken_201 : decode cX12_nextToken 201 = .ok (.aload_n 0, 1) := by decide +kernel
theorem dX12_nextToken_202 : decode cX12_nextToken 202 = .ok (.getfield 119, 3) := by decide +kernel
theorem dX12_nextToken_205 : decode cX12_nextToken 205 = .ok (.bipush 8, 2) := by decide +kernel
theorem dX12_nextToken_207 : decode cX12_nextToken 207 = .ok (.lshl, 1) := by decide +kernel
theorem dX12_nextToken_208 : decode cX12_nextToken 208 = .ok (.aload_n 0, 1) := by decide +kernel
theorem dX12_nextToken_209 : decode cX12_nextToken 209 = .ok (.aload_n 0, 1) := by decide +kernel
theorem dX12_nextToken_210 : decode cX12_nextToken 210 = .ok (.getfield 96, 3) := by decide +kernel
theorem dX12_nextToken_213 : decode cX12_nextToken 213 = .ok (.invokevirtual 99, 3) := by decide +kernel
theorem dX12_nextToken_216 : decode cX12_nextToken 216 = .ok (.i2l, 1) := by decide +kernel
theorem dX12_nextToken_217 : decode cX12_nextToken 217 = .ok (.lor, 1) := by decide +kernel
theorem dX12_nextToken_218 : decode cX12_nextToken 218 = .ok (.putfield 119, 3) := by decide +kernel
theorem dX12_nextToken_221 : decode cX12_nextToken 221 = .ok (.aload_n 0, 1) := by decide +kernel
theorem dX12_nextToken_222 : decode cX12_nextToken 222 = .ok (.dup, 1) := by decide +kernel
theorem dX12_nextToken_223 : decode cX12_nextToken 223 = .ok (.getfield 96, 3) := by decide +kernel
theorem dX12_nextToken_226 : decode cX12_nextToken 226 = .ok (.iconst 1, 1) := by decide +kernel
theorem dX12_nextToken_227 : decode cX12_nextToken 227 = .ok (.iadd, 1) := by decide +kernel
theorem dX12_nextToken_228 : decode cX12_nextToken 228 = .ok (.putfield 96, 3) := by decide +kernel
theorem dX12_nextToken_231 : decode cX12_nextToken 231 = .ok (.goto (-63), 3) := by decide +kernel
theorem dX12_nextToken_234 : decode cX12_nextToken 234 = .ok (.aload_n 0, 1) := by decide +kernel
theorem dX12_nextToken_235 : decode cX12_nextToken 235 = .ok (.iload_n 1, 1) := by decide +kernel
theorem dX12_nextToken_236 : decode cX12_nextToken 236 = .ok (.invokestatic 125, 3) := by decide +kernel
theorem dX12_nextToken_239 : decode cX12_nextToken 239 = .ok (.ifCond .eq 7, 3) := by decide +kernel
theorem dX12_nextToken_242 : decode cX12_nextToken 242 = .ok (.iload_n 1, 1) := by decide +kernel
theorem dX12_nextToken_243 : decode cX12_nextToken 243 = .ok (.goto 4, 3) := by decide +kernel
theorem dX12_nextToken_246 : decode cX12_nextToken 246 = .ok (.iconst 3, 1) := by decide +kernel
theorem dX12_nextToken_247 : decode cX12_nextToken 247 = .ok (.putfield 106, 3) := by decide +kernel
theorem dX12_nextToken_250 : decode cX12_nextToken 250 = .ok (.aload_n 0, 1) := by decide +kernel
theorem dX12_nextToken_251 : decode cX12_nextToken 251 = .ok (.dup, 1) := by decide +kernel
theorem dX12_nextToken_252 : decode cX12_nextToken 252 = .ok (.getfield 96, 3) := by decide +kernel
theorem dX12_nextToken_255 : decode cX12_nextToken 255 = .ok (.iconst 1, 1) := by decide +kernel
theorem dX12_nextToken_256 : decode cX12_nextToken 256 = .ok (.iadd, 1) := by decide +kernel
theorem dX12_nextToken_257 : decode cX12_nextToken 257 = .ok (.putfield 96, 3) := by decide +kernel
theorem dX12_nextToken_260 : decode cX12_nextToken 260 = .ok (.iload_n 1, 1) := by decide +kernel
theorem dX12_nextToken_261 : decode cX12_nextToken 261 = .ok (.bipush 60, 2) := by decide +kernel
theorem dX12_nextToken_263 : decode cX12_nextToken 263 = .ok (.if_icmp .eq 9, 3) := by decide +kernel
theorem dX12_nextToken_266 : decode cX12_nextToken 266 = .ok (.iload_n 1, 1) := by decide +kernel
theorem dX12_nextToken_267 : decode cX12_nextToken 267 = .ok (.bipush 62, 2) := by decide +kernel
theorem dX12_nextToken_269 : decode cX12_nextToken 269 = .ok (.if_icmp .ne 41, 3) := by decide +kernel
theorem dX12_nextToken_272 : decode cX12_nextToken 272 = .ok (.aload_n 0, 1) := by decide +kernel
theorem dX12_nextToken_273 : decode cX12_nextToken 273 = .ok (.aload_n 0, 1) := by decide +kernel
theorem dX12_nextToken_274 : decode cX12_nextToken 274 = .ok (.getfield 96, 3) := by decide +kernel
theorem dX12_nextToken_277 : decode cX12_nextToken 277 = .ok (.invokevirtual 99, 3) := by decide +kernel
theorem dX12_nextToken_280 : decode cX12_nextToken 280 = .ok (.bipush 61, 2) := by decide +kernel
theorem dX12_nextToken_282 : decode cX12_nextToken 282 = .ok (.if_icmp .ne 28, 3) := by decide +kernel
theorem dX12_nextToken_285 : decode cX12_nextToken 285 = .ok (.aload_n 0, 1) := by decide +kernel
theorem dX12_nextToken_286 : decode cX12_nextToken 286 = .ok (.iload_n 1, 1) := by decide +kernel
theorem dX12_nextToken_287 : decode cX12_nextToken 287 = .ok (.bipush 60, 2) := by decide +kernel
theorem dX12_nextToken_289 : decode cX12_nextToken 289 = .ok (.if_icmp .ne 7, 3) := by decide +kernel
theorem dX12_nextToken_292 : decode cX12_nextToken 292 = .ok (.iconst 4, 1) := by decide +kernel
theorem dX12_nextToken_293 : decode cX12_nextToken 293 = .ok (.goto 4, 3) := by decide +kernel
theorem dX12_nextToken_296 : decode cX12_nextToken 296 = .ok (.iconst 5, 1) := by decide +kernel
theorem dX12_nextToken_297 : decode cX12_nextToken 297 = .ok (.putfield 106, 3) := by decide +kernel
theorem dX12_nextToken_300 : decode cX12_nextToken 300 = .ok (.aload_n 0, 1) := by decide +kernel
theorem dX12_nextToken_301 : decode cX12_nextToken 301 = .ok (.dup, 1) := by decide +kernel
theorem dX12_nextToken_302 : decode cX12_nextToken 302 = .ok (.getfield 96, 3) := by decide +kernel
theorem dX12_nextToken_305 : decode cX12_nextToken 305 = .ok (.iconst 1, 1) := by decide +kernel
theorem dX12_nextToken_306 : decode cX12_nextToken 306 = .ok (.iadd, 1) := by decide +kernel
theorem dX12_nextToken_307 : decode cX12_nextToken 307 = .ok (.putfield 96, 3) := by decide +kernel
theorem dX12_nextToken_310 : decode cX12_nextToken 310 = .ok (.return_, 1) := by decide +kernel
def f_X12_nextToken_26 (N : Nat) (k_0 : (Nat → Int32) → Int32 → Int32 → Int32 → Int32 → Int32 → Int64 → Option (Int32 × Int32 × Int32 × Int32 × Int64)) (v_tape : Nat → Int32) (v_taped : Int32) (v_at : Int32) (v_place : Int32) (v_token : Int32) (v_number : Int32) (v_word : Int64) : Option (Int32 × Int32 × Int32 × Int32 × Int64) := k_0 v_tape v_taped (v_at + (1 : Int32)) v_place v_token v_number v_word
def f_X12_nextToken_297 (N : Nat) (v_tape : Nat → Int32) (v_taped : Int32) (v_at : Int32) (v_place : Int32) (v_token : Int32) (v_number : Int32) (v_word : Int64) (s1 : Int32) : Option (Int32 × Int32 × Int32 × Int32 × Int64) := some ((v_at + (1 : Int32)), v_place, s1, v_number, v_word)
def f_X12_nextToken_272 (N : Nat) (v_tape : Nat → Int32) (v_taped : Int32) (v_at : Int32) (v_place : Int32) (v_token : Int32) (v_number : Int32) (v_word : Int64) (x1 : Int32) : Option (Int32 × Int32 × Int32 × Int32 × Int64) := ob1 (f_X12_byteAt N v_tape v_taped v_at) fun r277 => if r277 = (61 : Int32) then (if x1 = (60 : Int32) then (f_X12_nextToken_297 N v_tape v_taped v_at v_place v_token v_number v_word (4 : Int32)) else (f_X12_nextToken_297 N v_tape v_taped v_at v_place v_token v_number v_word (5 : Int32))) else (some (v_at, v_place, v_token, v_number, v_word))
def f_X12_nextToken_247 (N : Nat) (v_tape : Nat → Int32) (v_taped : Int32) (v_at : Int32) (v_place : Int32) (v_token : Int32) (v_number : Int32) (v_word : Int64) (x1 : Int32) (s1 : Int32) : Option (Int32 × Int32 × Int32 × Int32 × Int64) := if x1 = (60 : Int32) then (f_X12_nextToken_272 N v_tape v_taped (v_at + (1 : Int32)) v_place s1 v_number v_word x1) else (if x1 = (62 : Int32) then (f_X12_nextToken_272 N v_tape v_taped (v_at + (1 : Int32)) v_place s1 v_number v_word x1) else (some ((v_at + (1 : Int32)), v_place, s1, v_number, v_word)))
def f_X12_nextToken_218 (N : Nat) (k_168 : (Nat → Int32) → Int32 → Int32 → Int32 → Int32 → Int32 → Int64 → Option (Int32 × Int32 × Int32 × Int32 × Int64)) (v_tape : Nat → Int32) (v_taped : Int32) (v_at : Int32) (v_place : Int32) (v_token : Int32) (v_number : Int32) (v_word : Int64) (s1 : Int64) : Option (Int32 × Int32 × Int32 × Int32 × Int64) := k_168 v_tape v_taped (v_at + (1 : Int32)) v_place v_token v_number s1
def f_X12_nextToken_168 (N : Nat) : Nat → (Nat → Int32) → Int32 → Int32 → Int32 → Int32 → Int32 → Int64 → Option (Int32 × Int32 × Int32 × Int32 × Int64)
  | 0, _, _, _, _, _, _, _ => none
  | n + 1, v_tape, v_taped, v_at, v_place, v_token, v_number, v_word => ob1 (f_X12_byteAt N v_tape v_taped v_at) fun r173 => ob1 (f_X12_isLetterByte N r173) fun r176 => if r176 = 0 then (some (v_at, v_place, v_token, v_number, v_word)) else (if (lg_cmp (v_word >>> ((48 : Int32).toInt64 &&& 63)) (0 : Int64)) = 0 then (ob1 (f_X12_byteAt N v_tape v_taped v_at) fun r213 => f_X12_nextToken_218 N (f_X12_nextToken_168 N n) v_tape v_taped v_at v_place v_token v_number v_word ((v_word <<< ((8 : Int32).toInt64 &&& 63)) ||| r213.toInt64)) else (f_X12_nextToken_218 N (f_X12_nextToken_168 N n) v_tape v_taped v_at v_place v_token v_number v_word (1152921504606846976 : Int64)))
def f_X12_nextToken_135 (N : Nat) (k_85 : (Nat → Int32) → Int32 → Int32 → Int32 → Int32 → Int32 → Int64 → Option (Int32 × Int32 × Int32 × Int32 × Int64)) (v_tape : Nat → Int32) (v_taped : Int32) (v_at : Int32) (v_place : Int32) (v_token : Int32) (v_number : Int32) (v_word : Int64) (s1 : Int32) : Option (Int32 × Int32 × Int32 × Int32 × Int64) := k_85 v_tape v_taped (v_at + (1 : Int32)) v_place v_token s1 v_word
def f_X12_nextToken_85 (N : Nat) : Nat → (Nat → Int32) → Int32 → Int32 → Int32 → Int32 → Int32 → Int64 → Option (Int32 × Int32 × Int32 × Int32 × Int64)
  | 0, _, _, _, _, _, _, _ => none
  | n + 1, v_tape, v_taped, v_at, v_place, v_token, v_number, v_word => ob1 (f_X12_byteAt N v_tape v_taped v_at) fun r90 => ob1 (f_X12_isFigure N r90) fun r93 => if r93 = 0 then (some (v_at, v_place, v_token, v_number, v_word)) else (if v_number ≤ (99999 : Int32) then (ob1 (f_X12_byteAt N v_tape v_taped v_at) fun r128 => f_X12_nextToken_135 N (f_X12_nextToken_85 N n) v_tape v_taped v_at v_place v_token v_number v_word ((((10 : Int32) * v_number) + r128) - (48 : Int32))) else (f_X12_nextToken_135 N (f_X12_nextToken_85 N n) v_tape v_taped v_at v_place v_token v_number v_word v_number))
def f_X12_nextToken_0 (N : Nat) : Nat → (Nat → Int32) → Int32 → Int32 → Int32 → Int32 → Int32 → Int64 → Option (Int32 × Int32 × Int32 × Int32 × Int64)
  | 0, _, _, _, _, _, _, _ => none
  | n + 1, v_tape, v_taped, v_at, v_place, v_token, v_number, v_word => ob1 (f_X12_byteAt N v_tape v_taped v_at) fun r5 => if r5 = (32 : Int32) then (f_X12_nextToken_26 N (f_X12_nextToken_0 N n) v_tape v_taped v_at v_place v_token v_number v_word) else (ob1 (f_X12_byteAt N v_tape v_taped v_at) fun r18 => if r18 = (10 : Int32) then (f_X12_nextToken_26 N (f_X12_nextToken_0 N n) v_tape v_taped v_at v_place v_token v_number v_word) else (ob1 (f_X12_byteAt N v_tape v_taped v_at) fun r52 => if 0 ≤ r52 then (ob1 (f_X12_isFigure N r52) fun r69 => if r69 = 0 then (ob1 (f_X12_isLetterByte N r52) fun r152 => if r152 = 0 then (ob1 (f_X12_isSign N r52) fun r236 => if r236 = 0 then (f_X12_nextToken_247 N v_tape v_taped v_at v_at v_token v_number v_word r52 (3 : Int32)) else (f_X12_nextToken_247 N v_tape v_taped v_at v_at v_token v_number v_word r52 r52)) else (f_X12_nextToken_168 N N v_tape v_taped v_at v_at (2 : Int32) v_number (0 : Int64))) else (f_X12_nextToken_85 N N v_tape v_taped v_at v_at (1 : Int32) (0 : Int32) v_word)) else (some (v_at, v_at, (0 : Int32), v_number, v_word))))
def f_X12_nextToken (N : Nat) (v_tape : Nat → Int32) (v_taped : Int32) (v_at : Int32) (v_place : Int32) (v_token : Int32) (v_number : Int32) (v_word : Int64) : Option (Int32 × Int32 × Int32 × Int32 × Int64) := f_X12_nextToken_0 N N v_tape v_taped v_at v_place v_token v_number v_word
set_option maxHeartbeats 4000000 in
set_option maxRecDepth 100000 in
theorem k_X12_nextToken (l : Launch) (N : Nat) (D : va_G) (cI cJ cZ cB cT : ClassId) (h : Nat) (q : Nat → Nat) (v_a : Nat → Int32) (v_image : Nat → Int32) (v_texts : Nat → Int32) (v_tape : Nat → Int32) (v_taped : Int32) (v_fault : Int32) (v_faultPlace : Int32) (v_at : Int32) (v_place : Int32) (v_token : Int32) (v_number : Int32) (v_word : Int64) (v_text0 : Int32) (v_written : Int32) (v_sort0 : Int32) (v_pile : Nat → Int32) (v_piled : Int32) (v_opens : Int32) (v_isWhole : Int32) (v_once : Int32) (v_named : Nat → Int32) (v_values : Nat → Int64) (v_truth : Nat → Int32) (v_isWritten : Int32) (v_died : Int32) (v_aside : Nat → Int32) (v_likely : Nat → Int32) (v_safe : Nat → Int32) (v_headOf : Nat → Int32) (o_v_at : Int32) (o_v_place : Int32) (o_v_token : Int32) (o_v_number : Int32) (o_v_word : Int64) (hf : f_X12_nextToken N v_tape v_taped v_at v_place v_token v_number v_word = some (o_v_at, o_v_place, o_v_token, o_v_number, o_v_word)) : ∀ sz, Met l yX12_nextToken (mw yX12_nextToken cX12_nextToken 2 none) ({ frames := 1, cells := 0, slots := 0, locals := 21 } : Room) (mPre D (mT cI cJ cZ cB cT) (WM h q cI cJ cZ v_a v_image v_texts v_tape v_taped v_fault v_faultPlace v_at v_place v_token v_number v_word v_text0 v_written v_sort0 v_pile v_piled v_opens v_isWhole v_once v_named v_values v_truth v_isWritten v_died v_aside v_likely v_safe v_headOf) sz [.ref h]) ((mQv D (WM h q cI cJ cZ v_a v_image v_texts v_tape v_taped v_fault v_faultPlace o_v_at o_v_place o_v_token o_v_number o_v_word v_text0 v_written v_sort0 v_pile v_piled v_opens v_isWhole v_once v_named v_values v_truth v_isWritten v_died v_aside v_likely v_safe v_headOf)) (va_A (WM h q cI cJ cZ v_a v_image v_texts v_tape v_taped v_fault v_faultPlace v_at v_place v_token v_number v_word v_text0 v_written v_sort0 v_pile v_piled v_opens v_isWhole v_once v_named v_values v_truth v_isWritten v_died v_aside v_likely v_safe v_headOf) sz)) 0 0 (va_A (WM h q cI cJ cZ v_a v_image v_texts v_tape v_taped v_fault v_faultPlace v_at v_place v_token v_number v_word v_text0 v_written v_sort0 v_pile v_piled v_opens v_isWhole v_once v_named v_values v_truth v_isWritten v_died v_aside v_likely v_safe v_headOf) sz) := by
  refine mMet (Qc := (mQv D (WM h q cI cJ cZ v_a v_image v_texts v_tape v_taped v_fault v_faultPlace o_v_at o_v_place o_v_token o_v_number o_v_word v_text0 v_written v_sort0 v_pile v_piled v_opens v_isWhole v_once v_named v_values v_truth v_isWritten v_died v_aside v_likely v_safe v_headOf))) (by decide) (Nat.le_of_ble_eq_true rfl) (fun p e s m below meth c A ls hx hb hr hml hts hown hlocks hK hA hP hD hl => ?_)
  have hown : s.vm.findClass RX12 = some m.cls := hown
  have hl : lv_has ls 2 [(0, .ref h)] := hl
  have hS : va_S A s.heap s.heap [] := va_S.rf
  have b297 : ∀ (v_at : Int32) (v_place : Int32) (v_token : Int32) (v_number : Int32) (v_word : Int64) (s1 : Int32) (H : Heap) (locs : List Loc) (ls : Array Slot), f_X12_nextToken_297 N v_tape v_taped v_at v_place v_token v_number v_word s1 = some (o_v_at, o_v_place, o_v_token, o_v_number, o_v_word) → va_P D vwCl (WM h q cI cJ cZ v_a v_image v_texts v_tape v_taped v_fault v_faultPlace v_at v_place v_token v_number v_word v_text0 v_written v_sort0 v_pile v_piled v_opens v_isWhole v_once v_named v_values v_truth v_isWritten v_died v_aside v_likely v_safe v_headOf) H → va_D A (WM h q cI cJ cZ v_a v_image v_texts v_tape v_taped v_fault v_faultPlace v_at v_place v_token v_number v_word v_text0 v_written v_sort0 v_pile v_piled v_opens v_isWhole v_once v_named v_values v_truth v_isWritten v_died v_aside v_likely v_safe v_headOf) → va_S A s.heap H locs → lv_has ls 2 [(0, .ref h)] → W p l e ({ frames := 1, cells := 0, slots := 0, locals := 21 } : Room) s m ([.ref h] : List Value).toArray below meth c H locs 0 0 (MQ below ((mQv D (WM h q cI cJ cZ v_a v_image v_texts v_tape v_taped v_fault v_faultPlace o_v_at o_v_place o_v_token o_v_number o_v_word v_text0 v_written v_sort0 v_pile v_piled v_opens v_isWhole v_once v_named v_values v_truth v_isWritten v_died v_aside v_likely v_safe v_headOf)) A) ([.ref h] : List Value).toArray s 0 0 A) (F0 m 297 ls [.int s1, .ref h]) := by
    intro v_at v_place v_token v_number v_word s1 H locs ls hf hP hD hS hl
    unfold f_X12_nextToken_297 at hf
    refine pfX12_106 hx hb hts hown hK hP hD hS 0 rfl (Nat.le_of_ble_eq_true rfl) dX12_nextToken_297 (fun H locs hP hD hS => ?_)
    have hP : va_P D vwCl (WM h q cI cJ cZ v_a v_image v_texts v_tape v_taped v_fault v_faultPlace v_at v_place s1 v_number v_word v_text0 v_written v_sort0 v_pile v_piled v_opens v_isWhole v_once v_named v_values v_truth v_isWritten v_died v_aside v_likely v_safe v_headOf) H := hP
    have hD : va_D A (WM h q cI cJ cZ v_a v_image v_texts v_tape v_taped v_fault v_faultPlace v_at v_place s1 v_number v_word v_text0 v_written v_sort0 v_pile v_piled v_opens v_isWhole v_once v_named v_values v_truth v_isWritten v_died v_aside v_likely v_safe v_headOf) := hD
    refine lv_aload_n hx hb dX12_nextToken_300 rfl (lv_at hl 0 rfl) ?_
    refine lv_dup hx hb dX12_nextToken_301 rfl ?_
    refine gfX12_96 hx hb hts hown hK hP 0 rfl rfl dX12_nextToken_302 ?_
    refine lv_iconst (v := (1 : Int32)) hx hb dX12_nextToken_305 (by decide) ?_
    refine lv_iadd hx hb dX12_nextToken_306 ?_
    refine pfX12_96 hx hb hts hown hK hP hD hS 0 rfl (Nat.le_of_ble_eq_true rfl) dX12_nextToken_307 (fun H locs hP hD hS => ?_)
    have hP : va_P D vwCl (WM h q cI cJ cZ v_a v_image v_texts v_tape v_taped v_fault v_faultPlace (v_at + (1 : Int32)) v_place s1 v_number v_word v_text0 v_written v_sort0 v_pile v_piled v_opens v_isWhole v_once v_named v_values v_truth v_isWritten v_died v_aside v_likely v_safe v_headOf) H := hP
    have hD : va_D A (WM h q cI cJ cZ v_a v_image v_texts v_tape v_taped v_fault v_faultPlace (v_at + (1 : Int32)) v_place s1 v_number v_word v_text0 v_written v_sort0 v_pile v_piled v_opens v_isWhole v_once v_named v_values v_truth v_isWritten v_died v_aside v_likely v_safe v_headOf) := hD
    cases hf
    exact mret_v hx hb hr hlocks hP hD hS dX12_nextToken_310
  have b272 : ∀ (v_at : Int32) (v_place : Int32) (v_token : Int32) (v_number : Int32) (v_word : Int64) (x1 : Int32) (H : Heap) (locs : List Loc) (ls : Array Slot), f_X12_nextToken_272 N v_tape v_taped v_at v_place v_token v_number v_word x1 = some (o_v_at, o_v_place, o_v_token, o_v_number, o_v_word) → va_P D vwCl (WM h q cI cJ cZ v_a v_image v_texts v_tape v_taped v_fault v_faultPlace v_at v_place v_token v_number v_word v_text0 v_written v_sort0 v_pile v_piled v_opens v_isWhole v_once v_named v_values v_truth v_isWritten v_died v_aside v_likely v_safe v_headOf) H → va_D A (WM h q cI cJ cZ v_a v_image v_texts v_tape v_taped v_fault v_faultPlace v_at v_place v_token v_number v_word v_text0 v_written v_sort0 v_pile v_piled v_opens v_isWhole v_once v_named v_values v_truth v_isWritten v_died v_aside v_likely v_safe v_headOf) → va_S A s.heap H locs → lv_has ls 2 [(0, .ref h), (1, .int x1)] → W p l e ({ frames := 1, cells := 0, slots := 0, locals := 21 } : Room) s m ([.ref h] : List Value).toArray below meth c H locs 0 0 (MQ below ((mQv D (WM h q cI cJ cZ v_a v_image v_texts v_tape v_taped v_fault v_faultPlace o_v_at o_v_place o_v_token o_v_number o_v_word v_text0 v_written v_sort0 v_pile v_piled v_opens v_isWhole v_once v_named v_values v_truth v_isWritten v_died v_aside v_likely v_safe v_headOf)) A) ([.ref h] : List Value).toArray s 0 0 A) (F0 m 272 ls []) := by
    intro v_at v_place v_token v_number v_word x1 H locs ls hf hP hD hS hl
    unfold f_X12_nextToken_272 at hf
    refine lv_aload_n hx hb dX12_nextToken_272 rfl (lv_at hl 0 rfl) ?_
    refine lv_aload_n hx hb dX12_nextToken_273 rfl (lv_at hl 0 rfl) ?_
    refine gfX12_96 hx hb hts hown hK hP 0 rfl rfl dX12_nextToken_274 ?_
    obtain ⟨r277, hg277, hf⟩ := ob1_some hf
    refine mcV1_i (As := [.int v_at]) (rest := []) hx hb hml hown hts hK hP hD hS hA (k_X12_byteAt l N D cI cJ cZ cB cT h q v_a v_image v_texts v_tape v_taped v_fault v_faultPlace v_at v_place v_token v_number v_word v_text0 v_written v_sort0 v_pile v_piled v_opens v_isWhole v_once v_named v_values v_truth v_isWritten v_died v_aside v_likely v_safe v_headOf v_at r277 hg277) (kwX12_99 hts rfl rfl ⟨Nat.le_of_ble_eq_true rfl, Nat.le_of_ble_eq_true rfl⟩) 0 rfl rfl rfl rfl hl.1 rfl (Nat.le_of_ble_eq_true rfl) dX12_nextToken_277 ⟨Nat.zero_le _, Nat.zero_le _⟩ (fun hB277 H locs hP hD hS => ?_)
    have hP : va_P D vwCl (WM h q cI cJ cZ v_a v_image v_texts v_tape v_taped v_fault v_faultPlace v_at v_place v_token v_number v_word v_text0 v_written v_sort0 v_pile v_piled v_opens v_isWhole v_once v_named v_values v_truth v_isWritten v_died v_aside v_likely v_safe v_headOf) H := hP
    have hD : va_D A (WM h q cI cJ cZ v_a v_image v_texts v_tape v_taped v_fault v_faultPlace v_at v_place v_token v_number v_word v_text0 v_written v_sort0 v_pile v_piled v_opens v_isWhole v_once v_named v_values v_truth v_isWritten v_died v_aside v_likely v_safe v_headOf) := hD
    refine lv_bipush (v := (61 : Int32)) hx hb dX12_nextToken_280 (by decide) ?_
    refine xicmp_ne hx hb 310 dX12_nextToken_282 (by decide) hf (fun hf => ?_) (fun hf => ?_)
    · refine lv_aload_n hx hb dX12_nextToken_285 rfl (lv_at hl 0 rfl) ?_
      refine lv_iload_n hx hb dX12_nextToken_286 rfl (lv_at hl 1 rfl) ?_
      refine lv_bipush (v := (60 : Int32)) hx hb dX12_nextToken_287 (by decide) ?_
      refine xicmp_ne hx hb 296 dX12_nextToken_289 (by decide) hf (fun hf => ?_) (fun hf => ?_)
      · refine lv_iconst (v := (4 : Int32)) hx hb dX12_nextToken_292 (by decide) ?_
        refine lv_goto (tgt := 297) hx hb dX12_nextToken_293 (by decide) ?_
        exact b297 v_at v_place v_token v_number v_word (4 : Int32) _ _ _ hf hP hD hS (lv_sub hl [0] rfl)
      · refine lv_iconst (v := (5 : Int32)) hx hb dX12_nextToken_296 (by decide) ?_
        exact b297 v_at v_place v_token v_number v_word (5 : Int32) _ _ _ hf hP hD hS (lv_sub hl [0] rfl)
    · cases hf
      exact mret_v hx hb hr hlocks hP hD hS dX12_nextToken_310
  have b247 : ∀ (v_at : Int32) (v_place : Int32) (v_token : Int32) (v_number : Int32) (v_word : Int64) (x1 : Int32) (s1 : Int32) (H : Heap) (locs : List Loc) (ls : Array Slot), f_X12_nextToken_247 N v_tape v_taped v_at v_place v_token v_number v_word x1 s1 = some (o_v_at, o_v_place, o_v_token, o_v_number, o_v_word) → va_P D vwCl (WM h q cI cJ cZ v_a v_image v_texts v_tape v_taped v_fault v_faultPlace v_at v_place v_token v_number v_word v_text0 v_written v_sort0 v_pile v_piled v_opens v_isWhole v_once v_named v_values v_truth v_isWritten v_died v_aside v_likely v_safe v_headOf) H → va_D A (WM h q cI cJ cZ v_a v_image v_texts v_tape v_taped v_fault v_faultPlace v_at v_place v_token v_number v_word v_text0 v_written v_sort0 v_pile v_piled v_opens v_isWhole v_once v_named v_values v_truth v_isWritten v_died v_aside v_likely v_safe v_headOf) → va_S A s.heap H locs → lv_has ls 2 [(0, .ref h), (1, .int x1)] → W p l e ({ frames := 1, cells := 0, slots := 0, locals := 21 } : Room) s m ([.ref h] : List Value).toArray below meth c H locs 0 0 (MQ below ((mQv D (WM h q cI cJ cZ v_a v_image v_texts v_tape v_taped v_fault v_faultPlace o_v_at o_v_place o_v_token o_v_number o_v_word v_text0 v_written v_sort0 v_pile v_piled v_opens v_isWhole v_once v_named v_values v_truth v_isWritten v_died v_aside v_likely v_safe v_headOf)) A) ([.ref h] : List Value).toArray s 0 0 A) (F0 m 247 ls [.int s1, .ref h]) := by
    intro v_at v_place v_token v_number v_word x1 s1 H locs ls hf hP hD hS hl
    unfold f_X12_nextToken_247 at hf
    refine pfX12_106 hx hb hts hown hK hP hD hS 0 rfl (Nat.le_of_ble_eq_true rfl) dX12_nextToken_247 (fun H locs hP hD hS => ?_)
    have hP : va_P D vwCl (WM h q cI cJ cZ v_a v_image v_texts v_tape v_taped v_fault v_faultPlace v_at v_place s1 v_number v_word v_text0 v_written v_sort0 v_pile v_piled v_opens v_isWhole v_once v_named v_values v_truth v_isWritten v_died v_aside v_likely v_safe v_headOf) H := hP
    have hD : va_D A (WM h q cI cJ cZ v_a v_image v_texts v_tape v_taped v_fault v_faultPlace v_at v_place s1 v_number v_word v_text0 v_written v_sort0 v_pile v_piled v_opens v_isWhole v_once v_named v_values v_truth v_isWritten v_died v_aside v_likely v_safe v_headOf) := hD
    refine lv_aload_n hx hb dX12_nextToken_250 rfl (lv_at hl 0 rfl) ?_
    refine lv_dup hx hb dX12_nextToken_251 rfl ?_
    refine gfX12_96 hx hb hts hown hK hP 0 rfl rfl dX12_nextToken_252 ?_
    refine lv_iconst (v := (1 : Int32)) hx hb dX12_nextToken_255 (by decide) ?_
    refine lv_iadd hx hb dX12_nextToken_256 ?_
    refine pfX12_96 hx hb hts hown hK hP hD hS 0 rfl (Nat.le_of_ble_eq_true rfl) dX12_nextToken_257 (fun H locs hP hD hS => ?_)
    have hP : va_P D vwCl (WM h q cI cJ cZ v_a v_image v_texts v_tape v_taped v_fault v_faultPlace (v_at + (1 : Int32)) v_place s1 v_number v_word v_text0 v_written v_sort0 v_pile v_piled v_opens v_isWhole v_once v_named v_values v_truth v_isWritten v_died v_aside v_likely v_safe v_headOf) H := hP
    have hD : va_D A (WM h q cI cJ cZ v_a v_image v_texts v_tape v_taped v_fault v_faultPlace (v_at + (1 : Int32)) v_place s1 v_number v_word v_text0 v_written v_sort0 v_pile v_piled v_opens v_isWhole v_once v_named v_values v_truth v_isWritten v_died v_aside v_likely v_safe v_headOf) := hD
    refine lv_iload_n hx hb dX12_nextToken_260 rfl (lv_at hl 1 rfl) ?_
    refine lv_bipush (v := (60 : Int32)) hx hb dX12_nextToken_261 (by decide) ?_
    refine xicmp_eq hx hb 272 dX12_nextToken_263 (by decide) hf (fun hf => ?_) (fun hf => ?_)
    · exact b272 (v_at + (1 : Int32)) v_place s1 v_number v_word x1 _ _ _ hf hP hD hS (lv_sub hl [0, 1] rfl)
    · refine lv_iload_n hx hb dX12_nextToken_266 rfl (lv_at hl 1 rfl) ?_
      refine lv_bipush (v := (62 : Int32)) hx hb dX12_nextToken_267 (by decide) ?_
      refine xicmp_ne hx hb 310 dX12_nextToken_269 (by decide) hf (fun hf => ?_) (fun hf => ?_)
      · exact b272 (v_at + (1 : Int32)) v_place s1 v_number v_word x1 _ _ _ hf hP hD hS (lv_sub hl [0, 1] rfl)
      · cases hf
        exact mret_v hx hb hr hlocks hP hD hS dX12_nextToken_310
  have b168 : ∀ n168 : Nat, ∀ (v_at : Int32) (v_place : Int32) (v_token : Int32) (v_number : Int32) (v_word : Int64) (H : Heap) (locs : List Loc) (ls : Array Slot), f_X12_nextToken_168 N n168 v_tape v_taped v_at v_place v_token v_number v_word = some (o_v_at, o_v_place, o_v_token, o_v_number, o_v_word) → va_P D vwCl (WM h q cI cJ cZ v_a v_image v_texts v_tape v_taped v_fault v_faultPlace v_at v_place v_token v_number v_word v_text0 v_written v_sort0 v_pile v_piled v_opens v_isWhole v_once v_named v_values v_truth v_isWritten v_died v_aside v_likely v_safe v_headOf) H → va_D A (WM h q cI cJ cZ v_a v_image v_texts v_tape v_taped v_fault v_faultPlace v_at v_place v_token v_number v_word v_text0 v_written v_sort0 v_pile v_piled v_opens v_isWhole v_once v_named v_values v_truth v_isWritten v_died v_aside v_likely v_safe v_headOf) → va_S A s.heap H locs → lv_has ls 2 [(0, .ref h)] → W p l e ({ frames := 1, cells := 0, slots := 0, locals := 21 } : Room) s m ([.ref h] : List Value).toArray below meth c H locs 0 0 (MQ below ((mQv D (WM h q cI cJ cZ v_a v_image v_texts v_tape v_taped v_fault v_faultPlace o_v_at o_v_place o_v_token o_v_number o_v_word v_text0 v_written v_sort0 v_pile v_piled v_opens v_isWhole v_once v_named v_values v_truth v_isWritten v_died v_aside v_likely v_safe v_headOf)) A) ([.ref h] : List Value).toArray s 0 0 A) (F0 m 168 ls []) := by
    intro n168
    induction n168 with
    | zero =>
      intro v_at v_place v_token v_number v_word H locs ls hf hP hD hS hl
      simp [f_X12_nextToken_168] at hf
    | succ n168 ih168 =>
      have b218 : ∀ (v_at : Int32) (v_place : Int32) (v_token : Int32) (v_number : Int32) (v_word : Int64) (s1 : Int64) (H : Heap) (locs : List Loc) (ls : Array Slot), f_X12_nextToken_218 N (f_X12_nextToken_168 N n168) v_tape v_taped v_at v_place v_token v_number v_word s1 = some (o_v_at, o_v_place, o_v_token, o_v_number, o_v_word) → va_P D vwCl (WM h q cI cJ cZ v_a v_image v_texts v_tape v_taped v_fault v_faultPlace v_at v_place v_token v_number v_word v_text0 v_written v_sort0 v_pile v_piled v_opens v_isWhole v_once v_named v_values v_truth v_isWritten v_died v_aside v_likely v_safe v_headOf) H → va_D A (WM h q cI cJ cZ v_a v_image v_texts v_tape v_taped v_fault v_faultPlace v_at v_place v_token v_number v_word v_text0 v_written v_sort0 v_pile v_piled v_opens v_isWhole v_once v_named v_values v_truth v_isWritten v_died v_aside v_likely v_safe v_headOf) → va_S A s.heap H locs → lv_has ls 2 [(0, .ref h)] → W p l e ({ frames := 1, cells := 0, slots := 0, locals := 21 } : Room) s m ([.ref h] : List Value).toArray below meth c H locs 0 0 (MQ below ((mQv D (WM h q cI cJ cZ v_a v_image v_texts v_tape v_taped v_fault v_faultPlace o_v_at o_v_place o_v_token o_v_number o_v_word v_text0 v_written v_sort0 v_pile v_piled v_opens v_isWhole v_once v_named v_values v_truth v_isWritten v_died v_aside v_likely v_safe v_headOf)) A) ([.ref h] : List Value).toArray s 0 0 A) (F0 m 218 ls [.long s1, .ref h]) := by
        intro v_at v_place v_token v_number v_word s1 H locs ls hf hP hD hS hl
        unfold f_X12_nextToken_218 at hf
        refine pfX12_119 hx hb hts hown hK hP hD hS 0 rfl (Nat.le_of_ble_eq_true rfl) dX12_nextToken_218 (fun H locs hP hD hS => ?_)
        have hP : va_P D vwCl (WM h q cI cJ cZ v_a v_image v_texts v_tape v_taped v_fault v_faultPlace v_at v_place v_token v_number s1 v_text0 v_written v_sort0 v_pile v_piled v_opens v_isWhole v_once v_named v_values v_truth v_isWritten v_died v_aside v_likely v_safe v_headOf) H := hP
        have hD : va_D A (WM h q cI cJ cZ v_a v_image v_texts v_tape v_taped v_fault v_faultPlace v_at v_place v_token v_number s1 v_text0 v_written v_sort0 v_pile v_piled v_opens v_isWhole v_once v_named v_values v_truth v_isWritten v_died v_aside v_likely v_safe v_headOf) := hD
        refine lv_aload_n hx hb dX12_nextToken_221 rfl (lv_at hl 0 rfl) ?_
        refine lv_dup hx hb dX12_nextToken_222 rfl ?_
        refine gfX12_96 hx hb hts hown hK hP 0 rfl rfl dX12_nextToken_223 ?_
        refine lv_iconst (v := (1 : Int32)) hx hb dX12_nextToken_226 (by decide) ?_
        refine lv_iadd hx hb dX12_nextToken_227 ?_
        refine pfX12_96 hx hb hts hown hK hP hD hS 0 rfl (Nat.le_of_ble_eq_true rfl) dX12_nextToken_228 (fun H locs hP hD hS => ?_)
        have hP : va_P D vwCl (WM h q cI cJ cZ v_a v_image v_texts v_tape v_taped v_fault v_faultPlace (v_at + (1 : Int32)) v_place v_token v_number s1 v_text0 v_written v_sort0 v_pile v_piled v_opens v_isWhole v_once v_named v_values v_truth v_isWritten v_died v_aside v_likely v_safe v_headOf) H := hP
        have hD : va_D A (WM h q cI cJ cZ v_a v_image v_texts v_tape v_taped v_fault v_faultPlace (v_at + (1 : Int32)) v_place v_token v_number s1 v_text0 v_written v_sort0 v_pile v_piled v_opens v_isWhole v_once v_named v_values v_truth v_isWritten v_died v_aside v_likely v_safe v_headOf) := hD
        refine lv_goto (tgt := 168) hx hb dX12_nextToken_231 (by decide) ?_
        exact ih168 (v_at + (1 : Int32)) v_place v_token v_number s1 _ _ _ hf hP hD hS (lv_sub hl [0] rfl)
      intro v_at v_place v_token v_number v_word H locs ls hf hP hD hS hl
      rw [f_X12_nextToken_168.eq_2] at hf
      refine lv_aload_n hx hb dX12_nextToken_168 rfl (lv_at hl 0 rfl) ?_
      refine lv_aload_n hx hb dX12_nextToken_169 rfl (lv_at hl 0 rfl) ?_
      refine gfX12_96 hx hb hts hown hK hP 0 rfl rfl dX12_nextToken_170 ?_
      obtain ⟨r173, hg173, hf⟩ := ob1_some hf
      refine mcV1_i (As := [.int v_at]) (rest := []) hx hb hml hown hts hK hP hD hS hA (k_X12_byteAt l N D cI cJ cZ cB cT h q v_a v_image v_texts v_tape v_taped v_fault v_faultPlace v_at v_place v_token v_number v_word v_text0 v_written v_sort0 v_pile v_piled v_opens v_isWhole v_once v_named v_values v_truth v_isWritten v_died v_aside v_likely v_safe v_headOf v_at r173 hg173) (kwX12_99 hts rfl rfl ⟨Nat.le_of_ble_eq_true rfl, Nat.le_of_ble_eq_true rfl⟩) 0 rfl rfl rfl rfl hl.1 rfl (Nat.le_of_ble_eq_true rfl) dX12_nextToken_173 ⟨Nat.zero_le _, Nat.zero_le _⟩ (fun hB173 H locs hP hD hS => ?_)
      have hP : va_P D vwCl (WM h q cI cJ cZ v_a v_image v_texts v_tape v_taped v_fault v_faultPlace v_at v_place v_token v_number v_word v_text0 v_written v_sort0 v_pile v_piled v_opens v_isWhole v_once v_named v_values v_truth v_isWritten v_died v_aside v_likely v_safe v_headOf) H := hP
      have hD : va_D A (WM h q cI cJ cZ v_a v_image v_texts v_tape v_taped v_fault v_faultPlace v_at v_place v_token v_number v_word v_text0 v_written v_sort0 v_pile v_piled v_opens v_isWhole v_once v_named v_values v_truth v_isWritten v_died v_aside v_likely v_safe v_headOf) := hD
      obtain ⟨r176, hg176, hf⟩ := ob1_some hf
      refine mcS0_i (As := [.int r173]) (rest := []) hx hb hml hown hts hK hP hD hS hA (k_X12_isLetterByte l N D cI cJ cZ cB cT r173 r176 hg176) (kwX12_116 hts rfl rfl ⟨Nat.le_of_ble_eq_true rfl, Nat.le_of_ble_eq_true rfl⟩) rfl hl.1 rfl (Nat.le_of_ble_eq_true rfl) dX12_nextToken_176 ⟨Nat.zero_le _, Nat.zero_le _⟩ (fun hB176 H locs hP hD hS => ?_)
      refine xif_eq hx hb 310 dX12_nextToken_179 (by decide) hf (fun hf => ?_) (fun hf => ?_)
      · cases hf
        exact mret_v hx hb hr hlocks hP hD hS dX12_nextToken_310
      · refine lv_aload_n hx hb dX12_nextToken_182 rfl (lv_at hl 0 rfl) ?_
        refine lv_aload_n hx hb dX12_nextToken_183 rfl (lv_at hl 0 rfl) ?_
        refine gfX12_119 hx hb hts hown hK hP 0 rfl rfl dX12_nextToken_184 ?_
        refine lv_bipush (v := (48 : Int32)) hx hb dX12_nextToken_187 (by decide) ?_
        refine lv_lshr hx hb dX12_nextToken_189 rfl ?_
        refine lv_lconst (v := (0 : Int64)) hx hb dX12_nextToken_190 (by decide) ?_
        refine W.lcmp hx hb dX12_nextToken_191 ?_
        refine xif_eq hx hb 201 dX12_nextToken_192 (by decide) hf (fun hf => ?_) (fun hf => ?_)
        · refine lv_aload_n hx hb dX12_nextToken_201 rfl (lv_at hl 0 rfl) ?_
          refine gfX12_119 hx hb hts hown hK hP 0 rfl rfl dX12_nextToken_202 ?_
          refine lv_bipush (v := (8 : Int32)) hx hb dX12_nextToken_205 (by decide) ?_
          refine lv_lshl hx hb dX12_nextToken_207 rfl ?_
          refine lv_aload_n hx hb dX12_nextToken_208 rfl (lv_at hl 0 rfl) ?_
          refine lv_aload_n hx hb dX12_nextToken_209 rfl (lv_at hl 0 rfl) ?_
          refine gfX12_96 hx hb hts hown hK hP 0 rfl rfl dX12_nextToken_210 ?_
          obtain ⟨r213, hg213, hf⟩ := ob1_some hf
          refine mcV1_i (As := [.int v_at]) (rest := [.long (v_word <<< ((8 : Int32).toInt64 &&& 63)), .ref h]) hx hb hml hown hts hK hP hD hS hA (k_X12_byteAt l N D cI cJ cZ cB cT h q v_a v_image v_texts v_tape v_taped v_fault v_faultPlace v_at v_place v_token v_number v_word v_text0 v_written v_sort0 v_pile v_piled v_opens v_isWhole v_once v_named v_values v_truth v_isWritten v_died v_aside v_likely v_safe v_headOf v_at r213 hg213) (kwX12_99 hts rfl rfl ⟨Nat.le_of_ble_eq_true rfl, Nat.le_of_ble_eq_true rfl⟩) 0 rfl rfl rfl rfl hl.1 rfl (Nat.le_of_ble_eq_true rfl) dX12_nextToken_213 ⟨Nat.zero_le _, Nat.zero_le _⟩ (fun hB213 H locs hP hD hS => ?_)
          have hP : va_P D vwCl (WM h q cI cJ cZ v_a v_image v_texts v_tape v_taped v_fault v_faultPlace v_at v_place v_token v_number v_word v_text0 v_written v_sort0 v_pile v_piled v_opens v_isWhole v_once v_named v_values v_truth v_isWritten v_died v_aside v_likely v_safe v_headOf) H := hP
          have hD : va_D A (WM h q cI cJ cZ v_a v_image v_texts v_tape v_taped v_fault v_faultPlace v_at v_place v_token v_number v_word v_text0 v_written v_sort0 v_pile v_piled v_opens v_isWhole v_once v_named v_values v_truth v_isWritten v_died v_aside v_likely v_safe v_headOf) := hD
          refine lv_i2l hx hb dX12_nextToken_216 rfl ?_
          refine lv_lor hx hb dX12_nextToken_217 ?_
          exact b218 v_at v_place v_token v_number v_word ((v_word <<< ((8 : Int32).toInt64 &&& 63)) ||| r213.toInt64) _ _ _ hf hP hD hS (lv_sub hl [0] rfl)
        · refine lv_ldc2 hx hb hown (hts _ ctX12_123) dX12_nextToken_195 ?_
          refine lv_goto (tgt := 218) hx hb dX12_nextToken_198 (by decide) ?_
          exact b218 v_at v_place v_token v_number v_word (1152921504606846976 : Int64) _ _ _ hf hP hD hS (lv_sub hl [0] rfl)
  have b85 : ∀ n85 : Nat, ∀ (v_at : Int32) (v_place : Int32) (v_token : Int32) (v_number : Int32) (v_word : Int64) (H : Heap) (locs : List Loc) (ls : Array Slot), f_X12_nextToken_85 N n85 v_tape v_taped v_at v_place v_token v_number v_word = some (o_v_at, o_v_place, o_v_token, o_v_number, o_v_word) → va_P D vwCl (WM h q cI cJ cZ v_a v_image v_texts v_tape v_taped v_fault v_faultPlace v_at v_place v_token v_number v_word v_text0 v_written v_sort0 v_pile v_piled v_opens v_isWhole v_once v_named v_values v_truth v_isWritten v_died v_aside v_likely v_safe v_headOf) H → va_D A (WM h q cI cJ cZ v_a v_image v_texts v_tape v_taped v_fault v_faultPlace v_at v_place v_token v_number v_word v_text0 v_written v_sort0 v_pile v_piled v_opens v_isWhole v_once v_named v_values v_truth v_isWritten v_died v_aside v_likely v_safe v_headOf) → va_S A s.heap H locs → lv_has ls 2 [(0, .ref h)] → W p l e ({ frames := 1, cells := 0, slots := 0, locals := 21 } : Room) s m ([.ref h] : List Value).toArray below meth c H locs 0 0 (MQ below ((mQv D (WM h q cI cJ cZ v_a v_image v_texts v_tape v_taped v_fault v_faultPlace o_v_at o_v_place o_v_token o_v_number o_v_word v_text0 v_written v_sort0 v_pile v_piled v_opens v_isWhole v_once v_named v_values v_truth v_isWritten v_died v_aside v_likely v_safe v_headOf)) A) ([.ref h] : List Value).toArray s 0 0 A) (F0 m 85 ls []) := by
    intro n85
    induction n85 with
    | zero =>
      intro v_at v_place v_token v_number v_word H locs ls hf hP hD hS hl
      simp [f_X12_nextToken_85] at hf
    | succ n85 ih85 =>
      have b135 : ∀ (v_at : Int32) (v_place : Int32) (v_token : Int32) (v_number : Int32) (v_word : Int64) (s1 : Int32) (H : Heap) (locs : List Loc) (ls : Array Slot), f_X12_nextToken_135 N (f_X12_nextToken_85 N n85) v_tape v_taped v_at v_place v_token v_number v_word s1 = some (o_v_at, o_v_place, o_v_token, o_v_number, o_v_word) → va_P D vwCl (WM h q cI cJ cZ v_a v_image v_texts v_tape v_taped v_fault v_faultPlace v_at v_place v_token v_number v_word v_text0 v_written v_sort0 v_pile v_piled v_opens v_isWhole v_once v_named v_values v_truth v_isWritten v_died v_aside v_likely v_safe v_headOf) H → va_D A (WM h q cI cJ cZ v_a v_image v_texts v_tape v_taped v_fault v_faultPlace v_at v_place v_token v_number v_word v_text0 v_written v_sort0 v_pile v_piled v_opens v_isWhole v_once v_named v_values v_truth v_isWritten v_died v_aside v_likely v_safe v_headOf) → va_S A s.heap H locs → lv_has ls 2 [(0, .ref h)] → W p l e ({ frames := 1, cells := 0, slots := 0, locals := 21 } : Room) s m ([.ref h] : List Value).toArray below meth c H locs 0 0 (MQ below ((mQv D (WM h q cI cJ cZ v_a v_image v_texts v_tape v_taped v_fault v_faultPlace o_v_at o_v_place o_v_token o_v_number o_v_word v_text0 v_written v_sort0 v_pile v_piled v_opens v_isWhole v_once v_named v_values v_truth v_isWritten v_died v_aside v_likely v_safe v_headOf)) A) ([.ref h] : List Value).toArray s 0 0 A) (F0 m 135 ls [.int s1, .ref h]) := by
        intro v_at v_place v_token v_number v_word s1 H locs ls hf hP hD hS hl
        unfold f_X12_nextToken_135 at hf
        refine pfX12_112 hx hb hts hown hK hP hD hS 0 rfl (Nat.le_of_ble_eq_true rfl) dX12_nextToken_135 (fun H locs hP hD hS => ?_)
        have hP : va_P D vwCl (WM h q cI cJ cZ v_a v_image v_texts v_tape v_taped v_fault v_faultPlace v_at v_place v_token s1 v_word v_text0 v_written v_sort0 v_pile v_piled v_opens v_isWhole v_once v_named v_values v_truth v_isWritten v_died v_aside v_likely v_safe v_headOf) H := hP
        have hD : va_D A (WM h q cI cJ cZ v_a v_image v_texts v_tape v_taped v_fault v_faultPlace v_at v_place v_token s1 v_word v_text0 v_written v_sort0 v_pile v_piled v_opens v_isWhole v_once v_named v_values v_truth v_isWritten v_died v_aside v_likely v_safe v_headOf) := hD
        refine lv_aload_n hx hb dX12_nextToken_138 rfl (lv_at hl 0 rfl) ?_
        refine lv_dup hx hb dX12_nextToken_139 rfl ?_
        refine gfX12_96 hx hb hts hown hK hP 0 rfl rfl dX12_nextToken_140 ?_
        refine lv_iconst (v := (1 : Int32)) hx hb dX12_nextToken_143 (by decide) ?_
        refine lv_iadd hx hb dX12_nextToken_144 ?_
        refine pfX12_96 hx hb hts hown hK hP hD hS 0 rfl (Nat.le_of_ble_eq_true rfl) dX12_nextToken_145 (fun H locs hP hD hS => ?_)
        have hP : va_P D vwCl (WM h q cI cJ cZ v_a v_image v_texts v_tape v_taped v_fault v_faultPlace (v_at + (1 : Int32)) v_place v_token s1 v_word v_text0 v_written v_sort0 v_pile v_piled v_opens v_isWhole v_once v_named v_values v_truth v_isWritten v_died v_aside v_likely v_safe v_headOf) H := hP
        have hD : va_D A (WM h q cI cJ cZ v_a v_image v_texts v_tape v_taped v_fault v_faultPlace (v_at + (1 : Int32)) v_place v_token s1 v_word v_text0 v_written v_sort0 v_pile v_piled v_opens v_isWhole v_once v_named v_values v_truth v_isWritten v_died v_aside v_likely v_safe v_headOf) := hD
        refine lv_goto (tgt := 85) hx hb dX12_nextToken_148 (by decide) ?_
        exact ih85 (v_at + (1 : Int32)) v_place v_token s1 v_word _ _ _ hf hP hD hS (lv_sub hl [0] rfl)
      intro v_at v_place v_token v_number v_word H locs ls hf hP hD hS hl
      rw [f_X12_nextToken_85.eq_2] at hf
      refine lv_aload_n hx hb dX12_nextToken_85 rfl (lv_at hl 0 rfl) ?_
      refine lv_aload_n hx hb dX12_nextToken_86 rfl (lv_at hl 0 rfl) ?_
      refine gfX12_96 hx hb hts hown hK hP 0 rfl rfl dX12_nextToken_87 ?_
      obtain ⟨r90, hg90, hf⟩ := ob1_some hf
      refine mcV1_i (As := [.int v_at]) (rest := []) hx hb hml hown hts hK hP hD hS hA (k_X12_byteAt l N D cI cJ cZ cB cT h q v_a v_image v_texts v_tape v_taped v_fault v_faultPlace v_at v_place v_token v_number v_word v_text0 v_written v_sort0 v_pile v_piled v_opens v_isWhole v_once v_named v_values v_truth v_isWritten v_died v_aside v_likely v_safe v_headOf v_at r90 hg90) (kwX12_99 hts rfl rfl ⟨Nat.le_of_ble_eq_true rfl, Nat.le_of_ble_eq_true rfl⟩) 0 rfl rfl rfl rfl hl.1 rfl (Nat.le_of_ble_eq_true rfl) dX12_nextToken_90 ⟨Nat.zero_le _, Nat.zero_le _⟩ (fun hB90 H locs hP hD hS => ?_)
      have hP : va_P D vwCl (WM h q cI cJ cZ v_a v_image v_texts v_tape v_taped v_fault v_faultPlace v_at v_place v_token v_number v_word v_text0 v_written v_sort0 v_pile v_piled v_opens v_isWhole v_once v_named v_values v_truth v_isWritten v_died v_aside v_likely v_safe v_headOf) H := hP
      have hD : va_D A (WM h q cI cJ cZ v_a v_image v_texts v_tape v_taped v_fault v_faultPlace v_at v_place v_token v_number v_word v_text0 v_written v_sort0 v_pile v_piled v_opens v_isWhole v_once v_named v_values v_truth v_isWritten v_died v_aside v_likely v_safe v_headOf) := hD
      obtain ⟨r93, hg93, hf⟩ := ob1_some hf
      refine mcS0_i (As := [.int r90]) (rest := []) hx hb hml hown hts hK hP hD hS hA (k_X12_isFigure l N D cI cJ cZ cB cT r90 r93 hg93) (kwX12_109 hts rfl rfl ⟨Nat.le_of_ble_eq_true rfl, Nat.le_of_ble_eq_true rfl⟩) rfl hl.1 rfl (Nat.le_of_ble_eq_true rfl) dX12_nextToken_93 ⟨Nat.zero_le _, Nat.zero_le _⟩ (fun hB93 H locs hP hD hS => ?_)
      refine xif_eq hx hb 310 dX12_nextToken_96 (by decide) hf (fun hf => ?_) (fun hf => ?_)
      · cases hf
        exact mret_v hx hb hr hlocks hP hD hS dX12_nextToken_310
      · refine lv_aload_n hx hb dX12_nextToken_99 rfl (lv_at hl 0 rfl) ?_
        refine lv_aload_n hx hb dX12_nextToken_100 rfl (lv_at hl 0 rfl) ?_
        refine gfX12_112 hx hb hts hown hK hP 0 rfl rfl dX12_nextToken_101 ?_
        refine lv_ldc hx hb hown (hts _ ctX12_115) dX12_nextToken_104 ?_
        refine xicmp_le hx hb 116 dX12_nextToken_106 (by decide) hf (fun hf => ?_) (fun hf => ?_)
        · refine lv_bipush (v := (10 : Int32)) hx hb dX12_nextToken_116 (by decide) ?_
          refine lv_aload_n hx hb dX12_nextToken_118 rfl (lv_at hl 0 rfl) ?_
          refine gfX12_112 hx hb hts hown hK hP 0 rfl rfl dX12_nextToken_119 ?_
          refine lv_imul hx hb dX12_nextToken_122 ?_
          refine lv_aload_n hx hb dX12_nextToken_123 rfl (lv_at hl 0 rfl) ?_
          refine lv_aload_n hx hb dX12_nextToken_124 rfl (lv_at hl 0 rfl) ?_
          refine gfX12_96 hx hb hts hown hK hP 0 rfl rfl dX12_nextToken_125 ?_
          obtain ⟨r128, hg128, hf⟩ := ob1_some hf
          refine mcV1_i (As := [.int v_at]) (rest := [.int ((10 : Int32) * v_number), .ref h]) hx hb hml hown hts hK hP hD hS hA (k_X12_byteAt l N D cI cJ cZ cB cT h q v_a v_image v_texts v_tape v_taped v_fault v_faultPlace v_at v_place v_token v_number v_word v_text0 v_written v_sort0 v_pile v_piled v_opens v_isWhole v_once v_named v_values v_truth v_isWritten v_died v_aside v_likely v_safe v_headOf v_at r128 hg128) (kwX12_99 hts rfl rfl ⟨Nat.le_of_ble_eq_true rfl, Nat.le_of_ble_eq_true rfl⟩) 0 rfl rfl rfl rfl hl.1 rfl (Nat.le_of_ble_eq_true rfl) dX12_nextToken_128 ⟨Nat.zero_le _, Nat.zero_le _⟩ (fun hB128 H locs hP hD hS => ?_)
          have hP : va_P D vwCl (WM h q cI cJ cZ v_a v_image v_texts v_tape v_taped v_fault v_faultPlace v_at v_place v_token v_number v_word v_text0 v_written v_sort0 v_pile v_piled v_opens v_isWhole v_once v_named v_values v_truth v_isWritten v_died v_aside v_likely v_safe v_headOf) H := hP
          have hD : va_D A (WM h q cI cJ cZ v_a v_image v_texts v_tape v_taped v_fault v_faultPlace v_at v_place v_token v_number v_word v_text0 v_written v_sort0 v_pile v_piled v_opens v_isWhole v_once v_named v_values v_truth v_isWritten v_died v_aside v_likely v_safe v_headOf) := hD
          refine lv_iadd hx hb dX12_nextToken_131 ?_
          refine lv_bipush (v := (48 : Int32)) hx hb dX12_nextToken_132 (by decide) ?_
          refine lv_isub hx hb dX12_nextToken_134 ?_
          exact b135 v_at v_place v_token v_number v_word ((((10 : Int32) * v_number) + r128) - (48 : Int32)) _ _ _ hf hP hD hS (lv_sub hl [0] rfl)
        · refine lv_aload_n hx hb dX12_nextToken_109 rfl (lv_at hl 0 rfl) ?_
          refine gfX12_112 hx hb hts hown hK hP 0 rfl rfl dX12_nextToken_110 ?_
          refine lv_goto (tgt := 135) hx hb dX12_nextToken_113 (by decide) ?_
          exact b135 v_at v_place v_token v_number v_word v_number _ _ _ hf hP hD hS (lv_sub hl [0] rfl)
  have b0 : ∀ n0 : Nat, ∀ (v_at : Int32) (v_place : Int32) (v_token : Int32) (v_number : Int32) (v_word : Int64) (H : Heap) (locs : List Loc) (ls : Array Slot), f_X12_nextToken_0 N n0 v_tape v_taped v_at v_place v_token v_number v_word = some (o_v_at, o_v_place, o_v_token, o_v_number, o_v_word) → va_P D vwCl (WM h q cI cJ cZ v_a v_image v_texts v_tape v_taped v_fault v_faultPlace v_at v_place v_token v_number v_word v_text0 v_written v_sort0 v_pile v_piled v_opens v_isWhole v_once v_named v_values v_truth v_isWritten v_died v_aside v_likely v_safe v_headOf) H → va_D A (WM h q cI cJ cZ v_a v_image v_texts v_tape v_taped v_fault v_faultPlace v_at v_place v_token v_number v_word v_text0 v_written v_sort0 v_pile v_piled v_opens v_isWhole v_once v_named v_values v_truth v_isWritten v_died v_aside v_likely v_safe v_headOf) → va_S A s.heap H locs → lv_has ls 2 [(0, .ref h)] → W p l e ({ frames := 1, cells := 0, slots := 0, locals := 21 } : Room) s m ([.ref h] : List Value).toArray below meth c H locs 0 0 (MQ below ((mQv D (WM h q cI cJ cZ v_a v_image v_texts v_tape v_taped v_fault v_faultPlace o_v_at o_v_place o_v_token o_v_number o_v_word v_text0 v_written v_sort0 v_pile v_piled v_opens v_isWhole v_once v_named v_values v_truth v_isWritten v_died v_aside v_likely v_safe v_headOf)) A) ([.ref h] : List Value).toArray s 0 0 A) (F0 m 0 ls []) := by
    intro n0
    induction n0 with
    | zero =>
      intro v_at v_place v_token v_number v_word H locs ls hf hP hD hS hl
      simp [f_X12_nextToken_0] at hf
    | succ n0 ih0 =>
      have b26 : ∀ (v_at : Int32) (v_place : Int32) (v_token : Int32) (v_number : Int32) (v_word : Int64) (H : Heap) (locs : List Loc) (ls : Array Slot), f_X12_nextToken_26 N (f_X12_nextToken_0 N n0) v_tape v_taped v_at v_place v_token v_number v_word = some (o_v_at, o_v_place, o_v_token, o_v_number, o_v_word) → va_P D vwCl (WM h q cI cJ cZ v_a v_image v_texts v_tape v_taped v_fault v_faultPlace v_at v_place v_token v_number v_word v_text0 v_written v_sort0 v_pile v_piled v_opens v_isWhole v_once v_named v_values v_truth v_isWritten v_died v_aside v_likely v_safe v_headOf) H → va_D A (WM h q cI cJ cZ v_a v_image v_texts v_tape v_taped v_fault v_faultPlace v_at v_place v_token v_number v_word v_text0 v_written v_sort0 v_pile v_piled v_opens v_isWhole v_once v_named v_values v_truth v_isWritten v_died v_aside v_likely v_safe v_headOf) → va_S A s.heap H locs → lv_has ls 2 [(0, .ref h)] → W p l e ({ frames := 1, cells := 0, slots := 0, locals := 21 } : Room) s m ([.ref h] : List Value).toArray below meth c H locs 0 0 (MQ below ((mQv D (WM h q cI cJ cZ v_a v_image v_texts v_tape v_taped v_fault v_faultPlace o_v_at o_v_place o_v_token o_v_number o_v_word v_text0 v_written v_sort0 v_pile v_piled v_opens v_isWhole v_once v_named v_values v_truth v_isWritten v_died v_aside v_likely v_safe v_headOf)) A) ([.ref h] : List Value).toArray s 0 0 A) (F0 m 26 ls []) := by
        intro v_at v_place v_token v_number v_word H locs ls hf hP hD hS hl
        unfold f_X12_nextToken_26 at hf
        refine lv_aload_n hx hb dX12_nextToken_26 rfl (lv_at hl 0 rfl) ?_
        refine lv_dup hx hb dX12_nextToken_27 rfl ?_
        refine gfX12_96 hx hb hts hown hK hP 0 rfl rfl dX12_nextToken_28 ?_
        refine lv_iconst (v := (1 : Int32)) hx hb dX12_nextToken_31 (by decide) ?_
        refine lv_iadd hx hb dX12_nextToken_32 ?_
        refine pfX12_96 hx hb hts hown hK hP hD hS 0 rfl (Nat.le_of_ble_eq_true rfl) dX12_nextToken_33 (fun H locs hP hD hS => ?_)
        have hP : va_P D vwCl (WM h q cI cJ cZ v_a v_image v_texts v_tape v_taped v_fault v_faultPlace (v_at + (1 : Int32)) v_place v_token v_number v_word v_text0 v_written v_sort0 v_pile v_piled v_opens v_isWhole v_once v_named v_values v_truth v_isWritten v_died v_aside v_likely v_safe v_headOf) H := hP
        have hD : va_D A (WM h q cI cJ cZ v_a v_image v_texts v_tape v_taped v_fault v_faultPlace (v_at + (1 : Int32)) v_place v_token v_number v_word v_text0 v_written v_sort0 v_pile v_piled v_opens v_isWhole v_once v_named v_values v_truth v_isWritten v_died v_aside v_likely v_safe v_headOf) := hD
        refine lv_goto (tgt := 0) hx hb dX12_nextToken_36 (by decide) ?_
        exact ih0 (v_at + (1 : Int32)) v_place v_token v_number v_word _ _ _ hf hP hD hS (lv_sub hl [0] rfl)
      intro v_at v_place v_token v_number v_word H locs ls hf hP hD hS hl
      rw [f_X12_nextToken_0.eq_2] at hf
      refine lv_aload_n hx hb dX12_nextToken_0 rfl (lv_at hl 0 rfl) ?_
      refine lv_aload_n hx hb dX12_nextToken_1 rfl (lv_at hl 0 rfl) ?_
      refine gfX12_96 hx hb hts hown hK hP 0 rfl rfl dX12_nextToken_2 ?_
      obtain ⟨r5, hg5, hf⟩ := ob1_some hf
      refine mcV1_i (As := [.int v_at]) (rest := []) hx hb hml hown hts hK hP hD hS hA (k_X12_byteAt l N D cI cJ cZ cB cT h q v_a v_image v_texts v_tape v_taped v_fault v_faultPlace v_at v_place v_token v_number v_word v_text0 v_written v_sort0 v_pile v_piled v_opens v_isWhole v_once v_named v_values v_truth v_isWritten v_died v_aside v_likely v_safe v_headOf v_at r5 hg5) (kwX12_99 hts rfl rfl ⟨Nat.le_of_ble_eq_true rfl, Nat.le_of_ble_eq_true rfl⟩) 0 rfl rfl rfl rfl hl.1 rfl (Nat.le_of_ble_eq_true rfl) dX12_nextToken_5 ⟨Nat.zero_le _, Nat.zero_le _⟩ (fun hB5 H locs hP hD hS => ?_)
      have hP : va_P D vwCl (WM h q cI cJ cZ v_a v_image v_texts v_tape v_taped v_fault v_faultPlace v_at v_place v_token v_number v_word v_text0 v_written v_sort0 v_pile v_piled v_opens v_isWhole v_once v_named v_values v_truth v_isWritten v_died v_aside v_likely v_safe v_headOf) H := hP
      have hD : va_D A (WM h q cI cJ cZ v_a v_image v_texts v_tape v_taped v_fault v_faultPlace v_at v_place v_token v_number v_word v_text0 v_written v_sort0 v_pile v_piled v_opens v_isWhole v_once v_named v_values v_truth v_isWritten v_died v_aside v_likely v_safe v_headOf) := hD
      refine lv_bipush (v := (32 : Int32)) hx hb dX12_nextToken_8 (by decide) ?_
      refine xicmp_eq hx hb 26 dX12_nextToken_10 (by decide) hf (fun hf => ?_) (fun hf => ?_)
      · exact b26 v_at v_place v_token v_number v_word _ _ _ hf hP hD hS (lv_sub hl [0] rfl)
      · refine lv_aload_n hx hb dX12_nextToken_13 rfl (lv_at hl 0 rfl) ?_
        refine lv_aload_n hx hb dX12_nextToken_14 rfl (lv_at hl 0 rfl) ?_
        refine gfX12_96 hx hb hts hown hK hP 0 rfl rfl dX12_nextToken_15 ?_
        obtain ⟨r18, hg18, hf⟩ := ob1_some hf
        refine mcV1_i (As := [.int v_at]) (rest := []) hx hb hml hown hts hK hP hD hS hA (k_X12_byteAt l N D cI cJ cZ cB cT h q v_a v_image v_texts v_tape v_taped v_fault v_faultPlace v_at v_place v_token v_number v_word v_text0 v_written v_sort0 v_pile v_piled v_opens v_isWhole v_once v_named v_values v_truth v_isWritten v_died v_aside v_likely v_safe v_headOf v_at r18 hg18) (kwX12_99 hts rfl rfl ⟨Nat.le_of_ble_eq_true rfl, Nat.le_of_ble_eq_true rfl⟩) 0 rfl rfl rfl rfl hl.1 rfl (Nat.le_of_ble_eq_true rfl) dX12_nextToken_18 ⟨Nat.zero_le _, Nat.zero_le _⟩ (fun hB18 H locs hP hD hS => ?_)
        have hP : va_P D vwCl (WM h q cI cJ cZ v_a v_image v_texts v_tape v_taped v_fault v_faultPlace v_at v_place v_token v_number v_word v_text0 v_written v_sort0 v_pile v_piled v_opens v_isWhole v_once v_named v_values v_truth v_isWritten v_died v_aside v_likely v_safe v_headOf) H := hP
        have hD : va_D A (WM h q cI cJ cZ v_a v_image v_texts v_tape v_taped v_fault v_faultPlace v_at v_place v_token v_number v_word v_text0 v_written v_sort0 v_pile v_piled v_opens v_isWhole v_once v_named v_values v_truth v_isWritten v_died v_aside v_likely v_safe v_headOf) := hD
        refine lv_bipush (v := (10 : Int32)) hx hb dX12_nextToken_21 (by decide) ?_
        refine xicmp_ne hx hb 39 dX12_nextToken_23 (by decide) hf (fun hf => ?_) (fun hf => ?_)
        · exact b26 v_at v_place v_token v_number v_word _ _ _ hf hP hD hS (lv_sub hl [0] rfl)
        · refine lv_aload_n hx hb dX12_nextToken_39 rfl (lv_at hl 0 rfl) ?_
          refine lv_aload_n hx hb dX12_nextToken_40 rfl (lv_at hl 0 rfl) ?_
          refine gfX12_96 hx hb hts hown hK hP 0 rfl rfl dX12_nextToken_41 ?_
          refine pfX12_103 hx hb hts hown hK hP hD hS 0 rfl (Nat.le_of_ble_eq_true rfl) dX12_nextToken_44 (fun H locs hP hD hS => ?_)
          have hP : va_P D vwCl (WM h q cI cJ cZ v_a v_image v_texts v_tape v_taped v_fault v_faultPlace v_at v_at v_token v_number v_word v_text0 v_written v_sort0 v_pile v_piled v_opens v_isWhole v_once v_named v_values v_truth v_isWritten v_died v_aside v_likely v_safe v_headOf) H := hP
          have hD : va_D A (WM h q cI cJ cZ v_a v_image v_texts v_tape v_taped v_fault v_faultPlace v_at v_at v_token v_number v_word v_text0 v_written v_sort0 v_pile v_piled v_opens v_isWhole v_once v_named v_values v_truth v_isWritten v_died v_aside v_likely v_safe v_headOf) := hD
          refine lv_aload_n hx hb dX12_nextToken_47 rfl (lv_at hl 0 rfl) ?_
          refine lv_aload_n hx hb dX12_nextToken_48 rfl (lv_at hl 0 rfl) ?_
          refine gfX12_96 hx hb hts hown hK hP 0 rfl rfl dX12_nextToken_49 ?_
          obtain ⟨r52, hg52, hf⟩ := ob1_some hf
          refine mcV1_i (As := [.int v_at]) (rest := []) hx hb hml hown hts hK hP hD hS hA (k_X12_byteAt l N D cI cJ cZ cB cT h q v_a v_image v_texts v_tape v_taped v_fault v_faultPlace v_at v_at v_token v_number v_word v_text0 v_written v_sort0 v_pile v_piled v_opens v_isWhole v_once v_named v_values v_truth v_isWritten v_died v_aside v_likely v_safe v_headOf v_at r52 hg52) (kwX12_99 hts rfl rfl ⟨Nat.le_of_ble_eq_true rfl, Nat.le_of_ble_eq_true rfl⟩) 0 rfl rfl rfl rfl hl.1 rfl (Nat.le_of_ble_eq_true rfl) dX12_nextToken_52 ⟨Nat.zero_le _, Nat.zero_le _⟩ (fun hB52 H locs hP hD hS => ?_)
          have hP : va_P D vwCl (WM h q cI cJ cZ v_a v_image v_texts v_tape v_taped v_fault v_faultPlace v_at v_at v_token v_number v_word v_text0 v_written v_sort0 v_pile v_piled v_opens v_isWhole v_once v_named v_values v_truth v_isWritten v_died v_aside v_likely v_safe v_headOf) H := hP
          have hD : va_D A (WM h q cI cJ cZ v_a v_image v_texts v_tape v_taped v_fault v_faultPlace v_at v_at v_token v_number v_word v_text0 v_written v_sort0 v_pile v_piled v_opens v_isWhole v_once v_named v_values v_truth v_isWritten v_died v_aside v_likely v_safe v_headOf) := hD
          refine lv_istore_n (lv' := [(1, .int r52), (0, .ref h)]) hx hb dX12_nextToken_55 rfl hl (by decide) rfl (fun ls hl => ?_)
          refine lv_iload_n hx hb dX12_nextToken_56 rfl (lv_at hl 0 rfl) ?_
          refine xif_ge hx hb 68 dX12_nextToken_57 (by decide) hf (fun hf => ?_) (fun hf => ?_)
          · refine lv_iload_n hx hb dX12_nextToken_68 rfl (lv_at hl 0 rfl) ?_
            obtain ⟨r69, hg69, hf⟩ := ob1_some hf
            refine mcS0_i (As := [.int r52]) (rest := []) hx hb hml hown hts hK hP hD hS hA (k_X12_isFigure l N D cI cJ cZ cB cT r52 r69 hg69) (kwX12_109 hts rfl rfl ⟨Nat.le_of_ble_eq_true rfl, Nat.le_of_ble_eq_true rfl⟩) rfl hl.1 rfl (Nat.le_of_ble_eq_true rfl) dX12_nextToken_69 ⟨Nat.zero_le _, Nat.zero_le _⟩ (fun hB69 H locs hP hD hS => ?_)
            refine xif_eq hx hb 151 dX12_nextToken_72 (by decide) hf (fun hf => ?_) (fun hf => ?_)
            · refine lv_iload_n hx hb dX12_nextToken_151 rfl (lv_at hl 0 rfl) ?_
              obtain ⟨r152, hg152, hf⟩ := ob1_some hf
              refine mcS0_i (As := [.int r52]) (rest := []) hx hb hml hown hts hK hP hD hS hA (k_X12_isLetterByte l N D cI cJ cZ cB cT r52 r152 hg152) (kwX12_116 hts rfl rfl ⟨Nat.le_of_ble_eq_true rfl, Nat.le_of_ble_eq_true rfl⟩) rfl hl.1 rfl (Nat.le_of_ble_eq_true rfl) dX12_nextToken_152 ⟨Nat.zero_le _, Nat.zero_le _⟩ (fun hB152 H locs hP hD hS => ?_)
              refine xif_eq hx hb 234 dX12_nextToken_155 (by decide) hf (fun hf => ?_) (fun hf => ?_)
              · refine lv_aload_n hx hb dX12_nextToken_234 rfl (lv_at hl 1 rfl) ?_
                refine lv_iload_n hx hb dX12_nextToken_235 rfl (lv_at hl 0 rfl) ?_
                obtain ⟨r236, hg236, hf⟩ := ob1_some hf
                refine mcS0_i (As := [.int r52]) (rest := [.ref h]) hx hb hml hown hts hK hP hD hS hA (k_X12_isSign l N D cI cJ cZ cB cT r52 r236 hg236) (kwX12_125 hts rfl rfl ⟨Nat.le_of_ble_eq_true rfl, Nat.le_of_ble_eq_true rfl⟩) rfl hl.1 rfl (Nat.le_of_ble_eq_true rfl) dX12_nextToken_236 ⟨Nat.zero_le _, Nat.zero_le _⟩ (fun hB236 H locs hP hD hS => ?_)
                refine xif_eq hx hb 246 dX12_nextToken_239 (by decide) hf (fun hf => ?_) (fun hf => ?_)
                · refine lv_iconst (v := (3 : Int32)) hx hb dX12_nextToken_246 (by decide) ?_
                  exact b247 v_at v_at v_token v_number v_word r52 (3 : Int32) _ _ _ hf hP hD hS (lv_sub hl [1, 0] rfl)
                · refine lv_iload_n hx hb dX12_nextToken_242 rfl (lv_at hl 0 rfl) ?_
                  refine lv_goto (tgt := 247) hx hb dX12_nextToken_243 (by decide) ?_
                  exact b247 v_at v_at v_token v_number v_word r52 r52 _ _ _ hf hP hD hS (lv_sub hl [1, 0] rfl)
              · refine lv_aload_n hx hb dX12_nextToken_158 rfl (lv_at hl 1 rfl) ?_
                refine lv_iconst (v := (2 : Int32)) hx hb dX12_nextToken_159 (by decide) ?_
                refine pfX12_106 hx hb hts hown hK hP hD hS 0 rfl (Nat.le_of_ble_eq_true rfl) dX12_nextToken_160 (fun H locs hP hD hS => ?_)
                have hP : va_P D vwCl (WM h q cI cJ cZ v_a v_image v_texts v_tape v_taped v_fault v_faultPlace v_at v_at (2 : Int32) v_number v_word v_text0 v_written v_sort0 v_pile v_piled v_opens v_isWhole v_once v_named v_values v_truth v_isWritten v_died v_aside v_likely v_safe v_headOf) H := hP
                have hD : va_D A (WM h q cI cJ cZ v_a v_image v_texts v_tape v_taped v_fault v_faultPlace v_at v_at (2 : Int32) v_number v_word v_text0 v_written v_sort0 v_pile v_piled v_opens v_isWhole v_once v_named v_values v_truth v_isWritten v_died v_aside v_likely v_safe v_headOf) := hD
                refine lv_aload_n hx hb dX12_nextToken_163 rfl (lv_at hl 1 rfl) ?_
                refine lv_lconst (v := (0 : Int64)) hx hb dX12_nextToken_164 (by decide) ?_
                refine pfX12_119 hx hb hts hown hK hP hD hS 0 rfl (Nat.le_of_ble_eq_true rfl) dX12_nextToken_165 (fun H locs hP hD hS => ?_)
                have hP : va_P D vwCl (WM h q cI cJ cZ v_a v_image v_texts v_tape v_taped v_fault v_faultPlace v_at v_at (2 : Int32) v_number (0 : Int64) v_text0 v_written v_sort0 v_pile v_piled v_opens v_isWhole v_once v_named v_values v_truth v_isWritten v_died v_aside v_likely v_safe v_headOf) H := hP
                have hD : va_D A (WM h q cI cJ cZ v_a v_image v_texts v_tape v_taped v_fault v_faultPlace v_at v_at (2 : Int32) v_number (0 : Int64) v_text0 v_written v_sort0 v_pile v_piled v_opens v_isWhole v_once v_named v_values v_truth v_isWritten v_died v_aside v_likely v_safe v_headOf) := hD
                exact b168 N v_at v_at (2 : Int32) v_number (0 : Int64) _ _ _ hf hP hD hS (lv_sub hl [1] rfl)
            · refine lv_aload_n hx hb dX12_nextToken_75 rfl (lv_at hl 1 rfl) ?_
              refine lv_iconst (v := (1 : Int32)) hx hb dX12_nextToken_76 (by decide) ?_
              refine pfX12_106 hx hb hts hown hK hP hD hS 0 rfl (Nat.le_of_ble_eq_true rfl) dX12_nextToken_77 (fun H locs hP hD hS => ?_)
              have hP : va_P D vwCl (WM h q cI cJ cZ v_a v_image v_texts v_tape v_taped v_fault v_faultPlace v_at v_at (1 : Int32) v_number v_word v_text0 v_written v_sort0 v_pile v_piled v_opens v_isWhole v_once v_named v_values v_truth v_isWritten v_died v_aside v_likely v_safe v_headOf) H := hP
              have hD : va_D A (WM h q cI cJ cZ v_a v_image v_texts v_tape v_taped v_fault v_faultPlace v_at v_at (1 : Int32) v_number v_word v_text0 v_written v_sort0 v_pile v_piled v_opens v_isWhole v_once v_named v_values v_truth v_isWritten v_died v_aside v_likely v_safe v_headOf) := hD
              refine lv_aload_n hx hb dX12_nextToken_80 rfl (lv_at hl 1 rfl) ?_
              refine lv_iconst (v := (0 : Int32)) hx hb dX12_nextToken_81 (by decide) ?_
              refine pfX12_112 hx hb hts hown hK hP hD hS 0 rfl (Nat.le_of_ble_eq_true rfl) dX12_nextToken_82 (fun H locs hP hD hS => ?_)
              have hP : va_P D vwCl (WM h q cI cJ cZ v_a v_image v_texts v_tape v_taped v_fault v_faultPlace v_at v_at (1 : Int32) (0 : Int32) v_word v_text0 v_written v_sort0 v_pile v_piled v_opens v_isWhole v_once v_named v_values v_truth v_isWritten v_died v_aside v_likely v_safe v_headOf) H := hP
              have hD : va_D A (WM h q cI cJ cZ v_a v_image v_texts v_tape v_taped v_fault v_faultPlace v_at v_at (1 : Int32) (0 : Int32) v_word v_text0 v_written v_sort0 v_pile v_piled v_opens v_isWhole v_once v_named v_values v_truth v_isWritten v_died v_aside v_likely v_safe v_headOf) := hD
              exact b85 N v_at v_at (1 : Int32) (0 : Int32) v_word _ _ _ hf hP hD hS (lv_sub hl [1] rfl)
          · refine lv_aload_n hx hb dX12_nextToken_60 rfl (lv_at hl 1 rfl) ?_
            refine lv_iconst (v := (0 : Int32)) hx hb dX12_nextToken_61 (by decide) ?_
            refine pfX12_106 hx hb hts hown hK hP hD hS 0 rfl (Nat.le_of_ble_eq_true rfl) dX12_nextToken_62 (fun H locs hP hD hS => ?_)
            have hP : va_P D vwCl (WM h q cI cJ cZ v_a v_image v_texts v_tape v_taped v_fault v_faultPlace v_at v_at (0 : Int32) v_number v_word v_text0 v_written v_sort0 v_pile v_piled v_opens v_isWhole v_once v_named v_values v_truth v_isWritten v_died v_aside v_likely v_safe v_headOf) H := hP
            have hD : va_D A (WM h q cI cJ cZ v_a v_image v_texts v_tape v_taped v_fault v_faultPlace v_at v_at (0 : Int32) v_number v_word v_text0 v_written v_sort0 v_pile v_piled v_opens v_isWhole v_once v_named v_values v_truth v_isWritten v_died v_aside v_likely v_safe v_headOf) := hD
            refine lv_goto (tgt := 310) hx hb dX12_nextToken_65 (by decide) ?_
            cases hf
            exact mret_v hx hb hr hlocks hP hD hS dX12_nextToken_310
  unfold f_X12_nextToken at hf
  exact b0 N v_at v_place v_token v_number v_word _ _ _ hf hP hD hS (lv_sub hl [0] rfl)
theorem dX12_w2_0 : decode cX12_w2 0 = .ok (.iload_n 0, 1) := by decide +kernel
theorem dX12_w2_1 : decode cX12_w2 1 = .ok (.i2l, 1) := by decide +kernel
theorem dX12_w2_2 : decode cX12_w2 2 = .ok (.bipush 8, 2) := by decide +kernel
theorem dX12_w2_4 : decode cX12_w2 4 = .ok (.lshl, 1) := by decide +kernel
theorem dX12_w2_5 : decode cX12_w2 5 = .ok (.iload_n 1, 1) := by decide +kernel
theorem dX12_w2_6 : decode cX12_w2 6 = .ok (.i2l, 1) := by decide +kernel
theorem dX12_w2_7 : decode cX12_w2 7 = .ok (.lor, 1) := by decide +kernel
theorem dX12_w2_8 : decode cX12_w2 8 = .ok (.lreturn, 1) := by decide +kernel
def f_X12_w2 (N : Nat) (p0 : Int32) (p1 : Int32) : Option (Int64) := some ((p0.toInt64 <<< ((8 : Int32).toInt64 &&& 63)) ||| p1.toInt64)
set_option maxHeartbeats 4000000 in
set_option maxRecDepth 100000 in
theorem k_X12_w2 (l : Launch) (N : Nat) (D : va_G) (cI cJ cZ cB cT : ClassId) (p0 : Int32) (p1 : Int32) (o_r : Int64) (hf : f_X12_w2 N p0 p1 = some o_r) : ∀ sz, Met l yX12_w2 (mw yX12_w2 cX12_w2 2 (some .long)) ({ frames := 0, cells := 0, slots := 0, locals := 0 } : Room) (mPre D (mT cI cJ cZ cB cT) [] sz [.int p0, .int p1]) ((mQl D [] o_r) (va_A [] sz)) 0 0 (va_A [] sz) := by
  refine mMet (Qc := (mQl D [] o_r)) (by decide) (Nat.le_of_ble_eq_true rfl) (fun p e s m below meth c A ls hx hb hr hml hts hown hlocks hK hA hP hD hl => ?_)
  have hown : s.vm.findClass RX12 = some m.cls := hown
  have hl : lv_has ls 2 [(0, .int p0), (1, .int p1)] := hl
  have hS : va_S A s.heap s.heap [] := va_S.rf
  unfold f_X12_w2 at hf
  refine lv_iload_n hx hb dX12_w2_0 rfl (lv_at hl 0 rfl) ?_
  refine lv_i2l hx hb dX12_w2_1 rfl ?_
  refine lv_bipush (v := (8 : Int32)) hx hb dX12_w2_2 (by decide) ?_
  refine lv_lshl hx hb dX12_w2_4 rfl ?_
  refine lv_iload_n hx hb dX12_w2_5 rfl (lv_at hl 1 rfl) ?_
  refine lv_i2l hx hb dX12_w2_6 rfl ?_
  refine lv_lor hx hb dX12_w2_7 ?_
  cases hf
  exact mret_l hx hb hr hlocks hP hD hS dX12_w2_8 rfl
theorem dX12_w3_0 : decode cX12_w3 0 = .ok (.iload_n 0, 1) := by decide +kernel
theorem dX12_w3_1 : decode cX12_w3 1 = .ok (.iload_n 1, 1) := by decide +kernel
theorem dX12_w3_2 : decode cX12_w3 2 = .ok (.invokestatic 128, 3) := by decide +kernel
theorem dX12_w3_5 : decode cX12_w3 5 = .ok (.bipush 8, 2) := by decide +kernel
theorem dX12_w3_7 : decode cX12_w3 7 = .ok (.lshl, 1) := by decide +kernel
theorem dX12_w3_8 : decode cX12_w3 8 = .ok (.iload_n 2, 1) := by decide +kernel
theorem dX12_w3_9 : decode cX12_w3 9 = .ok (.i2l, 1) := by decide +kernel
theorem dX12_w3_10 : decode cX12_w3 10 = .ok (.lor, 1) := by decide +kernel
theorem dX12_w3_11 : decode cX12_w3 11 = .ok (.lreturn, 1) := by decide +kernel
def f_X12_w3 (N : Nat) (p0 : Int32) (p1 : Int32) (p2 : Int32) : Option (Int64) := ob1 (f_X12_w2 N p0 p1) fun r2 => some ((r2 <<< ((8 : Int32).toInt64 &&& 63)) ||| p2.toInt64)
set_option maxHeartbeats 4000000 in
set_option maxRecDepth 100000 in
theorem k_X12_w3 (l : Launch) (N : Nat) (D : va_G) (cI cJ cZ cB cT : ClassId) (p0 : Int32) (p1 : Int32) (p2 : Int32) (o_r : Int64) (hf : f_X12_w3 N p0 p1 p2 = some o_r) : ∀ sz, Met l yX12_w3 (mw yX12_w3 cX12_w3 3 (some .long)) ({ frames := 1, cells := 0, slots := 0, locals := 21 } : Room) (mPre D (mT cI cJ cZ cB cT) [] sz [.int p0, .int p1, .int p2]) ((mQl D [] o_r) (va_A [] sz)) 0 0 (va_A [] sz) := by
  refine mMet (Qc := (mQl D [] o_r)) (by decide) (Nat.le_of_ble_eq_true rfl) (fun p e s m below meth c A ls hx hb hr hml hts hown hlocks hK hA hP hD hl => ?_)
  have hown : s.vm.findClass RX12 = some m.cls := hown
  have hl : lv_has ls 3 [(0, .int p0), (1, .int p1), (2, .int p2)] := hl
  have hS : va_S A s.heap s.heap [] := va_S.rf
  unfold f_X12_w3 at hf
  refine lv_iload_n hx hb dX12_w3_0 rfl (lv_at hl 0 rfl) ?_
  refine lv_iload_n hx hb dX12_w3_1 rfl (lv_at hl 1 rfl) ?_
  obtain ⟨r2, hg2, hf⟩ := ob1_some hf
  refine mcS0_l (As := [.int p0, .int p1]) (rest := []) hx hb hml hown hts hK hP hD hS hA (k_X12_w2 l N D cI cJ cZ cB cT p0 p1 r2 hg2) (kwX12_128 hts rfl rfl ⟨Nat.le_of_ble_eq_true rfl, Nat.le_of_ble_eq_true rfl⟩) rfl hl.1 rfl (Nat.le_of_ble_eq_true rfl) dX12_w3_2 ⟨Nat.zero_le _, Nat.zero_le _⟩ (fun H locs hP hD hS => ?_)
  refine lv_bipush (v := (8 : Int32)) hx hb dX12_w3_5 (by decide) ?_
  refine lv_lshl hx hb dX12_w3_7 rfl ?_
  refine lv_iload_n hx hb dX12_w3_8 rfl (lv_at hl 2 rfl) ?_
  refine lv_i2l hx hb dX12_w3_9 rfl ?_
  refine lv_lor hx hb dX12_w3_10 ?_
  cases hf
  exact mret_l hx hb hr hlocks hP hD hS dX12_w3_11 rfl
theorem dX12_w4_0 : decode cX12_w4 0 = .ok (.iload_n 0, 1) := by decide +kernel
theorem dX12_w4_1 : decode cX12_w4 1 = .ok (.iload_n 1, 1) := by decide +kernel
theorem dX12_w4_2 : decode cX12_w4 2 = .ok (.iload_n 2, 1) := by decide +kernel
theorem dX12_w4_3 : decode cX12_w4 3 = .ok (.invokestatic 132, 3) := by decide +kernel
theorem dX12_w4_6 : decode cX12_w4 6 = .ok (.bipush 8, 2) := by decide +kernel
theorem dX12_w4_8 : decode cX12_w4 8 = .ok (.lshl, 1) := by decide +kernel
theorem dX12_w4_9 : decode cX12_w4 9 = .ok (.iload_n 3, 1) := by decide +kernel
theorem dX12_w4_10 : decode cX12_w4 10 = .ok (.i2l, 1) := by decide +kernel
theorem dX12_w4_11 : decode cX12_w4 11 = .ok (.lor, 1) := by decide +kernel
theorem dX12_w4_12 : decode cX12_w4 12 = .ok (.lreturn, 1) := by decide +kernel
def f_X12_w4 (N : Nat) (p0 : Int32) (p1 : Int32) (p2 : Int32) (p3 : Int32) : Option (Int64) := ob1 (f_X12_w3 N p0 p1 p2) fun r3 => some ((r3 <<< ((8 : Int32).toInt64 &&& 63)) ||| p3.toInt64)
set_option maxHeartbeats 4000000 in
set_option maxRecDepth 100000 in
theorem k_X12_w4 (l : Launch) (N : Nat) (D : va_G) (cI cJ cZ cB cT : ClassId) (p0 : Int32) (p1 : Int32) (p2 : Int32) (p3 : Int32) (o_r : Int64) (hf : f_X12_w4 N p0 p1 p2 p3 = some o_r) : ∀ sz, Met l yX12_w4 (mw yX12_w4 cX12_w4 4 (some .long)) ({ frames := 2, cells := 0, slots := 0, locals := 43 } : Room) (mPre D (mT cI cJ cZ cB cT) [] sz [.int p0, .int p1, .int p2, .int p3]) ((mQl D [] o_r) (va_A [] sz)) 0 0 (va_A [] sz) := by
  refine mMet (Qc := (mQl D [] o_r)) (by decide) (Nat.le_of_ble_eq_true rfl) (fun p e s m below meth c A ls hx hb hr hml hts hown hlocks hK hA hP hD hl => ?_)
  have hown : s.vm.findClass RX12 = some m.cls := hown
  have hl : lv_has ls 4 [(0, .int p0), (1, .int p1), (2, .int p2), (3, .int p3)] := hl
  have hS : va_S A s.heap s.heap [] := va_S.rf
  unfold f_X12_w4 at hf
  refine lv_iload_n hx hb dX12_w4_0 rfl (lv_at hl 0 rfl) ?_
  refine lv_iload_n hx hb dX12_w4_1 rfl (lv_at hl 1 rfl) ?_
  refine lv_iload_n hx hb dX12_w4_2 rfl (lv_at hl 2 rfl) ?_
  obtain ⟨r3, hg3, hf⟩ := ob1_some hf
  refine mcS0_l (As := [.int p0, .int p1, .int p2]) (rest := []) hx hb hml hown hts hK hP hD hS hA (k_X12_w3 l N D cI cJ cZ cB cT p0 p1 p2 r3 hg3) (kwX12_132 hts rfl rfl ⟨Nat.le_of_ble_eq_true rfl, Nat.le_of_ble_eq_true rfl⟩) rfl hl.1 rfl (Nat.le_of_ble_eq_true rfl) dX12_w4_3 ⟨Nat.zero_le _, Nat.zero_le _⟩ (fun H locs hP hD hS => ?_)
  refine lv_bipush (v := (8 : Int32)) hx hb dX12_w4_6 (by decide) ?_
  refine lv_lshl hx hb dX12_w4_8 rfl ?_
  refine lv_iload_n hx hb dX12_w4_9 rfl (lv_at hl 3 rfl) ?_
  refine lv_i2l hx hb dX12_w4_10 rfl ?_
  refine lv_lor hx hb dX12_w4_11 ?_
  cases hf
  exact mret_l hx hb hr hlocks hP hD hS dX12_w4_12 rfl
theorem dX12_w5_0 : decode cX12_w5 0 = .ok (.iload_n 0, 1) := by decide +kernel
theorem dX12_w5_1 : decode cX12_w5 1 = .ok (.iload_n 1, 1) := by decide +kernel
theorem dX12_w5_2 : decode cX12_w5 2 = .ok (.iload_n 2, 1) := by decide +kernel
theorem dX12_w5_3 : decode cX12_w5 3 = .ok (.iload_n 3, 1) := by decide +kernel
theorem dX12_w5_4 : decode cX12_w5 4 = .ok (.invokestatic 136, 3) := by decide +kernel
theorem dX12_w5_7 : decode cX12_w5 7 = .ok (.bipush 8, 2) := by decide +kernel
theorem dX12_w5_9 : decode cX12_w5 9 = .ok (.lshl, 1) := by decide +kernel
theorem dX12_w5_10 : decode cX12_w5 10 = .ok (.iload 4, 2) := by decide +kernel
theorem dX12_w5_12 : decode cX12_w5 12 = .ok (.i2l, 1) := by decide +kernel
theorem dX12_w5_13 : decode cX12_w5 13 = .ok (.lor, 1) := by decide +kernel
theorem dX12_w5_14 : decode cX12_w5 14 = .ok (.lreturn, 1) := by decide +kernel
def f_X12_w5 (N : Nat) (p0 : Int32) (p1 : Int32) (p2 : Int32) (p3 : Int32) (p4 : Int32) : Option (Int64) := ob1 (f_X12_w4 N p0 p1 p2 p3) fun r4 => some ((r4 <<< ((8 : Int32).toInt64 &&& 63)) ||| p4.toInt64)
set_option maxHeartbeats 4000000 in
set_option maxRecDepth 100000 in
theorem k_X12_w5 (l : Launch) (N : Nat) (D : va_G) (cI cJ cZ cB cT : ClassId) (p0 : Int32) (p1 : Int32) (p2 : Int32) (p3 : Int32) (p4 : Int32) (o_r : Int64) (hf : f_X12_w5 N p0 p1 p2 p3 p4 = some o_r) : ∀ sz, Met l yX12_w5 (mw yX12_w5 cX12_w5 5 (some .long)) ({ frames := 3, cells := 0, slots := 0, locals := 66 } : Room) (mPre D (mT cI cJ cZ cB cT) [] sz [.int p0, .int p1, .int p2, .int p3, .int p4]) ((mQl D [] o_r) (va_A [] sz)) 0 0 (va_A [] sz) := by
  refine mMet (Qc := (mQl D [] o_r)) (by decide) (Nat.le_of_ble_eq_true rfl) (fun p e s m below meth c A ls hx hb hr hml hts hown hlocks hK hA hP hD hl => ?_)
  have hown : s.vm.findClass RX12 = some m.cls := hown
  have hl : lv_has ls 5 [(0, .int p0), (1, .int p1), (2, .int p2), (3, .int p3), (4, .int p4)] := hl
  have hS : va_S A s.heap s.heap [] := va_S.rf
  unfold f_X12_w5 at hf
  refine lv_iload_n hx hb dX12_w5_0 rfl (lv_at hl 0 rfl) ?_
  refine lv_iload_n hx hb dX12_w5_1 rfl (lv_at hl 1 rfl) ?_
  refine lv_iload_n hx hb dX12_w5_2 rfl (lv_at hl 2 rfl) ?_
  refine lv_iload_n hx hb dX12_w5_3 rfl (lv_at hl 3 rfl) ?_
  obtain ⟨r4, hg4, hf⟩ := ob1_some hf
  refine mcS0_l (As := [.int p0, .int p1, .int p2, .int p3]) (rest := []) hx hb hml hown hts hK hP hD hS hA (k_X12_w4 l N D cI cJ cZ cB cT p0 p1 p2 p3 r4 hg4) (kwX12_136 hts rfl rfl ⟨Nat.le_of_ble_eq_true rfl, Nat.le_of_ble_eq_true rfl⟩) rfl hl.1 rfl (Nat.le_of_ble_eq_true rfl) dX12_w5_4 ⟨Nat.zero_le _, Nat.zero_le _⟩ (fun H locs hP hD hS => ?_)
  refine lv_bipush (v := (8 : Int32)) hx hb dX12_w5_7 (by decide) ?_
  refine lv_lshl hx hb dX12_w5_9 rfl ?_
  refine lv_iload hx hb dX12_w5_10 (lv_at hl 4 rfl) ?_
  refine lv_i2l hx hb dX12_w5_12 rfl ?_
  refine lv_lor hx hb dX12_w5_13 ?_
  cases hf
  exact mret_l hx hb hr hlocks hP hD hS dX12_w5_14 rfl
theorem dX12_w6_0 : decode cX12_w6 0 = .ok (.iload_n 0, 1) := by decide +kernel
theorem dX12_w6_1 : decode cX12_w6 1 = .ok (.iload_n 1, 1) := by decide +kernel
theorem dX12_w6_2 : decode cX12_w6 2 = .ok (.iload_n 2, 1) := by decide +kernel
theorem dX12_w6_3 : decode cX12_w6 3 = .ok (.iload_n 3, 1) := by decide +kernel
theorem dX12_w6_4 : decode cX12_w6 4 = .ok (.iload 4, 2) := by decide +kernel
theorem dX12_w6_6 : decode cX12_w6 6 = .ok (.invokestatic 140, 3) := by decide +kernel
theorem dX12_w6_9 : decode cX12_w6 9 = .ok (.bipush 8, 2) := by decide +kernel
theorem dX12_w6_11 : decode cX12_w6 11 = .ok (.lshl, 1) := by decide +kernel
theorem dX12_w6_12 : decode cX12_w6 12 = .ok (.iload 5, 2) := by decide +kernel
theorem dX12_w6_14 : decode cX12_w6 14 = .ok (.i2l, 1) := by decide +kernel
theorem dX12_w6_15 : decode cX12_w6 15 = .ok (.lor, 1) := by decide +kernel
theorem dX12_w6_16 : decode cX12_w6 16 = .ok (.lreturn, 1) := by decide +kernel
def f_X12_w6 (N : Nat) (p0 : Int32) (p1 : Int32) (p2 : Int32) (p3 : Int32) (p4 : Int32) (p5 : Int32) : Option (Int64) := ob1 (f_X12_w5 N p0 p1 p2 p3 p4) fun r6 => some ((r6 <<< ((8 : Int32).toInt64 &&& 63)) ||| p5.toInt64)
set_option maxHeartbeats 4000000 in
set_option maxRecDepth 100000 in
theorem k_X12_w6 (l : Launch) (N : Nat) (D : va_G) (cI cJ cZ cB cT : ClassId) (p0 : Int32) (p1 : Int32) (p2 : Int32) (p3 : Int32) (p4 : Int32) (p5 : Int32) (o_r : Int64) (hf : f_X12_w6 N p0 p1 p2 p3 p4 p5 = some o_r) : ∀ sz, Met l yX12_w6 (mw yX12_w6 cX12_w6 6 (some .long)) ({ frames := 4, cells := 0, slots := 0, locals := 90 } : Room) (mPre D (mT cI cJ cZ cB cT) [] sz [.int p0, .int p1, .int p2, .int p3, .int p4, .int p5]) ((mQl D [] o_r) (va_A [] sz)) 0 0 (va_A [] sz) := by
  refine mMet (Qc := (mQl D [] o_r)) (by decide) (Nat.le_of_ble_eq_true rfl) (fun p e s m below meth c A ls hx hb hr hml hts hown hlocks hK hA hP hD hl => ?_)
  have hown : s.vm.findClass RX12 = some m.cls := hown
  have hl : lv_has ls 6 [(0, .int p0), (1, .int p1), (2, .int p2), (3, .int p3), (4, .int p4), (5, .int p5)] := hl
  have hS : va_S A s.heap s.heap [] := va_S.rf
  unfold f_X12_w6 at hf
  refine lv_iload_n hx hb dX12_w6_0 rfl (lv_at hl 0 rfl) ?_
  refine lv_iload_n hx hb dX12_w6_1 rfl (lv_at hl 1 rfl) ?_
  refine lv_iload_n hx hb dX12_w6_2 rfl (lv_at hl 2 rfl) ?_
  refine lv_iload_n hx hb dX12_w6_3 rfl (lv_at hl 3 rfl) ?_
  refine lv_iload hx hb dX12_w6_4 (lv_at hl 4 rfl) ?_
  obtain ⟨r6, hg6, hf⟩ := ob1_some hf
  refine mcS0_l (As := [.int p0, .int p1, .int p2, .int p3, .int p4]) (rest := []) hx hb hml hown hts hK hP hD hS hA (k_X12_w5 l N D cI cJ cZ cB cT p0 p1 p2 p3 p4 r6 hg6) (kwX12_140 hts rfl rfl ⟨Nat.le_of_ble_eq_true rfl, Nat.le_of_ble_eq_true rfl⟩) rfl hl.1 rfl (Nat.le_of_ble_eq_true rfl) dX12_w6_6 ⟨Nat.zero_le _, Nat.zero_le _⟩ (fun H locs hP hD hS => ?_)
  refine lv_bipush (v := (8 : Int32)) hx hb dX12_w6_9 (by decide) ?_
  refine lv_lshl hx hb dX12_w6_11 rfl ?_
  refine lv_iload hx hb dX12_w6_12 (lv_at hl 5 rfl) ?_
  refine lv_i2l hx hb dX12_w6_14 rfl ?_
  refine lv_lor hx hb dX12_w6_15 ?_
  cases hf
  exact mret_l hx hb hr hlocks hP hD hS dX12_w6_16 rfl
theorem dX12_isWord_0 : decode cX12_isWord 0 = .ok (.aload_n 0, 1) := by decide +kernel
theorem dX12_isWord_1 : decode cX12_isWord 1 = .ok (.getfield 106, 3) := by decide +kernel
theorem dX12_isWord_4 : decode cX12_isWord 4 = .ok (.iconst 2, 1) := by decide +kernel
theorem dX12_isWord_5 : decode cX12_isWord 5 = .ok (.if_icmp .ne 16, 3) := by decide +kernel
theorem dX12_isWord_8 : decode cX12_isWord 8 = .ok (.aload_n 0, 1) := by decide +kernel
theorem dX12_isWord_9 : decode cX12_isWord 9 = .ok (.getfield 119, 3) := by decide +kernel
theorem dX12_isWord_12 : decode cX12_isWord 12 = .ok (.lload_n 1, 1) := by decide +kernel
theorem dX12_isWord_13 : decode cX12_isWord 13 = .ok (.lcmp, 1) := by decide +kernel
theorem dX12_isWord_14 : decode cX12_isWord 14 = .ok (.ifCond .ne 7, 3) := by decide +kernel
theorem dX12_isWord_17 : decode cX12_isWord 17 = .ok (.iconst 1, 1) := by decide +kernel
theorem dX12_isWord_18 : decode cX12_isWord 18 = .ok (.goto 4, 3) := by decide +kernel
theorem dX12_isWord_21 : decode cX12_isWord 21 = .ok (.iconst 0, 1) := by decide +kernel
theorem dX12_isWord_22 : decode cX12_isWord 22 = .ok (.ireturn, 1) := by decide +kernel
def f_X12_isWord (N : Nat) (v_token : Int32) (v_word : Int64) (p1 : Int64) : Option (Int32) := if v_token = (2 : Int32) then (if (lg_cmp v_word p1) = 0 then (some (1 : Int32)) else (some (0 : Int32))) else (some (0 : Int32))
set_option maxHeartbeats 4000000 in
set_option maxRecDepth 100000 in
theorem k_X12_isWord (l : Launch) (N : Nat) (D : va_G) (cI cJ cZ cB cT : ClassId) (h : Nat) (q : Nat → Nat) (v_a : Nat → Int32) (v_image : Nat → Int32) (v_texts : Nat → Int32) (v_tape : Nat → Int32) (v_taped : Int32) (v_fault : Int32) (v_faultPlace : Int32) (v_at : Int32) (v_place : Int32) (v_token : Int32) (v_number : Int32) (v_word : Int64) (v_text0 : Int32) (v_written : Int32) (v_sort0 : Int32) (v_pile : Nat → Int32) (v_piled : Int32) (v_opens : Int32) (v_isWhole : Int32) (v_once : Int32) (v_named : Nat → Int32) (v_values : Nat → Int64) (v_truth : Nat → Int32) (v_isWritten : Int32) (v_died : Int32) (v_aside : Nat → Int32) (v_likely : Nat → Int32) (v_safe : Nat → Int32) (v_headOf : Nat → Int32) (p1 : Int64) (o_r : Int32) (hf : f_X12_isWord N v_token v_word p1 = some o_r) : ∀ sz, Met l yX12_isWord (mw yX12_isWord cX12_isWord 3 (some .boolean)) ({ frames := 0, cells := 0, slots := 0, locals := 0 } : Room) (mPre D (mT cI cJ cZ cB cT) (WM h q cI cJ cZ v_a v_image v_texts v_tape v_taped v_fault v_faultPlace v_at v_place v_token v_number v_word v_text0 v_written v_sort0 v_pile v_piled v_opens v_isWhole v_once v_named v_values v_truth v_isWritten v_died v_aside v_likely v_safe v_headOf) sz [.ref h, .long p1]) ((mQi D (WM h q cI cJ cZ v_a v_image v_texts v_tape v_taped v_fault v_faultPlace v_at v_place v_token v_number v_word v_text0 v_written v_sort0 v_pile v_piled v_opens v_isWhole v_once v_named v_values v_truth v_isWritten v_died v_aside v_likely v_safe v_headOf) o_r (mB o_r)) (va_A (WM h q cI cJ cZ v_a v_image v_texts v_tape v_taped v_fault v_faultPlace v_at v_place v_token v_number v_word v_text0 v_written v_sort0 v_pile v_piled v_opens v_isWhole v_once v_named v_values v_truth v_isWritten v_died v_aside v_likely v_safe v_headOf) sz)) 0 0 (va_A (WM h q cI cJ cZ v_a v_image v_texts v_tape v_taped v_fault v_faultPlace v_at v_place v_token v_number v_word v_text0 v_written v_sort0 v_pile v_piled v_opens v_isWhole v_once v_named v_values v_truth v_isWritten v_died v_aside v_likely v_safe v_headOf) sz) := by
  refine mMet (Qc := (mQi D (WM h q cI cJ cZ v_a v_image v_texts v_tape v_taped v_fault v_faultPlace v_at v_place v_token v_number v_word v_text0 v_written v_sort0 v_pile v_piled v_opens v_isWhole v_once v_named v_values v_truth v_isWritten v_died v_aside v_likely v_safe v_headOf) o_r (mB o_r))) (by decide) (Nat.le_of_ble_eq_true rfl) (fun p e s m below meth c A ls hx hb hr hml hts hown hlocks hK hA hP hD hl => ?_)
  have hown : s.vm.findClass RX12 = some m.cls := hown
  have hl : lv_has ls 3 [(0, .ref h), (1, .long p1)] := hl
  have hS : va_S A s.heap s.heap [] := va_S.rf
  unfold f_X12_isWord at hf
  refine lv_aload_n hx hb dX12_isWord_0 rfl (lv_at hl 0 rfl) ?_
  refine gfX12_106 hx hb hts hown hK hP 0 rfl rfl dX12_isWord_1 ?_
  refine lv_iconst (v := (2 : Int32)) hx hb dX12_isWord_4 (by decide) ?_
  refine xicmp_ne hx hb 21 dX12_isWord_5 (by decide) hf (fun hf => ?_) (fun hf => ?_)
  · refine lv_aload_n hx hb dX12_isWord_8 rfl (lv_at hl 0 rfl) ?_
    refine gfX12_119 hx hb hts hown hK hP 0 rfl rfl dX12_isWord_9 ?_
    refine lv_lload_n hx hb dX12_isWord_12 rfl (lv_at hl 1 rfl) ?_
    refine W.lcmp hx hb dX12_isWord_13 ?_
    refine xif_ne hx hb 21 dX12_isWord_14 (by decide) hf (fun hf => ?_) (fun hf => ?_)
    · refine lv_iconst (v := (1 : Int32)) hx hb dX12_isWord_17 (by decide) ?_
      refine lv_goto (tgt := 22) hx hb dX12_isWord_18 (by decide) ?_
      cases hf
      exact mret_z hx hb hr hlocks hP hD hS dX12_isWord_22 rfl rfl
    · refine lv_iconst (v := (0 : Int32)) hx hb dX12_isWord_21 (by decide) ?_
      cases hf
      exact mret_z hx hb hr hlocks hP hD hS dX12_isWord_22 rfl rfl
  · refine lv_iconst (v := (0 : Int32)) hx hb dX12_isWord_21 (by decide) ?_
    cases hf
    exact mret_z hx hb hr hlocks hP hD hS dX12_isWord_22 rfl rfl
theorem dX12_emit_0 : decode cX12_emit 0 = .ok (.aload_n 0, 1) := by decide +kernel
theorem dX12_emit_1 : decode cX12_emit 1 = .ok (.getfield 16, 3) := by decide +kernel
theorem dX12_emit_4 : decode cX12_emit 4 = .ok (.aload_n 0, 1) := by decide +kernel
theorem dX12_emit_5 : decode cX12_emit 5 = .ok (.getfield 144, 3) := by decide +kernel
theorem dX12_emit_8 : decode cX12_emit 8 = .ok (.bipush 121, 2) := by decide +kernel
theorem dX12_emit_10 : decode cX12_emit 10 = .ok (.iadd, 1) := by decide +kernel
theorem dX12_emit_11 : decode cX12_emit 11 = .ok (.iconst 2, 1) := by decide +kernel
theorem dX12_emit_12 : decode cX12_emit 12 = .ok (.aload_n 0, 1) := by decide +kernel
theorem dX12_emit_13 : decode cX12_emit 13 = .ok (.getfield 147, 3) := by decide +kernel
theorem dX12_emit_16 : decode cX12_emit 16 = .ok (.imul, 1) := by decide +kernel
theorem dX12_emit_17 : decode cX12_emit 17 = .ok (.iadd, 1) := by decide +kernel
theorem dX12_emit_18 : decode cX12_emit 18 = .ok (.iload_n 1, 1) := by decide +kernel
theorem dX12_emit_19 : decode cX12_emit 19 = .ok (.iastore, 1) := by decide +kernel
theorem dX12_emit_20 : decode cX12_emit 20 = .ok (.aload_n 0, 1) := by decide +kernel
theorem dX12_emit_21 : decode cX12_emit 21 = .ok (.getfield 16, 3) := by decide +kernel
theorem dX12_emit_24 : decode cX12_emit 24 = .ok (.aload_n 0, 1) := by decide +kernel
theorem dX12_emit_25 : decode cX12_emit 25 = .ok (.getfield 144, 3) := by decide +kernel
theorem dX12_emit_28 : decode cX12_emit 28 = .ok (.bipush 121, 2) := by decide +kernel
theorem dX12_emit_30 : decode cX12_emit 30 = .ok (.iadd, 1) := by decide +kernel
theorem dX12_emit_31 : decode cX12_emit 31 = .ok (.iconst 2, 1) := by decide +kernel
theorem dX12_emit_32 : decode cX12_emit 32 = .ok (.aload_n 0, 1) := by decide +kernel
theorem dX12_emit_33 : decode cX12_emit 33 = .ok (.getfield 147, 3) := by decide +kernel
theorem dX12_emit_36 : decode cX12_emit 36 = .ok (.imul, 1) := by decide +kernel
theorem dX12_emit_37 : decode cX12_emit 37 = .ok (.iadd, 1) := by decide +kernel
theorem dX12_emit_38 : decode cX12_emit 38 = .ok (.iconst 1, 1) := by decide +kernel
theorem dX12_emit_39 : decode cX12_emit 39 = .ok (.iadd, 1) := by decide +kernel
theorem dX12_emit_40 : decode cX12_emit 40 = .ok (.iload_n 2, 1) := by decide +kernel
theorem dX12_emit_41 : decode cX12_emit 41 = .ok (.iastore, 1) := by decide +kernel
theorem dX12_emit_42 : decode cX12_emit 42 = .ok (.aload_n 0, 1) := by decide +kernel
theorem dX12_emit_43 : decode cX12_emit 43 = .ok (.dup, 1) := by decide +kernel
theorem dX12_emit_44 : decode cX12_emit 44 = .ok (.getfield 147, 3) := by decide +kernel
theorem dX12_emit_47 : decode cX12_emit 47 = .ok (.iconst 1, 1) := by decide +kernel
theorem dX12_emit_48 : decode cX12_emit 48 = .ok (.iadd, 1) := by decide +kernel
theorem dX12_emit_49 : decode cX12_emit 49 = .ok (.putfield 147, 3) := by decide +kernel
theorem dX12_emit_52 : decode cX12_emit 52 = .ok (.return_, 1) := by decide +kernel
def f_X12_emit (N : Nat) (v_texts : Nat → Int32) (v_text0 : Int32) (v_written : Int32) (p1 : Int32) (p2 : Int32) : Option ((Nat → Int32) × Int32) := sA v_texts 2916 ((v_text0 + (121 : Int32)) + ((2 : Int32) * v_written)) p1 fun v_texts_19 => sA v_texts_19 2916 (((v_text0 + (121 : Int32)) + ((2 : Int32) * v_written)) + (1 : Int32)) p2 fun v_texts_41 => some (v_texts_41, (v_written + (1 : Int32)))
set_option maxHeartbeats 4000000 in
set_option maxRecDepth 100000 in
theorem k_X12_emit (l : Launch) (N : Nat) (D : va_G) (cI cJ cZ cB cT : ClassId) (h : Nat) (q : Nat → Nat) (v_a : Nat → Int32) (v_image : Nat → Int32) (v_texts : Nat → Int32) (v_tape : Nat → Int32) (v_taped : Int32) (v_fault : Int32) (v_faultPlace : Int32) (v_at : Int32) (v_place : Int32) (v_token : Int32) (v_number : Int32) (v_word : Int64) (v_text0 : Int32) (v_written : Int32) (v_sort0 : Int32) (v_pile : Nat → Int32) (v_piled : Int32) (v_opens : Int32) (v_isWhole : Int32) (v_once : Int32) (v_named : Nat → Int32) (v_values : Nat → Int64) (v_truth : Nat → Int32) (v_isWritten : Int32) (v_died : Int32) (v_aside : Nat → Int32) (v_likely : Nat → Int32) (v_safe : Nat → Int32) (v_headOf : Nat → Int32) (p1 : Int32) (p2 : Int32) (o_v_texts : Nat → Int32) (o_v_written : Int32) (hf : f_X12_emit N v_texts v_text0 v_written p1 p2 = some (o_v_texts, o_v_written)) : ∀ sz, Met l yX12_emit (mw yX12_emit cX12_emit 3 none) ({ frames := 0, cells := 0, slots := 0, locals := 0 } : Room) (mPre D (mT cI cJ cZ cB cT) (WM h q cI cJ cZ v_a v_image v_texts v_tape v_taped v_fault v_faultPlace v_at v_place v_token v_number v_word v_text0 v_written v_sort0 v_pile v_piled v_opens v_isWhole v_once v_named v_values v_truth v_isWritten v_died v_aside v_likely v_safe v_headOf) sz [.ref h, .int p1, .int p2]) ((mQv D (WM h q cI cJ cZ v_a v_image o_v_texts v_tape v_taped v_fault v_faultPlace v_at v_place v_token v_number v_word v_text0 o_v_written v_sort0 v_pile v_piled v_opens v_isWhole v_once v_named v_values v_truth v_isWritten v_died v_aside v_likely v_safe v_headOf)) (va_A (WM h q cI cJ cZ v_a v_image v_texts v_tape v_taped v_fault v_faultPlace v_at v_place v_token v_number v_word v_text0 v_written v_sort0 v_pile v_piled v_opens v_isWhole v_once v_named v_values v_truth v_isWritten v_died v_aside v_likely v_safe v_headOf) sz)) 0 0 (va_A (WM h q cI cJ cZ v_a v_image v_texts v_tape v_taped v_fault v_faultPlace v_at v_place v_token v_number v_word v_text0 v_written v_sort0 v_pile v_piled v_opens v_isWhole v_once v_named v_values v_truth v_isWritten v_died v_aside v_likely v_safe v_headOf) sz) := by
  refine mMet (Qc := (mQv D (WM h q cI cJ cZ v_a v_image o_v_texts v_tape v_taped v_fault v_faultPlace v_at v_place v_token v_number v_word v_text0 o_v_written v_sort0 v_pile v_piled v_opens v_isWhole v_once v_named v_values v_truth v_isWritten v_died v_aside v_likely v_safe v_headOf))) (by decide) (Nat.le_of_ble_eq_true rfl) (fun p e s m below meth c A ls hx hb hr hml hts hown hlocks hK hA hP hD hl => ?_)
  have hown : s.vm.findClass RX12 = some m.cls := hown
  have hl : lv_has ls 3 [(0, .ref h), (1, .int p1), (2, .int p2)] := hl
  have hS : va_S A s.heap s.heap [] := va_S.rf
  unfold f_X12_emit at hf
  refine lv_aload_n hx hb dX12_emit_0 rfl (lv_at hl 0 rfl) ?_
  refine gfX12_16 hx hb hts hown hK hP 0 rfl rfl dX12_emit_1 ?_
  refine lv_aload_n hx hb dX12_emit_4 rfl (lv_at hl 0 rfl) ?_
  refine gfX12_144 hx hb hts hown hK hP 0 rfl rfl dX12_emit_5 ?_
  refine lv_bipush (v := (121 : Int32)) hx hb dX12_emit_8 (by decide) ?_
  refine lv_iadd hx hb dX12_emit_10 ?_
  refine lv_iconst (v := (2 : Int32)) hx hb dX12_emit_11 (by decide) ?_
  refine lv_aload_n hx hb dX12_emit_12 rfl (lv_at hl 0 rfl) ?_
  refine gfX12_147 hx hb hts hown hK hP 0 rfl rfl dX12_emit_13 ?_
  refine lv_imul hx hb dX12_emit_16 ?_
  refine lv_iadd hx hb dX12_emit_17 ?_
  refine lv_iload_n hx hb dX12_emit_18 rfl (lv_at hl 1 rfl) ?_
  refine xiast hx hb hK hP hD hS 3 0 rfl rfl dX12_emit_19 hf (fun v_texts_19 hf H locs hP hD hS => ?_)
  have hP : va_P D vwCl (WM h q cI cJ cZ v_a v_image v_texts_19 v_tape v_taped v_fault v_faultPlace v_at v_place v_token v_number v_word v_text0 v_written v_sort0 v_pile v_piled v_opens v_isWhole v_once v_named v_values v_truth v_isWritten v_died v_aside v_likely v_safe v_headOf) H := hP
  have hD : va_D A (WM h q cI cJ cZ v_a v_image v_texts_19 v_tape v_taped v_fault v_faultPlace v_at v_place v_token v_number v_word v_text0 v_written v_sort0 v_pile v_piled v_opens v_isWhole v_once v_named v_values v_truth v_isWritten v_died v_aside v_likely v_safe v_headOf) := hD
  refine lv_aload_n hx hb dX12_emit_20 rfl (lv_at hl 0 rfl) ?_
  refine gfX12_16 hx hb hts hown hK hP 0 rfl rfl dX12_emit_21 ?_
  refine lv_aload_n hx hb dX12_emit_24 rfl (lv_at hl 0 rfl) ?_
  refine gfX12_144 hx hb hts hown hK hP 0 rfl rfl dX12_emit_25 ?_
  refine lv_bipush (v := (121 : Int32)) hx hb dX12_emit_28 (by decide) ?_
  refine lv_iadd hx hb dX12_emit_30 ?_
  refine lv_iconst (v := (2 : Int32)) hx hb dX12_emit_31 (by decide) ?_
  refine lv_aload_n hx hb dX12_emit_32 rfl (lv_at hl 0 rfl) ?_
  refine gfX12_147 hx hb hts hown hK hP 0 rfl rfl dX12_emit_33 ?_
  refine lv_imul hx hb dX12_emit_36 ?_
  refine lv_iadd hx hb dX12_emit_37 ?_
  refine lv_iconst (v := (1 : Int32)) hx hb dX12_emit_38 (by decide) ?_
  refine lv_iadd hx hb dX12_emit_39 ?_
  refine lv_iload_n hx hb dX12_emit_40 rfl (lv_at hl 2 rfl) ?_
  refine xiast hx hb hK hP hD hS 3 0 rfl rfl dX12_emit_41 hf (fun v_texts_41 hf H locs hP hD hS => ?_)
  have hP : va_P D vwCl (WM h q cI cJ cZ v_a v_image v_texts_41 v_tape v_taped v_fault v_faultPlace v_at v_place v_token v_number v_word v_text0 v_written v_sort0 v_pile v_piled v_opens v_isWhole v_once v_named v_values v_truth v_isWritten v_died v_aside v_likely v_safe v_headOf) H := hP
  have hD : va_D A (WM h q cI cJ cZ v_a v_image v_texts_41 v_tape v_taped v_fault v_faultPlace v_at v_place v_token v_number v_word v_text0 v_written v_sort0 v_pile v_piled v_opens v_isWhole v_once v_named v_values v_truth v_isWritten v_died v_aside v_likely v_safe v_headOf) := hD
  refine lv_aload_n hx hb dX12_emit_42 rfl (lv_at hl 0 rfl) ?_
  refine lv_dup hx hb dX12_emit_43 rfl ?_
  refine gfX12_147 hx hb hts hown hK hP 0 rfl rfl dX12_emit_44 ?_
  refine lv_iconst (v := (1 : Int32)) hx hb dX12_emit_47 (by decide) ?_
  refine lv_iadd hx hb dX12_emit_48 ?_
  refine pfX12_147 hx hb hts hown hK hP hD hS 0 rfl (Nat.le_of_ble_eq_true rfl) dX12_emit_49 (fun H locs hP hD hS => ?_)
  have hP : va_P D vwCl (WM h q cI cJ cZ v_a v_image v_texts_41 v_tape v_taped v_fault v_faultPlace v_at v_place v_token v_number v_word v_text0 (v_written + (1 : Int32)) v_sort0 v_pile v_piled v_opens v_isWhole v_once v_named v_values v_truth v_isWritten v_died v_aside v_likely v_safe v_headOf) H := hP
  have hD : va_D A (WM h q cI cJ cZ v_a v_image v_texts_41 v_tape v_taped v_fault v_faultPlace v_at v_place v_token v_number v_word v_text0 (v_written + (1 : Int32)) v_sort0 v_pile v_piled v_opens v_isWhole v_once v_named v_values v_truth v_isWritten v_died v_aside v_likely v_safe v_headOf) := hD
  cases hf
  exact mret_v hx hb hr hlocks hP hD hS dX12_emit_52
theorem dX12_nameOf_0 : decode cX12_nameOf 0 = .ok (.aload_n 0, 1) := by decide +kernel
theorem dX12_nameOf_1 : decode cX12_nameOf 1 = .ok (.getfield 106, 3) := by decide +kernel
theorem dX12_nameOf_4 : decode cX12_nameOf 4 = .ok (.iconst 2, 1) := by decide +kernel
theorem dX12_nameOf_5 : decode cX12_nameOf 5 = .ok (.if_icmp .eq 5, 3) := by decide +kernel
theorem dX12_nameOf_8 : decode cX12_nameOf 8 = .ok (.iconst (-1), 1) := by decide +kernel
theorem dX12_nameOf_9 : decode cX12_nameOf 9 = .ok (.ireturn, 1) := by decide +kernel
theorem dX12_nameOf_10 : decode cX12_nameOf 10 = .ok (.aload_n 0, 1) := by decide +kernel
theorem dX12_nameOf_11 : decode cX12_nameOf 11 = .ok (.getfield 119, 3) := by decide +kernel
theorem dX12_nameOf_14 : decode cX12_nameOf 14 = .ok (.bipush 109, 2) := by decide +kernel
theorem dX12_nameOf_16 : decode cX12_nameOf 16 = .ok (.bipush 111, 2) := by decide +kernel
theorem dX12_nameOf_18 : decode cX12_nameOf 18 = .ok (.bipush 110, 2) := by decide +kernel
theorem dX12_nameOf_20 : decode cX12_nameOf 20 = .ok (.bipush 116, 2) := by decide +kernel
theorem dX12_nameOf_22 : decode cX12_nameOf 22 = .ok (.bipush 104, 2) := by decide +kernel
theorem dX12_nameOf_24 : decode cX12_nameOf 24 = .ok (.invokestatic 140, 3) := by decide +kernel
theorem dX12_nameOf_27 : decode cX12_nameOf 27 = .ok (.lcmp, 1) := by decide +kernel
theorem dX12_nameOf_28 : decode cX12_nameOf 28 = .ok (.ifCond .ne 5, 3) := by decide +kernel
theorem dX12_nameOf_31 : decode cX12_nameOf 31 = .ok (.iconst 0, 1) := by decide +kernel
theorem dX12_nameOf_32 : decode cX12_nameOf 32 = .ok (.ireturn, 1) := by decide +kernel
theorem dX12_nameOf_33 : decode cX12_nameOf 33 = .ok (.aload_n 0, 1) := by decide +kernel
theorem dX12_nameOf_34 : decode cX12_nameOf 34 = .ok (.getfield 119, 3) := by decide +kernel
theorem dX12_nameOf_37 : decode cX12_nameOf 37 = .ok (.bipush 119, 2) := by decide +kernel
theorem dX12_nameOf_39 : decode cX12_nameOf 39 = .ok (.bipush 104, 2) := by decide +kernel
theorem dX12_nameOf_41 : decode cX12_nameOf 41 = .ok (.bipush 111, 2) := by decide +kernel
theorem dX12_nameOf_43 : decode cX12_nameOf 43 = .ok (.invokestatic 132, 3) := by decide +kernel
theorem dX12_nameOf_46 : decode cX12_nameOf 46 = .ok (.lcmp, 1) := by decide +kernel
theorem dX12_nameOf_47 : decode cX12_nameOf 47 = .ok (.ifCond .ne 5, 3) := by decide +kernel
theorem dX12_nameOf_50 : decode cX12_nameOf 50 = .ok (.iconst 1, 1) := by decide +kernel
theorem dX12_nameOf_51 : decode cX12_nameOf 51 = .ok (.ireturn, 1) := by decide +kernel
theorem dX12_nameOf_52 : decode cX12_nameOf 52 = .ok (.aload_n 0, 1) := by decide +kernel
theorem dX12_nameOf_53 : decode cX12_nameOf 53 = .ok (.getfield 119, 3) := by decide +kernel
theorem dX12_nameOf_56 : decode cX12_nameOf 56 = .ok (.bipush 102, 2) := by decide +kernel
theorem dX12_nameOf_58 : decode cX12_nameOf 58 = .ok (.bipush 101, 2) := by decide +kernel
theorem dX12_nameOf_60 : decode cX12_nameOf 60 = .ok (.bipush 97, 2) := by decide +kernel
theorem dX12_nameOf_62 : decode cX12_nameOf 62 = .ok (.bipush 114, 2) := by decide +kernel
theorem dX12_nameOf_64 : decode cX12_nameOf 64 = .ok (.invokestatic 136, 3) := by decide +kernel
theorem dX12_nameOf_67 : decode cX12_nameOf 67 = .ok (.lcmp, 1) := by decide +kernel
theorem dX12_nameOf_68 : decode cX12_nameOf 68 = .ok (.ifCond .ne 5, 3) := by decide +kernel
theorem dX12_nameOf_71 : decode cX12_nameOf 71 = .ok (.iconst 2, 1) := by decide +kernel
theorem dX12_nameOf_72 : decode cX12_nameOf 72 = .ok (.ireturn, 1) := by decide +kernel
theorem dX12_nameOf_73 : decode cX12_nameOf 73 = .ok (.aload_n 0, 1) := by decide +kernel
theorem dX12_nameOf_74 : decode cX12_nameOf 74 = .ok (.getfield 119, 3) := by decide +kernel
theorem dX12_nameOf_77 : decode cX12_nameOf 77 = .ok (.bipush 108, 2) := by decide +kernel
theorem dX12_nameOf_79 : decode cX12_nameOf 79 = .ok (.bipush 97, 2) := by decide +kernel
theorem dX12_nameOf_81 : decode cX12_nameOf 81 = .ok (.bipush 110, 2) := by decide +kernel
theorem dX12_nameOf_83 : decode cX12_nameOf 83 = .ok (.bipush 100, 2) := by decide +kernel
theorem dX12_nameOf_85 : decode cX12_nameOf 85 = .ok (.invokestatic 136, 3) := by decide +kernel
theorem dX12_nameOf_88 : decode cX12_nameOf 88 = .ok (.lcmp, 1) := by decide +kernel
theorem dX12_nameOf_89 : decode cX12_nameOf 89 = .ok (.ifCond .ne 5, 3) := by decide +kernel
theorem dX12_nameOf_92 : decode cX12_nameOf 92 = .ok (.iconst 3, 1) := by decide +kernel
theorem dX12_nameOf_93 : decode cX12_nameOf 93 = .ok (.ireturn, 1) := by decide +kernel
theorem dX12_nameOf_94 : decode cX12_nameOf 94 = .ok (.aload_n 0, 1) := by decide +kernel
theorem dX12_nameOf_95 : decode cX12_nameOf 95 = .ok (.getfield 119, 3) := by decide +kernel
theorem dX12_nameOf_98 : decode cX12_nameOf 98 = .ok (.bipush 102, 2) := by decide +kernel
theorem dX12_nameOf_100 : decode cX12_nameOf 100 = .ok (.bipush 111, 2) := by decide +kernel
theorem dX12_nameOf_102 : decode cX12_nameOf 102 = .ok (.bipush 114, 2) := by decide +kernel
theorem dX12_nameOf_104 : decode cX12_nameOf 104 = .ok (.bipush 101, 2) := by decide +kernel
theorem dX12_nameOf_106 : decode cX12_nameOf 106 = .ok (.bipush 115, 2) := by decide +kernel
theorem dX12_nameOf_108 : decode cX12_nameOf 108 = .ok (.bipush 116, 2) := by decide +kernel
theorem dX12_nameOf_110 : decode cX12_nameOf 110 = .ok (.invokestatic 150, 3) := by decide +kernel
theorem dX12_nameOf_113 : decode cX12_nameOf 113 = .ok (.lcmp, 1) := by decide +kernel
theorem dX12_nameOf_114 : decode cX12_nameOf 114 = .ok (.ifCond .ne 5, 3) := by decide +kernel
theorem dX12_nameOf_117 : decode cX12_nameOf 117 = .ok (.iconst 4, 1) := by decide +kernel
theorem dX12_nameOf_118 : decode cX12_nameOf 118 = .ok (.ireturn, 1) := by decide +kernel
theorem dX12_nameOf_119 : decode cX12_nameOf 119 = .ok (.aload_n 0, 1) := by decide +kernel
theorem dX12_nameOf_120 : decode cX12_nameOf 120 = .ok (.getfield 119, 3) := by decide +kernel
theorem dX12_nameOf_123 : decode cX12_nameOf 123 = .ok (.bipush 104, 2) := by decide +kernel
theorem dX12_nameOf_125 : decode cX12_nameOf 125 = .ok (.bipush 117, 2) := by decide +kernel
theorem dX12_nameOf_127 : decode cX12_nameOf 127 = .ok (.bipush 110, 2) := by decide +kernel
theorem dX12_nameOf_129 : decode cX12_nameOf 129 = .ok (.bipush 103, 2) := by decide +kernel
theorem dX12_nameOf_131 : decode cX12_nameOf 131 = .ok (.bipush 101, 2) := by decide +kernel
theorem dX12_nameOf_133 : decode cX12_nameOf 133 = .ok (.bipush 114, 2) := by decide +kernel
theorem dX12_nameOf_135 : decode cX12_nameOf 135 = .ok (.invokestatic 150, 3) := by decide +kernel
theorem dX12_nameOf_138 : decode cX12_nameOf 138 = .ok (.lcmp, 1) := by decide +kernel
theorem dX12_nameOf_139 : decode cX12_nameOf 139 = .ok (.ifCond .ne 5, 3) := by decide +kernel
theorem dX12_nameOf_142 : decode cX12_nameOf 142 = .ok (.iconst 5, 1) := by decide +kernel
theorem dX12_nameOf_143 : decode cX12_nameOf 143 = .ok (.ireturn, 1) := by decide +kernel
theorem dX12_nameOf_144 : decode cX12_nameOf 144 = .ok (.aload_n 0, 1) := by decide +kernel
theorem dX12_nameOf_145 : decode cX12_nameOf 145 = .ok (.getfield 119, 3) := by decide +kernel
theorem dX12_nameOf_148 : decode cX12_nameOf 148 = .ok (.bipush 111, 2) := by decide +kernel
theorem dX12_nameOf_150 : decode cX12_nameOf 150 = .ok (.bipush 117, 2) := by decide +kernel
theorem dX12_nameOf_152 : decode cX12_nameOf 152 = .ok (.bipush 116, 2) := by decide +kernel
theorem dX12_nameOf_154 : decode cX12_nameOf 154 = .ok (.invokestatic 132, 3) := by decide +kernel
theorem dX12_nameOf_157 : decode cX12_nameOf 157 = .ok (.lcmp, 1) := by decide +kernel
theorem dX12_nameOf_158 : decode cX12_nameOf 158 = .ok (.ifCond .ne 6, 3) := by decide +kernel
theorem dX12_nameOf_161 : decode cX12_nameOf 161 = .ok (.bipush 6, 2) := by decide +kernel
theorem dX12_nameOf_163 : decode cX12_nameOf 163 = .ok (.ireturn, 1) := by decide +kernel
theorem dX12_nameOf_164 : decode cX12_nameOf 164 = .ok (.aload_n 0, 1) := by decide +kernel
theorem dX12_nameOf_165 : decode cX12_nameOf 165 = .ok (.getfield 119, 3) := by decide +kernel
theorem dX12_nameOf_168 : decode cX12_nameOf 168 = .ok (.bipush 103, 2) := by decide +kernel
theorem dX12_nameOf_170 : decode cX12_nameOf 170 = .ok (.bipush 111, 2) := by decide +kernel
theorem dX12_nameOf_172 : decode cX12_nameOf 172 = .ok (.bipush 111, 2) := by decide +kernel
theorem dX12_nameOf_174 : decode cX12_nameOf 174 = .ok (.bipush 100, 2) := by decide +kernel
theorem dX12_nameOf_176 : decode cX12_nameOf 176 = .ok (.bipush 115, 2) := by decide +kernel
theorem dX12_nameOf_178 : decode cX12_nameOf 178 = .ok (.invokestatic 140, 3) := by decide +kernel
theorem dX12_nameOf_181 : decode cX12_nameOf 181 = .ok (.lcmp, 1) := by decide +kernel
theorem dX12_nameOf_182 : decode cX12_nameOf 182 = .ok (.ifCond .ne 6, 3) := by decide +kernel
theorem dX12_nameOf_185 : decode cX12_nameOf 185 = .ok (.bipush 7, 2) := by decide +kernel
theorem dX12_nameOf_187 : decode cX12_nameOf 187 = .ok (.ireturn, 1) := by decide +kernel
theorem dX12_nameOf_188 : decode cX12_nameOf 188 = .ok (.aload_n 0, 1) := by decide +kernel
theorem dX12_nameOf_189 : decode cX12_nameOf 189 = .ok (.getfield 119, 3) := by decide +kernel
theorem dX12_nameOf_192 : decode cX12_nameOf 192 = .ok (.bipush 100, 2) := by decide +kernel
theorem dX12_nameOf_194 : decode cX12_nameOf 194 = .ok (.bipush 101, 2) := by decide +kernel
theorem dX12_nameOf_196 : decode cX12_nameOf 196 = .ok (.bipush 98, 2) := by decide +kernel
theorem dX12_nameOf_198 : decode cX12_nameOf 198 = .ok (.bipush 116, 2) := by decide +kernel
theorem dX12_nameOf_200 : decode cX12_nameOf 200 = .ok (.bipush 115, 2) := by decide +kernel
theorem dX12_nameOf_202 : decode cX12_nameOf 202 = .ok (.invokestatic 140, 3) := by decide +kernel
theorem dX12_nameOf_205 : decode cX12_nameOf 205 = .ok (.lcmp, 1) := by decide +kernel
theorem dX12_nameOf_206 : decode cX12_nameOf 206 = .ok (.ifCond .ne 8, 3) := by decide +kernel
theorem dX12_nameOf_209 : decode cX12_nameOf 209 = .ok (.bipush 8, 2) := by decide +kernel
theorem dX12_nameOf_211 : decode cX12_nameOf 211 = .ok (.goto 30, 3) := by decide +kernel
theorem dX12_nameOf_214 : decode cX12_nameOf 214 = .ok (.aload_n 0, 1) := by decide +kernel
theorem dX12_nameOf_215 : decode cX12_nameOf 215 = .ok (.getfield 119, 3) := by decide +kernel
theorem dX12_nameOf_218 : decode cX12_nameOf 218 = .ok (.bipush 99, 2) := by decide +kernel
theorem dX12_nameOf_220 : decode cX12_nameOf 220 = .ok (.bipush 114, 2) := by decide +kernel
theorem dX12_nameOf_222 : decode cX12_nameOf 222 = .ok (.bipush 111, 2) := by decide +kernel
theorem dX12_nameOf_224 : decode cX12_nameOf 224 = .ok (.bipush 119, 2) := by decide +kernel
theorem dX12_nameOf_226 : decode cX12_nameOf 226 = .ok (.bipush 100, 2) := by decide +kernel
theorem dX12_nameOf_228 : decode cX12_nameOf 228 = .ok (.invokestatic 140, 3) := by decide +kernel
theorem dX12_nameOf_231 : decode cX12_nameOf 231 = .ok (.lcmp, 1) := by decide +kernel
theorem dX12_nameOf_232 : decode cX12_nameOf 232 = .ok (.ifCond .ne 8, 3) := by decide +kernel
theorem dX12_nameOf_235 : decode cX12_nameOf 235 = .ok (.bipush 9, 2) := by decide +kernel
theorem dX12_nameOf_237 : decode cX12_nameOf 237 = .ok (.goto 4, 3) := by decide +kernel
theorem dX12_nameOf_240 : decode cX12_nameOf 240 = .ok (.iconst (-1), 1) := by decide +kernel
theorem dX12_nameOf_241 : decode cX12_nameOf 241 = .ok (.ireturn, 1) := by decide +kernel
def f_X12_nameOf (N : Nat) (v_token : Int32) (v_word : Int64) : Option (Int32) := if v_token = (2 : Int32) then (ob1 (f_X12_w5 N (109 : Int32) (111 : Int32) (110 : Int32) (116 : Int32) (104 : Int32)) fun r24 => if (lg_cmp v_word r24) = 0 then (some (0 : Int32)) else (ob1 (f_X12_w3 N (119 : Int32) (104 : Int32) (111 : Int32)) fun r43 => if (lg_cmp v_word r43) = 0 then (some (1 : Int32)) else (ob1 (f_X12_w4 N (102 : Int32) (101 : Int32) (97 : Int32) (114 : Int32)) fun r64 => if (lg_cmp v_word r64) = 0 then (some (2 : Int32)) else (ob1 (f_X12_w4 N (108 : Int32) (97 : Int32) (110 : Int32) (100 : Int32)) fun r85 => if (lg_cmp v_word r85) = 0 then (some (3 : Int32)) else (ob1 (f_X12_w6 N (102 : Int32) (111 : Int32) (114 : Int32) (101 : Int32) (115 : Int32) (116 : Int32)) fun r110 => if (lg_cmp v_word r110) = 0 then (some (4 : Int32)) else (ob1 (f_X12_w6 N (104 : Int32) (117 : Int32) (110 : Int32) (103 : Int32) (101 : Int32) (114 : Int32)) fun r135 => if (lg_cmp v_word r135) = 0 then (some (5 : Int32)) else (ob1 (f_X12_w3 N (111 : Int32) (117 : Int32) (116 : Int32)) fun r154 => if (lg_cmp v_word r154) = 0 then (some (6 : Int32)) else (ob1 (f_X12_w5 N (103 : Int32) (111 : Int32) (111 : Int32) (100 : Int32) (115 : Int32)) fun r178 => if (lg_cmp v_word r178) = 0 then (some (7 : Int32)) else (ob1 (f_X12_w5 N (100 : Int32) (101 : Int32) (98 : Int32) (116 : Int32) (115 : Int32)) fun r202 => if (lg_cmp v_word r202) = 0 then (some (8 : Int32)) else (ob1 (f_X12_w5 N (99 : Int32) (114 : Int32) (111 : Int32) (119 : Int32) (100 : Int32)) fun r228 => if (lg_cmp v_word r228) = 0 then (some (9 : Int32)) else (some (-1 : Int32)))))))))))) else (some (-1 : Int32))
set_option maxHeartbeats 4000000 in
set_option maxRecDepth 100000 in
theorem k_X12_nameOf (l : Launch) (N : Nat) (D : va_G) (cI cJ cZ cB cT : ClassId) (h : Nat) (q : Nat → Nat) (v_a : Nat → Int32) (v_image : Nat → Int32) (v_texts : Nat → Int32) (v_tape : Nat → Int32) (v_taped : Int32) (v_fault : Int32) (v_faultPlace : Int32) (v_at : Int32) (v_place : Int32) (v_token : Int32) (v_number : Int32) (v_word : Int64) (v_text0 : Int32) (v_written : Int32) (v_sort0 : Int32) (v_pile : Nat → Int32) (v_piled : Int32) (v_opens : Int32) (v_isWhole : Int32) (v_once : Int32) (v_named : Nat → Int32) (v_values : Nat → Int64) (v_truth : Nat → Int32) (v_isWritten : Int32) (v_died : Int32) (v_aside : Nat → Int32) (v_likely : Nat → Int32) (v_safe : Nat → Int32) (v_headOf : Nat → Int32) (o_r : Int32) (hf : f_X12_nameOf N v_token v_word = some o_r) : ∀ sz, Met l yX12_nameOf (mw yX12_nameOf cX12_nameOf 1 (some .int)) ({ frames := 5, cells := 0, slots := 0, locals := 115 } : Room) (mPre D (mT cI cJ cZ cB cT) (WM h q cI cJ cZ v_a v_image v_texts v_tape v_taped v_fault v_faultPlace v_at v_place v_token v_number v_word v_text0 v_written v_sort0 v_pile v_piled v_opens v_isWhole v_once v_named v_values v_truth v_isWritten v_died v_aside v_likely v_safe v_headOf) sz [.ref h]) ((mQi D (WM h q cI cJ cZ v_a v_image v_texts v_tape v_taped v_fault v_faultPlace v_at v_place v_token v_number v_word v_text0 v_written v_sort0 v_pile v_piled v_opens v_isWhole v_once v_named v_values v_truth v_isWritten v_died v_aside v_likely v_safe v_headOf) o_r True) (va_A (WM h q cI cJ cZ v_a v_image v_texts v_tape v_taped v_fault v_faultPlace v_at v_place v_token v_number v_word v_text0 v_written v_sort0 v_pile v_piled v_opens v_isWhole v_once v_named v_values v_truth v_isWritten v_died v_aside v_likely v_safe v_headOf) sz)) 0 0 (va_A (WM h q cI cJ cZ v_a v_image v_texts v_tape v_taped v_fault v_faultPlace v_at v_place v_token v_number v_word v_text0 v_written v_sort0 v_pile v_piled v_opens v_isWhole v_once v_named v_values v_truth v_isWritten v_died v_aside v_likely v_safe v_headOf) sz) := by
  refine mMet (Qc := (mQi D (WM h q cI cJ cZ v_a v_image v_texts v_tape v_taped v_fault v_faultPlace v_at v_place v_token v_number v_word v_text0 v_written v_sort0 v_pile v_piled v_opens v_isWhole v_once v_named v_values v_truth v_isWritten v_died v_aside v_likely v_safe v_headOf) o_r True)) (by decide) (Nat.le_of_ble_eq_true rfl) (fun p e s m below meth c A ls hx hb hr hml hts hown hlocks hK hA hP hD hl => ?_)
  have hown : s.vm.findClass RX12 = some m.cls := hown
  have hl : lv_has ls 1 [(0, .ref h)] := hl
  have hS : va_S A s.heap s.heap [] := va_S.rf
  unfold f_X12_nameOf at hf
  refine lv_aload_n hx hb dX12_nameOf_0 rfl (lv_at hl 0 rfl) ?_
  refine gfX12_106 hx hb hts hown hK hP 0 rfl rfl dX12_nameOf_1 ?_
  refine lv_iconst (v := (2 : Int32)) hx hb dX12_nameOf_4 (by decide) ?_
  refine xicmp_eq hx hb 10 dX12_nameOf_5 (by decide) hf (fun hf => ?_) (fun hf => ?_)
  · refine lv_aload_n hx hb dX12_nameOf_10 rfl (lv_at hl 0 rfl) ?_
    refine gfX12_119 hx hb hts hown hK hP 0 rfl rfl dX12_nameOf_11 ?_
    refine lv_bipush (v := (109 : Int32)) hx hb dX12_nameOf_14 (by decide) ?_
    refine lv_bipush (v := (111 : Int32)) hx hb dX12_nameOf_16 (by decide) ?_
    refine lv_bipush (v := (110 : Int32)) hx hb dX12_nameOf_18 (by decide) ?_
    refine lv_bipush (v := (116 : Int32)) hx hb dX12_nameOf_20 (by decide) ?_
    refine lv_bipush (v := (104 : Int32)) hx hb dX12_nameOf_22 (by decide) ?_
    obtain ⟨r24, hg24, hf⟩ := ob1_some hf
    refine mcS0_l (As := [.int (109 : Int32), .int (111 : Int32), .int (110 : Int32), .int (116 : Int32), .int (104 : Int32)]) (rest := [.long v_word]) hx hb hml hown hts hK hP hD hS hA (k_X12_w5 l N D cI cJ cZ cB cT (109 : Int32) (111 : Int32) (110 : Int32) (116 : Int32) (104 : Int32) r24 hg24) (kwX12_140 hts rfl rfl ⟨Nat.le_of_ble_eq_true rfl, Nat.le_of_ble_eq_true rfl⟩) rfl hl.1 rfl (Nat.le_of_ble_eq_true rfl) dX12_nameOf_24 ⟨Nat.zero_le _, Nat.zero_le _⟩ (fun H locs hP hD hS => ?_)
    refine W.lcmp hx hb dX12_nameOf_27 ?_
    refine xif_ne hx hb 33 dX12_nameOf_28 (by decide) hf (fun hf => ?_) (fun hf => ?_)
    · refine lv_iconst (v := (0 : Int32)) hx hb dX12_nameOf_31 (by decide) ?_
      cases hf
      exact mret_i hx hb hr hlocks hP hD hS dX12_nameOf_32 rfl trivial
    · refine lv_aload_n hx hb dX12_nameOf_33 rfl (lv_at hl 0 rfl) ?_
      refine gfX12_119 hx hb hts hown hK hP 0 rfl rfl dX12_nameOf_34 ?_
      refine lv_bipush (v := (119 : Int32)) hx hb dX12_nameOf_37 (by decide) ?_
      refine lv_bipush (v := (104 : Int32)) hx hb dX12_nameOf_39 (by decide) ?_
      refine lv_bipush (v := (111 : Int32)) hx hb dX12_nameOf_41 (by decide) ?_
      obtain ⟨r43, hg43, hf⟩ := ob1_some hf
      refine mcS0_l (As := [.int (119 : Int32), .int (104 : Int32), .int (111 : Int32)]) (rest := [.long v_word]) hx hb hml hown hts hK hP hD hS hA (k_X12_w3 l N D cI cJ cZ cB cT (119 : Int32) (104 : Int32) (111 : Int32) r43 hg43) (kwX12_132 hts rfl rfl ⟨Nat.le_of_ble_eq_true rfl, Nat.le_of_ble_eq_true rfl⟩) rfl hl.1 rfl (Nat.le_of_ble_eq_true rfl) dX12_nameOf_43 ⟨Nat.zero_le _, Nat.zero_le _⟩ (fun H locs hP hD hS => ?_)
      refine W.lcmp hx hb dX12_nameOf_46 ?_
      refine xif_ne hx hb 52 dX12_nameOf_47 (by decide) hf (fun hf => ?_) (fun hf => ?_)
      · refine lv_iconst (v := (1 : Int32)) hx hb dX12_nameOf_50 (by decide) ?_
        cases hf
        exact mret_i hx hb hr hlocks hP hD hS dX12_nameOf_51 rfl trivial
      · refine lv_aload_n hx hb dX12_nameOf_52 rfl (lv_at hl 0 rfl) ?_
        refine gfX12_119 hx hb hts hown hK hP 0 rfl rfl dX12_nameOf_53 ?_
        refine lv_bipush (v := (102 : Int32)) hx hb dX12_nameOf_56 (by decide) ?_
        refine lv_bipush (v := (101 : Int32)) hx hb dX12_nameOf_58 (by decide) ?_
        refine lv_bipush (v := (97 : Int32)) hx hb dX12_nameOf_60 (by decide) ?_
        refine lv_bipush (v := (114 : Int32)) hx hb dX12_nameOf_62 (by decide) ?_
        obtain ⟨r64, hg64, hf⟩ := ob1_some hf
        refine mcS0_l (As := [.int (102 : Int32), .int (101 : Int32), .int (97 : Int32), .int (114 : Int32)]) (rest := [.long v_word]) hx hb hml hown hts hK hP hD hS hA (k_X12_w4 l N D cI cJ cZ cB cT (102 : Int32) (101 : Int32) (97 : Int32) (114 : Int32) r64 hg64) (kwX12_136 hts rfl rfl ⟨Nat.le_of_ble_eq_true rfl, Nat.le_of_ble_eq_true rfl⟩) rfl hl.1 rfl (Nat.le_of_ble_eq_true rfl) dX12_nameOf_64 ⟨Nat.zero_le _, Nat.zero_le _⟩ (fun H locs hP hD hS => ?_)
        refine W.lcmp hx hb dX12_nameOf_67 ?_
        refine xif_ne hx hb 73 dX12_nameOf_68 (by decide) hf (fun hf => ?_) (fun hf => ?_)
        · refine lv_iconst (v := (2 : Int32)) hx hb dX12_nameOf_71 (by decide) ?_
          cases hf
          exact mret_i hx hb hr hlocks hP hD hS dX12_nameOf_72 rfl trivial
        · refine lv_aload_n hx hb dX12_nameOf_73 rfl (lv_at hl 0 rfl) ?_
          refine gfX12_119 hx hb hts hown hK hP 0 rfl rfl dX12_nameOf_74 ?_
          refine lv_bipush (v := (108 : Int32)) hx hb dX12_nameOf_77 (by decide) ?_
          refine lv_bipush (v := (97 : Int32)) hx hb dX12_nameOf_79 (by decide) ?_
          refine lv_bipush (v := (110 : Int32)) hx hb dX12_nameOf_81 (by decide) ?_
          refine lv_bipush (v := (100 : Int32)) hx hb dX12_nameOf_83 (by decide) ?_
          obtain ⟨r85, hg85, hf⟩ := ob1_some hf
          refine mcS0_l (As := [.int (108 : Int32), .int (97 : Int32), .int (110 : Int32), .int (100 : Int32)]) (rest := [.long v_word]) hx hb hml hown hts hK hP hD hS hA (k_X12_w4 l N D cI cJ cZ cB cT (108 : Int32) (97 : Int32) (110 : Int32) (100 : Int32) r85 hg85) (kwX12_136 hts rfl rfl ⟨Nat.le_of_ble_eq_true rfl, Nat.le_of_ble_eq_true rfl⟩) rfl hl.1 rfl (Nat.le_of_ble_eq_true rfl) dX12_nameOf_85 ⟨Nat.zero_le _, Nat.zero_le _⟩ (fun H locs hP hD hS => ?_)
          refine W.lcmp hx hb dX12_nameOf_88 ?_
          refine xif_ne hx hb 94 dX12_nameOf_89 (by decide) hf (fun hf => ?_) (fun hf => ?_)
          · refine lv_iconst (v := (3 : Int32)) hx hb dX12_nameOf_92 (by decide) ?_
            cases hf
            exact mret_i hx hb hr hlocks hP hD hS dX12_nameOf_93 rfl trivial
          · refine lv_aload_n hx hb dX12_nameOf_94 rfl (lv_at hl 0 rfl) ?_
            refine gfX12_119 hx hb hts hown hK hP 0 rfl rfl dX12_nameOf_95 ?_
            refine lv_bipush (v := (102 : Int32)) hx hb dX12_nameOf_98 (by decide) ?_
            refine lv_bipush (v := (111 : Int32)) hx hb dX12_nameOf_100 (by decide) ?_
            refine lv_bipush (v := (114 : Int32)) hx hb dX12_nameOf_102 (by decide) ?_
            refine lv_bipush (v := (101 : Int32)) hx hb dX12_nameOf_104 (by decide) ?_
            refine lv_bipush (v := (115 : Int32)) hx hb dX12_nameOf_106 (by decide) ?_
            refine lv_bipush (v := (116 : Int32)) hx hb dX12_nameOf_108 (by decide) ?_
            obtain ⟨r110, hg110, hf⟩ := ob1_some hf
            refine mcS0_l (As := [.int (102 : Int32), .int (111 : Int32), .int (114 : Int32), .int (101 : Int32), .int (115 : Int32), .int (116 : Int32)]) (rest := [.long v_word]) hx hb hml hown hts hK hP hD hS hA (k_X12_w6 l N D cI cJ cZ cB cT (102 : Int32) (111 : Int32) (114 : Int32) (101 : Int32) (115 : Int32) (116 : Int32) r110 hg110) (kwX12_150 hts rfl rfl ⟨Nat.le_of_ble_eq_true rfl, Nat.le_of_ble_eq_true rfl⟩) rfl hl.1 rfl (Nat.le_of_ble_eq_true rfl) dX12_nameOf_110 ⟨Nat.zero_le _, Nat.zero_le _⟩ (fun H locs hP hD hS => ?_)
            refine W.lcmp hx hb dX12_nameOf_113 ?_
            refine xif_ne hx hb 119 dX12_nameOf_114 (by decide) hf (fun hf => ?_) (fun hf => ?_)
            · refine lv_iconst (v := (4 : Int32)) hx hb dX12_nameOf_117 (by decide) ?_
              cases hf
              exact mret_i hx hb hr hlocks hP hD hS dX12_nameOf_118 rfl trivial
            · refine lv_aload_n hx hb dX12_nameOf_119 rfl (lv_at hl 0 rfl) ?_
              refine gfX12_119 hx hb hts hown hK hP 0 rfl rfl dX12_nameOf_120 ?_
              refine lv_bipush (v := (104 : Int32)) hx hb dX12_nameOf_123 (by decide) ?_
              refine lv_bipush (v := (117 : Int32)) hx hb dX12_nameOf_125 (by decide) ?_
              refine lv_bipush (v := (110 : Int32)) hx hb dX12_nameOf_127 (by decide) ?_
              refine lv_bipush (v := (103 : Int32)) hx hb dX12_nameOf_129 (by decide) ?_
              refine lv_bipush (v := (101 : Int32)) hx hb dX12_nameOf_131 (by decide) ?_
              refine lv_bipush (v := (114 : Int32)) hx hb dX12_nameOf_133 (by decide) ?_
              obtain ⟨r135, hg135, hf⟩ := ob1_some hf
              refine mcS0_l (As := [.int (104 : Int32), .int (117 : Int32), .int (110 : Int32), .int (103 : Int32), .int (101 : Int32), .int (114 : Int32)]) (rest := [.long v_word]) hx hb hml hown hts hK hP hD hS hA (k_X12_w6 l N D cI cJ cZ cB cT (104 : Int32) (117 : Int32) (110 : Int32) (103 : Int32) (101 : Int32) (114 : Int32) r135 hg135) (kwX12_150 hts rfl rfl ⟨Nat.le_of_ble_eq_true rfl, Nat.le_of_ble_eq_true rfl⟩) rfl hl.1 rfl (Nat.le_of_ble_eq_true rfl) dX12_nameOf_135 ⟨Nat.zero_le _, Nat.zero_le _⟩ (fun H locs hP hD hS => ?_)
              refine W.lcmp hx hb dX12_nameOf_138 ?_
              refine xif_ne hx hb 144 dX12_nameOf_139 (by decide) hf (fun hf => ?_) (fun hf => ?_)
              · refine lv_iconst (v := (5 : Int32)) hx hb dX12_nameOf_142 (by decide) ?_
                cases hf
                exact mret_i hx hb hr hlocks hP hD hS dX12_nameOf_143 rfl trivial
              · refine lv_aload_n hx hb dX12_nameOf_144 rfl (lv_at hl 0 rfl) ?_
                refine gfX12_119 hx hb hts hown hK hP 0 rfl rfl dX12_nameOf_145 ?_
                refine lv_bipush (v := (111 : Int32)) hx hb dX12_nameOf_148 (by decide) ?_
                refine lv_bipush (v := (117 : Int32)) hx hb dX12_nameOf_150 (by decide) ?_
                refine lv_bipush (v := (116 : Int32)) hx hb dX12_nameOf_152 (by decide) ?_
                obtain ⟨r154, hg154, hf⟩ := ob1_some hf
                refine mcS0_l (As := [.int (111 : Int32), .int (117 : Int32), .int (116 : Int32)]) (rest := [.long v_word]) hx hb hml hown hts hK hP hD hS hA (k_X12_w3 l N D cI cJ cZ cB cT (111 : Int32) (117 : Int32) (116 : Int32) r154 hg154) (kwX12_132 hts rfl rfl ⟨Nat.le_of_ble_eq_true rfl, Nat.le_of_ble_eq_true rfl⟩) rfl hl.1 rfl (Nat.le_of_ble_eq_true rfl) dX12_nameOf_154 ⟨Nat.zero_le _, Nat.zero_le _⟩ (fun H locs hP hD hS => ?_)
                refine W.lcmp hx hb dX12_nameOf_157 ?_
                refine xif_ne hx hb 164 dX12_nameOf_158 (by decide) hf (fun hf => ?_) (fun hf => ?_)
                · refine lv_bipush (v := (6 : Int32)) hx hb dX12_nameOf_161 (by decide) ?_
                  cases hf
                  exact mret_i hx hb hr hlocks hP hD hS dX12_nameOf_163 rfl trivial
                · refine lv_aload_n hx hb dX12_nameOf_164 rfl (lv_at hl 0 rfl) ?_
                  refine gfX12_119 hx hb hts hown hK hP 0 rfl rfl dX12_nameOf_165 ?_
                  refine lv_bipush (v := (103 : Int32)) hx hb dX12_nameOf_168 (by decide) ?_
                  refine lv_bipush (v := (111 : Int32)) hx hb dX12_nameOf_170 (by decide) ?_
                  refine lv_bipush (v := (111 : Int32)) hx hb dX12_nameOf_172 (by decide) ?_
                  refine lv_bipush (v := (100 : Int32)) hx hb dX12_nameOf_174 (by decide) ?_
                  refine lv_bipush (v := (115 : Int32)) hx hb dX12_nameOf_176 (by decide) ?_
                  obtain ⟨r178, hg178, hf⟩ := ob1_some hf
                  refine mcS0_l (As := [.int (103 : Int32), .int (111 : Int32), .int (111 : Int32), .int (100 : Int32), .int (115 : Int32)]) (rest := [.long v_word]) hx hb hml hown hts hK hP hD hS hA (k_X12_w5 l N D cI cJ cZ cB cT (103 : Int32) (111 : Int32) (111 : Int32) (100 : Int32) (115 : Int32) r178 hg178) (kwX12_140 hts rfl rfl ⟨Nat.le_of_ble_eq_true rfl, Nat.le_of_ble_eq_true rfl⟩) rfl hl.1 rfl (Nat.le_of_ble_eq_true rfl) dX12_nameOf_178 ⟨Nat.zero_le _, Nat.zero_le _⟩ (fun H locs hP hD hS => ?_)
                  refine W.lcmp hx hb dX12_nameOf_181 ?_
                  refine xif_ne hx hb 188 dX12_nameOf_182 (by decide) hf (fun hf => ?_) (fun hf => ?_)
                  · refine lv_bipush (v := (7 : Int32)) hx hb dX12_nameOf_185 (by decide) ?_
                    cases hf
                    exact mret_i hx hb hr hlocks hP hD hS dX12_nameOf_187 rfl trivial
                  · refine lv_aload_n hx hb dX12_nameOf_188 rfl (lv_at hl 0 rfl) ?_
                    refine gfX12_119 hx hb hts hown hK hP 0 rfl rfl dX12_nameOf_189 ?_
                    refine lv_bipush (v := (100 : Int32)) hx hb dX12_nameOf_192 (by decide) ?_
                    refine lv_bipush (v := (101 : Int32)) hx hb dX12_nameOf_194 (by decide) ?_
                    refine lv_bipush (v := (98 : Int32)) hx hb dX12_nameOf_196 (by decide) ?_
                    refine lv_bipush (v := (116 : Int32)) hx hb dX12_nameOf_198 (by decide) ?_
                    refine lv_bipush (v := (115 : Int32)) hx hb dX12_nameOf_200 (by decide) ?_
                    obtain ⟨r202, hg202, hf⟩ := ob1_some hf
                    refine mcS0_l (As := [.int (100 : Int32), .int (101 : Int32), .int (98 : Int32), .int (116 : Int32), .int (115 : Int32)]) (rest := [.long v_word]) hx hb hml hown hts hK hP hD hS hA (k_X12_w5 l N D cI cJ cZ cB cT (100 : Int32) (101 : Int32) (98 : Int32) (116 : Int32) (115 : Int32) r202 hg202) (kwX12_140 hts rfl rfl ⟨Nat.le_of_ble_eq_true rfl, Nat.le_of_ble_eq_true rfl⟩) rfl hl.1 rfl (Nat.le_of_ble_eq_true rfl) dX12_nameOf_202 ⟨Nat.zero_le _, Nat.zero_le _⟩ (fun H locs hP hD hS => ?_)
                    refine W.lcmp hx hb dX12_nameOf_205 ?_
                    refine xif_ne hx hb 214 dX12_nameOf_206 (by decide) hf (fun hf => ?_) (fun hf => ?_)
                    · refine lv_bipush (v := (8 : Int32)) hx hb dX12_nameOf_209 (by decide) ?_
                      refine lv_goto (tgt := 241) hx hb dX12_nameOf_211 (by decide) ?_
                      cases hf
                      exact mret_i hx hb hr hlocks hP hD hS dX12_nameOf_241 rfl trivial
                    · refine lv_aload_n hx hb dX12_nameOf_214 rfl (lv_at hl 0 rfl) ?_
                      refine gfX12_119 hx hb hts hown hK hP 0 rfl rfl dX12_nameOf_215 ?_
                      refine lv_bipush (v := (99 : Int32)) hx hb dX12_nameOf_218 (by decide) ?_
                      refine lv_bipush (v := (114 : Int32)) hx hb dX12_nameOf_220 (by decide) ?_
                      refine lv_bipush (v := (111 : Int32)) hx hb dX12_nameOf_222 (by decide) ?_
                      refine lv_bipush (v := (119 : Int32)) hx hb dX12_nameOf_224 (by decide) ?_
                      refine lv_bipush (v := (100 : Int32)) hx hb dX12_nameOf_226 (by decide) ?_
                      obtain ⟨r228, hg228, hf⟩ := ob1_some hf
                      refine mcS0_l (As := [.int (99 : Int32), .int (114 : Int32), .int (111 : Int32), .int (119 : Int32), .int (100 : Int32)]) (rest := [.long v_word]) hx hb hml hown hts hK hP hD hS hA (k_X12_w5 l N D cI cJ cZ cB cT (99 : Int32) (114 : Int32) (111 : Int32) (119 : Int32) (100 : Int32) r228 hg228) (kwX12_140 hts rfl rfl ⟨Nat.le_of_ble_eq_true rfl, Nat.le_of_ble_eq_true rfl⟩) rfl hl.1 rfl (Nat.le_of_ble_eq_true rfl) dX12_nameOf_228 ⟨Nat.zero_le _, Nat.zero_le _⟩ (fun H locs hP hD hS => ?_)
                      refine W.lcmp hx hb dX12_nameOf_231 ?_
                      refine xif_ne hx hb 240 dX12_nameOf_232 (by decide) hf (fun hf => ?_) (fun hf => ?_)
                      · refine lv_bipush (v := (9 : Int32)) hx hb dX12_nameOf_235 (by decide) ?_
                        refine lv_goto (tgt := 241) hx hb dX12_nameOf_237 (by decide) ?_
                        cases hf
                        exact mret_i hx hb hr hlocks hP hD hS dX12_nameOf_241 rfl trivial
                      · refine lv_iconst (v := (-1 : Int32)) hx hb dX12_nameOf_240 (by decide) ?_
                        cases hf
                        exact mret_i hx hb hr hlocks hP hD hS dX12_nameOf_241 rfl trivial
  · refine lv_iconst (v := (-1 : Int32)) hx hb dX12_nameOf_8 (by decide) ?_
    cases hf
    exact mret_i hx hb hr hlocks hP hD hS dX12_nameOf_9 rfl trivial
theorem dX12_isOf_0 : decode cX12_isOf 0 = .ok (.iload_n 1, 1) := by decide +kernel
theorem dX12_isOf_1 : decode cX12_isOf 1 = .ok (.iconst 5, 1) := by decide +kernel
theorem dX12_isOf_2 : decode cX12_isOf 2 = .ok (.if_icmp .ge 5, 3) := by decide +kernel
theorem dX12_isOf_5 : decode cX12_isOf 5 = .ok (.iconst 1, 1) := by decide +kernel
theorem dX12_isOf_6 : decode cX12_isOf 6 = .ok (.ireturn, 1) := by decide +kernel
theorem dX12_isOf_7 : decode cX12_isOf 7 = .ok (.iload_n 1, 1) := by decide +kernel
theorem dX12_isOf_8 : decode cX12_isOf 8 = .ok (.bipush 7, 2) := by decide +kernel
theorem dX12_isOf_10 : decode cX12_isOf 10 = .ok (.if_icmp .ge 17, 3) := by decide +kernel
theorem dX12_isOf_13 : decode cX12_isOf 13 = .ok (.aload_n 0, 1) := by decide +kernel
theorem dX12_isOf_14 : decode cX12_isOf 14 = .ok (.getfield 154, 3) := by decide +kernel
theorem dX12_isOf_17 : decode cX12_isOf 17 = .ok (.iconst 3, 1) := by decide +kernel
theorem dX12_isOf_18 : decode cX12_isOf 18 = .ok (.if_icmp .eq 7, 3) := by decide +kernel
theorem dX12_isOf_21 : decode cX12_isOf 21 = .ok (.iconst 1, 1) := by decide +kernel
theorem dX12_isOf_22 : decode cX12_isOf 22 = .ok (.goto 4, 3) := by decide +kernel
theorem dX12_isOf_25 : decode cX12_isOf 25 = .ok (.iconst 0, 1) := by decide +kernel
theorem dX12_isOf_26 : decode cX12_isOf 26 = .ok (.ireturn, 1) := by decide +kernel
theorem dX12_isOf_27 : decode cX12_isOf 27 = .ok (.iload_n 1, 1) := by decide +kernel
theorem dX12_isOf_28 : decode cX12_isOf 28 = .ok (.bipush 9, 2) := by decide +kernel
theorem dX12_isOf_30 : decode cX12_isOf 30 = .ok (.if_icmp .ge 19, 3) := by decide +kernel
theorem dX12_isOf_33 : decode cX12_isOf 33 = .ok (.aload_n 0, 1) := by decide +kernel
theorem dX12_isOf_34 : decode cX12_isOf 34 = .ok (.getfield 154, 3) := by decide +kernel
theorem dX12_isOf_37 : decode cX12_isOf 37 = .ok (.iconst 2, 1) := by decide +kernel
theorem dX12_isOf_38 : decode cX12_isOf 38 = .ok (.if_icmp .lt 7, 3) := by decide +kernel
theorem dX12_isOf_41 : decode cX12_isOf 41 = .ok (.iconst 1, 1) := by decide +kernel
theorem dX12_isOf_42 : decode cX12_isOf 42 = .ok (.goto 28, 3) := by decide +kernel
theorem dX12_isOf_45 : decode cX12_isOf 45 = .ok (.iconst 0, 1) := by decide +kernel
theorem dX12_isOf_46 : decode cX12_isOf 46 = .ok (.goto 24, 3) := by decide +kernel
theorem dX12_isOf_49 : decode cX12_isOf 49 = .ok (.aload_n 0, 1) := by decide +kernel
theorem dX12_isOf_50 : decode cX12_isOf 50 = .ok (.getfield 154, 3) := by decide +kernel
theorem dX12_isOf_53 : decode cX12_isOf 53 = .ok (.iconst 1, 1) := by decide +kernel
theorem dX12_isOf_54 : decode cX12_isOf 54 = .ok (.if_icmp .eq 11, 3) := by decide +kernel
theorem dX12_isOf_57 : decode cX12_isOf 57 = .ok (.aload_n 0, 1) := by decide +kernel
theorem dX12_isOf_58 : decode cX12_isOf 58 = .ok (.getfield 154, 3) := by decide +kernel
theorem dX12_isOf_61 : decode cX12_isOf 61 = .ok (.iconst 3, 1) := by decide +kernel
theorem dX12_isOf_62 : decode cX12_isOf 62 = .ok (.if_icmp .ne 7, 3) := by decide +kernel
theorem dX12_isOf_65 : decode cX12_isOf 65 = .ok (.iconst 1, 1) := by decide +kernel
theorem dX12_isOf_66 : decode cX12_isOf 66 = .ok (.goto 4, 3) := by decide +kernel
theorem dX12_isOf_69 : decode cX12_isOf 69 = .ok (.iconst 0, 1) := by decide +kernel
theorem dX12_isOf_70 : decode cX12_isOf 70 = .ok (.ireturn, 1) := by decide +kernel
def f_X12_isOf_65 (N : Nat) (v_sort0 : Int32) : Option (Int32) := some (1 : Int32)
def f_X12_isOf (N : Nat) (v_sort0 : Int32) (p1 : Int32) : Option (Int32) := if (5 : Int32) ≤ p1 then (if (7 : Int32) ≤ p1 then (if (9 : Int32) ≤ p1 then (if v_sort0 = (1 : Int32) then (f_X12_isOf_65 N v_sort0) else (if v_sort0 = (3 : Int32) then (f_X12_isOf_65 N v_sort0) else (some (0 : Int32)))) else (if v_sort0 < (2 : Int32) then (some (0 : Int32)) else (some (1 : Int32)))) else (if v_sort0 = (3 : Int32) then (some (0 : Int32)) else (some (1 : Int32)))) else (some (1 : Int32))
set_option maxHeartbeats 4000000 in
set_option maxRecDepth 100000 in
theorem k_X12_isOf (l : Launch) (N : Nat) (D : va_G) (cI cJ cZ cB cT : ClassId) (h : Nat) (q : Nat → Nat) (v_a : Nat → Int32) (v_image : Nat → Int32) (v_texts : Nat → Int32) (v_tape : Nat → Int32) (v_taped : Int32) (v_fault : Int32) (v_faultPlace : Int32) (v_at : Int32) (v_place : Int32) (v_token : Int32) (v_number : Int32) (v_word : Int64) (v_text0 : Int32) (v_written : Int32) (v_sort0 : Int32) (v_pile : Nat → Int32) (v_piled : Int32) (v_opens : Int32) (v_isWhole : Int32) (v_once : Int32) (v_named : Nat → Int32) (v_values : Nat → Int64) (v_truth : Nat → Int32) (v_isWritten : Int32) (v_died : Int32) (v_aside : Nat → Int32) (v_likely : Nat → Int32) (v_safe : Nat → Int32) (v_headOf : Nat → Int32) (p1 : Int32) (o_r : Int32) (hf : f_X12_isOf N v_sort0 p1 = some o_r) : ∀ sz, Met l yX12_isOf (mw yX12_isOf cX12_isOf 2 (some .boolean)) ({ frames := 0, cells := 0, slots := 0, locals := 0 } : Room) (mPre D (mT cI cJ cZ cB cT) (WM h q cI cJ cZ v_a v_image v_texts v_tape v_taped v_fault v_faultPlace v_at v_place v_token v_number v_word v_text0 v_written v_sort0 v_pile v_piled v_opens v_isWhole v_once v_named v_values v_truth v_isWritten v_died v_aside v_likely v_safe v_headOf) sz [.ref h, .int p1]) ((mQi D (WM h q cI cJ cZ v_a v_image v_texts v_tape v_taped v_fault v_faultPlace v_at v_place v_token v_number v_word v_text0 v_written v_sort0 v_pile v_piled v_opens v_isWhole v_once v_named v_values v_truth v_isWritten v_died v_aside v_likely v_safe v_headOf) o_r (mB o_r)) (va_A (WM h q cI cJ cZ v_a v_image v_texts v_tape v_taped v_fault v_faultPlace v_at v_place v_token v_number v_word v_text0 v_written v_sort0 v_pile v_piled v_opens v_isWhole v_once v_named v_values v_truth v_isWritten v_died v_aside v_likely v_safe v_headOf) sz)) 0 0 (va_A (WM h q cI cJ cZ v_a v_image v_texts v_tape v_taped v_fault v_faultPlace v_at v_place v_token v_number v_word v_text0 v_written v_sort0 v_pile v_piled v_opens v_isWhole v_once v_named v_values v_truth v_isWritten v_died v_aside v_likely v_safe v_headOf) sz) := by
  refine mMet (Qc := (mQi D (WM h q cI cJ cZ v_a v_image v_texts v_tape v_taped v_fault v_faultPlace v_at v_place v_token v_number v_word v_text0 v_written v_sort0 v_pile v_piled v_opens v_isWhole v_once v_named v_values v_truth v_isWritten v_died v_aside v_likely v_safe v_headOf) o_r (mB o_r))) (by decide) (Nat.le_of_ble_eq_true rfl) (fun p e s m below meth c A ls hx hb hr hml hts hown hlocks hK hA hP hD hl => ?_)
  have hown : s.vm.findClass RX12 = some m.cls := hown
  have hl : lv_has ls 2 [(0, .ref h), (1, .int p1)] := hl
  have hS : va_S A s.heap s.heap [] := va_S.rf
  have b65 : ∀ (H : Heap) (locs : List Loc) (ls : Array Slot), f_X12_isOf_65 N v_sort0 = some o_r → va_P D vwCl (WM h q cI cJ cZ v_a v_image v_texts v_tape v_taped v_fault v_faultPlace v_at v_place v_token v_number v_word v_text0 v_written v_sort0 v_pile v_piled v_opens v_isWhole v_once v_named v_values v_truth v_isWritten v_died v_aside v_likely v_safe v_headOf) H → va_D A (WM h q cI cJ cZ v_a v_image v_texts v_tape v_taped v_fault v_faultPlace v_at v_place v_token v_number v_word v_text0 v_written v_sort0 v_pile v_piled v_opens v_isWhole v_once v_named v_values v_truth v_isWritten v_died v_aside v_likely v_safe v_headOf) → va_S A s.heap H locs → lv_has ls 2 [] → W p l e ({ frames := 0, cells := 0, slots := 0, locals := 0 } : Room) s m ([.ref h, .int p1] : List Value).toArray below meth c H locs 0 0 (MQ below ((mQi D (WM h q cI cJ cZ v_a v_image v_texts v_tape v_taped v_fault v_faultPlace v_at v_place v_token v_number v_word v_text0 v_written v_sort0 v_pile v_piled v_opens v_isWhole v_once v_named v_values v_truth v_isWritten v_died v_aside v_likely v_safe v_headOf) o_r (mB o_r)) A) ([.ref h, .int p1] : List Value).toArray s 0 0 A) (F0 m 65 ls []) := by
    intro H locs ls hf hP hD hS hl
    unfold f_X12_isOf_65 at hf
    refine lv_iconst (v := (1 : Int32)) hx hb dX12_isOf_65 (by decide) ?_
    refine lv_goto (tgt := 70) hx hb dX12_isOf_66 (by decide) ?_
    cases hf
    exact mret_z hx hb hr hlocks hP hD hS dX12_isOf_70 rfl rfl
  unfold f_X12_isOf at hf
  refine lv_iload_n hx hb dX12_isOf_0 rfl (lv_at hl 1 rfl) ?_
  refine lv_iconst (v := (5 : Int32)) hx hb dX12_isOf_1 (by decide) ?_
  refine xicmp_ge hx hb 7 dX12_isOf_2 (by decide) hf (fun hf => ?_) (fun hf => ?_)
  · refine lv_iload_n hx hb dX12_isOf_7 rfl (lv_at hl 1 rfl) ?_
    refine lv_bipush (v := (7 : Int32)) hx hb dX12_isOf_8 (by decide) ?_
    refine xicmp_ge hx hb 27 dX12_isOf_10 (by decide) hf (fun hf => ?_) (fun hf => ?_)
    · refine lv_iload_n hx hb dX12_isOf_27 rfl (lv_at hl 1 rfl) ?_
      refine lv_bipush (v := (9 : Int32)) hx hb dX12_isOf_28 (by decide) ?_
      refine xicmp_ge hx hb 49 dX12_isOf_30 (by decide) hf (fun hf => ?_) (fun hf => ?_)
      · refine lv_aload_n hx hb dX12_isOf_49 rfl (lv_at hl 0 rfl) ?_
        refine gfX12_154 hx hb hts hown hK hP 0 rfl rfl dX12_isOf_50 ?_
        refine lv_iconst (v := (1 : Int32)) hx hb dX12_isOf_53 (by decide) ?_
        refine xicmp_eq hx hb 65 dX12_isOf_54 (by decide) hf (fun hf => ?_) (fun hf => ?_)
        · exact b65 _ _ _ hf hP hD hS (lv_sub hl [] rfl)
        · refine lv_aload_n hx hb dX12_isOf_57 rfl (lv_at hl 0 rfl) ?_
          refine gfX12_154 hx hb hts hown hK hP 0 rfl rfl dX12_isOf_58 ?_
          refine lv_iconst (v := (3 : Int32)) hx hb dX12_isOf_61 (by decide) ?_
          refine xicmp_ne hx hb 69 dX12_isOf_62 (by decide) hf (fun hf => ?_) (fun hf => ?_)
          · exact b65 _ _ _ hf hP hD hS (lv_sub hl [] rfl)
          · refine lv_iconst (v := (0 : Int32)) hx hb dX12_isOf_69 (by decide) ?_
            cases hf
            exact mret_z hx hb hr hlocks hP hD hS dX12_isOf_70 rfl rfl
      · refine lv_aload_n hx hb dX12_isOf_33 rfl (lv_at hl 0 rfl) ?_
        refine gfX12_154 hx hb hts hown hK hP 0 rfl rfl dX12_isOf_34 ?_
        refine lv_iconst (v := (2 : Int32)) hx hb dX12_isOf_37 (by decide) ?_
        refine xicmp_lt hx hb 45 dX12_isOf_38 (by decide) hf (fun hf => ?_) (fun hf => ?_)
        · refine lv_iconst (v := (0 : Int32)) hx hb dX12_isOf_45 (by decide) ?_
          refine lv_goto (tgt := 70) hx hb dX12_isOf_46 (by decide) ?_
          cases hf
          exact mret_z hx hb hr hlocks hP hD hS dX12_isOf_70 rfl rfl
        · refine lv_iconst (v := (1 : Int32)) hx hb dX12_isOf_41 (by decide) ?_
          refine lv_goto (tgt := 70) hx hb dX12_isOf_42 (by decide) ?_
          cases hf
          exact mret_z hx hb hr hlocks hP hD hS dX12_isOf_70 rfl rfl
    · refine lv_aload_n hx hb dX12_isOf_13 rfl (lv_at hl 0 rfl) ?_
      refine gfX12_154 hx hb hts hown hK hP 0 rfl rfl dX12_isOf_14 ?_
      refine lv_iconst (v := (3 : Int32)) hx hb dX12_isOf_17 (by decide) ?_
      refine xicmp_eq hx hb 25 dX12_isOf_18 (by decide) hf (fun hf => ?_) (fun hf => ?_)
      · refine lv_iconst (v := (0 : Int32)) hx hb dX12_isOf_25 (by decide) ?_
        cases hf
        exact mret_z hx hb hr hlocks hP hD hS dX12_isOf_26 rfl rfl
      · refine lv_iconst (v := (1 : Int32)) hx hb dX12_isOf_21 (by decide) ?_
        refine lv_goto (tgt := 26) hx hb dX12_isOf_22 (by decide) ?_
        cases hf
        exact mret_z hx hb hr hlocks hP hD hS dX12_isOf_26 rfl rfl
  · refine lv_iconst (v := (1 : Int32)) hx hb dX12_isOf_5 (by decide) ?_
    cases hf
    exact mret_z hx hb hr hlocks hP hD hS dX12_isOf_6 rfl rfl
theorem dX12_rank_0 : decode cX12_rank 0 = .ok (.iload_n 0, 1) := by decide +kernel
theorem dX12_rank_1 : decode cX12_rank 1 = .ok (.bipush 40, 2) := by decide +kernel
theorem dX12_rank_3 : decode cX12_rank 3 = .ok (.if_icmp .lt 7, 3) := by decide +kernel
theorem dX12_rank_6 : decode cX12_rank 6 = .ok (.iconst 0, 1) := by decide +kernel
theorem dX12_rank_7 : decode cX12_rank 7 = .ok (.goto 75, 3) := by decide +kernel
theorem dX12_rank_10 : decode cX12_rank 10 = .ok (.iload_n 0, 1) := by decide +kernel
theorem dX12_rank_11 : decode cX12_rank 11 = .ok (.bipush 22, 2) := by decide +kernel
theorem dX12_rank_13 : decode cX12_rank 13 = .ok (.if_icmp .ne 7, 3) := by decide +kernel
theorem dX12_rank_16 : decode cX12_rank 16 = .ok (.iconst 1, 1) := by decide +kernel
theorem dX12_rank_17 : decode cX12_rank 17 = .ok (.goto 65, 3) := by decide +kernel
theorem dX12_rank_20 : decode cX12_rank 20 = .ok (.iload_n 0, 1) := by decide +kernel
theorem dX12_rank_21 : decode cX12_rank 21 = .ok (.bipush 21, 2) := by decide +kernel
theorem dX12_rank_23 : decode cX12_rank 23 = .ok (.if_icmp .ne 7, 3) := by decide +kernel
theorem dX12_rank_26 : decode cX12_rank 26 = .ok (.iconst 2, 1) := by decide +kernel
theorem dX12_rank_27 : decode cX12_rank 27 = .ok (.goto 55, 3) := by decide +kernel
theorem dX12_rank_30 : decode cX12_rank 30 = .ok (.iload_n 0, 1) := by decide +kernel
theorem dX12_rank_31 : decode cX12_rank 31 = .ok (.bipush 20, 2) := by decide +kernel
theorem dX12_rank_33 : decode cX12_rank 33 = .ok (.if_icmp .ne 7, 3) := by decide +kernel
theorem dX12_rank_36 : decode cX12_rank 36 = .ok (.iconst 3, 1) := by decide +kernel
theorem dX12_rank_37 : decode cX12_rank 37 = .ok (.goto 45, 3) := by decide +kernel
theorem dX12_rank_40 : decode cX12_rank 40 = .ok (.iload_n 0, 1) := by decide +kernel
theorem dX12_rank_41 : decode cX12_rank 41 = .ok (.bipush 10, 2) := by decide +kernel
theorem dX12_rank_43 : decode cX12_rank 43 = .ok (.if_icmp .lt 7, 3) := by decide +kernel
theorem dX12_rank_46 : decode cX12_rank 46 = .ok (.iconst 4, 1) := by decide +kernel
theorem dX12_rank_47 : decode cX12_rank 47 = .ok (.goto 35, 3) := by decide +kernel
theorem dX12_rank_50 : decode cX12_rank 50 = .ok (.iload_n 0, 1) := by decide +kernel
theorem dX12_rank_51 : decode cX12_rank 51 = .ok (.iconst 5, 1) := by decide +kernel
theorem dX12_rank_52 : decode cX12_rank 52 = .ok (.if_icmp .eq 13, 3) := by decide +kernel
theorem dX12_rank_55 : decode cX12_rank 55 = .ok (.iload_n 0, 1) := by decide +kernel
theorem dX12_rank_56 : decode cX12_rank 56 = .ok (.iconst 2, 1) := by decide +kernel
theorem dX12_rank_57 : decode cX12_rank 57 = .ok (.if_icmp .eq 8, 3) := by decide +kernel
theorem dX12_rank_60 : decode cX12_rank 60 = .ok (.iload_n 0, 1) := by decide +kernel
theorem dX12_rank_61 : decode cX12_rank 61 = .ok (.iconst 3, 1) := by decide +kernel
theorem dX12_rank_62 : decode cX12_rank 62 = .ok (.if_icmp .ne 8, 3) := by decide +kernel
theorem dX12_rank_65 : decode cX12_rank 65 = .ok (.bipush 7, 2) := by decide +kernel
theorem dX12_rank_67 : decode cX12_rank 67 = .ok (.goto 15, 3) := by decide +kernel
theorem dX12_rank_70 : decode cX12_rank 70 = .ok (.iload_n 0, 1) := by decide +kernel
theorem dX12_rank_71 : decode cX12_rank 71 = .ok (.bipush 8, 2) := by decide +kernel
theorem dX12_rank_73 : decode cX12_rank 73 = .ok (.if_icmp .lt 8, 3) := by decide +kernel
theorem dX12_rank_76 : decode cX12_rank 76 = .ok (.bipush 6, 2) := by decide +kernel
theorem dX12_rank_78 : decode cX12_rank 78 = .ok (.goto 4, 3) := by decide +kernel
theorem dX12_rank_81 : decode cX12_rank 81 = .ok (.iconst 5, 1) := by decide +kernel
theorem dX12_rank_82 : decode cX12_rank 82 = .ok (.ireturn, 1) := by decide +kernel
def f_X12_rank_65 (N : Nat) : Option (Int32) := some (7 : Int32)
def f_X12_rank (N : Nat) (p0 : Int32) : Option (Int32) := if p0 < (40 : Int32) then (if p0 = (22 : Int32) then (some (1 : Int32)) else (if p0 = (21 : Int32) then (some (2 : Int32)) else (if p0 = (20 : Int32) then (some (3 : Int32)) else (if p0 < (10 : Int32) then (if p0 = (5 : Int32) then (f_X12_rank_65 N) else (if p0 = (2 : Int32) then (f_X12_rank_65 N) else (if p0 = (3 : Int32) then (f_X12_rank_65 N) else (if p0 < (8 : Int32) then (some (5 : Int32)) else (some (6 : Int32)))))) else (some (4 : Int32)))))) else (some (0 : Int32))
set_option maxHeartbeats 4000000 in
set_option maxRecDepth 100000 in
theorem k_X12_rank (l : Launch) (N : Nat) (D : va_G) (cI cJ cZ cB cT : ClassId) (p0 : Int32) (o_r : Int32) (hf : f_X12_rank N p0 = some o_r) : ∀ sz, Met l yX12_rank (mw yX12_rank cX12_rank 1 (some .int)) ({ frames := 0, cells := 0, slots := 0, locals := 0 } : Room) (mPre D (mT cI cJ cZ cB cT) [] sz [.int p0]) ((mQi D [] o_r True) (va_A [] sz)) 0 0 (va_A [] sz) := by
  refine mMet (Qc := (mQi D [] o_r True)) (by decide) (Nat.le_of_ble_eq_true rfl) (fun p e s m below meth c A ls hx hb hr hml hts hown hlocks hK hA hP hD hl => ?_)
  have hown : s.vm.findClass RX12 = some m.cls := hown
  have hl : lv_has ls 1 [(0, .int p0)] := hl
  have hS : va_S A s.heap s.heap [] := va_S.rf
  have b65 : ∀ (H : Heap) (locs : List Loc) (ls : Array Slot), f_X12_rank_65 N = some o_r → va_P D vwCl [] H → va_D A [] → va_S A s.heap H locs → lv_has ls 1 [] → W p l e ({ frames := 0, cells := 0, slots := 0, locals := 0 } : Room) s m ([.int p0] : List Value).toArray below meth c H locs 0 0 (MQ below ((mQi D [] o_r True) A) ([.int p0] : List Value).toArray s 0 0 A) (F0 m 65 ls []) := by
    intro H locs ls hf hP hD hS hl
    unfold f_X12_rank_65 at hf
    refine lv_bipush (v := (7 : Int32)) hx hb dX12_rank_65 (by decide) ?_
    refine lv_goto (tgt := 82) hx hb dX12_rank_67 (by decide) ?_
    cases hf
    exact mret_i hx hb hr hlocks hP hD hS dX12_rank_82 rfl trivial
  unfold f_X12_rank at hf
  refine lv_iload_n hx hb dX12_rank_0 rfl (lv_at hl 0 rfl) ?_
  refine lv_bipush (v := (40 : Int32)) hx hb dX12_rank_1 (by decide) ?_
  refine xicmp_lt hx hb 10 dX12_rank_3 (by decide) hf (fun hf => ?_) (fun hf => ?_)
  · refine lv_iload_n hx hb dX12_rank_10 rfl (lv_at hl 0 rfl) ?_
    refine lv_bipush (v := (22 : Int32)) hx hb dX12_rank_11 (by decide) ?_
    refine xicmp_ne hx hb 20 dX12_rank_13 (by decide) hf (fun hf => ?_) (fun hf => ?_)
    · refine lv_iconst (v := (1 : Int32)) hx hb dX12_rank_16 (by decide) ?_
      refine lv_goto (tgt := 82) hx hb dX12_rank_17 (by decide) ?_
      cases hf
      exact mret_i hx hb hr hlocks hP hD hS dX12_rank_82 rfl trivial
    · refine lv_iload_n hx hb dX12_rank_20 rfl (lv_at hl 0 rfl) ?_
      refine lv_bipush (v := (21 : Int32)) hx hb dX12_rank_21 (by decide) ?_
      refine xicmp_ne hx hb 30 dX12_rank_23 (by decide) hf (fun hf => ?_) (fun hf => ?_)
      · refine lv_iconst (v := (2 : Int32)) hx hb dX12_rank_26 (by decide) ?_
        refine lv_goto (tgt := 82) hx hb dX12_rank_27 (by decide) ?_
        cases hf
        exact mret_i hx hb hr hlocks hP hD hS dX12_rank_82 rfl trivial
      · refine lv_iload_n hx hb dX12_rank_30 rfl (lv_at hl 0 rfl) ?_
        refine lv_bipush (v := (20 : Int32)) hx hb dX12_rank_31 (by decide) ?_
        refine xicmp_ne hx hb 40 dX12_rank_33 (by decide) hf (fun hf => ?_) (fun hf => ?_)
        · refine lv_iconst (v := (3 : Int32)) hx hb dX12_rank_36 (by decide) ?_
          refine lv_goto (tgt := 82) hx hb dX12_rank_37 (by decide) ?_
          cases hf
          exact mret_i hx hb hr hlocks hP hD hS dX12_rank_82 rfl trivial
        · refine lv_iload_n hx hb dX12_rank_40 rfl (lv_at hl 0 rfl) ?_
          refine lv_bipush (v := (10 : Int32)) hx hb dX12_rank_41 (by decide) ?_
          refine xicmp_lt hx hb 50 dX12_rank_43 (by decide) hf (fun hf => ?_) (fun hf => ?_)
          · refine lv_iload_n hx hb dX12_rank_50 rfl (lv_at hl 0 rfl) ?_
            refine lv_iconst (v := (5 : Int32)) hx hb dX12_rank_51 (by decide) ?_
            refine xicmp_eq hx hb 65 dX12_rank_52 (by decide) hf (fun hf => ?_) (fun hf => ?_)
            · exact b65 _ _ _ hf hP hD hS (lv_sub hl [] rfl)
            · refine lv_iload_n hx hb dX12_rank_55 rfl (lv_at hl 0 rfl) ?_
              refine lv_iconst (v := (2 : Int32)) hx hb dX12_rank_56 (by decide) ?_
              refine xicmp_eq hx hb 65 dX12_rank_57 (by decide) hf (fun hf => ?_) (fun hf => ?_)
              · exact b65 _ _ _ hf hP hD hS (lv_sub hl [] rfl)
              · refine lv_iload_n hx hb dX12_rank_60 rfl (lv_at hl 0 rfl) ?_
                refine lv_iconst (v := (3 : Int32)) hx hb dX12_rank_61 (by decide) ?_
                refine xicmp_ne hx hb 70 dX12_rank_62 (by decide) hf (fun hf => ?_) (fun hf => ?_)
                · exact b65 _ _ _ hf hP hD hS (lv_sub hl [] rfl)
                · refine lv_iload_n hx hb dX12_rank_70 rfl (lv_at hl 0 rfl) ?_
                  refine lv_bipush (v := (8 : Int32)) hx hb dX12_rank_71 (by decide) ?_
                  refine xicmp_lt hx hb 81 dX12_rank_73 (by decide) hf (fun hf => ?_) (fun hf => ?_)
                  · refine lv_iconst (v := (5 : Int32)) hx hb dX12_rank_81 (by decide) ?_
                    cases hf
                    exact mret_i hx hb hr hlocks hP hD hS dX12_rank_82 rfl trivial
                  · refine lv_bipush (v := (6 : Int32)) hx hb dX12_rank_76 (by decide) ?_
                    refine lv_goto (tgt := 82) hx hb dX12_rank_78 (by decide) ?_
                    cases hf
                    exact mret_i hx hb hr hlocks hP hD hS dX12_rank_82 rfl trivial
          · refine lv_iconst (v := (4 : Int32)) hx hb dX12_rank_46 (by decide) ?_
            refine lv_goto (tgt := 82) hx hb dX12_rank_47 (by decide) ?_
            cases hf
            exact mret_i hx hb hr hlocks hP hD hS dX12_rank_82 rfl trivial
  · refine lv_iconst (v := (0 : Int32)) hx hb dX12_rank_6 (by decide) ?_
    refine lv_goto (tgt := 82) hx hb dX12_rank_7 (by decide) ?_
    cases hf
    exact mret_i hx hb hr hlocks hP hD hS dX12_rank_82 rfl trivial
